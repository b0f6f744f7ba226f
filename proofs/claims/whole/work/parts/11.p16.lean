/-! text: bytes and numbers -/
def cd (c : Int32) : Int32 := if c < 48 then 0 else if 57 < c then 0 else 1
theorem cd_6 {c : Int32} {K : Int32 → Prop} (h : K (cd c)) : v_X1_isDigit c K := by
  unfold v_X1_isDigit
  unfold cd at h
  refine ⟨fun q => ?_, fun q => ⟨fun q2 => ?_, fun q2 => ?_⟩⟩
  · rw [if_pos q] at h; exact h
  · rw [if_neg q, if_pos q2] at h; exact h
  · rw [if_neg q, if_neg q2] at h; exact h
theorem cd_7 {c : Int32} {K : Int32 → Prop} (h : K (cd c)) : v_X7_in c 48 57 K := by
  unfold cd at h
  by_cases a : c < 48
  · rw [if_pos a] at h
    rw [in_no (Or.inl ((fa_lt _ _).mp a))]; exact h
  · rw [if_neg a] at h
    by_cases b : 57 < c
    · rw [if_pos b] at h
      rw [in_no (Or.inr ((fa_lt _ _).mp b))]; exact h
    · rw [if_neg b] at h
      rw [in_yes (by rw [fa_lt] at a; omega) (by rw [fa_lt] at b; omega)]; exact h
theorem cd_01 (c : Int32) : cd c = 0 ∨ cd c = 1 := by
  unfold cd
  split
  · exact Or.inl rfl
  · split
    · exact Or.inl rfl
    · exact Or.inr rfl
theorem cd_hi : ∀ k, k < 256 → 128 ≤ k → cd (nI k) = 0 := by decide +kernel
theorem cd_lo : ∀ k, k < 128 → cd (nI k) = 1 → 48 ≤ k ∧ k ≤ 57 := by decide +kernel
theorem neg_ne {b : Int32} (h : b < 0) {k : Nat} (hk : k < 2 ^ 31) : ¬ b = nI k := fun e => nI_pos hk (e ▸ h)
theorem neg_48 {b : Int32} (h : b < 0) : b < 48 := by
  rw [fa_lt] at h ⊢
  rw [show (0 : Int32).toInt = 0 from rfl] at h
  rw [show (48 : Int32).toInt = 48 from rfl]
  omega
theorem tb_cd {b c : Int32} (h : tb b c) : cd b = cd c := by
  rcases h with ⟨k, _, rfl, rfl⟩ | ⟨h, k, h1, h2, rfl⟩
  · rfl
  · rw [cd_hi k h2 h1]
    unfold cd
    rw [if_pos (neg_48 h)]
def lo (c : Int32) : Int32 := if c = 37 then 4 else if c = 38 then 1 else if c = 42 then 4 else if c = 43 then 3 else if c = 45 then 3 else if c = 47 then 4 else if c = 60 then 2 else if c = 61 then 2 else if c = 62 then 2 else if c = 124 then 0 else -1
theorem lo_6 {c : Int32} {K : Int32 → Prop} (h : K (lo c)) : v_X1_levelOf c K := by
  unfold v_X1_levelOf
  unfold lo at h
  repeat (refine ⟨fun q => by rw [if_pos q] at h; exact h, fun q => ?_⟩; rw [if_neg q] at h)
  exact h
theorem lo_hi : ∀ k, k < 256 → 128 ≤ k → lo (nI k) = -1 := by decide +kernel
theorem lo_sg : ∀ k, k < 256 → ¬ lo (nI k) = -1 → sg (nI k) := by
  unfold sg
  decide +kernel
theorem tb_lo {b c : Int32} (h : tb b c) : lo b = lo c := by
  rcases h with ⟨k, _, rfl, rfl⟩ | ⟨h, k, h1, h2, rfl⟩
  · rfl
  · rw [lo_hi k h2 h1]
    have n : ∀ k : Nat, k < 2 ^ 31 → ¬ b = nI k := fun k hk => neg_ne h hk
    unfold lo
    rw [if_neg (show ¬ b = 37 from n 37 (by decide)), if_neg (show ¬ b = 38 from n 38 (by decide)), if_neg (show ¬ b = 42 from n 42 (by decide)), if_neg (show ¬ b = 43 from n 43 (by decide)), if_neg (show ¬ b = 45 from n 45 (by decide)), if_neg (show ¬ b = 47 from n 47 (by decide)), if_neg (show ¬ b = 60 from n 60 (by decide)), if_neg (show ¬ b = 61 from n 61 (by decide)), if_neg (show ¬ b = 62 from n 62 (by decide)), if_neg (show ¬ b = 124 from n 124 (by decide))]
theorem tb_sg {b c : Int32} (h : tb b c) (hl : ¬ lo c = -1) : b = c ∧ sg c := by
  rcases h with ⟨k, hk, rfl, rfl⟩ | ⟨h, k, h1, h2, rfl⟩
  · exact ⟨rfl, lo_sg k (by omega) hl⟩
  · exact absurd (lo_hi k h2 h1) hl
theorem tb_is {b c : Int32} (h : tb b c) (k : Nat) (hk : k < 128) : b = nI k ↔ c = nI k := by
  rcases h with ⟨a, _, rfl, rfl⟩ | ⟨h, a, h1, h2, rfl⟩
  · exact Iff.rfl
  · exact ⟨fun e => absurd e (neg_ne h (by omega)), fun e => absurd ((nI_eq (by omega) (by omega)).mp e) (by omega)⟩
/-- names -/
def nx (u : Nat) (c : Int32) : Int32 := if c ≤ 0 then -1 else f_index u ((c.toUInt32 % 65536).toInt32)
def iN (u : Nat) (c : Int32) : Int32 := if c = 110 then 1 else if u = 0 then (if c = 114 then 1 else if c = 115 then 1 else 0) else (if c = 103 then 1 else if c = 100 then 1 else 0)
theorem iN_7 {u : Nat} (hu : u < 2) {c : Int32} {K : Int32 → Prop} (h : K (iN u c)) : v_X7_isName c (nI u) K := by
  unfold v_X7_isName
  unfold iN at h
  have hc : u = 0 ∨ u = 1 := by omega
  rcases hc with rfl | rfl
  · simp only [show (nI 0 = 0) = True from eq_true rfl, if_true, b1_0, true_implies, false_implies, not_true_eq_false, not_false_eq_true, and_true, true_and, implies_true] at h ⊢
    refine ⟨fun q => ?_, fun q => ?_⟩
    · rw [if_neg q] at h
      refine ⟨fun q2 => ?_, fun q2 => ?_⟩
      · rw [if_pos q2] at h; exact h
      · rw [if_neg q2] at h
        exact ⟨fun q3 => by rw [if_neg q3] at h; exact h, fun q3 => by rw [if_pos q3] at h; exact h⟩
    · rw [if_pos q] at h; exact h
  · simp only [show (nI 1 = 0) = False by decide, show ((1 : Nat) = 0) = False by decide, if_false, b1_0, true_implies, false_implies, not_true_eq_false, not_false_eq_true, and_true, true_and, implies_true] at h ⊢
    refine ⟨fun q => ?_, fun q => ?_⟩
    · rw [if_neg q] at h
      refine ⟨fun q2 => ?_, fun q2 => ?_⟩
      · rw [if_pos q2] at h; exact h
      · rw [if_neg q2] at h
        exact ⟨fun q3 => by rw [if_neg q3] at h; exact h, fun q3 => by rw [if_pos q3] at h; exact h⟩
    · rw [if_pos q] at h; exact h
theorem nm_k : ∀ u, u < 2 → ∀ k, k < 128 → (iN u (nI k) = 0 ∧ nx u (nI k) = -1) ∨ (iN u (nI k) = 1 ∧ cd (nI k) = 0 ∧ ((nx u (nI k) = 0 ∧ nI k = nI (na u 0)) ∨ (nx u (nI k) = 1 ∧ nI k = nI (na u 1)) ∨ (nx u (nI k) = 2 ∧ nI k = nI (na u 2)))) := by decide +kernel
theorem iN_hi : ∀ u, u < 2 → ∀ k, k < 256 → 128 ≤ k → iN u (nI k) = 0 := by decide +kernel
theorem tb_nm {u : Nat} (hu : u < 2) {b c : Int32} (h : tb b c) : (iN u c = 0 ∧ nx u b = -1) ∨ (iN u c = 1 ∧ cd b = 0 ∧ ((nx u b = 0 ∧ c = nI (na u 0)) ∨ (nx u b = 1 ∧ c = nI (na u 1)) ∨ (nx u b = 2 ∧ c = nI (na u 2)))) := by
  rcases h with ⟨k, hk, rfl, rfl⟩ | ⟨h, k, h1, h2, rfl⟩
  · exact nm_k u hu k hk
  · refine Or.inl ⟨iN_hi u hu k h2 h1, ?_⟩
    unfold nx
    rw [if_pos]
    rw [fa_lt] at h; rw [fa_le]; omega
theorem iN_e : ∀ u, u < 2 → iN u (-1) = 0 := by decide +kernel
theorem cd_e : cd (-1) = 0 := by decide
theorem lo_e : lo (-1) = -1 := by decide
/-- what the twin looks at -/
def ch (L : Nat) (m : Nat → Int32) (q : Nat) : Int32 := if q < L then m (298 + q) else -1
theorem lk_7 {L q : Nat} {m : Nat → Int32} (hL : L ≤ 60) (hm : m 2 = nI L) (hq : q ≤ L) {K : Int32 → Prop} (h : K (ch L m q)) : v_X7_look (nI q) m K := by
  unfold v_X7_look
  rw [v2_, true_and, c2, hm]
  unfold ch at h
  have i1 : (298 : Int32) + nI q = nI (298 + q) := nI_add 298 q
  have c9 : (nI (298 + q)).toNatClampNeg = 298 + q := nI_clamp (by omega)
  have v9 : vp_in (nI (298 + q)) 382 = True := vi_382 (by omega)
  by_cases c : q < L
  · rw [if_pos c] at h
    rw [br_n (nI_ge c (by omega)), i1, v9, true_and, c9]; exact h
  · rw [if_neg c] at h
    rw [br_y (nI_le (by omega) (by omega))]; exact h
-- numbers
theorem p10_4 {j : Nat} (h : j ≤ 4) : 10 ^ j ≤ 10000 := by
  have := Nat.pow_le_pow_right (n := 10) (by decide) h
  exact this
theorem acc10 {d k : Nat} (h : 48 ≤ k) : ((10 : Int32) * nI d + nI k) - 48 = nI (10 * d + k - 48) := by
  rw [show (10 : Int32) = nI 10 from rfl, pk_mul, nI_add]
  exact pk_sub (b := 48) (by omega)
theorem nu_t {L : Nat} (hL : L ≤ 60) {m by_ : Nat → Int32} (hm : m 2 = nI L) (hb : ∀ i, i < L → tb (by_ i) (m (298 + i))) (us : Int32) (O : Int32 → Int32 → Int32 → Int32 → (Nat → Int32) → (Nat → Int32) → (Int32 → Int32 → Int32 → Int32 → (Nat → Int32) → Prop) → Prop) : ∀ e j d q, j + e = 4 → d < 10 ^ j → q ≤ L → ∃ d' q', d' < 10000 ∧ q ≤ q' ∧ q' ≤ L ∧ (0 < e → cd (ch L m q) = 1 → q + 1 ≤ q') ∧
    (∀ (K : Int32 → Int32 → Int32 → (Nat → Int32) → Prop) z st, v_X1_step (nI d') z st (fun a b => K 1 (nI q') a b) → l_X1_readNumber_4 (nI L) by_ K (e + 1) (nI d) (nI j) (nI q) z st) ∧
    (∀ (K : Int32 → Int32 → Int32 → Int32 → (Nat → Int32) → Prop) o z st, v_X7_step1 0 (nI d') z st (fun a b => K 1 (nI q') o a b) → l_X7_one_46 O us m K (e + 1) (nI d) (nI j) (nI q) o z st) := by
  intro e
  induction e with
  | zero =>
    intro j d q hj hd hq
    have e : j = 4 := by omega
    subst e
    refine ⟨d, q, hd, Nat.le_refl _, hq, fun z => absurd z (Nat.lt_irrefl 0), fun K z st h => ?_, fun K o z st h => ?_⟩
    · rw [l_X1_readNumber_4, br_y (show (4 : Int32) ≤ nI 4 by decide)]; exact h
    · rw [l_X7_one_46, br_y (show (4 : Int32) ≤ nI 4 by decide)]; exact h
  | succ e ih =>
    intro j d q hj hd hq
    have a4 : ¬ (4 : Int32) ≤ nI j := nI_ge (b := 4) (by omega) (by decide)
    have hd4 : d < 10000 := by have := p10_4 (j := j) (by omega); omega
    have stop : cd (ch L m q) = 0 → ∃ d' q', d' < 10000 ∧ q ≤ q' ∧ q' ≤ L ∧ (0 < e + 1 → cd (ch L m q) = 1 → q + 1 ≤ q') ∧
        (∀ (K : Int32 → Int32 → Int32 → (Nat → Int32) → Prop) z st, v_X1_step (nI d') z st (fun a b => K 1 (nI q') a b) → l_X1_readNumber_4 (nI L) by_ K (e + 1 + 1) (nI d) (nI j) (nI q) z st) ∧
        (∀ (K : Int32 → Int32 → Int32 → Int32 → (Nat → Int32) → Prop) o z st, v_X7_step1 0 (nI d') z st (fun a b => K 1 (nI q') o a b) → l_X7_one_46 O us m K (e + 1 + 1) (nI d) (nI j) (nI q) o z st) := by
      intro hs
      refine ⟨d, q, hd4, Nat.le_refl _, hq, fun _ z => absurd (hs.symm.trans z) (by decide), fun K z st h => ?_, fun K o z st h => ?_⟩
      · rw [l_X1_readNumber_4, br_n a4]
        by_cases c : q < L
        · have cq : (nI q).toNatClampNeg = q := nI_clamp (by omega)
          have hc : ch L m q = m (298 + q) := if_pos c
          rw [br_n (nI_ge c (by omega)), vi_60 (by omega), true_and, true_and, cq]
          refine cd_6 ?_
          rw [tb_cd (hb q c), ← hc, hs]
          exact ⟨fun _ => h, fun z => absurd rfl z⟩
        · rw [br_y (nI_le (by omega) (by omega))]; exact h
      · rw [l_X7_one_46, br_n a4]
        refine lk_7 hL hm hq (cd_7 ?_)
        rw [hs]
        exact ⟨fun _ => h, fun z => absurd rfl z⟩
    by_cases c : q < L
    · have cq : (nI q).toNatClampNeg = q := nI_clamp (by omega)
      have hc : ch L m q = m (298 + q) := if_pos c
      have hbq := hb q c
      rcases cd_01 (ch L m q) with hs | hs
      · exact stop hs
      · rw [hc] at hs
        have hk : ∃ k : Nat, 48 ≤ k ∧ k ≤ 57 ∧ by_ q = nI k ∧ m (298 + q) = nI k := by
          rcases hbq with ⟨k, h1, h2, h3⟩ | ⟨_, k, h1, h2, h3⟩
          · rw [h3] at hs
            exact ⟨k, (cd_lo k h1 hs).1, (cd_lo k h1 hs).2, h2, h3⟩
          · rw [h3, cd_hi k h2 h1] at hs
            exact absurd hs (by decide)
        obtain ⟨k, k1, k2, k3, k4⟩ := hk
        have hp : 10 ^ (j + 1) = 10 ^ j * 10 := Nat.pow_succ ..
        obtain ⟨d', q', r1, r2, r3, r4, r5, r6⟩ := ih (j + 1) (10 * d + k - 48) (q + 1) (by omega) (by omega) (by omega)
        refine ⟨d', q', r1, by omega, r3, fun _ _ => by omega, fun K z st h => ?_, fun K o z st h => ?_⟩
        · rw [l_X1_readNumber_4, br_n a4, br_n (nI_ge c (by omega)), vi_60 (by omega), true_and, true_and, cq]
          refine cd_6 ?_
          rw [tb_cd hbq, hs, k3, acc10 k1, nI_1, nI_1]
          exact ⟨fun z => absurd z (by decide), fun _ => r5 K z st h⟩
        · rw [l_X7_one_46, br_n a4]
          refine lk_7 hL hm hq (cd_7 ?_)
          rw [hc, hs]
          refine ⟨fun z => absurd z (by decide), fun _ => ?_⟩
          refine lk_7 hL hm hq ?_
          rw [hc, k4, acc10 k1, nI_1, nI_1]
          exact r6 K o z st h
    · refine stop ?_
      have hc : ch L m q = -1 := if_neg c
      rw [hc]; exact cd_e
