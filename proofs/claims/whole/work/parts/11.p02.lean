/-! as, call, body, check -/
def ab (k : Nat) : Nat := if k = 4 then 1 else if k = 5 then 2 else 0
theorem ab_f : ∀ k, k < 7 → 0 < k → f_above k = nI (ab k) := by decide +kernel
theorem ab_7 : ∀ k, k < 7 → ab k < 7 := by decide +kernel
theorem ab_2 : ∀ k, k < 7 → ab (ab k) = 0 := by decide +kernel
theorem ab_m {k : Nat} (hk : k < 7) (K : Int32 → Prop) : v_X7_above (nI k) K = K (nI (ab k)) := by
  unfold v_X7_above
  have hc : k = 0 ∨ k = 1 ∨ k = 2 ∨ k = 3 ∨ k = 4 ∨ k = 5 ∨ k = 6 := by omega
  rcases hc with rfl | rfl | rfl | rfl | rfl | rfl | rfl
  · simp only [show (nI 0 = (4 : Int32)) = False by decide, show (nI 0 = (5 : Int32)) = False by decide, b1_0, true_implies, false_implies, not_true_eq_false, not_false_eq_true, and_true, true_and, implies_true]; rfl
  · simp only [show (nI 1 = (4 : Int32)) = False by decide, show (nI 1 = (5 : Int32)) = False by decide, b1_0, true_implies, false_implies, not_true_eq_false, not_false_eq_true, and_true, true_and, implies_true]; rfl
  · simp only [show (nI 2 = (4 : Int32)) = False by decide, show (nI 2 = (5 : Int32)) = False by decide, b1_0, true_implies, false_implies, not_true_eq_false, not_false_eq_true, and_true, true_and, implies_true]; rfl
  · simp only [show (nI 3 = (4 : Int32)) = False by decide, show (nI 3 = (5 : Int32)) = False by decide, b1_0, true_implies, false_implies, not_true_eq_false, not_false_eq_true, and_true, true_and, implies_true]; rfl
  · simp only [show (nI 4 = (4 : Int32)) = True from eq_true rfl, b1_0, true_implies, false_implies, not_true_eq_false, not_false_eq_true, and_true, true_and, implies_true]; rfl
  · simp only [show (nI 5 = (4 : Int32)) = False by decide, show (nI 5 = (5 : Int32)) = True from eq_true rfl, b1_0, true_implies, false_implies, not_true_eq_false, not_false_eq_true, and_true, true_and, implies_true]; rfl
  · simp only [show (nI 6 = (4 : Int32)) = False by decide, show (nI 6 = (5 : Int32)) = False by decide, b1_0, true_implies, false_implies, not_true_eq_false, not_false_eq_true, and_true, true_and, implies_true]; rfl
def isU (k : Nat) (y : Int32) : Prop := nI k = y ∨ nI (ab k) = y ∨ nI 0 = y
theorem un_j {p y : Int32} {K : Int32 → Prop} {x : Int32} {c : Prop} (h : c ↔ x = y) (h1 : c → K 1) (h0 : ¬ c → K 0) : j_X6_isUnder_37 p y K x := by
  unfold j_X6_isUnder_37
  exact ⟨fun q => h0 (fun z => q (h.mp z)), fun q => h1 (h.mpr q)⟩
theorem un_0 {p y : Int32} {K : Int32 → Prop} {n t : Nat} (ht : t < 7) (h : j_X6_isUnder_37 p y K (nI 0)) : l_X6_isUnder_4 p y K (n + 1) (nI 0) (nI t) := by
  rw [l_X6_isUnder_4]
  have a : ¬ (7 : Int32) ≤ nI t := nI_ge (b := 7) ht (by decide)
  rw [br_n a, br_y (show nI 0 ≤ 0 by decide)]
  exact h
theorem un_s {p y : Int32} {K : Int32 → Prop} {n t k : Nat} (ht : t < 7) (hk : k < 7) (h0 : 0 < k) (he : nI k = y → j_X6_isUnder_37 p y K (nI k)) (h : ¬ nI k = y → l_X6_isUnder_4 p y K n (nI (ab k)) (nI (t + 1))) : l_X6_isUnder_4 p y K (n + 1) (nI k) (nI t) := by
  rw [l_X6_isUnder_4]
  have a : ¬ (7 : Int32) ≤ nI t := nI_ge (b := 7) ht (by decide)
  have b : ¬ nI k ≤ 0 := nI_nle h0 (by omega)
  have c : ¬ (7 : Int32) ≤ nI k := nI_ge (b := 7) hk (by decide)
  rw [br_n a, br_n b, br_n c]
  refine ⟨he, fun q => ⟨vp_in_nI hk (by decide), ?_⟩⟩
  rw [nI_clamp (by omega), ab_f k hk h0, nI_1]
  exact h q
theorem un_v {k : Nat} (hk : k < 7) {y : Int32} {K : Int32 → Prop} (h1 : isU k y → K 1) (h0 : ¬ isU k y → K 0) : v_X6_isUnder (nI k) y K := by
  unfold v_X6_isUnder
  refine ⟨4, ?_⟩
  have base : ∀ j, j < 7 → (∀ q : Prop, q) → True := fun _ _ _ => trivial
  by_cases e0 : k = 0
  · subst e0
    refine un_0 (t := 0) (by decide) (un_j (c := isU 0 y) ?_ h1 h0)
    unfold isU; rw [show ab 0 = 0 from rfl]
    constructor
    · rintro (q | q | q) <;> exact q
    · exact Or.inl
  · refine un_s (t := 0) (by decide) hk (by omega) (fun q => ?_) (fun q => ?_)
    · exact un_j (c := isU k y) ⟨fun _ => q, fun z => Or.inl z⟩ h1 h0
    · by_cases e1 : ab k = 0
      · rw [e1]
        refine un_0 (t := 0 + 1) (by decide) (un_j (c := isU k y) ?_ h1 h0)
        unfold isU; rw [e1]
        constructor
        · rintro (z | z | z)
          · exact absurd z q
          · exact z
          · exact z
        · exact fun z => Or.inr (Or.inl z)
      · refine un_s (t := 0 + 1) (by decide) (ab_7 k hk) (by omega) (fun q2 => ?_) (fun q2 => ?_)
        · exact un_j (c := isU k y) ⟨fun _ => q2, fun z => Or.inr (Or.inl z)⟩ h1 h0
        · rw [ab_2 k hk]
          refine un_0 (t := 0 + 1 + 1) (by decide) (un_j (c := isU k y) ?_ h1 h0)
          unfold isU
          constructor
          · rintro (z | z | z)
            · exact absurd z q
            · exact absurd z q2
            · exact z
          · exact fun z => Or.inr (Or.inr z)
theorem as_l {p y : Int32} {m me : Nat → Int32} {K : Int32 → (Nat → Int32) → Prop} {k n : Nat} (hk : k < 7) (hs : nI k = y ∨ k = 0 → j_X7_as_48 p y m K (nI k) me) (hr : ¬ nI k = y → k ≠ 0 → l_X7_as_31 p y m K n (nI (ab k)) me) : l_X7_as_31 p y m K (n + 1) (nI k) me := by
  rw [l_X7_as_31]
  refine ⟨fun q => hs (Or.inl q), fun q => ⟨fun q2 => hs (Or.inr ?_), fun q2 => ?_⟩⟩
  · exact (nI_eq (b := 0) (by omega) (by decide)).mp q2
  · rw [ab_m hk]; exact hr q (fun e => q2 (by subst e; rfl))
theorem as_v {p y : Int32} {m me : Nat → Int32} {K : Int32 → (Nat → Int32) → Prop} {k : Nat} (hk : k < 7) (h1 : isU k y → v_X7_its p 1 m (fun r => K r me)) (h0 : ¬ isU k y → v_X7_error 5 me (fun r me' => K r me')) : ∃ n, l_X7_as_31 p y m K n (nI k) me := by
  have hj : ∀ i, (isU k y ↔ nI i = y) → j_X7_as_48 p y m K (nI i) me := fun i hi => by
    unfold j_X7_as_48
    exact ⟨fun q => h0 (fun z => q (hi.mp z)), fun q => h1 (hi.mpr q)⟩
  refine ⟨3, as_l hk (fun q => hj k ?_) (fun q q0 => ?_)⟩
  · rcases q with q | q
    · exact ⟨fun _ => q, fun z => Or.inl z⟩
    · subst q
      constructor
      · rintro (z | z | z) <;> exact z
      · exact Or.inl
  · refine as_l (ab_7 k hk) (fun q1 => hj _ ?_) (fun q1 q2 => ?_)
    · rcases q1 with q1 | q1
      · exact ⟨fun _ => q1, fun z => Or.inr (Or.inl z)⟩
      · unfold isU; rw [q1]
        constructor
        · rintro (z | z | z)
          · exact absurd z q
          · exact z
          · exact z
        · exact fun z => Or.inr (Or.inl z)
    · rw [ab_2 k hk]
      refine as_l (n := 0) (by decide) (fun _ => hj _ ?_) (fun _ q3 => absurd rfl q3)
      constructor
      · rintro (z | z | z)
        · exact absurd z q
        · exact absurd z q1
        · exact z
      · exact fun z => Or.inr (Or.inr z)
theorem p_as {N : Nat} {x y : Int32} {kd em ca near sh errs m me : Nat → Int32} {P : Int32 → (Nat → Int32) → Int32 → (Nat → Int32) → Prop} (hN : N ≤ 8) (h : RP N kd em ca near sh m) (hB : BP kd ca near) (hE : RE errs me)
    (hP : ∀ r errs' me', RE errs' me' → P r errs' r me') :
    v_X6_as x y (nI N) kd em errs (fun r errs' => v_X7_as x y m me (fun r' me' => P r errs' r' me')) := by
  have herr := hP (-1000000001) (upd errs 1 (errs 1 + 1)) (upd me 1 (me 1 + 1)) (RE_up hE 1)
  unfold v_X6_as v_X7_as
  rcases ou_or x (n := N) (by omega) with hx | ⟨j, hj, rfl⟩
  · simp only [ha_no hN hx, ip_no hN h.1 hx, b1_0, true_implies, false_implies, not_true_eq_false, not_false_eq_true, and_true, true_and, implies_true, j_X6_as_20, j_X7_as_18, er61, er71]; exact herr
  have hj8 : j < 8 := by omega
  obtain ⟨q0, q1, q2, q3, q4⟩ := h.2 j hj8
  rcases ou_or y (n := 7) (by decide) with hy | ⟨c, hc, rfl⟩
  · have i1 : ∀ K, v_X7_in y 0 6 K = K 0 := i_no 6 (by decide) hy
    have i2 : ∀ K, v_X6_isWithin y 6 K = K 0 := w_no 6 (by decide) hy
    simp only [ha_yes hN hj, ip_yes hN h.1 hj, i1, i2, b1_0, true_implies, false_implies, not_true_eq_false, not_false_eq_true, and_true, true_and, implies_true, j_X6_as_20, j_X7_as_18, er61, er71]; exact herr
  have i1 : ∀ K, v_X7_in (nI c) 0 6 K = K 1 := i_yes 6 (by decide) hc
  have i2 : ∀ K, v_X6_isWithin (nI c) 6 K = K 1 := w_yes 6 (by decide) hc
  obtain ⟨k, hk, ek⟩ := (hB j hj8).1
  simp only [ha_yes hN hj, ip_yes hN h.1 hj, i1, i2, vi_8 hj8, cl_8 hj8, it_0 hj8, q0, ek, b1_0, true_implies, false_implies, not_true_eq_false, not_false_eq_true, and_true, true_and, implies_true]
  by_cases u : isU k (nI c)
  · refine un_v hk (fun _ => ?_) (fun z => absurd u z)
    simp only [b1_0, true_implies, false_implies, not_true_eq_false, not_false_eq_true, and_true, true_and, implies_true]
    refine as_v hk (fun _ => ?_) (fun z => absurd u z)
    simp only [it_1 hj8, q1]
    exact hP _ _ _ hE
  · refine un_v hk (fun z => absurd z u) (fun _ => ?_)
    simp only [b1_0, true_implies, false_implies, not_true_eq_false, not_false_eq_true, and_true, true_and, implies_true, er65]
    refine as_v hk (fun z => absurd z u) (fun _ => ?_)
    simp only [er75]
    exact hP _ _ _ (RE_up hE 5)
-- two of them
theorem at_no {N : Nat} {x y : Int32} {m : Nat → Int32} (hN : N ≤ 8) (hm : m 4 = nI N) (h : ou x N ∨ ou y N ∨ x = y) (K : Int32 → Prop) : v_X7_areTwo x y m K = K 0 := by
  unfold v_X7_areTwo
  rcases ou_or x (n := N) (by omega) with hx | ⟨i, hi, rfl⟩
  · simp only [ip_no hN hm hx, b1_0, true_implies, false_implies, not_true_eq_false, not_false_eq_true, and_true, true_and, implies_true]
  rcases ou_or y (n := N) (by omega) with hy | ⟨j, hj, rfl⟩
  · simp only [ip_yes hN hm hi, ip_no hN hm hy, b1_0, true_implies, false_implies, not_true_eq_false, not_false_eq_true, and_true, true_and, implies_true]
  have no : ∀ q, q < N → ¬ ou (nI q) N := by
    intro q hq z
    have := ou_int (by omega) z
    rw [nI_toInt (by omega)] at this
    omega
  rcases h with z | z | z
  · exact absurd z (no i hi)
  · exact absurd z (no j hj)
  · simp only [ip_yes hN hm hi, ip_yes hN hm hj, z, b1_0, true_implies, false_implies, not_true_eq_false, not_false_eq_true, and_true, true_and, implies_true]
theorem at_yes {N i j : Nat} {m : Nat → Int32} (hN : N ≤ 8) (hm : m 4 = nI N) (hi : i < N) (hj : j < N) (n : i ≠ j) (K : Int32 → Prop) : v_X7_areTwo (nI i) (nI j) m K = K 1 := by
  unfold v_X7_areTwo
  have e : ¬ nI i = nI j := fun q => n ((nI_eq (by omega) (by omega)).mp q)
  simp only [ip_yes hN hm hi, ip_yes hN hm hj, e, b1_0, true_implies, false_implies, not_true_eq_false, not_false_eq_true, and_true, true_and, implies_true]
theorem sh_1 : ∀ j, j < 8 → (1 : Int32) <<< (nI j &&& 31) = nI (2 ^ j) := by decide +kernel
theorem fa_or (a b : Nat) : nI a ||| nI b = nI (a ||| b) := by
  apply Int32.toBitVec_inj.mp
  show BitVec.ofNat 32 a ||| BitVec.ofNat 32 b = BitVec.ofNat 32 (a ||| b)
  apply BitVec.eq_of_toNat_eq
  simp [Nat.or_mod_two_pow]
theorem or_256 {a j : Nat} (ha : a < 256) (hj : j < 8) : a ||| 2 ^ j < 256 := by
  have h2 : 2 ^ j < 2 ^ 8 := Nat.pow_lt_pow_right (by decide) hj
  exact Nat.or_lt_two_pow (n := 8) ha h2
/-- a meeting, on both sides -/
theorem me_6 {i j : Nat} (hi : i < 8) (hj : j < 8) (ca near : Nat → Int32) (K : Int32 → (Nat → Int32) → (Nat → Int32) → Prop) : v_X4_meet (nI i) (nI j) ca near K = K (if near i < near j then near j else near i) (upd ca i (ca i ||| nI (2 ^ j))) (upd (upd near i (if near i < near j then near j else near i)) j (if near i < near j then near j else near i)) := by
  unfold v_X4_meet
  simp only [vi_8 hi, vi_8 hj, cl_8 hi, cl_8 hj, sh_1 j hj, true_and]
theorem me_7 {N i j : Nat} (hi : i < 8) (hj : j < 8) {kd em ca near sh m : Nat → Int32} (h : RP N kd em ca near sh m) (K : Int32 → (Nat → Int32) → Prop) : v_X7_calls (nI i) (nI j) m K = K (if near i < near j then near j else near i) (upd (upd (upd m (8 + 5 * i + 2) (if near i < near j then near j else near i)) (8 + 5 * j + 2) (if near i < near j then near j else near i)) (8 + 5 * i + 4) (ca i ||| nI (2 ^ j))) := by
  unfold v_X7_calls
  obtain ⟨-, -, qi, -, qc⟩ := h.2 i hi
  obtain ⟨-, -, qj, -, -⟩ := h.2 j hj
  simp only [it_2 hi, it_2 hj, qi, qj, j_X7_calls_30, ly_2 hi, ly_2 hj, it_4 hi, ly_4 hi, sh_1 j hj]
  have e : ∀ v w, upd (upd m (8 + 5 * i + 2) v) (8 + 5 * j + 2) w (8 + 5 * i + 4) = ca i := by
    intro v w
    rw [pk_un (by omega), pk_un (by omega)]; exact qc
  simp only [e]
  by_cases c : near i ≤ near j
  · rw [br_y c]
    by_cases c2 : near i < near j
    · rw [if_pos c2]
    · have e2 : near j = near i := by
        rw [fa_le] at c; rw [fa_lt] at c2; rw [fa_eq]; omega
      rw [if_neg c2, e2]
  · rw [br_n c]
    have c2 : ¬ near i < near j := by
      rw [fa_le] at c; rw [fa_lt]; omega
    rw [if_neg c2]
theorem me_R {N i j : Nat} (hi : i < 8) (hj : j < 8) {kd em ca near sh m : Nat → Int32} (h : RP N kd em ca near sh m) (v w : Int32) : RP N kd em (upd ca i w) (upd (upd near i v) j v) sh (upd (upd (upd m (8 + 5 * i + 2) v) (8 + 5 * j + 2) v) (8 + 5 * i + 4) w) :=
  RP_ca (RP_nr (RP_nr h hi v) hj v) hi w
theorem me_B {i j : Nat} (hi : i < 8) (hj : j < 8) {kd ca near : Nat → Int32} (hB : BP kd ca near) : BP kd (upd ca i (ca i ||| nI (2 ^ j))) (upd (upd near i (if near i < near j then near j else near i)) j (if near i < near j then near j else near i)) := by
  obtain ⟨-, ⟨c, hc, ec⟩, ⟨a, ha, ea⟩⟩ := hB i hi
  obtain ⟨-, -, ⟨b, hb, eb⟩⟩ := hB j hj
  have e : ∃ v : Nat, v < 100 ∧ (if near i < near j then near j else near i) = nI v := by
    by_cases q : near i < near j
    · rw [if_pos q]; exact ⟨b, hb, eb⟩
    · rw [if_neg q]; exact ⟨a, ha, ea⟩
  obtain ⟨v, hv, ev⟩ := e
  rw [ev, ec, fa_or]
  exact BP_ca (BP_nr (BP_nr hB i hv) j hv) i (or_256 hc hj)
theorem p_call {N : Nat} {x y : Int32} {kd em ca near sh errs m me : Nat → Int32} {P : Int32 → (Nat → Int32) → (Nat → Int32) → (Nat → Int32) → Int32 → (Nat → Int32) → (Nat → Int32) → Prop} (hN : N ≤ 8) (h : RP N kd em ca near sh m) (hB : BP kd ca near) (hE : RE errs me)
    (hP : ∀ r ca' near' errs' m' me', RP N kd em ca' near' sh m' → BP kd ca' near' → RE errs' me' → FP m m' → P r ca' near' errs' r m' me') :
    v_X6_call x y (nI N) ca near errs (fun r ca' near' errs' => v_X7_call x y m me (fun r' m' me' => P r ca' near' errs' r' m' me')) := by
  have herr := hP (-1000000001) ca near (upd errs 1 (errs 1 + 1)) m (upd me 1 (me 1 + 1)) h hB (RE_up hE 1) (FP_0 m)
  unfold v_X6_call v_X7_call
  rcases ou_or x (n := N) (by omega) with hx | ⟨i, hi, rfl⟩
  · simp only [ha_no hN hx, at_no hN h.1 (Or.inl hx), b1_0, true_implies, false_implies, not_true_eq_false, not_false_eq_true, and_true, true_and, implies_true, j_X6_call_27, er61, er71]; exact herr
  rcases ou_or y (n := N) (by omega) with hy | ⟨j, hj, rfl⟩
  · simp only [ha_yes hN hi, ha_no hN hy, at_no hN h.1 (Or.inr (Or.inl hy)), b1_0, true_implies, false_implies, not_true_eq_false, not_false_eq_true, and_true, true_and, implies_true, j_X6_call_27, er61, er71]; exact herr
  by_cases n : i = j
  · subst n
    simp only [ha_yes hN hi, at_no hN h.1 (Or.inr (Or.inr rfl)), b1_0, true_implies, false_implies, not_true_eq_false, not_false_eq_true, and_true, true_and, implies_true, j_X6_call_27, er61, er71]; exact herr
  have e : ¬ nI i = nI j := fun q => n ((nI_eq (by omega) (by omega)).mp q)
  have hi8 : i < 8 := by omega
  have hj8 : j < 8 := by omega
  simp only [ha_yes hN hi, ha_yes hN hj, at_yes hN h.1 hi hj n, e, me_6 hi8 hj8, me_7 hi8 hj8 h, b1_0, true_implies, false_implies, not_true_eq_false, not_false_eq_true, and_true, true_and, implies_true]
  exact hP _ _ _ _ _ _ (me_R hi8 hj8 h _ _) (me_B hi8 hj8 hB) hE (FP_up (FP_up (FP_up (FP_0 m) _ (by omega) _) _ (by omega) _) _ (by omega) _)
-- the trace
def RV (T : Nat) (tr mt : Nat → Int32) : Prop := ∀ i, i < 30 → mt i = tr i
theorem p_body {x : Int32} {T : Nat} {tr mt errs me : Nat → Int32} {P : Int32 → (Nat → Int32) → Int32 → (Nat → Int32) → Prop} (hT : T ≤ 30) (hV : RV T tr mt) (hE : RE errs me) (hP : ∀ r errs' me', RE errs' me' → P r errs' r me') :
    v_X6_body x (nI T) tr errs (fun r errs' => v_X7_body x (nI T) me mt (fun r' me' => P r errs' r' me')) := by
  have herr := hP (-1000000002) (upd errs 2 (errs 2 + 1)) (upd me 2 (me 2 + 1)) (RE_up hE 2)
  unfold v_X6_body v_X7_body
  have e1 : (nI T - 1).toInt = (T : Int) - 1 := pk_sub_toInt (b := 1) (by omega) (by decide)
  have e0 : (0 : Int32).toInt = 0 := rfl
  rcases ou_or x (n := T) (by omega) with hx | ⟨j, hj, rfl⟩
  · have hi := ou_int (by omega) hx
    have i1 : ∀ K, v_X7_in x 0 (nI T - 1) K = K 0 := in_no (by rw [e0, e1]; omega)
    rcases hx with q | q
    · simp only [q, i1, b1_0, true_implies, false_implies, not_true_eq_false, not_false_eq_true, and_true, true_and, implies_true, j_X6_body_27, er62, er72]; exact herr
    · by_cases q2 : x < 0
      · simp only [q2, i1, b1_0, true_implies, false_implies, not_true_eq_false, not_false_eq_true, and_true, true_and, implies_true, j_X6_body_27, er62, er72]; exact herr
      · simp only [q, q2, i1, b1_0, true_implies, false_implies, not_true_eq_false, not_false_eq_true, and_true, true_and, implies_true, j_X6_body_27, er62, er72]; exact herr
  · have i1 : ∀ K, v_X7_in (nI j) 0 (nI T - 1) K = K 1 := in_yes (by rw [e0, nI_toInt (by omega)]; omega) (by rw [e1, nI_toInt (by omega)]; omega)
    have a1 : ¬ nI j < 0 := nI_pos (by omega)
    have a2 : ¬ nI T ≤ nI j := nI_ge hj (by omega)
    have a3 : vp_in (nI j) 30 := vp_in_nI (by omega) (by decide)
    have a4 : (nI j).toNatClampNeg = j := nI_clamp (by omega)
    simp only [a1, a2, a3, a4, i1, b1_0, true_implies, false_implies, not_true_eq_false, not_false_eq_true, and_true, true_and, implies_true, hV j (by omega)]
    exact hP _ _ _ hE
-- what waits
theorem ck_l {N : Nat} {kd em ca near sh wt : Nat → Int32} {P : Int32 → Int32 → Int32 → (Nat → Int32) → Prop} (hN : N ≤ 8) {W : Nat} (hW : W ≤ 24) (m' : Nat → Int32) (h : RP N kd em ca near sh m') (hw : ∀ i, i < 24 → m' (358 + i) = wt i) (hP : ∀ r, P r 0 r m') :
    ∀ d i, i + d = W → l_X6_check_18 (nI N) near wt (fun r w' => ∃ n, l_X7_check_16 (fun r' m' => P r w' r' m') n (nI W) (nI i) m') (d + 1) (nI W) (nI i) 0 := by
  intro d
  induction d with
  | zero =>
    intro i hi
    have e : i = W := by omega
    subst e
    rw [l_X6_check_18, br_y (nI_le (Nat.le_refl _) (by omega))]
    refine ⟨1, ?_⟩
    rw [l_X7_check_16, br_y (nI_le (Nat.le_refl _) (by omega))]
    exact hP 0
  | succ d ih =>
    intro i hi
    have a1 : ¬ nI W ≤ nI i := nI_ge (by omega) (by omega)
    rw [l_X6_check_18, br_n a1]
    by_cases c : i < N
    · have a2 : ¬ nI N ≤ nI i := nI_ge c (by omega)
      have hi8 : i < 8 := by omega
      obtain ⟨-, -, qn, -, -⟩ := h.2 i hi8
      have a3 : (358 : Int32) + nI i = nI (358 + i) := by rw [show (358 : Int32) = nI 358 from rfl, nI_add]
      have a4 : vp_in (nI (358 + i)) 382 = True := vi_382 (by omega)
      have a5 : (nI (358 + i)).toNatClampNeg = 358 + i := nI_clamp (by omega)
      rw [br_n a2, cl_8 hi8]
      refine ⟨vp_in_nI (by omega) (by decide), vp_in_nI hi8 (by decide), fun q => ?_, fun q => ?_⟩
      · have := ih (i + 1) (by omega)
        rw [nI_1]
        -- carry the twin's step behind
        have mono : ∀ (n : Nat) (a b : Int32) (w : Int32) (K1 K2 : Int32 → Int32 → Prop), (∀ r w, K1 r w → K2 r w) → l_X6_check_18 (nI N) near wt K1 n a b w → l_X6_check_18 (nI N) near wt K2 n a b w := by
          intro n
          induction n with
          | zero => intro a b w K1 K2 hk z; exact z
          | succ n ih2 =>
            intro a b w K1 K2 hk z
            rw [l_X6_check_18] at z ⊢
            refine ⟨fun q => hk _ _ (z.1 q), fun q => ?_⟩
            have z2 := z.2 q
            refine ⟨fun q => hk _ _ (z2.1 q), fun q => ?_⟩
            have z3 := z2.2 q
            exact ⟨z3.1, z3.2.1, fun q => ih2 _ _ _ _ _ hk (z3.2.2.1 q), fun q => hk _ _ (z3.2.2.2 q)⟩
        refine mono _ _ _ _ _ _ ?_ this
        rintro r w ⟨n, hn⟩
        refine ⟨n + 1, ?_⟩
        rw [l_X7_check_16, br_n a1, ip_yes hN h.1 c]
        simp only [b1_0, true_implies, false_implies, not_true_eq_false, not_false_eq_true, and_true, true_and, implies_true, a3, a4, a5, it_2 hi8, qn, hw i (by omega), q, nI_1]
        exact hn
      · refine ⟨1, ?_⟩
        rw [l_X7_check_16, br_n a1, ip_yes hN h.1 c]
        simp only [b1_0, true_implies, false_implies, not_true_eq_false, not_false_eq_true, and_true, true_and, implies_true, a3, a4, a5, it_2 hi8, qn, hw i (by omega), q]
        exact hP _
    · have a2 : nI N ≤ nI i := nI_le (by omega) (by omega)
      rw [br_y a2]
      refine ⟨1, ?_⟩
      rw [l_X7_check_16, br_n a1, ip_no hN h.1 (Or.inr a2)]
      simp only [b1_0, true_implies, false_implies, not_true_eq_false, not_false_eq_true, and_true, true_and, implies_true]
      exact hP _
theorem p_check {N W : Nat} {kd em ca near sh wt m : Nat → Int32} {P : Int32 → Int32 → Int32 → (Nat → Int32) → Prop} (hN : N ≤ 8) (hW : W ≤ 24) (h : RP N kd em ca near sh m) (hw : RW_ W wt m) (hP : ∀ r, P r 0 r (upd m 3 0)) :
    v_X6_check (nI N) (nI W) near wt (fun r w' => v_X7_check m (fun r' m' => P r w' r' m')) := by
  have h2 : RP N kd em ca near sh (upd m 3 0) := by
    refine ⟨by rw [pk_un (by omega)]; exact h.1, fun j hj => ?_⟩
    rw [pk_un (by omega), pk_un (by omega), pk_un (by omega), pk_un (by omega), pk_un (by omega)]
    exact h.2 j hj
  have hw2 : ∀ i, i < 24 → upd m 3 0 (358 + i) = wt i := fun i hi => by rw [pk_un (by omega)]; exact hw.2 i hi
  have q := ck_l (P := P) hN hW (upd m 3 0) h2 hw2 hP W 0 (by omega)
  unfold v_X6_check v_X7_check
  simp only [v3_, c3, hw.1, true_and]
  exact ⟨W + 1, q⟩
