/-! text: both read one and the same -/
def ST (u z : Nat) (st stp : Nat → Int32) : Prop := ∀ k, k < z → tkn u (st k) (stp (2 * k)) (stp (2 * k + 1)) ∧ (st k = -33 → 1 ≤ dp st k) ∧ (¬ (-3 : Int32) ≤ st k → ¬ st k = -33 → 2 ≤ dp st k)
theorem ST_0 (u : Nat) (st stp : Nat → Int32) : ST u 0 st stp := fun k hk => absurd hk (Nat.not_lt_zero k)
theorem ST_p {u z : Nat} {st stp : Nat → Int32} {s w v : Int32} (h : ST u z st stp) (ht : tkn u s w v) (h1 : s = -33 → 1 ≤ dp st z) (h2 : ¬ (-3 : Int32) ≤ s → ¬ s = -33 → 2 ≤ dp st z) : ST u (z + 1) (upd st z s) (upd (upd stp (2 * z) w) (2 * z + 1) v) := by
  intro k hk
  have d : dp (upd st z s) k = dp st k := dp_cong z (fun i hi => pk_un (by omega)) k (by omega)
  rw [d]
  by_cases q : k = z
  · subst q
    rw [pk_us, pk_us, pk_un (by omega), pk_us]
    exact ⟨ht, h1, h2⟩
  · rw [pk_un q, pk_un (by omega), pk_un (by omega), pk_un (by omega), pk_un (by omega)]
    exact h k (by omega)
theorem dp_s (st : Nat → Int32) (z : Nat) (s : Int32) : dp (upd st z s) (z + 1) = if (-3 : Int32) ≤ s then dp st z + 1 else if s = -33 then dp st z else dp st z - 1 := by
  rw [dp, pk_us, dp_cong (s1 := upd st z s) (s2 := st) z (fun i hi => pk_un (by omega)) z (Nat.le_refl _)]
theorem sp_6 {z : Nat} (hz : z < 60) {s : Int32} {st : Nat → Int32} {K : Int32 → (Nat → Int32) → Prop} (h : K (nI (z + 1)) (upd st z s)) : v_X1_step s (nI z) st K := by
  unfold v_X1_step
  have cz : (nI z).toNatClampNeg = z := nI_clamp (by omega)
  rw [br_n (show ¬ (60 : Int32) ≤ nI z from nI_ge (b := 60) hz (by decide)), vi_60 hz, true_and, cz, nI_1]
  exact h
theorem sp_x {z : Nat} (hz : z ≤ 60) (s : Int32) (st : Nat → Int32) : ∃ z' st', z' ≤ 60 ∧ ∀ K : Int32 → (Nat → Int32) → Prop, K (nI z') st' → v_X1_step s (nI z) st K := by
  by_cases c : z < 60
  · exact ⟨z + 1, _, by omega, fun K h => sp_6 c h⟩
  · refine ⟨z, st, hz, fun K h => ?_⟩
    unfold v_X1_step
    have e : z = 60 := by omega
    subst e
    rw [br_y (show (60 : Int32) ≤ nI 60 by decide)]
    exact h
theorem sp_7 {z : Nat} (hz : z < 60) {w v : Int32} {st : Nat → Int32} {K : Int32 → (Nat → Int32) → Prop} (h : K (nI (z + 1)) (upd (upd st (2 * z) w) (2 * z + 1) v)) : v_X7_step1 w v (nI z) st K := by
  unfold v_X7_step1
  have e : (2 : Int32) * nI z = nI (2 * z) := pk_mul 2 z
  have c1 : (nI (2 * z)).toNatClampNeg = 2 * z := nI_clamp (by omega)
  have c2 : (nI (2 * z + 1)).toNatClampNeg = 2 * z + 1 := nI_clamp (by omega)
  rw [e, nI_1, nI_1, c1, c2]
  exact ⟨vp_in_nI (by omega) (by decide), vp_in_nI (by omega) (by decide), h⟩
/-- both go on alike -/
def Sm (L u d q g o : Nat) (C : (Int32 → Int32 → Int32 → (Nat → Int32) → Prop) → Prop) (T : (Int32 → Int32 → Int32 → Int32 → (Nat → Int32) → Prop) → Prop) : Prop :=
  (∃ (q' z' : Nat) (st' stp' : Nat → Int32), q ≤ q' ∧ q' ≤ L ∧ z' + d ≤ q' ∧ ST u z' st' stp' ∧ dp st' z' = g + 1 ∧ (∀ K, K 1 (nI q') (nI z') st' → C K) ∧ (∀ K, K 1 (nI q') (nI o) (nI z') stp' → T K)) ∨
  (∃ (q' z' : Nat) (st' : Nat → Int32) (o' z2 : Int32) (stp' : Nat → Int32), q' ≤ L ∧ z' ≤ 60 ∧ (∀ K, K 0 (nI q') (nI z') st' → C K) ∧ (∀ K, K 0 (nI q') o' z2 stp' → T K))
def En (L u d q g z : Nat) (st stp : Nat → Int32) : Prop := q ≤ L ∧ z + d ≤ q ∧ ST u z st stp ∧ dp st z = g
def SMf (L u o : Nat) (C : Int32 → Int32 → (Nat → Int32) → (Int32 → Int32 → Int32 → (Nat → Int32) → Prop) → Prop) (T : Int32 → Int32 → (Nat → Int32) → (Int32 → Int32 → Int32 → Int32 → (Nat → Int32) → Prop) → Prop) : Prop := ∀ d q g z st stp, En L u d q g z st stp → Sm L u d q g o (C (nI q) (nI z) st) (T (nI q) (nI z) stp)
theorem cl_stop {OC : Int32 → Int32 → Int32 → Int32 → Nat → Int32 → (Nat → Int32) → (Nat → Int32) → (Int32 → Int32 → Int32 → (Nat → Int32) → Prop) → Prop} {OI : Int32 → Int32 → Int32 → Nat → Int32 → (Nat → Int32) → (Nat → Int32) → (Int32 → Int32 → Int32 → (Nat → Int32) → Prop) → Prop} {L q z n u : Nat} {l o : Int32} {by_ m st : Nat → Int32} (hL : L ≤ 60) (hq : q ≤ L) (hb : ∀ i, i < L → tb (by_ i) (m (298 + i))) (hs : ¬ lo (ch L m q) = l) {K : Int32 → Int32 → Int32 → (Nat → Int32) → Prop} (h : K 1 (nI q) (nI z) st) : l_X1_readLevel_31 OC OI l o (nI L) u by_ K (n + 1) 1 (nI q) (nI z) st := by
  rw [l_X1_readLevel_31, br_n (show ¬ (1 : Int32) = 0 by decide)]
  by_cases c : q < L
  · have cq : (nI q).toNatClampNeg = q := nI_clamp (by omega)
    have hc : ch L m q = m (298 + q) := if_pos c
    rw [br_n (nI_ge c (by omega)), vi_60 (by omega), true_and, true_and, cq]
    refine lo_6 ?_
    rw [tb_lo (hb q c), ← hc]
    exact ⟨fun _ => h, fun w => absurd w hs⟩
  · rw [br_y (nI_le (by omega) (by omega))]; exact h
theorem cl_go {OC : Int32 → Int32 → Int32 → Int32 → Nat → Int32 → (Nat → Int32) → (Nat → Int32) → (Int32 → Int32 → Int32 → (Nat → Int32) → Prop) → Prop} {OI : Int32 → Int32 → Int32 → Nat → Int32 → (Nat → Int32) → (Nat → Int32) → (Int32 → Int32 → Int32 → (Nat → Int32) → Prop) → Prop} {L q z n u l : Nat} {o : Int32} {by_ m st : Nat → Int32} (hl : l < 5) (hL : L ≤ 60) (c : q < L) (hb : ∀ i, i < L → tb (by_ i) (m (298 + i))) (hs : lo (ch L m q) = nI l) {K : Int32 → Int32 → Int32 → (Nat → Int32) → Prop}
    (h : OC (nI (l + 1)) o (nI L) (nI (q + 1)) u (nI z) by_ st (fun r p z' s' => (¬ r = 0 → v_X1_step (-(ch L m q)) z' s' (fun z2 s2 => l_X1_readLevel_31 OC OI (nI l) o (nI L) u by_ K n (if l = 2 then 0 else 1) p z2 s2)) ∧ (r = 0 → K 0 p z' s'))) : l_X1_readLevel_31 OC OI (nI l) o (nI L) u by_ K (n + 1) 1 (nI q) (nI z) st := by
  have cq : (nI q).toNatClampNeg = q := nI_clamp (by omega)
  have hc : ch L m q = m (298 + q) := if_pos c
  have hne : ¬ lo (ch L m q) = -1 := by
    rw [hs]
    exact fun e => absurd e (by have : ∀ l, l < 5 → ¬ nI l = -1 := by decide
                                exact this l hl)
  rw [l_X1_readLevel_31, br_n (show ¬ (1 : Int32) = 0 by decide), br_n (nI_ge c (by omega)), vi_60 (by omega), true_and, true_and, cq]
  refine lo_6 ?_
  rw [tb_lo (hb q c), ← hc, hs]
  have hB : by_ q = ch L m q := by
    rw [hc] at hne ⊢
    exact (tb_sg (hb q c) hne).1
  refine ⟨fun w => absurd rfl w, fun _ => ?_⟩
  rw [hB, nI_1, nI_1]
  have e : ∀ (p : Int32) (z2 : Int32) (s2 : Nat → Int32), (((nI l = 2 → j_X1_readLevel_113 OC OI (nI l) o (nI L) u by_ (fun x3' place' rsize' rsteps' => l_X1_readLevel_31 OC OI (nI l) o (nI L) u by_ K n x3' place' rsize' rsteps') K 0 p z2 s2) ∧ (¬ nI l = 2 → j_X1_readLevel_113 OC OI (nI l) o (nI L) u by_ (fun x3' place' rsize' rsteps' => l_X1_readLevel_31 OC OI (nI l) o (nI L) u by_ K n x3' place' rsize' rsteps') K 1 p z2 s2)) = l_X1_readLevel_31 OC OI (nI l) o (nI L) u by_ K n (if l = 2 then 0 else 1) p z2 s2) := by
    intro p z2 s2
    unfold j_X1_readLevel_113
    by_cases w : l = 2
    · subst w
      rw [br_y (show nI 2 = (2 : Int32) from rfl), if_pos rfl]
    · rw [br_n (show ¬ nI l = (2 : Int32) from fun g => w ((nI_eq (b := 2) (by omega) (by decide)).mp g)), if_neg w]
  simp only [e]
  exact h
theorem lp_s {OC : Int32 → Int32 → Int32 → Int32 → Nat → Int32 → (Nat → Int32) → (Nat → Int32) → (Int32 → Int32 → Int32 → (Nat → Int32) → Prop) → Prop} {OI : Int32 → Int32 → Int32 → Nat → Int32 → (Nat → Int32) → (Nat → Int32) → (Int32 → Int32 → Int32 → (Nat → Int32) → Prop) → Prop} {L u o l : Nat} {by_ m : Nat → Int32} {LT : (Int32 → Int32 → Int32 → Int32 → (Nat → Int32) → Prop) → Nat → Int32 → Int32 → Int32 → (Nat → Int32) → Prop} {TO : Int32 → Int32 → (Nat → Int32) → (Int32 → Int32 → Int32 → Int32 → (Nat → Int32) → Prop) → Prop} (hL : L ≤ 60) (hb : ∀ i, i < L → tb (by_ i) (m (298 + i))) (hl : l < 5) (hl2 : ¬ l = 2)
    (hop : SMf L u o (fun p z st K => OC (nI (l + 1)) (nI o) (nI L) p u z by_ st K) TO)
    (hstop : ∀ K n q z stp, q ≤ L → ¬ lo (ch L m q) = nI l → K 1 (nI q) (nI o) (nI z) stp → LT K (n + 1) (nI q) (nI o) (nI z) stp)
    (hgo : ∀ K n q z stp, q < L → lo (ch L m q) = nI l → TO (nI (q + 1)) (nI z) stp (fun r a o' z' s' => (¬ r = 0 → v_X7_step1 3 (ch L m q) z' s' (fun z2 s2 => LT K n a o' z2 s2)) ∧ (r = 0 → K 0 a o' z' s')) → LT K (n + 1) (nI q) (nI o) (nI z) stp) :
    ∀ n d q g z st stp, L < q + n → En L u d q (g + 1) z st stp → Sm L u d q g o (fun K => l_X1_readLevel_31 OC OI (nI l) (nI o) (nI L) u by_ K n 1 (nI q) (nI z) st) (fun K => LT K n (nI q) (nI o) (nI z) stp) := by
  intro n
  induction n with
  | zero => intro d q g z st stp h e; exact absurd e.1 (by omega)
  | succ n ih =>
    intro d q g z st stp hn ⟨hq, hz, hs, hd⟩
    by_cases w : lo (ch L m q) = nI l
    · have hne : ¬ lo (ch L m q) = -1 := by
        rw [w]
        have : ∀ l, l < 5 → ¬ nI l = -1 := by decide
        exact this l hl
      have c : q < L := by
        rcases Nat.lt_or_ge q L with c | c
        · exact c
        · refine absurd ?_ hne
          have hc : ch L m q = -1 := if_neg (by omega)
          rw [hc]; exact lo_e
      have hsg : sg (ch L m q) := by
        have hc : ch L m q = m (298 + q) := if_pos c
        rw [hc] at hne ⊢
        exact (tb_sg (hb q c) hne).2
      rcases hop (d + 1) (q + 1) (g + 1) z st stp ⟨by omega, by omega, hs, hd⟩ with ⟨q1, z1, st1, stp1, a1, a2, a3, a4, a5, hC, hT⟩ | ⟨q1, z1, st1, o1, z2, stp1, a1, a2, hC, hT⟩
      · have fs := sg_f hsg
        have en : En L u d q1 (g + 1) (z1 + 1) (upd st1 z1 (-(ch L m q))) (upd (upd stp1 (2 * z1) 3) (2 * z1 + 1) (ch L m q)) := by
          refine ⟨a2, by omega, ST_p a4 (Or.inr (Or.inr (Or.inr (Or.inr (Or.inr ⟨_, hsg, rfl, rfl, rfl⟩))))) (fun e => absurd e fs.2.1) (fun _ _ => by omega), ?_⟩
          rw [dp_s, if_neg fs.2.2.2, if_neg fs.2.1, a5]; rfl
        have z60 : z1 < 60 := by omega
        have e2 : (if l = 2 then (0 : Int32) else 1) = 1 := if_neg hl2
        rcases ih d q1 g _ _ _ (by omega) en with ⟨q2, z2, st2, stp2, b1, b2, b3, b4, b5, hC2, hT2⟩ | ⟨q2, z2, st2, o2, z3, stp2, b1, b2, hC2, hT2⟩
        · refine Or.inl ⟨q2, z2, st2, stp2, by omega, b2, b3, b4, b5, fun K hK => ?_, fun K hK => ?_⟩
          · refine cl_go hl hL c hb w (hC _ ⟨fun _ => ?_, fun y => absurd y (by decide)⟩)
            refine sp_6 z60 ?_
            rw [e2]; exact hC2 K hK
          · refine hgo K n q z stp c w (hT _ ⟨fun _ => ?_, fun y => absurd y (by decide)⟩)
            exact sp_7 z60 (hT2 K hK)
        · refine Or.inr ⟨q2, z2, st2, o2, z3, stp2, b1, b2, fun K hK => ?_, fun K hK => ?_⟩
          · refine cl_go hl hL c hb w (hC _ ⟨fun _ => ?_, fun y => absurd y (by decide)⟩)
            refine sp_6 z60 ?_
            rw [e2]; exact hC2 K hK
          · refine hgo K n q z stp c w (hT _ ⟨fun _ => ?_, fun y => absurd y (by decide)⟩)
            exact sp_7 z60 (hT2 K hK)
      · refine Or.inr ⟨q1, z1, st1, o1, z2, stp1, a1, a2, fun K hK => ?_, fun K hK => ?_⟩
        · exact cl_go hl hL c hb w (hC _ ⟨fun y => absurd rfl y, fun _ => hK⟩)
        · exact hgo K n q z stp c w (hT _ ⟨fun y => absurd rfl y, fun _ => hK⟩)
    · refine Or.inl ⟨q, z, st, stp, Nat.le_refl _, hq, hz, hs, hd, fun K hK => ?_, fun K hK => ?_⟩
      · exact cl_stop hL hq hb w hK
      · exact hstop K n q z stp hq w hK
theorem lv_s {OC : Int32 → Int32 → Int32 → Int32 → Nat → Int32 → (Nat → Int32) → (Nat → Int32) → (Int32 → Int32 → Int32 → (Nat → Int32) → Prop) → Prop} {OI : Int32 → Int32 → Int32 → Nat → Int32 → (Nat → Int32) → (Nat → Int32) → (Int32 → Int32 → Int32 → (Nat → Int32) → Prop) → Prop} {L u o l : Nat} {by_ m : Nat → Int32} {LT : (Int32 → Int32 → Int32 → Int32 → (Nat → Int32) → Prop) → Nat → Int32 → Int32 → Int32 → (Nat → Int32) → Prop} {TO TL : Int32 → Int32 → (Nat → Int32) → (Int32 → Int32 → Int32 → Int32 → (Nat → Int32) → Prop) → Prop} (hL : L ≤ 60) (hb : ∀ i, i < L → tb (by_ i) (m (298 + i))) (hl : l < 5) (ho : o ≤ 5) (hl2 : ¬ l = 2)
    (hop : SMf L u o (fun p z st K => OC (nI (l + 1)) (nI o) (nI L) p u z by_ st K) TO)
    (hstop : ∀ K n q z stp, q ≤ L → ¬ lo (ch L m q) = nI l → K 1 (nI q) (nI o) (nI z) stp → LT K (n + 1) (nI q) (nI o) (nI z) stp)
    (hgo : ∀ K n q z stp, q < L → lo (ch L m q) = nI l → TO (nI (q + 1)) (nI z) stp (fun r a o' z' s' => (¬ r = 0 → v_X7_step1 3 (ch L m q) z' s' (fun z2 s2 => LT K n a o' z2 s2)) ∧ (r = 0 → K 0 a o' z' s')) → LT K (n + 1) (nI q) (nI o) (nI z) stp)
    (hTL : ∀ K a z stp, TO a z stp (fun r a o' z' s' => (¬ r = 0 → ∃ n, LT K n a o' z' s') ∧ (r = 0 → K 0 a o' z' s')) → TL a z stp K) :
    SMf L u o (fun p z st K => b_X1_readLevel OC OI (nI l) (nI o) (nI L) p u z by_ st K) TL := by
  intro d q g z st stp en
  have c1 : ¬ (5 : Int32) ≤ nI l := nI_ge (b := 5) hl (by decide)
  have c2 : nI o ≤ (5 : Int32) := nI_le (b := 5) ho (by decide)
  have cc : ∀ {K : Int32 → Int32 → Int32 → (Nat → Int32) → Prop}, OC (nI (l + 1)) (nI o) (nI L) (nI q) u (nI z) by_ st (fun r p z' s' => (¬ r = 0 → ∃ n, l_X1_readLevel_31 OC OI (nI l) (nI o) (nI L) u by_ K n 1 p z' s') ∧ (r = 0 → K 0 p z' s')) → b_X1_readLevel OC OI (nI l) (nI o) (nI L) (nI q) u (nI z) by_ st K := by
    intro K h
    unfold b_X1_readLevel
    rw [br_n c1, br_y c2, nI_1]
    exact h
  rcases hop d q g z st stp en with ⟨q1, z1, st1, stp1, a1, a2, a3, a4, a5, hC, hT⟩ | ⟨q1, z1, st1, o1, z2, stp1, a1, a2, hC, hT⟩
  · rcases lp_s (OI := OI) hL hb hl hl2 hop hstop hgo (L - q1 + 1) d q1 g z1 st1 stp1 (by omega) ⟨a2, a3, a4, a5⟩ with ⟨q2, z2, st2, stp2, b1, b2, b3, b4, b5, hC2, hT2⟩ | ⟨q2, z2, st2, o2, z3, stp2, b1, b2, hC2, hT2⟩
    · refine Or.inl ⟨q2, z2, st2, stp2, by omega, b2, b3, b4, b5, fun K hK => cc (hC _ ⟨fun _ => ⟨_, hC2 K hK⟩, fun y => absurd y (by decide)⟩), fun K hK => hTL K _ _ _ (hT _ ⟨fun _ => ⟨_, hT2 K hK⟩, fun y => absurd y (by decide)⟩)⟩
    · refine Or.inr ⟨q2, z2, st2, o2, z3, stp2, b1, b2, fun K hK => cc (hC _ ⟨fun _ => ⟨_, hC2 K hK⟩, fun y => absurd y (by decide)⟩), fun K hK => hTL K _ _ _ (hT _ ⟨fun _ => ⟨_, hT2 K hK⟩, fun y => absurd y (by decide)⟩)⟩
  · exact Or.inr ⟨q1, z1, st1, o1, z2, stp1, a1, a2, fun K hK => cc (hC _ ⟨fun y => absurd rfl y, fun _ => hK⟩), fun K hK => hTL K _ _ _ (hT _ ⟨fun y => absurd rfl y, fun _ => hK⟩)⟩
