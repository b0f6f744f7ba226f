/-! text -/
theorem tc_7 {u z : Nat} (hz : z ≤ 60) (hu : u < 2) {p1 at_ op us : Int32} {m me step : Nat → Int32} {K : Int32 → Int32 → Int32 → Int32 → Int32 → (Nat → Int32) → (Nat → Int32) → (Nat → Int32) → Prop}
    (hK : ∀ m', (∀ j, m' j = if 48 + 125 * u + 1 ≤ j ∧ j < 48 + 125 * u + 1 + 2 * z then step (j - (48 + 125 * u + 1)) else m j) → K 1 at_ op (nI z) us m' me step) :
    ∀ e k mk, k + e = 2 * z → (∀ j, mk j = if 48 + 125 * u + 1 ≤ j ∧ j < 48 + 125 * u + 1 + k then step (j - (48 + 125 * u + 1)) else m j) → l_X7_text_101 p1 K (e + 1) (nI (48 + 125 * u)) (nI k) at_ op (nI z) us mk me step := by
  have e2 : (2 : Int32) * nI z = nI (2 * z) := pk_mul 2 z
  intro e
  induction e with
  | zero =>
    intro k mk hk h
    rw [l_X7_text_101, e2, br_y (nI_le (by omega) (by omega))]
    refine hK mk (fun j => ?_)
    rw [h j, show k = 2 * z by omega]
  | succ e ih =>
    intro k mk hk h
    have i1 : (nI (48 + 125 * u) + 1) + nI k = nI (48 + 125 * u + 1 + k) := by rw [nI_1, nI_add]
    have c9 : (nI (48 + 125 * u + 1 + k)).toNatClampNeg = 48 + 125 * u + 1 + k := nI_clamp (by omega)
    have v9 : vp_in (nI (48 + 125 * u + 1 + k)) 382 = True := vi_382 (by omega)
    have ck : (nI k).toNatClampNeg = k := nI_clamp (by omega)
    rw [l_X7_text_101, e2, br_n (nI_ge (by omega) (by omega)), i1, c9, v9, ck, nI_1]
    refine ⟨vp_in_nI (by omega) (by decide), trivial, ih (k + 1) _ (by omega) (fun j => ?_)⟩
    rw [up_at]
    by_cases y : j = 48 + 125 * u + 1 + k
    · rw [if_pos y, if_pos (by omega)]
      congr 1; omega
    · rw [if_neg y, h j]
      by_cases w : 48 + 125 * u + 1 ≤ j ∧ j < 48 + 125 * u + 1 + k
      · rw [if_pos w, if_pos (by omega)]
      · rw [if_neg w, if_neg (by omega)]
theorem tx_c {T u n : Nat} {st m tape : Nat → Int32} (hT : T ≤ 60) (hu : u < 2) (hR : RB_ T tape m) (hX : TX u n st m) (len pl rs : Int32) (nm : Nat) (by_ rst : Nat → Int32) (at0 op0 sp0 us0 : Int32) (step me : Nat → Int32) :
    ∃ (r r5 : Int32) (n' : Nat) (st' m' : Nat → Int32) (at' op' sp' : Int32) (step' : Nat → Int32), TX u n' st' m' ∧ m' 2 = 0 ∧ (∀ i, i ≠ 2 → (i < 48 + 125 * u ∨ 173 + 125 * u ≤ i) → m' i = m i) ∧ (0 ≤ r5 → -10 - r5 = r) ∧ (¬ 0 ≤ r5 → 1 = r) ∧
      (∀ K : Int32 → Int32 → Int32 → Nat → Int32 → (Nat → Int32) → (Nat → Int32) → Int32 → (Nat → Int32) → Prop, (∀ a1 a2 a3 a4 a5 a6, K r5 a1 a2 a3 a4 a5 a6 (nI n') st') → v_X1_read (nI T) (nI u) len pl nm rs by_ rst (nI n) st tape K) ∧
      (∀ K : Int32 → Int32 → Int32 → Int32 → Int32 → (Nat → Int32) → (Nat → Int32) → (Nat → Int32) → Prop, K r at' op' sp' (nI u) m' me step' → v_X7_text (nI u) at0 op0 sp0 us0 m me step K) := by
  obtain ⟨hm, hf, hb⟩ := hR
  have i1 : ∀ K, v_X7_in (nI u) 0 1 K = K 1 := i_yes 1 (by decide) hu
  have b48 : (48 : Int32) + (125 : Int32) * nI u = nI (48 + 125 * u) := by
    rw [show (48 : Int32) = nI 48 from rfl, show (125 : Int32) = nI 125 from rfl, pk_mul, nI_add]
  have v48 : vp_in (nI (48 + 125 * u)) 382 = True := vi_382 (by omega)
  have c48 : (nI (48 + 125 * u)).toNatClampNeg = 48 + 125 * u := nI_clamp (by omega)
  have TX2 : TX u n st (upd m 2 0) := TX_fr2 hX (fun i h1 h2 => pk_un (by omega))
  have q0 : ∀ q : Nat, q ≤ T → (0 : Int32) ≤ nI q := fun q hq => nI_pos' (by omega)
  have par := fun by2 (h : ∀ i, i < T → by2 i = tape i) => tx_s (u := u) (by_ := by2) hT hm (fun i hi => by rw [h i hi]; exact hb i (by omega)) hu 0 0 0 0 rst step ⟨Nat.zero_le _, Nat.le_refl _, ST_0 _ _ _, rfl⟩
  have same := par (fun i => va_cpy tape by_ 0 0 T i) (fun i hi => sb_cpy0 hi)
  have rdd : ∀ K : Int32 → Int32 → Int32 → Nat → Int32 → (Nat → Int32) → (Nat → Int32) → Int32 → (Nat → Int32) → Prop, v_X1_readLevel 45 0 0 (nI T) 0 u 0 (va_cpy tape by_ 0 0 T) rst (fun r p z s => (r = 0 → K p (nI T) p u z (va_cpy tape by_ 0 0 T) s (nI n) st) ∧ (¬ r = 0 → (nI T ≤ p → v_X0_copy z (nI n) st s (fun c2 s2 => K (-1) (nI T) p u z (va_cpy tape by_ 0 0 T) s c2 s2)) ∧ (¬ nI T ≤ p → K p (nI T) p u z (va_cpy tape by_ 0 0 T) s (nI n) st))) → v_X1_read (nI T) (nI u) len pl nm rs by_ rst (nI n) st tape K := by
    intro K h
    unfold v_X1_read
    have a1 : (if (60 : Int32) < 60 then (60 : Int32) else 60) = 60 := by decide
    have a2 : ¬ (60 : Int32) < nI T := nI_nlt (a := 60) hT (by decide)
    have q4 : (if (0 : Int32) < nI T then nI T else 0) = nI T := by
      by_cases w : T = 0
      · subst w; rfl
      · have w2 : (0 : Int32) < nI T := nI_lt (a := 0) (by omega) (by omega)
        rw [if_pos w2]
    have c : (nI T).toNatClampNeg = T := nI_clamp (by omega)
    simp only [a1, a2, if_false, q4, c, c0]
    refine ⟨by decide, by decide, nI_pos (by omega), by omega, by omega, fun i _ => hf _, ?_⟩
    have hc : u = 0 ∨ u = 1 := by omega
    rcases hc with rfl | rfl
    · rw [br_u (show ¬ nI 0 = (1 : Int32) by decide)]
      exact h
    · rw [br_v (show nI 1 = (1 : Int32) from rfl)]
      exact h
  have bad : ∀ (q1 : Nat), q1 ≤ T → ∀ (o1 z2 : Int32) (stp1 : Nat → Int32), (∀ K : Int32 → Int32 → Int32 → Nat → Int32 → (Nat → Int32) → (Nat → Int32) → Int32 → (Nat → Int32) → Prop, (∀ a1 a2 a3 a4 a5 a6, K (nI q1) a1 a2 a3 a4 a5 a6 (nI n) st) → v_X1_read (nI T) (nI u) len pl nm rs by_ rst (nI n) st tape K) → (∀ K : Int32 → Int32 → Int32 → Int32 → Int32 → (Nat → Int32) → (Nat → Int32) → (Nat → Int32) → Prop, j_X7_text_60 (nI u) K 0 (nI q1) o1 z2 (nI u) m me stp1 → v_X7_text (nI u) at0 op0 sp0 us0 m me step K) →
      ∃ (r r5 : Int32) (n' : Nat) (st' m' : Nat → Int32) (at' op' sp' : Int32) (step' : Nat → Int32), TX u n' st' m' ∧ m' 2 = 0 ∧ (∀ i, i ≠ 2 → (i < 48 + 125 * u ∨ 173 + 125 * u ≤ i) → m' i = m i) ∧ (0 ≤ r5 → -10 - r5 = r) ∧ (¬ 0 ≤ r5 → 1 = r) ∧
        (∀ K : Int32 → Int32 → Int32 → Nat → Int32 → (Nat → Int32) → (Nat → Int32) → Int32 → (Nat → Int32) → Prop, (∀ a1 a2 a3 a4 a5 a6, K r5 a1 a2 a3 a4 a5 a6 (nI n') st') → v_X1_read (nI T) (nI u) len pl nm rs by_ rst (nI n) st tape K) ∧
        (∀ K : Int32 → Int32 → Int32 → Int32 → Int32 → (Nat → Int32) → (Nat → Int32) → (Nat → Int32) → Prop, K r at' op' sp' (nI u) m' me step' → v_X7_text (nI u) at0 op0 sp0 us0 m me step K) := by
    intro q1 hq1 o1 z2 stp1 h1 h2
    refine ⟨-10 - nI q1, nI q1, n, st, upd m 2 0, nI q1, o1, z2, stp1, TX2, pk_us, fun i g1 _ => pk_un g1, fun _ => rfl, fun w => absurd (q0 q1 hq1) w, h1, fun K hK => h2 K ?_⟩
    unfold j_X7_text_60
    rw [v2_, true_and, c2, br_v rfl]
    exact hK
  rcases same with ⟨q1, z1, st1, stp1, a1, a2, a3, a4, a5, hC, hT7⟩ | ⟨q1, z1, st1, o1, z2, stp1, a1, a2, hC, hT7⟩
  · by_cases w : q1 = T
    · subst w
      have z60 : z1 ≤ 60 := by omega
      have hc1 : (nI (48 + 125 * u)).toNatClampNeg = 48 + 125 * u := c48
      let base : Nat → Int32 := upd (upd m 2 0) (48 + 125 * u) (nI z1)
      let m' : Nat → Int32 := fun j => if 48 + 125 * u + 1 ≤ j ∧ j < 48 + 125 * u + 1 + 2 * z1 then stp1 (j - (48 + 125 * u + 1)) else base j
      have hbase : ∀ i, i ≠ 2 → i ≠ 48 + 125 * u → base i = m i := fun i g1 g2 => by
        show upd (upd m 2 0) (48 + 125 * u) (nI z1) i = m i
        rw [pk_un g2, pk_un g1]
      have hm'0 : ∀ i, (i < 48 + 125 * u + 1 ∨ 48 + 125 * u + 1 + 2 * z1 ≤ i) → m' i = base i := fun i g => if_neg (by omega)
      have hm'1 : ∀ i, i < 2 * z1 → m' (48 + 125 * u + 1 + i) = stp1 i := fun i g => by
        show (if 48 + 125 * u + 1 ≤ 48 + 125 * u + 1 + i ∧ 48 + 125 * u + 1 + i < 48 + 125 * u + 1 + 2 * z1 then stp1 (48 + 125 * u + 1 + i - (48 + 125 * u + 1)) else base (48 + 125 * u + 1 + i)) = stp1 i
        rw [if_pos (by omega)]
        congr 1; omega
      have tx1 : TX u z1 st1 m' := by
        refine ⟨z60, ?_, fun k hk => ?_, ⟨fun k hk => (a4 k hk).2, fun _ => by rw [a5]; exact Nat.le_refl _⟩⟩
        · rw [hm'0 _ (by omega)]
          exact pk_us
        · have e1 : 48 + 125 * u + 2 + 2 * k = 48 + 125 * u + 1 + (2 * k + 1) := by omega
          rw [e1, hm'1 _ (by omega), hm'1 _ (by omega)]
          exact (a4 k hk).1
      refine ⟨1, -1, z1, va_cpy st1 st 0 0 z1, m', nI q1, nI 0, nI z1, stp1, TX_cong tx1 (fun k hk => sb_cpy0 hk), ?_, fun i g1 g2 => ?_, fun g => absurd g (by decide), fun _ => rfl, fun K hK => ?_, fun K hK => ?_⟩
      · rw [hm'0 _ (by omega)]
        show upd (upd m 2 0) (48 + 125 * u) (nI z1) 2 = 0
        rw [pk_un (by omega)]; exact pk_us
      · rw [hm'0 _ (by omega)]; exact hbase i g1 (by omega)
      · refine rdd K (hC _ ⟨fun g => absurd g (by decide), fun _ => ⟨fun _ => ?_, fun g => absurd (nI_le (Nat.le_refl _) (by omega)) g⟩⟩)
        exact cp_0 z60 (hK _ _ _ _ _ _)
      · unfold v_X7_text
        rw [i1, rb_1']
        refine hT7 _ ⟨fun g => absurd g (by decide), fun _ => ?_⟩
        rw [v2_, true_and, c2, hm, br_v rfl]
        unfold j_X7_text_60
        rw [v2_, true_and, rb_1', b48, v48, true_and, c48]
        refine ⟨2 * z1 + 1, tc_7 (m := base) z60 hu (fun m2 h2 => ?_) (2 * z1) 0 base (by omega) (fun j => by rw [if_neg (by omega)])⟩
        have e : m2 = m' := funext h2
        rw [e]; exact hK
    · refine bad q1 a2 (nI 0) (nI z1) stp1 (fun K hK => ?_) (fun K hK => ?_)
      · exact rdd K (hC _ ⟨fun g => absurd g (by decide), fun _ => ⟨fun g => absurd g (nI_ge (by omega) (by omega)), fun _ => hK _ _ _ _ _ _⟩⟩)
      · unfold v_X7_text
        rw [i1, rb_1']
        refine hT7 _ ⟨fun g => absurd g (by decide), fun _ => ?_⟩
        rw [v2_, true_and, c2, hm, br_u (fun g => w ((nI_eq (by omega) (by omega)).mp g))]
        exact hK
  · refine bad q1 a1 o1 z2 stp1 (fun K hK => ?_) (fun K hK => ?_)
    · exact rdd K (hC _ ⟨fun _ => hK _ _ _ _ _ _, fun g => absurd rfl g⟩)
    · unfold v_X7_text
      rw [i1, rb_1']
      exact hT7 _ ⟨fun _ => hK, fun g => absurd rfl g⟩
theorem p_text {x : Int32} {T tn gn : Nat} {ts gs tape errs m me by_ rst step : Nat → Int32} {len pl rs at0 op0 sp0 us0 : Int32} {nm : Nat} {P : Int32 → Int32 → Int32 → (Nat → Int32) → Int32 → (Nat → Int32) → Int32 → Int32 → Nat → Int32 → (Nat → Int32) → (Nat → Int32) → (Nat → Int32) → Int32 → Int32 → Int32 → Int32 → Int32 → (Nat → Int32) → (Nat → Int32) → (Nat → Int32) → Prop} (hT : T ≤ 60) (hR : RB_ T tape m) (hX : TX 0 tn ts m) (hG : TX 1 gn gs m) (hE : RE errs me)
    (hP : ∀ r T' tn' ts' gn' gs' len' pl' nm' rs' by' rst' errs' at' op' sp' us' m' me' step', T' ≤ 60 → RB_ T' tape m' → TX 0 tn' ts' m' → TX 1 gn' gs' m' → (∀ i, i ≠ 2 → (i < 48 ∨ 298 ≤ i) → m' i = m i) → RE errs' me' → P r (nI T') (nI tn') ts' (nI gn') gs' len' pl' nm' rs' by' rst' errs' r at' op' sp' us' m' me' step') :
    v_X6_text x (nI T) (nI tn) ts (nI gn) gs tape len pl nm rs by_ rst errs (fun r a1 a2 a3 a4 a5 a6 a7 a8 a9 a10 a11 e' => v_X7_text x at0 op0 sp0 us0 m me step (fun r' b1 b2 b3 b4 m' me' step' => P r a1 a2 a3 a4 a5 a6 a7 a8 a9 a10 a11 e' r' b1 b2 b3 b4 m' me' step')) := by
  unfold v_X6_text
  rcases ou_or x (n := 2) (by decide) with hx | ⟨u, hu, rfl⟩
  · have i1 : ∀ K, v_X7_in x 0 1 K = K 0 := i_no 1 (by decide) hx
    unfold v_X7_text
    simp only [us_no hx, i1, er61, er71, b1_0, true_implies, false_implies, not_true_eq_false, not_false_eq_true, and_true, true_and, implies_true]
    exact hP _ T tn ts gn gs _ _ _ _ _ _ _ _ _ _ _ _ _ _ hT hR hX hG (fun _ _ _ => rfl) (RE_up hE 1)
  · have hc : u = 0 ∨ u = 1 := by omega
    have RB2 : ∀ m' : Nat → Int32, m' 2 = 0 → (∀ i, 298 ≤ i → m' i = m i) → RB_ 0 tape m' := fun m' h1 h2 => ⟨h1, hR.2.1, fun i hi => by rw [h2 _ (by omega)]; exact hR.2.2 i hi⟩
    rcases hc with rfl | rfl
    · obtain ⟨r, r5, n', st', m', at', op', sp', step', t1, t2, t3, t4, t5, t6, t7⟩ := tx_c hT hu hR hX len pl rs nm by_ rst at0 op0 sp0 us0 step me
      show v_X6_isUse 0 _
      rw [us_0, rb_1', br_n (show ¬ nI 0 = (1 : Int32) by decide)]
      refine t6 _ (fun a1 a2 a3 a4 a5 a6 => ⟨fun g => ?_, fun g => ?_⟩)
      · rw [t4 g]
        exact t7 _ (hP r 0 n' st' gn gs _ _ _ _ _ _ _ _ _ _ _ _ _ _ (by decide) (RB2 m' t2 (fun i hi => t3 i (by omega) (by omega))) t1 (TX_fr2 hG (fun i g1 g2 => t3 i (by omega) (by omega))) (fun i g1 g2 => t3 i g1 (by omega)) hE)
      · rw [← t5 g] at t7
        exact t7 _ (hP 1 0 n' st' gn gs _ _ _ _ _ _ _ _ _ _ _ _ _ _ (by decide) (RB2 m' t2 (fun i hi => t3 i (by omega) (by omega))) t1 (TX_fr2 hG (fun i g1 g2 => t3 i (by omega) (by omega))) (fun i g1 g2 => t3 i g1 (by omega)) hE)
    · obtain ⟨r, r5, n', st', m', at', op', sp', step', t1, t2, t3, t4, t5, t6, t7⟩ := tx_c hT hu hR hG len pl rs nm by_ rst at0 op0 sp0 us0 step me
      show v_X6_isUse 1 _
      rw [us_1, rb_1', br_y (show nI 1 = (1 : Int32) from rfl)]
      refine t6 _ (fun a1 a2 a3 a4 a5 a6 => ⟨fun g => ?_, fun g => ?_⟩)
      · rw [t4 g]
        exact t7 _ (hP r 0 tn ts n' st' _ _ _ _ _ _ _ _ _ _ _ _ _ _ (by decide) (RB2 m' t2 (fun i hi => t3 i (by omega) (by omega))) (TX_fr2 hX (fun i g1 g2 => t3 i (by omega) (by omega))) t1 (fun i g1 g2 => t3 i g1 (by omega)) hE)
      · rw [← t5 g] at t7
        exact t7 _ (hP 1 0 tn ts n' st' _ _ _ _ _ _ _ _ _ _ _ _ _ _ (by decide) (RB2 m' t2 (fun i hi => t3 i (by omega) (by omega))) (TX_fr2 hX (fun i g1 g2 => t3 i (by omega) (by omega))) t1 (fun i g1 g2 => t3 i g1 (by omega)) hE)
