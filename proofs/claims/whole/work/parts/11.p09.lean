/-! settles, rank, count -/
theorem is_7 {N tn gn : Nat} {kd em ca near sh ts gs m : Nat → Int32} {d : Int32} {K : Int32 → (Nat → Int32) → (Nat → Int32) → (Nat → Int32) → (Nat → Int32) → Prop} (hN : N ≤ 8) (h : RP N kd em ca near sh m) (hd : m 0 = d) (hT : TX 0 tn ts m) (hG : TX 1 gn gs m)
    (hK : ∀ r nm' pile' nt' st', (¬ r = 0 ↔ same N kd em ts gs tn gn near sh d N) → K r nm' pile' nt' st') (nm pile nt st : Nat → Int32) : v_X7_isSettled m nm pile nt st K := by
  unfold v_X7_isSettled
  refine ft_7 hN h hd hT hG (fun nm' pile' nt' st' h1 h2 => ?_) nm pile nt st
  have lo : ∀ e k x, k + e = N → (¬ x = 0 ↔ same N kd em ts gs tn gn near sh d k) → l_X7_isSettled_8 m K (e + 1) x (nI k) nm' pile' nt' st' := by
    intro e
    induction e with
    | zero =>
      intro k x hk hx
      have e : k = N := by omega
      subst e
      rw [l_X7_isSettled_8, v4_, true_and, c4, h.1, br_y (nI_le (Nat.le_refl _) (by omega))]
      exact hK _ _ _ _ _ hx
    | succ e ih =>
      intro k x hk hx
      have hkN : k < N := by omega
      have hk8 : k < 8 := by omega
      have a0 : ¬ nI N ≤ nI k := nI_ge hkN (by omega)
      obtain ⟨-, -, qN, qS, -⟩ := h.2 k hk8
      have no : ¬ same N kd em ts gs tn gn near sh d (k + 1) → j_X7_isSettled_56 m (fun x1' x2' m_named' m_pile' m_nearThen' m_shownThen' => l_X7_isSettled_8 m K (e + 1) x1' x2' m_named' m_pile' m_nearThen' m_shownThen') K (nI k) nm' pile' nt' st' := by
        intro q
        unfold j_X7_isSettled_56 j_X7_isSettled_57
        rw [nI_1]
        exact ih (k + 1) 0 (by omega) ⟨fun w => absurd rfl w, fun w => absurd w q⟩
      rw [l_X7_isSettled_8, v4_, true_and, c4, h.1, br_n a0]
      refine ⟨fun q => no (fun w => hx.mpr (fun p hp => w p (by omega)) q), fun q => ?_⟩
      rw [vi_8 hk8, true_and, cl_8 hk8, it_2 hk8, it_3 hk8, true_and, qN, qS, h1 k hkN, h2 k hkN]
      refine ⟨fun q2 => no (fun w => q2 (w k (by omega)).1), fun q2 => ⟨fun q3 => no (fun w => q3 (w k (by omega)).2), fun q3 => ?_⟩⟩
      unfold j_X7_isSettled_57
      rw [nI_1]
      refine ih (k + 1) 1 (by omega) ⟨fun _ p hp => ?_, fun _ => by decide⟩
      by_cases y : p = k
      · subst y; exact ⟨q2, q3⟩
      · exact hx.mp q p (by omega)
  exact ⟨N + 1, lo N 0 1 (by omega) ⟨fun _ p hp => absurd hp (Nat.not_lt_zero p), fun _ => by decide⟩⟩
theorem se_t {N tn gn D : Nat} {kd em ca ts gs m0 n0 s0 : Nat → Int32} (hN : N ≤ 8) (hT : TX 0 tn ts m0) (hG : TX 1 gn gs m0) : ∀ e k near sh, k + e = 101 → ∃ j, j ≤ 101 ∧
    (∀ (K : Int32 → (Nat → Int32) → (Nat → Int32) → Int32 → (Nat → Int32) → (Nat → Int32) → (Nat → Int32) → Prop) errs, (j ≤ 100 → ∀ a b c d f, K (nI j) a b c d f errs) → (j = 101 → ∀ a b c d f, v_X6_error 2 errs (fun r e' => K r a b c d f e')) → ∀ tst gst, l_X6_settles_7 (nI N) kd em (nI D) n0 s0 99 (nI tn) ts 9 (nI gn) gs K (e + 1) (nI k) tst gst (nI (D + k)) near sh errs) ∧
    (∀ (K : Int32 → (Nat → Int32) → (Nat → Int32) → (Nat → Int32) → (Nat → Int32) → (Nat → Int32) → (Nat → Int32) → (Nat → Int32) → Prop) (m m1 laid me : Nat → Int32), RP N kd em ca near sh m1 → m1 0 = nI (D + k) → (∀ i, i < 48 → laid i = m i) → (∀ i, 48 ≤ i → m1 i = m i) → TX 0 tn ts m1 → TX 1 gn gs m1 → (j ≤ 100 → ∀ a b c d, K (nI j) m laid me a b c d) → (j = 101 → ∀ a b c d, v_X7_error 2 me (fun r e' => K r m laid e' a b c d)) → ∀ nm pile nt st, l_X7_settles_6 K (e + 1) (nI k) m1 laid me nm pile nt st) := by
  intro e
  induction e with
  | zero =>
    intro k near sh hk
    have e : k = 101 := by omega
    subst e
    refine ⟨101, by omega, ?_, ?_⟩
    · intro K errs _ h2 tst gst
      rw [l_X6_settles_7, br_y (show (100 : Int32) < nI 101 by decide)]
      exact h2 rfl _ _ _ _ _
    · intro K m m1 laid me _ _ hl hf _ _ _ h2 nm pile nt st
      rw [l_X7_settles_6, br_y (show (100 : Int32) < nI 101 by decide)]
      unfold j_X7_settles_29
      refine lb_7 hl hf ?_
      rw [br_n (show ¬ nI 101 ≤ (100 : Int32) by decide)]
      exact h2 rfl _ _ _ _
  | succ e ih =>
    intro k near sh hk
    have a0 : ¬ (100 : Int32) < nI k := nI_nlt (a := 100) (by omega) (by decide)
    have a1 : nI k ≤ (100 : Int32) := nI_le (b := 100) (by omega) (by decide)
    by_cases q : same N kd em ts gs tn gn near sh (nI (D + k)) N
    · refine ⟨k, by omega, ?_, ?_⟩
      · intro K errs h1 _ tst gst
        rw [l_X6_settles_7, br_n a0]
        refine pa_6 hN hT hG (fun r tst' gst' hr => ?_) tst gst
        rw [br_v (hr.mpr q)]
        exact h1 (by omega) _ _ _ _ _
      · intro K m m1 laid me r r0 hl hf t g h1 _ nm pile nt st
        rw [l_X7_settles_6, br_n a0]
        refine is_7 hN r r0 t g (fun x nm' pile' nt' st' hx => ?_) nm pile nt st
        rw [br_u (hx.mpr q)]
        unfold j_X7_settles_29
        refine lb_7 hl hf ?_
        rw [br_y a1]
        exact h1 (by omega) _ _ _ _
    · obtain ⟨j, hj, six, sev⟩ := ih (k + 1) (dN N kd em ts tn near sh (nI (D + k))) (dS N kd gs gn near sh (nI (D + k))) (by omega)
      refine ⟨j, hj, ?_, ?_⟩
      · intro K errs h1 h2 tst gst
        rw [l_X6_settles_7, br_n a0]
        refine pa_6 hN hT hG (fun r tst' gst' hr => ?_) tst gst
        rw [br_u (fun w => q (hr.mp w)), nI_1, nI_1]
        exact six K errs h1 h2 tst' gst'
      · intro K m m1 laid me r r0 hl hf t g h1 h2 nm pile nt st
        rw [l_X7_settles_6, br_n a0]
        refine is_7 hN r r0 t g (fun x nm' pile' nt' st' hx => ?_) nm pile nt st
        have x0 : x = 0 := by
          by_cases w : x = 0
          · exact w
          · exact absurd (hx.mp w) q
        rw [br_v x0]
        refine ad_7 hN r r0 t g (fun m2 nm2 pile2 nt2 st2 w w0 wf => ?_) _ _ _ _
        rw [nI_1]
        exact sev K m m2 laid me w (by rw [w0, nI_1]; rfl) hl (fun i hi => by rw [wf i (by omega)]; exact hf i hi) (TX_fr t (fun i hi => wf i (by omega))) (TX_fr g (fun i hi => wf i (by omega))) h1 h2 _ _ _ _
theorem p_settles {N tn gn D : Nat} {td : Int32} {kd em ca near sh ts gs m errs me tst gst tnr tsh laid nm pile nt st : Nat → Int32} {P : Int32 → (Nat → Int32) → (Nat → Int32) → Int32 → (Nat → Int32) → (Nat → Int32) → (Nat → Int32) → Int32 → (Nat → Int32) → (Nat → Int32) → (Nat → Int32) → (Nat → Int32) → (Nat → Int32) → (Nat → Int32) → (Nat → Int32) → Prop} (hN : N ≤ 8) (h : RP N kd em ca near sh m) (hd : m 0 = nI D) (hT : TX 0 tn ts m) (hG : TX 1 gn gs m) (hE : RE errs me)
    (hP : ∀ r tst' gst' td' tnr' tsh' errs' laid' me' nm' pile' nt' st', RE errs' me' → P r tst' gst' td' tnr' tsh' errs' r m laid' me' nm' pile' nt' st') :
    v_X6_settles (nI N) kd em (nI D) near sh 99 (nI tn) ts tst 9 (nI gn) gs gst td tnr tsh errs (fun r tst' gst' td' tnr' tsh' errs' => v_X7_settles m laid me nm pile nt st (fun r' m' laid' me' nm' pile' nt' st' => P r tst' gst' td' tnr' tsh' errs' r' m' laid' me' nm' pile' nt' st')) := by
  unfold v_X6_settles v_X7_settles
  obtain ⟨j, hj, six, sev⟩ := se_t (D := D) (kd := kd) (em := em) (ca := ca) (n0 := near) (s0 := sh) hN hT hG 101 0 (t0 near tnr) (t0 sh tsh) (by omega)
  have z : ∀ K, (∀ tst' gst', K tst' gst' (nI (D + 0)) (t0 near tnr) (t0 sh tsh)) → v_X6_think 0 (nI N) kd em (nI D) near sh 99 (nI tn) ts tst 9 (nI gn) gs gst td tnr tsh K := fun K hK => th_6 (n := 0) hN (by decide) hT hG hK tst gst
  refine z _ (fun tst' gst' => ?_)
  by_cases c : j ≤ 100
  · refine ⟨102, six _ errs (fun _ a1 a2 a3 a4 a5 => ?_) (fun w => absurd w (by omega)) _ _⟩
    refine ld_7 (fun laid' hl => ⟨102, ?_⟩)
    refine sev _ m m laid' me (t0_R h tnr tsh) hd hl (fun _ _ => rfl) hT hG (fun _ b1 b2 b3 b4 => ?_) (fun w => absurd w (by omega)) _ _ _ _
    exact hP _ _ _ _ _ _ _ _ _ _ _ _ _ hE
  · have e : j = 101 := by omega
    refine ⟨102, six _ errs (fun w => absurd w c) (fun _ a1 a2 a3 a4 a5 => ?_) _ _⟩
    rw [er62]
    refine ld_7 (fun laid' hl => ⟨102, ?_⟩)
    refine sev _ m m laid' me (t0_R h tnr tsh) hd hl (fun _ _ => rfl) hT hG (fun w => absurd w c) (fun _ b1 b2 b3 b4 => ?_) _ _ _ _
    rw [er72]
    exact hP _ _ _ _ _ _ _ _ _ _ _ _ _ (RE_up hE 2)
-- rank
def rkc (near : Nat → Int32) (p : Nat) : Nat → Int32
  | 0 => 0
  | k + 1 => if near k ≤ near p then rkc near p k else rkc near p k + 1
theorem p_rank {N : Nat} {x : Int32} {kd em ca near sh errs m me : Nat → Int32} {P : Int32 → (Nat → Int32) → Int32 → (Nat → Int32) → Prop} (hN : N ≤ 8) (h : RP N kd em ca near sh m) (hE : RE errs me)
    (hP : ∀ r errs' me', RE errs' me' → P r errs' r me') :
    v_X6_rank x (nI N) near errs (fun r errs' => v_X7_rank x m me (fun r' me' => P r errs' r' me')) := by
  have herr := hP (-1000000001) (upd errs 1 (errs 1 + 1)) (upd me 1 (me 1 + 1)) (RE_up hE 1)
  unfold v_X6_rank v_X7_rank
  rcases ou_or x (n := N) (by omega) with hx | ⟨p, hp, rfl⟩
  · simp only [ha_no hN hx, ip_no hN h.1 hx, er61, er71, b1_0, true_implies, false_implies, not_true_eq_false, not_false_eq_true, and_true, true_and, implies_true]; exact herr
  have hp8 : p < 8 := by omega
  simp only [ha_yes hN hp, ip_yes hN h.1 hp, b1_0, true_implies, false_implies, not_true_eq_false, not_false_eq_true, and_true, true_and, implies_true]
  have six : ∀ K : Int32 → Prop, K (rkc near p N) → v_X4_countNearer (nI p) (nI N) near K := by
    intro K hK
    unfold v_X4_countNearer
    have lo : ∀ e k, k + e = N → l_X4_countNearer_4 (nI p) (nI N) near K (e + 1) (rkc near p k) (nI k) := by
      intro e
      induction e with
      | zero =>
        intro k hk
        have e : k = N := by omega
        subst e
        rw [l_X4_countNearer_4, br_y (nI_le (Nat.le_refl _) (by omega))]
        exact hK
      | succ e ih =>
        intro k hk
        have a0 : ¬ nI N ≤ nI k := nI_ge (by omega) (by omega)
        have hk8 : k < 8 := by omega
        have n := ih (k + 1) (by omega)
        rw [rkc] at n
        rw [l_X4_countNearer_4, br_n a0, vi_8 hk8, true_and, vi_8 hp8, true_and, cl_8 hk8, cl_8 hp8]
        unfold j_X4_countNearer_36
        rw [nI_1]
        refine ⟨fun q => ?_, fun q => ?_⟩
        · rw [if_pos q] at n; exact n
        · rw [if_neg q] at n; exact n
    exact ⟨N + 1, lo N 0 (by omega)⟩
  refine six _ ?_
  have lo : ∀ e k, k + e = N → l_X7_rank_18 (nI p) m (fun r' me' => P (rkc near p N) errs r' me') (e + 1) (rkc near p k) (nI k) me := by
    intro e
    induction e with
    | zero =>
      intro k hk
      have e : k = N := by omega
      subst e
      rw [l_X7_rank_18, v4_, true_and, c4, h.1, br_y (nI_le (Nat.le_refl _) (by omega))]
      exact hP _ _ _ hE
    | succ e ih =>
      intro k hk
      have a0 : ¬ nI N ≤ nI k := nI_ge (by omega) (by omega)
      have hk8 : k < 8 := by omega
      have n := ih (k + 1) (by omega)
      rw [rkc] at n
      rw [l_X7_rank_18, v4_, true_and, c4, h.1, br_n a0, it_2 hk8, it_2 hp8, (h.2 k hk8).2.2.1, (h.2 p hp8).2.2.1]
      unfold j_X7_rank_49
      rw [nI_1, az]
      refine ⟨fun q => ?_, fun q => ?_⟩
      · rw [if_pos q] at n; exact n
      · rw [if_neg q] at n; exact n
  exact ⟨N + 1, lo N 0 (by omega)⟩
theorem p_count {N T W : Nat} {x z day tr : Int32} {kd em ca near sh errs m me : Nat → Int32} {P : Int32 → (Nat → Int32) → Int32 → (Nat → Int32) → Prop} (hN : N ≤ 8) (h : RP N kd em ca near sh m) (hd : m 0 = day) (hz : m 1 = z) (hT : m 2 = nI T) (hW : m 3 = nI W) (hE : RE errs me)
    (hP : ∀ r errs' me', RE errs' me' → P r errs' r me') :
    v_X6_count x (nI N) (nI T) (nI W) z day near tr errs (fun r errs' => v_X7_count x tr m me (fun r' me' => P r errs' r' me')) := by
  unfold v_X6_count v_X7_count
  simp only [v4_, v0_, v2_, v3_, v1_, c4, c0, c1, c2, c3, h.1, hd, hz, hT, hW, true_and]
  by_cases b0 : x = 0
  · simp only [b0, b1_0, true_implies, false_implies, not_true_eq_false, not_false_eq_true, and_true, true_and, implies_true]; exact hP _ _ _ hE
  by_cases b1 : x = 1
  · subst b1; simp only [b0, b1_0, true_implies, false_implies, not_true_eq_false, not_false_eq_true, and_true, true_and, implies_true]; exact hP _ _ _ hE
  by_cases b2 : x = 2
  · subst b2; simp only [b0, b1, b1_0, true_implies, false_implies, not_true_eq_false, not_false_eq_true, and_true, true_and, implies_true]
    exact ne_6 hN near _ (ne_7 hN h _ (hP _ _ _ hE))
  by_cases b3 : x = 3
  · subst b3; simp only [b0, b1, b2, b1_0, true_implies, false_implies, not_true_eq_false, not_false_eq_true, and_true, true_and, implies_true]; exact hP _ _ _ hE
  by_cases b4 : x = 4
  · subst b4; simp only [b0, b1, b2, b3, b1_0, true_implies, false_implies, not_true_eq_false, not_false_eq_true, and_true, true_and, implies_true]; exact hP _ _ _ hE
  by_cases b5 : x = 5
  · subst b5; simp only [b0, b1, b2, b3, b4, b1_0, true_implies, false_implies, not_true_eq_false, not_false_eq_true, and_true, true_and, implies_true]; exact hP _ _ _ hE
  by_cases b6 : x = 6
  · subst b6; simp only [b0, b1, b2, b3, b4, b5, b1_0, true_implies, false_implies, not_true_eq_false, not_false_eq_true, and_true, true_and, implies_true]; exact hP _ _ _ hE
  simp only [b0, b1, b2, b3, b4, b5, b6, er61, er71, b1_0, true_implies, false_implies, not_true_eq_false, not_false_eq_true, and_true, true_and, implies_true]
  exact hP _ _ _ (RE_up hE 1)
