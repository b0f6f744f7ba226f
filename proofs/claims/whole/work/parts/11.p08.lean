/-! days by draws, and what is only thought */ -/
theorem lo_t {N tn gn n : Nat} {kd em ts gs m0 : Nat → Int32} (hN : N ≤ 8) (hn : n < 200) (hT : TX 0 tn ts m0) (hG : TX 1 gn gs m0) : ∀ e k D z (ca near sh : Nat → Int32), k + e = n → BP kd ca near → ∃ z' ca' near' sh', BP kd ca' near' ∧
    (∀ (K : Int32 → Int32 → (Nat → Int32) → Int32 → (Nat → Int32) → (Nat → Int32) → (Nat → Int32) → (Nat → Int32) → (Nat → Int32) → Prop) errs, (∀ tst' gst', K (bst near' N) z' ca' (nI (D + e)) near' sh' tst' gst' errs) → ∀ tst gst, l_X6_loose_43 (nI n) (nI N) kd em 99 (nI tn) ts 9 (nI gn) gs K (e + 1) (nI k) z ca (nI D) near sh tst gst errs) ∧
    (∀ (K : Int32 → (Nat → Int32) → (Nat → Int32) → (Nat → Int32) → (Nat → Int32) → (Nat → Int32) → (Nat → Int32) → Prop) (m me : Nat → Int32), RP N kd em ca near sh m → m 1 = z → m 0 = nI D → TX 0 tn ts m → TX 1 gn gs m → (∀ m' nm' pile' nt' st', RP N kd em ca' near' sh' m' → m' 1 = z' → m' 0 = nI (D + e) → FL m m' → K (bst near' N) m' me nm' pile' nt' st') → ∀ nm pile nt st, l_X7_loose_20 (nI n) K (e + 1) (nI k) m me nm pile nt st) := by
  intro e
  induction e with
  | zero =>
    intro k D z ca near sh hk hB
    have e : k = n := by omega
    subst e
    refine ⟨z, ca, near, sh, hB, ?_, ?_⟩
    · intro K errs hK tst gst
      rw [l_X6_loose_43, br_y (nI_le (Nat.le_refl _) (by omega))]
      exact ne_6 hN near _ (hK tst gst)
    · intro K m me r r1 r0 t g hK nm pile nt st
      rw [l_X7_loose_20, br_y (nI_le (Nat.le_refl _) (by omega))]
      exact ne_7 hN r _ (hK _ _ _ _ _ r r1 r0 (fun _ _ => rfl))
  | succ e ih =>
    intro k D z ca near sh hk hB
    have a0 : ¬ nI n ≤ nI k := nI_ge (by omega) (by omega)
    obtain ⟨z1, ca1, near1, sh1, hB1, six, sev⟩ := dm_t hN z sh hB
    obtain ⟨z', ca', near', sh', hB', six', sev'⟩ := ih (k + 1) (D + 1) z1 ca1 (dN N kd em ts tn near1 sh1 (nI D)) (dS N kd gs gn near1 sh1 (nI D)) (by omega) (dN_B hN em ts tn sh1 (nI D) hB1)
    rw [show D + 1 + e = D + (e + 1) by omega] at six' sev'
    refine ⟨z', ca', near', sh', hB', ?_, ?_⟩
    · intro K errs hK tst gst
      rw [l_X6_loose_43, br_n a0]
      refine six _ ?_
      refine pa_6 hN hT hG (fun r tst' gst' _ => ?_) tst gst
      rw [nI_1, nI_1]
      exact six' K errs hK tst' gst'
    · intro K m me r r1 r0 t g hK nm pile nt st
      obtain ⟨f1, f2⟩ := sev em m (nI D) r r1 r0
      rw [l_X7_loose_20, br_n a0, v4_, true_and, c4, r.1]
      have go : ∀ m1, RP N kd em ca1 near1 sh1 m1 → m1 1 = z1 → m1 0 = nI D → FL m m1 → j_X7_loose_39 (nI n) (fun x3' m_s' m_errors' m_named' m_pile' m_nearThen' m_shownThen' => l_X7_loose_20 (nI n) K (e + 1) x3' m_s' m_errors' m_named' m_pile' m_nearThen' m_shownThen') K (nI k) m1 me nm pile nt st := by
        intro m1 q q1 q0 f
        unfold j_X7_loose_39
        have t1 := TX_fr t (fun i hi => f i (Or.inr (Or.inr (Or.inr hi))))
        have g1 := TX_fr g (fun i hi => f i (Or.inr (Or.inr (Or.inr hi))))
        refine ad_7 hN q q0 t1 g1 (fun m2 nm' pile' nt' st' w w0 wf => ?_) nm pile nt st
        rw [nI_1]
        refine sev' K m2 me w (by rw [wf 1 (by omega)]; exact q1) (by rw [w0, nI_1]) (TX_fr t1 (fun i hi => wf i (by omega))) (TX_fr g1 (fun i hi => wf i (by omega))) (fun m3 a b c d u1 u2 u3 u4 => hK m3 a b c d u1 u2 u3 (fun i hi => ?_)) nm' pile' nt' st'
        rw [u4 i hi, wf i (by omega), f i hi]
      refine ⟨fun q => ?_, fun q => ?_⟩
      · have c : N < 2 := by
          by_cases w : N < 2
          · exact w
          · exact absurd q (nI_ge (a := 1) (by omega) (by omega))
        obtain ⟨u, v⟩ := f1 c
        exact go m u (by rw [v]; exact r1) r0 (fun _ _ => rfl)
      · have c : 2 ≤ N := by
          by_cases w : N ≤ 1
          · exact absurd (nI_le (b := 1) w (by decide)) q
          · omega
        exact f2 c _ (fun m1 u1 u2 u3 u4 => go m1 u1 u2 u3 u4)
theorem p_loose {N tn gn D : Nat} {x z : Int32} {kd em ca near sh ts gs m errs me tst gst nm pile nt st : Nat → Int32} {P : Int32 → Int32 → (Nat → Int32) → Int32 → (Nat → Int32) → (Nat → Int32) → (Nat → Int32) → (Nat → Int32) → (Nat → Int32) → Int32 → (Nat → Int32) → (Nat → Int32) → (Nat → Int32) → (Nat → Int32) → (Nat → Int32) → (Nat → Int32) → Prop} (hN : N ≤ 8) (hD : D < 10000) (h : RP N kd em ca near sh m) (hB : BP kd ca near) (hz : m 1 = z) (hd : m 0 = nI D) (hT : TX 0 tn ts m) (hG : TX 1 gn gs m) (hE : RE errs me)
    (hP : ∀ r z' ca' D' near' sh' tst' gst' errs' m' me' nm' pile' nt' st', D' < 10000 → RP N kd em ca' near' sh' m' → BP kd ca' near' → m' 1 = z' → m' 0 = nI D' → FL m m' → RE errs' me' → P r z' ca' (nI D') near' sh' tst' gst' errs' r m' me' nm' pile' nt' st') :
    v_X6_loose x (nI N) z kd em ca (nI D) near sh 99 (nI tn) ts tst 9 (nI gn) gs gst errs (fun r z' ca' d' near' sh' tst' gst' errs' => v_X7_loose x m me nm pile nt st (fun r' m' me' nm' pile' nt' st' => P r z' ca' d' near' sh' tst' gst' errs' r' m' me' nm' pile' nt' st')) := by
  have herr := hP (-1000000001) z ca D near sh tst gst (upd errs 1 (errs 1 + 1)) m (upd me 1 (me 1 + 1)) nm pile nt st hD h hB hz hd (fun _ _ => rfl) (RE_up hE 1)
  have herr3 := hP (-1000000003) z ca D near sh tst gst (upd errs 3 (errs 3 + 1)) m (upd me 3 (me 3 + 1)) nm pile nt st hD h hB hz hd (fun _ _ => rfl) (RE_up hE 3)
  unfold v_X6_loose v_X7_loose
  have e1 : (1 : Int32).toInt = 1 := rfl
  have e30 : (30 : Int32).toInt = 30 := rfl
  by_cases g1 : x.toInt < 1
  · have w : ∀ K, v_X7_whyNot x 30 m K = K 1 := wn_no (M := 30) (by decide) (Or.inl g1)
    simp only [fa_lt, e1, g1, w, b1_0, j_X6_loose_11, er61, er71, b1_0, true_implies, false_implies, not_true_eq_false, not_false_eq_true, and_true, true_and, implies_true]; exact herr
  by_cases g2 : 30 < x.toInt
  · have w : ∀ K, v_X7_whyNot x 30 m K = K 1 := wn_no (M := 30) (by decide) (Or.inr g2)
    have g3 : ¬ x.toInt ≤ 30 := by omega
    simp only [fa_lt, fa_le, e1, e30, g1, g3, w, b1_0, j_X6_loose_11, er61, er71, b1_0, true_implies, false_implies, not_true_eq_false, not_false_eq_true, and_true, true_and, implies_true]; exact herr
  obtain ⟨n, hn, rfl⟩ := nI_of (x := x) (by rw [fa_lt, show (0 : Int32).toInt = 0 from rfl]; omega)
  rw [nI_toInt hn] at g1 g2
  have a1 : ¬ nI n < 1 := by rw [fa_lt, e1, nI_toInt hn]; exact g1
  have a2 : nI n ≤ 30 := by rw [fa_le, e30, nI_toInt hn]; omega
  have a3 : (9999 : Int32) - nI D = nI (9999 - D) := pk_sub (a := 9999) (by omega)
  by_cases g3 : D + n ≤ 9999
  · have a4 : nI n ≤ nI (9999 - D) := nI_le (by omega) (by omega)
    have w : ∀ K, v_X7_whyNot (nI n) 30 m K = K 0 := wn_ok (M := 30) (by decide) (by omega) (by omega) hD hd g3
    obtain ⟨z', ca', near', sh', hB', six, sev⟩ := lo_t (em := em) hN (by omega : n < 200) hT hG n 0 D z ca near sh (by omega) hB
    simp only [a1, a2, a3, a4, w, b1_0, true_implies, false_implies, not_true_eq_false, not_false_eq_true, and_true, true_and, implies_true]
    refine ⟨n + 1, six _ errs (fun tst' gst' => ⟨n + 1, ?_⟩) tst gst⟩
    refine sev _ m me h hz hd hT hG (fun m' nm' pile' nt' st' u1 u2 u3 u4 => ?_) nm pile nt st
    exact hP _ _ _ (D + n) _ _ _ _ _ _ _ _ _ _ _ (by omega) u1 hB' u2 u3 u4 hE
  · have a4 : ¬ nI n ≤ nI (9999 - D) := nI_ge (by omega) (by omega)
    have w : ∀ K, v_X7_whyNot (nI n) 30 m K = K 3 := wn_st (M := 30) (by decide) (by omega) (by omega) hD hd (by omega)
    simp only [a1, a2, a3, a4, w, t3_0, er63, er73, b1_0, true_implies, false_implies, not_true_eq_false, not_false_eq_true, and_true, true_and, implies_true]; exact herr3
-- only thought
def t0 (f g : Nat → Int32) : Nat → Int32 := va_cpy f g 0 0 8
theorem t0_j (f g : Nat → Int32) {j : Nat} (hj : j < 8) : t0 f g j = f j := by
  unfold t0
  rw [pk_cpy_in (by omega) (by omega)]
  congr 1
  omega
theorem t0_R {N : Nat} {kd em ca near sh m : Nat → Int32} (h : RP N kd em ca near sh m) (f g : Nat → Int32) : RP N kd em ca (t0 near f) (t0 sh g) m := by
  refine ⟨h.1, fun j hj => ?_⟩
  rw [t0_j _ _ hj, t0_j _ _ hj]
  exact h.2 j hj
theorem t0_B {kd ca near : Nat → Int32} (h : BP kd ca near) (f : Nat → Int32) : BP kd ca (t0 near f) := by
  intro j hj
  rw [t0_j _ _ hj]
  exact h j hj
theorem cy_3 {day c_day : Int32} {near sh c_near c_sh : Nat → Int32} {K : Int32 → (Nat → Int32) → (Nat → Int32) → Prop} (h : K c_day (t0 c_near near) (t0 c_sh sh)) : v_X3_copy day near sh c_day c_near c_sh K := by
  unfold v_X3_copy
  have e0 : ¬ (0 : Int32) < 0 := by decide
  have e8 : ¬ (8 : Int32) < 0 := by decide
  have l : (0 : Int32).toNatClampNeg + (8 : Int32).toNatClampNeg ≤ 8 := by decide
  exact ⟨e0, e0, e8, l, l, e0, e0, e8, l, l, h⟩
theorem th_6 {N tn gn D n : Nat} {kd em ts gs m near sh tnear tsh : Nat → Int32} {td : Int32} {K : (Nat → Int32) → (Nat → Int32) → Int32 → (Nat → Int32) → (Nat → Int32) → Prop} (hN : N ≤ 8) (hn : n < 200) (hT : TX 0 tn ts m) (hG : TX 1 gn gs m)
    (hK : ∀ tst' gst', K tst' gst' (nI (D + n)) (di N kd em ts gs tn gn D (t0 near tnear) (t0 sh tsh) n).1 (di N kd em ts gs tn gn D (t0 near tnear) (t0 sh tsh) n).2) (tst gst : Nat → Int32) : v_X6_think (nI n) (nI N) kd em (nI D) near sh 99 (nI tn) ts tst 9 (nI gn) gs gst td tnear tsh K := by
  unfold v_X6_think
  refine cy_3 ?_
  have lo : ∀ e k tst gst, k + e = n → l_X6_think_16 (nI n) (nI N) kd em (nI D) near sh 99 (nI tn) ts 9 (nI gn) gs K (e + 1) (nI k) tst gst (nI (D + k)) (di N kd em ts gs tn gn D (t0 near tnear) (t0 sh tsh) k).1 (di N kd em ts gs tn gn D (t0 near tnear) (t0 sh tsh) k).2 := by
    intro e
    induction e with
    | zero =>
      intro k tst gst hk
      have e : k = n := by omega
      subst e
      rw [l_X6_think_16, br_y (nI_le (Nat.le_refl _) (by omega))]
      exact hK _ _
    | succ e ih =>
      intro k tst gst hk
      have a0 : ¬ nI n ≤ nI k := nI_ge (by omega) (by omega)
      rw [l_X6_think_16, br_n a0]
      refine pa_6 hN hT hG (fun r tst' gst' _ => ?_) tst gst
      rw [nI_1, nI_1]
      exact ih (k + 1) _ _ (by omega)
  exact ⟨n + 1, lo n 0 tst gst (by omega)⟩
theorem vi_48 {j : Nat} (h : j < 48) : vp_in (nI j) 48 = True := eq_true (vp_in_nI h (by decide))
theorem ld_7 {m laid : Nat → Int32} {K : (Nat → Int32) → Prop} (hK : ∀ laid', (∀ i, i < 48 → laid' i = m i) → K laid') : v_X7_layDown m laid K := by
  unfold v_X7_layDown
  have lo : ∀ e k l, k + e = 48 → (∀ i, i < k → l i = m i) → l_X7_layDown_2 m K (e + 1) (nI k) l := by
    intro e
    induction e with
    | zero =>
      intro k l hk h
      have e : k = 48 := by omega
      subst e
      rw [l_X7_layDown_2, br_y (show (48 : Int32) ≤ nI 48 by decide)]
      exact hK l h
    | succ e ih =>
      intro k l hk h
      have a0 : ¬ (48 : Int32) ≤ nI k := nI_ge (b := 48) (by omega) (by decide)
      rw [l_X7_layDown_2, br_n a0, vi_382 (by omega), true_and, vi_48 (by omega), true_and, nI_clamp (by omega), nI_1]
      refine ih (k + 1) _ (by omega) (fun i hi => ?_)
      rw [up_at]
      by_cases q : i = k
      · rw [if_pos q, q]
      · rw [if_neg q]; exact h i (by omega)
  exact ⟨49, lo 48 0 laid (by omega) (fun i hi => absurd hi (Nat.not_lt_zero i))⟩
theorem lb_7 {m m1 laid : Nat → Int32} {K : (Nat → Int32) → Prop} (h1 : ∀ i, i < 48 → laid i = m i) (h2 : ∀ i, 48 ≤ i → m1 i = m i) (hK : K m) : v_X7_layBack m1 laid K := by
  unfold v_X7_layBack
  have lo : ∀ e k l, k + e = 48 → (∀ i, i < k → l i = m i) → (∀ i, 48 ≤ i → l i = m i) → l_X7_layBack_2 laid K (e + 1) (nI k) l := by
    intro e
    induction e with
    | zero =>
      intro k l hk h h3
      have e : k = 48 := by omega
      subst e
      rw [l_X7_layBack_2, br_y (show (48 : Int32) ≤ nI 48 by decide)]
      have e : l = m := by
        funext i
        by_cases q : i < 48
        · exact h i q
        · exact h3 i (by omega)
      rw [e]; exact hK
    | succ e ih =>
      intro k l hk h h3
      have a0 : ¬ (48 : Int32) ≤ nI k := nI_ge (b := 48) (by omega) (by decide)
      rw [l_X7_layBack_2, br_n a0, vi_48 (by omega), true_and, vi_382 (by omega), true_and, nI_clamp (by omega), nI_1]
      refine ih (k + 1) _ (by omega) (fun i hi => ?_) (fun i hi => ?_)
      · rw [up_at]
        by_cases q : i = k
        · rw [if_pos q, q, h1 k (by omega)]
        · rw [if_neg q]; exact h i (by omega)
      · rw [pk_un (by omega)]; exact h3 i hi
  exact ⟨49, lo 48 0 m1 (by omega) (fun i hi => absurd hi (Nat.not_lt_zero i)) h2⟩
theorem p_nearest {N tn gn D : Nat} {x td : Int32} {kd em ca near sh ts gs m errs me tst gst tnr tsh laid nm pile nt st : Nat → Int32} {P : Int32 → (Nat → Int32) → (Nat → Int32) → Int32 → (Nat → Int32) → (Nat → Int32) → (Nat → Int32) → Int32 → (Nat → Int32) → (Nat → Int32) → (Nat → Int32) → (Nat → Int32) → (Nat → Int32) → (Nat → Int32) → (Nat → Int32) → Prop} (hN : N ≤ 8) (h : RP N kd em ca near sh m) (hd : m 0 = nI D) (hT : TX 0 tn ts m) (hG : TX 1 gn gs m) (hE : RE errs me)
    (hP : ∀ r tst' gst' td' tnr' tsh' errs' laid' me' nm' pile' nt' st', RE errs' me' → P r tst' gst' td' tnr' tsh' errs' r m laid' me' nm' pile' nt' st') :
    v_X6_nearest x (nI N) kd em (nI D) near sh 99 (nI tn) ts tst 9 (nI gn) gs gst td tnr tsh errs (fun r tst' gst' td' tnr' tsh' errs' => v_X7_nearest x m laid me nm pile nt st (fun r' m' laid' me' nm' pile' nt' st' => P r tst' gst' td' tnr' tsh' errs' r' m' laid' me' nm' pile' nt' st')) := by
  unfold v_X6_nearest v_X7_nearest
  rcases ou_or x (n := 101) (by decide) with hx | ⟨n, hn, rfl⟩
  · have i1 : ∀ K, v_X7_in x 0 100 K = K 0 := i_no 100 (by decide) hx
    have i2 : ∀ K, v_X6_isWithin x 100 K = K 0 := w_no 100 (by decide) hx
    simp only [i1, i2, er61, er71, b1_0, true_implies, false_implies, not_true_eq_false, not_false_eq_true, and_true, true_and, implies_true]
    exact hP _ _ _ _ _ _ _ _ _ _ _ _ _ (RE_up hE 1)
  have i1 : ∀ K, v_X7_in (nI n) 0 100 K = K 1 := i_yes 100 (by decide) hn
  have i2 : ∀ K, v_X6_isWithin (nI n) 100 K = K 1 := w_yes 100 (by decide) hn
  by_cases c : N = 0
  · subst c
    simp only [i1, i2, show (nI 0 = 0) = True from eq_true rfl, v4_, c4, h.1, er63, er73, b1_0, true_implies, false_implies, not_true_eq_false, not_false_eq_true, and_true, true_and, implies_true]
    exact hP _ _ _ _ _ _ _ _ _ _ _ _ _ (RE_up hE 3)
  · have a0 : ¬ nI N = 0 := nI_ne0 (by omega) (by omega)
    simp only [i1, i2, v4_, c4, h.1, a0, b1_0, true_implies, false_implies, not_true_eq_false, not_false_eq_true, and_true, true_and, implies_true]
    refine th_6 hN (by omega) hT hG (fun tst' gst' => ?_) tst gst
    refine ne_6 hN _ _ ?_
    refine ld_7 (fun laid' hl => ?_)
    refine go_7 hN (by omega) (t0_R h tnr tsh) hd hT hG (fun m' nm' pile' nt' st' r r0 f => ?_) nm pile nt st
    refine ne_7 hN r _ ?_
    refine lb_7 hl (fun i hi => f i (by omega)) ?_
    exact hP _ _ _ _ _ _ _ _ _ _ _ _ _ hE
theorem p_then {N tn gn D : Nat} {x y z td : Int32} {kd em ca near sh ts gs m errs me tst gst tnr tsh laid nm pile nt st : Nat → Int32} {P : Int32 → (Nat → Int32) → (Nat → Int32) → Int32 → (Nat → Int32) → (Nat → Int32) → (Nat → Int32) → Int32 → (Nat → Int32) → (Nat → Int32) → (Nat → Int32) → (Nat → Int32) → (Nat → Int32) → (Nat → Int32) → (Nat → Int32) → Prop} (hN : N ≤ 8) (h : RP N kd em ca near sh m) (hd : m 0 = nI D) (hT : TX 0 tn ts m) (hG : TX 1 gn gs m) (hE : RE errs me)
    (hP : ∀ r tst' gst' td' tnr' tsh' errs' laid' me' nm' pile' nt' st', RE errs' me' → P r tst' gst' td' tnr' tsh' errs' r m laid' me' nm' pile' nt' st') :
    v_X6_then x y z (nI N) kd em (nI D) near sh 99 (nI tn) ts tst 9 (nI gn) gs gst td tnr tsh errs (fun r tst' gst' td' tnr' tsh' errs' => v_X7_then x y z m laid me nm pile nt st (fun r' m' laid' me' nm' pile' nt' st' => P r tst' gst' td' tnr' tsh' errs' r' m' laid' me' nm' pile' nt' st')) := by
  have herr := fun t1 t2 t3 t4 t5 l a b c d => hP (-1000000001) t1 t2 t3 t4 t5 (upd errs 1 (errs 1 + 1)) l (upd me 1 (me 1 + 1)) a b c d (RE_up hE 1)
  unfold v_X6_then v_X7_then
  rcases ou_or x (n := N) (by omega) with hx | ⟨j, hj, rfl⟩
  · simp only [ha_no hN hx, ip_no hN h.1 hx, j_X6_then_28, j_X7_then_27, er61, er71, b1_0, true_implies, false_implies, not_true_eq_false, not_false_eq_true, and_true, true_and, implies_true]; exact herr _ _ _ _ _ _ _ _ _ _
  rcases ou_or y (n := 101) (by decide) with hy | ⟨n, hn, rfl⟩
  · have i1 : ∀ K, v_X7_in y 0 100 K = K 0 := i_no 100 (by decide) hy
    have i2 : ∀ K, v_X6_isWithin y 100 K = K 0 := w_no 100 (by decide) hy
    simp only [ha_yes hN hj, ip_yes hN h.1 hj, i1, i2, j_X6_then_28, j_X7_then_27, er61, er71, b1_0, true_implies, false_implies, not_true_eq_false, not_false_eq_true, and_true, true_and, implies_true]; exact herr _ _ _ _ _ _ _ _ _ _
  have i1 : ∀ K, v_X7_in (nI n) 0 100 K = K 1 := i_yes 100 (by decide) hn
  have i2 : ∀ K, v_X6_isWithin (nI n) 100 K = K 1 := w_yes 100 (by decide) hn
  rcases ou_or z (n := 2) (by decide) with hz | ⟨w, hw, rfl⟩
  · have i3 : ∀ K, v_X7_in z 0 1 K = K 0 := i_no 1 (by decide) hz
    have i4 : ∀ K, v_X6_isWithin z 1 K = K 0 := w_no 1 (by decide) hz
    simp only [ha_yes hN hj, ip_yes hN h.1 hj, i1, i2, i3, i4, j_X6_then_28, j_X7_then_27, er61, er71, b1_0, true_implies, false_implies, not_true_eq_false, not_false_eq_true, and_true, true_and, implies_true]; exact herr _ _ _ _ _ _ _ _ _ _
  have i3 : ∀ K, v_X7_in (nI w) 0 1 K = K 1 := i_yes 1 (by decide) hw
  have i4 : ∀ K, v_X6_isWithin (nI w) 1 K = K 1 := w_yes 1 (by decide) hw
  have hj8 : j < 8 := by omega
  have tw : (2 : Int32) + nI w = nI (2 + w) := nI_add 2 w
  simp only [ha_yes hN hj, ip_yes hN h.1 hj, i1, i2, i3, i4, tw, vi_8 hj8, cl_8 hj8, b1_0, true_implies, false_implies, not_true_eq_false, not_false_eq_true, and_true, true_and, implies_true]
  refine th_6 hN (by omega) hT hG (fun tst' gst' => ?_) tst gst
  have hc : w = 0 ∨ w = 1 := by omega
  rcases hc with rfl | rfl
  · simp only [show (nI 0 = 0) = True from eq_true rfl, b1_0, true_implies, false_implies, not_true_eq_false, not_false_eq_true, and_true, true_and, implies_true]
    refine ld_7 (fun laid' hl => ?_)
    refine go_7 hN (by omega) (t0_R h tnr tsh) hd hT hG (fun m' nm' pile' nt' st' r r0 f => ?_) nm pile nt st
    rw [it_c 2 hj8 (by decide), (r.2 j hj8).2.2.1]
    refine lb_7 hl (fun i hi => f i (by omega)) ?_
    exact hP _ _ _ _ _ _ _ _ _ _ _ _ _ hE
  · simp only [show (nI 1 = 0) = False by decide, b1_0, true_implies, false_implies, not_true_eq_false, not_false_eq_true, and_true, true_and, implies_true]
    refine ld_7 (fun laid' hl => ?_)
    refine go_7 hN (by omega) (t0_R h tnr tsh) hd hT hG (fun m' nm' pile' nt' st' r r0 f => ?_) nm pile nt st
    rw [it_c 3 hj8 (by decide), (r.2 j hj8).2.2.2.1]
    refine lb_7 hl (fun i hi => f i (by omega)) ?_
    exact hP _ _ _ _ _ _ _ _ _ _ _ _ _ hE
