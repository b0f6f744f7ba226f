/-! untell, image, restore -/
theorem TX_fr2 {u n : Nat} {st m m' : Nat → Int32} (h : TX u n st m) (f : ∀ i, 48 + 125 * u ≤ i → i < 173 + 125 * u → m' i = m i) : TX u n st m' := by
  obtain ⟨h1, h2, h3, h4⟩ := h
  refine ⟨h1, by rw [f _ (by omega) (by omega)]; exact h2, fun k hk => ?_, h4⟩
  rw [f _ (by omega) (by omega), f _ (by omega) (by omega)]
  exact h3 k hk
theorem TX_0 (u : Nat) (st m : Nat → Int32) (h : m (48 + 125 * u) = 0) : TX u 0 st m :=
  ⟨by omega, h, fun k hk => absurd hk (Nat.not_lt_zero k), fun k hk => absurd hk (Nat.not_lt_zero k), fun w => absurd w (Nat.lt_irrefl 0)⟩
theorem p_untell {x : Int32} {tn gn : Nat} {ts gs errs m me : Nat → Int32} {P : Int32 → Int32 → Int32 → (Nat → Int32) → Int32 → (Nat → Int32) → (Nat → Int32) → Prop} (hT : TX 0 tn ts m) (hG : TX 1 gn gs m) (hE : RE errs me)
    (hP : ∀ r tn' gn' errs' m' me', TX 0 tn' ts m' → TX 1 gn' gs m' → (∀ i, i ≠ 48 → i ≠ 173 → m' i = m i) → RE errs' me' → P r (nI tn') (nI gn') errs' r m' me') :
    v_X6_untell x (nI tn) (nI gn) errs (fun r tn' gn' errs' => v_X7_untell x m me (fun r' m' me' => P r tn' gn' errs' r' m' me')) := by
  unfold v_X6_untell v_X7_untell
  rcases ou_or x (n := 2) (by decide) with hx | ⟨u, hu, rfl⟩
  · have i1 : ∀ K, v_X7_in x 0 1 K = K 0 := i_no 1 (by decide) hx
    simp only [us_no hx, i1, er61, er71, b1_0, true_implies, false_implies, not_true_eq_false, not_false_eq_true, and_true, true_and, implies_true]
    exact hP _ tn gn _ _ _ hT hG (fun _ _ _ => rfl) (RE_up hE 1)
  have i1 : ∀ K, v_X7_in (nI u) 0 1 K = K 1 := i_yes 1 (by decide) hu
  have b48 : (48 : Int32) + (125 : Int32) * nI u = nI (48 + 125 * u) := by
    rw [show (48 : Int32) = nI 48 from rfl, show (125 : Int32) = nI 125 from rfl, pk_mul, nI_add]
  have v48 : vp_in (nI (48 + 125 * u)) 382 = True := vi_382 (by omega)
  have c48 : (nI (48 + 125 * u)).toNatClampNeg = 48 + 125 * u := nI_clamp (by omega)
  have le0 : ∀ n, n ≤ 60 → (nI n ≤ 0 ↔ n = 0) := fun n hn => ⟨fun q => by
    by_cases z : n = 0
    · exact z
    · exact absurd q (nI_nle (by omega) (by omega)), fun q => by rw [q]; decide⟩
  have hc : u = 0 ∨ u = 1 := by omega
  rcases hc with rfl | rfl
  · have i2 : ∀ K, v_X7_in 0 0 1 K = K 1 := i1
    have fin : ∀ r, j_X7_untell_28 (nI 0) (fun r' m' me' => P r (nI 0) (nI gn) errs r' m' me') r m me := by
      intro r
      unfold j_X7_untell_28
      rw [b48, v48, true_and, c48]
      refine hP r 0 gn _ _ _ (TX_0 0 ts _ pk_us) (TX_fr2 hG (fun i h1 h2 => pk_un (by omega))) (fun i h1 h2 => pk_un h1) hE
    simp only [show nI 0 = (0 : Int32) from rfl, us_0, i2, show ((0 : Int32) = 1) = False by decide, j_X6_untell_34b, b1_0, true_implies, false_implies, not_true_eq_false, not_false_eq_true, and_true, true_and, implies_true]
    refine ⟨fun q => ?_, fun q => ?_⟩
    · refine ht_7 (u := 0) (by decide) hT _ (fun _ => ?_) (fun w => absurd ((le0 tn hT.1).mp q) w)
      simp only [b1_0, true_implies, false_implies, not_true_eq_false, not_false_eq_true, and_true, true_and, implies_true]
      exact fin 0
    · refine ht_7 (u := 0) (by decide) hT _ (fun w => absurd ((le0 tn hT.1).mpr w) q) (fun _ => ?_)
      simp only [b1_0, b1_0, true_implies, false_implies, not_true_eq_false, not_false_eq_true, and_true, true_and, implies_true]
      exact fin 1
  · have i2 : ∀ K, v_X7_in 1 0 1 K = K 1 := i1
    have fin : ∀ r, j_X7_untell_28 (nI 1) (fun r' m' me' => P r (nI tn) (nI 0) errs r' m' me') r m me := by
      intro r
      unfold j_X7_untell_28
      rw [b48, v48, true_and, c48]
      refine hP r tn 0 _ _ _ (TX_fr2 hT (fun i h1 h2 => pk_un (by omega))) (TX_0 1 gs _ pk_us) (fun i h1 h2 => pk_un h2) hE
    simp only [show nI 1 = (1 : Int32) from rfl, us_1, i2, j_X6_untell_34, b1_0, true_implies, false_implies, not_true_eq_false, not_false_eq_true, and_true, true_and, implies_true]
    refine ⟨fun q => ?_, fun q => ?_⟩
    · refine ht_7 (u := 1) (by decide) hG _ (fun _ => ?_) (fun w => absurd ((le0 gn hG.1).mp q) w)
      simp only [b1_0, true_implies, false_implies, not_true_eq_false, not_false_eq_true, and_true, true_and, implies_true]
      exact fin 0
    · refine ht_7 (u := 1) (by decide) hG _ (fun w => absurd ((le0 gn hG.1).mpr w) q) (fun _ => ?_)
      simp only [b1_0, b1_0, true_implies, false_implies, not_true_eq_false, not_false_eq_true, and_true, true_and, implies_true]
      exact fin 1
/-- a byte of the class's tape and of the twin's -/
def tb (b c : Int32) : Prop := (∃ k : Nat, k < 128 ∧ b = nI k ∧ c = nI k) ∨ (b < 0 ∧ ∃ k : Nat, 128 ≤ k ∧ k < 256 ∧ c = nI k)
def RB_ (T : Nat) (tape m : Nat → Int32) : Prop := m 2 = nI T ∧ sb_Fit tape ∧ ∀ i, i < 60 → tb (tape i) (m (298 + i))
/-- all that an image keeps -/
def RA (N T W D tn gn : Nat) (z : Int32) (kd em ca near sh ts gs tape wt m : Nat → Int32) : Prop :=
  (N ≤ 8 ∧ T ≤ 60 ∧ W ≤ 24 ∧ D < 10000) ∧ RP N kd em ca near sh m ∧ BP kd ca near ∧ m 0 = nI D ∧ m 1 = z ∧ TX 0 tn ts m ∧ TX 1 gn gs m ∧ RB_ T tape m ∧ RW_ W wt m
theorem dp_cong {s1 s2 : Nat → Int32} : ∀ n, (∀ k, k < n → s1 k = s2 k) → ∀ k, k ≤ n → dp s1 k = dp s2 k := by
  intro n h k
  induction k with
  | zero => intro _; rfl
  | succ k ih =>
    intro hk
    rw [dp, dp, ih (by omega), h k (by omega)]
theorem TX_cong {u n : Nat} {s1 s2 m : Nat → Int32} (h : TX u n s1 m) (e : ∀ k, k < n → s2 k = s1 k) : TX u n s2 m := by
  obtain ⟨h1, h2, h3, h4, h5⟩ := h
  have d := dp_cong n e
  refine ⟨h1, h2, fun k hk => by rw [e k hk]; exact h3 k hk, fun k hk => ?_, fun w => by rw [d n (Nat.le_refl _)]; exact h5 w⟩
  rw [e k hk, d k (by omega)]
  exact h4 k hk
theorem RA_cong {N T W D tn gn : Nat} {z : Int32} {kd em ca near sh ts gs tape wt m kd' em' ca' near' sh' ts' gs' tape' wt' m' : Nat → Int32} (h : RA N T W D tn gn z kd em ca near sh ts gs tape wt m) (e1 : ∀ j, j < 8 → kd' j = kd j) (e2 : ∀ j, j < 8 → em' j = em j) (e3 : ∀ j, j < 8 → ca' j = ca j) (e4 : ∀ j, j < 8 → near' j = near j) (e5 : ∀ j, j < 8 → sh' j = sh j) (e6 : ∀ j, j < tn → ts' j = ts j) (e7 : ∀ j, j < gn → gs' j = gs j) (e8 : ∀ j, j < 60 → tape' j = tape j) (e8f : sb_Fit tape') (e9 : ∀ j, j < 24 → wt' j = wt j) (e0 : ∀ j, j < 382 → m' j = m j) : RA N T W D tn gn z kd' em' ca' near' sh' ts' gs' tape' wt' m' := by
  obtain ⟨hb, hp, hB, hd, hz, hT, hG, ⟨ht, hf, hq⟩, ⟨hw, hr⟩⟩ := h
  refine ⟨hb, ⟨by rw [e0 _ (by decide)]; exact hp.1, fun j hj => ?_⟩, fun j hj => ?_, by rw [e0 _ (by decide)]; exact hd, by rw [e0 _ (by decide)]; exact hz, TX_fr2 (TX_cong hT e6) (fun i h1 h2 => e0 i (by omega)), TX_fr2 (TX_cong hG e7) (fun i h1 h2 => e0 i (by omega)), ⟨by rw [e0 _ (by decide)]; exact ht, e8f, fun i hi => ?_⟩, ⟨by rw [e0 _ (by decide)]; exact hw, fun i hi => ?_⟩⟩
  · rw [e0 _ (by omega), e0 _ (by omega), e0 _ (by omega), e0 _ (by omega), e0 _ (by omega), e1 j hj, e2 j hj, e3 j hj, e4 j hj, e5 j hj]
    exact hp.2 j hj
  · rw [e1 j hj, e3 j hj, e4 j hj]
    exact hB j hj
  · rw [e0 _ (by omega), e8 i hi]
    exact hq i hi
  · rw [e0 _ (by omega), e9 i hi]
    exact hr i hi
theorem cp_0 {n : Nat} (hn : n ≤ 60) {size : Int32} {steps st : Nat → Int32} {K : Int32 → (Nat → Int32) → Prop} (h : K (nI n) (va_cpy st steps 0 0 n)) : v_X0_copy (nI n) size steps st K := by
  unfold v_X0_copy
  have a1 : (if (60 : Int32) < 60 then (60 : Int32) else 60) = 60 := by decide
  have a2 : ¬ (60 : Int32) < nI n := nI_nlt (a := 60) hn (by decide)
  have q4 : (if (0 : Int32) < nI n then nI n else 0) = nI n := by
    by_cases w : n = 0
    · subst w; rfl
    · have w2 : (0 : Int32) < nI n := nI_lt (a := 0) (by omega) (by omega)
      rw [if_pos w2]
  have c : (nI n).toNatClampNeg = n := nI_clamp (by omega)
  simp only [a1, a2, if_false, q4, c, c0]
  exact ⟨by decide, by decide, nI_pos (by omega), by omega, by omega, h⟩
theorem cy_4 {N T W D tn gn : Nat} {z : Int32} {kd em ca near sh ts gs tape wt m : Nat → Int32} (h : RA N T W D tn gn z kd em ca near sh ts gs tape wt m) {o1 o2 o3 o4 o8 ot og : Int32} {b1 b2 b3 b4 b5 b6 b7 b8 b9 : Nat → Int32} {K : Int32 → Int32 → Int32 → Int32 → (Nat → Int32) → (Nat → Int32) → (Nat → Int32) → Int32 → (Nat → Int32) → (Nat → Int32) → Int32 → (Nat → Int32) → Int32 → (Nat → Int32) → (Nat → Int32) → (Nat → Int32) → Prop} (hf : sb_Fit b8)
    (hK : ∀ kd' em' ca' near' sh' ts' gs' tape' wt', (∀ m', (∀ i, i < 382 → m' i = m i) → RA N T W D tn gn z kd' em' ca' near' sh' ts' gs' tape' wt' m') → K (nI N) (nI T) (nI W) z kd' em' ca' (nI D) near' sh' (nI tn) ts' (nI gn) gs' tape' wt') :
    v_X4_copy o1 o2 o3 o4 b1 b2 b3 o8 b4 b5 ot b6 og b7 b8 b9 (nI N) (nI T) (nI W) z kd em ca (nI D) near sh (nI tn) ts (nI gn) gs tape wt K := by
  unfold v_X4_copy
  have e0 : ¬ (0 : Int32) < 0 := by decide
  have e8 : ¬ (8 : Int32) < 0 := by decide
  have l : (0 : Int32).toNatClampNeg + (8 : Int32).toNatClampNeg ≤ 8 := by decide
  refine ⟨e0, e0, e8, l, l, e0, e0, e8, l, l, e0, e0, e8, l, l, cy_3 (cp_0 h.2.2.2.2.2.1.1 (cp_0 h.2.2.2.2.2.2.1.1 ?_))⟩
  refine ⟨e0, e0, by decide, by decide, by decide, fun i _ => h.2.2.2.2.2.2.2.1.2.1 _, e0, e0, by decide, by decide, by decide, ?_⟩
  have g : ∀ (n : Nat) (f g : Nat → Int32) (j : Nat), j < n → va_cpy f g 0 0 n j = f j := fun n f g j hj => sb_cpy0 hj
  exact hK _ _ _ _ _ _ _ _ _ (fun m' hm' => RA_cong h (g 8 _ _) (g 8 _ _) (g 8 _ _) (g 8 _ _) (g 8 _ _) (g tn _ _) (g gn _ _) (g 60 _ _) (sb_fitC h.2.2.2.2.2.2.2.1.2.1 hf) (g 24 _ _) hm')
theorem ca_7 {f g : Nat → Int32} {K : (Nat → Int32) → Prop} (hK : ∀ g', (∀ i, i < 382 → g' i = f i) → K g') : v_X7_copyAll f g K := by
  unfold v_X7_copyAll
  have lo : ∀ e k l, k + e = 382 → (∀ i, i < k → l i = f i) → l_X7_copyAll_2 f K (e + 1) (nI k) l := by
    intro e
    induction e with
    | zero =>
      intro k l hk h
      have e : k = 382 := by omega
      subst e
      rw [l_X7_copyAll_2, br_y (show (382 : Int32) ≤ nI 382 by decide)]
      exact hK l h
    | succ e ih =>
      intro k l hk h
      have a0 : ¬ (382 : Int32) ≤ nI k := nI_ge (b := 382) (by omega) (by decide)
      rw [l_X7_copyAll_2, br_n a0, vi_382 (by omega), true_and, true_and, nI_clamp (by omega), nI_1]
      refine ih (k + 1) _ (by omega) (fun i hi => ?_)
      rw [up_at]
      by_cases q : i = k
      · rw [if_pos q, q]
      · rw [if_neg q]; exact h i (by omega)
  exact ⟨383, lo 382 0 g (by omega) (fun i hi => absurd hi (Nat.not_lt_zero i))⟩
theorem p_image {N T W D tn gn : Nat} {z im : Int32} {kd em ca near sh ts gs tape wt m mk : Nat → Int32} (h : RA N T W D tn gn z kd em ca near sh ts gs tape wt m) {o1 o2 o3 o4 o8 ot og : Int32} {b1 b2 b3 b4 b5 b6 b7 b8 b9 : Nat → Int32} (hf : sb_Fit b8)
    {P : Int32 → Int32 → Int32 → Int32 → Int32 → Int32 → (Nat → Int32) → (Nat → Int32) → (Nat → Int32) → Int32 → (Nat → Int32) → (Nat → Int32) → Int32 → (Nat → Int32) → Int32 → (Nat → Int32) → (Nat → Int32) → (Nat → Int32) → Int32 → Int32 → (Nat → Int32) → Prop}
    (hP : ∀ kd' em' ca' near' sh' ts' gs' tape' wt' mk', RA N T W D tn gn z kd' em' ca' near' sh' ts' gs' tape' wt' mk' → P (im + 1) (im + 1) (nI N) (nI T) (nI W) z kd' em' ca' (nI D) near' sh' (nI tn) ts' (nI gn) gs' tape' wt' (im + 1) (im + 1) mk') :
    v_X6_image im (nI N) (nI T) (nI W) z kd em ca (nI D) near sh (nI tn) ts (nI gn) gs tape wt o1 o2 o3 o4 b1 b2 b3 o8 b4 b5 ot b6 og b7 b8 b9 (fun r i' a1 a2 a3 a4 a5 a6 a7 a8 a9 a10 a11 a12 a13 a14 a15 a16 => v_X7_image im m mk (fun r' i2 mk' => P r i' a1 a2 a3 a4 a5 a6 a7 a8 a9 a10 a11 a12 a13 a14 a15 a16 r' i2 mk')) := by
  unfold v_X6_image v_X7_image
  refine cy_4 h hf (fun kd' em' ca' near' sh' ts' gs' tape' wt' q => ?_)
  refine ca_7 (fun mk' hk => ?_)
  exact hP _ _ _ _ _ _ _ _ _ _ (q mk' hk)
theorem p_restore {im : Int32} {o1 o2 o3 o4 o8 ot og k1 k2 k3 k4 k8 kt kg : Int32} {b1 b2 b3 b4 b5 b6 b7 b8 b9 c1' c2' c3' c4' c5' c6' c7' c8' c9' m mk errs me : Nat → Int32} (hf : sb_Fit b8) (hE : RE errs me)
    (hI : ¬ im = 0 → ∃ N T W D tn gn : Nat, k1 = nI N ∧ k2 = nI T ∧ k3 = nI W ∧ k8 = nI D ∧ kt = nI tn ∧ kg = nI gn ∧ RA N T W D tn gn k4 c1' c2' c3' c4' c5' c6' c7' c8' c9' mk)
    {P : Int32 → Int32 → Int32 → Int32 → Int32 → (Nat → Int32) → (Nat → Int32) → (Nat → Int32) → Int32 → (Nat → Int32) → (Nat → Int32) → Int32 → (Nat → Int32) → Int32 → (Nat → Int32) → (Nat → Int32) → (Nat → Int32) → (Nat → Int32) → Int32 → (Nat → Int32) → (Nat → Int32) → Prop}
    (h0 : ∀ r errs' me', RE errs' me' → P r o1 o2 o3 o4 b1 b2 b3 o8 b4 b5 ot b6 og b7 b8 b9 errs' r m me')
    (hP : ∀ N T W D tn gn z kd' em' ca' near' sh' ts' gs' tape' wt' m', RA N T W D tn gn z kd' em' ca' near' sh' ts' gs' tape' wt' m' → P (nI D) (nI N) (nI T) (nI W) z kd' em' ca' (nI D) near' sh' (nI tn) ts' (nI gn) gs' tape' wt' errs (nI D) m' me) :
    v_X6_restore im o1 o2 o3 o4 b1 b2 b3 o8 b4 b5 ot b6 og b7 b8 b9 k1 k2 k3 k4 c1' c2' c3' k8 c4' c5' kt c6' kg c7' c8' c9' errs (fun r a1 a2 a3 a4 a5 a6 a7 a8 a9 a10 a11 a12 a13 a14 a15 a16 errs' => v_X7_restore im m mk me (fun r' m' me' => P r a1 a2 a3 a4 a5 a6 a7 a8 a9 a10 a11 a12 a13 a14 a15 a16 errs' r' m' me')) := by
  unfold v_X6_restore v_X7_restore
  by_cases c : im = 0
  · subst c
    simp only [er62, er72, b1_0, true_implies, false_implies, not_true_eq_false, not_false_eq_true, and_true, true_and, implies_true]
    exact h0 _ _ _ (RE_up hE 2)
  · obtain ⟨N, T, W, D, tn, gn, rfl, rfl, rfl, rfl, rfl, rfl, h⟩ := hI c
    simp only [c, b1_0, true_implies, false_implies, not_true_eq_false, not_false_eq_true, and_true, true_and, implies_true]
    refine cy_4 h hf (fun kd' em' ca' near' sh' ts' gs' tape' wt' q => ?_)
    refine ca_7 (fun m' hk => ?_)
    have r := q m' hk
    rw [v0_, true_and, c0, r.2.2.2.1]
    exact hP _ _ _ _ _ _ _ _ _ _ _ _ _ _ _ _ _ r
