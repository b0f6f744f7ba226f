/-! the relation between the class's contents and the twin's row; the short calls -/
def RP (N : Nat) (kd em ca near sh : Nat → Int32) (m : Nat → Int32) : Prop := m 4 = nI N ∧ ∀ j, j < 8 → m (8 + 5 * j + 0) = kd j ∧ m (8 + 5 * j + 1) = em j ∧ m (8 + 5 * j + 2) = near j ∧ m (8 + 5 * j + 3) = sh j ∧ m (8 + 5 * j + 4) = ca j
def BP (kd ca near : Nat → Int32) : Prop := ∀ j, j < 8 → (∃ k : Nat, k < 7 ∧ kd j = nI k) ∧ (∃ k : Nat, k < 256 ∧ ca j = nI k) ∧ (∃ k : Nat, k < 100 ∧ near j = nI k)
def RE (errs me : Nat → Int32) : Prop := ∀ k, 1 ≤ k → k ≤ 6 → errs k = me k
theorem RE_up {errs me : Nat → Int32} (h : RE errs me) (k : Nat) : RE (upd errs k (errs k + 1)) (upd me k (me k + 1)) := by
  intro j h1 h2
  simp only [up_at]
  by_cases e : j = k
  · subst e; simp [h j h1 h2]
  · simp [e, h j h1 h2]
theorem er61 (errs : Nat → Int32) (K : Int32 → (Nat → Int32) → Prop) : v_X6_error 1 errs K = K (-1000000001) (upd errs 1 (errs 1 + 1)) := er_6 1 (by decide) (by decide) errs K
theorem er62 (errs : Nat → Int32) (K : Int32 → (Nat → Int32) → Prop) : v_X6_error 2 errs K = K (-1000000002) (upd errs 2 (errs 2 + 1)) := er_6 2 (by decide) (by decide) errs K
theorem er63 (errs : Nat → Int32) (K : Int32 → (Nat → Int32) → Prop) : v_X6_error 3 errs K = K (-1000000003) (upd errs 3 (errs 3 + 1)) := er_6 3 (by decide) (by decide) errs K
theorem er64 (errs : Nat → Int32) (K : Int32 → (Nat → Int32) → Prop) : v_X6_error 4 errs K = K (-1000000004) (upd errs 4 (errs 4 + 1)) := er_6 4 (by decide) (by decide) errs K
theorem er65 (errs : Nat → Int32) (K : Int32 → (Nat → Int32) → Prop) : v_X6_error 5 errs K = K (-1000000005) (upd errs 5 (errs 5 + 1)) := er_6 5 (by decide) (by decide) errs K
theorem er66 (errs : Nat → Int32) (K : Int32 → (Nat → Int32) → Prop) : v_X6_error 6 errs K = K (-1000000006) (upd errs 6 (errs 6 + 1)) := er_6 6 (by decide) (by decide) errs K
theorem er71 (errs : Nat → Int32) (K : Int32 → (Nat → Int32) → Prop) : v_X7_error 1 errs K = K (-1000000001) (upd errs 1 (errs 1 + 1)) := er_7 1 (by decide) errs K
theorem er72 (errs : Nat → Int32) (K : Int32 → (Nat → Int32) → Prop) : v_X7_error 2 errs K = K (-1000000002) (upd errs 2 (errs 2 + 1)) := er_7 2 (by decide) errs K
theorem er73 (errs : Nat → Int32) (K : Int32 → (Nat → Int32) → Prop) : v_X7_error 3 errs K = K (-1000000003) (upd errs 3 (errs 3 + 1)) := er_7 3 (by decide) errs K
theorem er74 (errs : Nat → Int32) (K : Int32 → (Nat → Int32) → Prop) : v_X7_error 4 errs K = K (-1000000004) (upd errs 4 (errs 4 + 1)) := er_7 4 (by decide) errs K
theorem er75 (errs : Nat → Int32) (K : Int32 → (Nat → Int32) → Prop) : v_X7_error 5 errs K = K (-1000000005) (upd errs 5 (errs 5 + 1)) := er_7 5 (by decide) errs K
theorem er76 (errs : Nat → Int32) (K : Int32 → (Nat → Int32) → Prop) : v_X7_error 6 errs K = K (-1000000006) (upd errs 6 (errs 6 + 1)) := er_7 6 (by decide) errs K
theorem v4_ : vp_in (4 : Int32) 382 = True := vi_382 (j := 4) (by decide)
theorem d10 : (¬ (10 : Int32) = 0) = True := by decide
-- one cell of one person changes
theorem RP_kd {N : Nat} {kd em ca near sh m : Nat → Int32} (h : RP N kd em ca near sh m) {j : Nat} (hj : j < 8) (v : Int32) : RP N (upd kd j v) em ca near sh (upd m (8 + 5 * j + 0) v) := by
  refine ⟨?_, fun i hi => ?_⟩
  · rw [pk_un (by omega)]; exact h.1
  · obtain ⟨a, b, c, d, e⟩ := h.2 i hi
    refine ⟨?_, by rw [pk_un (by omega)]; exact b, by rw [pk_un (by omega)]; exact c, by rw [pk_un (by omega)]; exact d, by rw [pk_un (by omega)]; exact e⟩
    by_cases q : i = j
    · subst q; rw [pk_us, pk_us]
    · rw [pk_un (by omega), pk_un q]; exact a
theorem RP_em {N : Nat} {kd em ca near sh m : Nat → Int32} (h : RP N kd em ca near sh m) {j : Nat} (hj : j < 8) (v : Int32) : RP N kd (upd em j v) ca near sh (upd m (8 + 5 * j + 1) v) := by
  refine ⟨?_, fun i hi => ?_⟩
  · rw [pk_un (by omega)]; exact h.1
  · obtain ⟨a, b, c, d, e⟩ := h.2 i hi
    refine ⟨by rw [pk_un (by omega)]; exact a, ?_, by rw [pk_un (by omega)]; exact c, by rw [pk_un (by omega)]; exact d, by rw [pk_un (by omega)]; exact e⟩
    by_cases q : i = j
    · subst q; rw [pk_us, pk_us]
    · rw [pk_un (by omega), pk_un q]; exact b
theorem RP_nr {N : Nat} {kd em ca near sh m : Nat → Int32} (h : RP N kd em ca near sh m) {j : Nat} (hj : j < 8) (v : Int32) : RP N kd em ca (upd near j v) sh (upd m (8 + 5 * j + 2) v) := by
  refine ⟨?_, fun i hi => ?_⟩
  · rw [pk_un (by omega)]; exact h.1
  · obtain ⟨a, b, c, d, e⟩ := h.2 i hi
    refine ⟨by rw [pk_un (by omega)]; exact a, by rw [pk_un (by omega)]; exact b, ?_, by rw [pk_un (by omega)]; exact d, by rw [pk_un (by omega)]; exact e⟩
    by_cases q : i = j
    · subst q; rw [pk_us, pk_us]
    · rw [pk_un (by omega), pk_un q]; exact c
theorem RP_sh {N : Nat} {kd em ca near sh m : Nat → Int32} (h : RP N kd em ca near sh m) {j : Nat} (hj : j < 8) (v : Int32) : RP N kd em ca near (upd sh j v) (upd m (8 + 5 * j + 3) v) := by
  refine ⟨?_, fun i hi => ?_⟩
  · rw [pk_un (by omega)]; exact h.1
  · obtain ⟨a, b, c, d, e⟩ := h.2 i hi
    refine ⟨by rw [pk_un (by omega)]; exact a, by rw [pk_un (by omega)]; exact b, by rw [pk_un (by omega)]; exact c, ?_, by rw [pk_un (by omega)]; exact e⟩
    by_cases q : i = j
    · subst q; rw [pk_us, pk_us]
    · rw [pk_un (by omega), pk_un q]; exact d
theorem RP_ca {N : Nat} {kd em ca near sh m : Nat → Int32} (h : RP N kd em ca near sh m) {j : Nat} (hj : j < 8) (v : Int32) : RP N kd em (upd ca j v) near sh (upd m (8 + 5 * j + 4) v) := by
  refine ⟨?_, fun i hi => ?_⟩
  · rw [pk_un (by omega)]; exact h.1
  · obtain ⟨a, b, c, d, e⟩ := h.2 i hi
    refine ⟨by rw [pk_un (by omega)]; exact a, by rw [pk_un (by omega)]; exact b, by rw [pk_un (by omega)]; exact c, by rw [pk_un (by omega)]; exact d, ?_⟩
    by_cases q : i = j
    · subst q; rw [pk_us, pk_us]
    · rw [pk_un (by omega), pk_un q]; exact e
theorem RP_N {N : Nat} {kd em ca near sh m : Nat → Int32} (h : RP N kd em ca near sh m) (M : Nat) : RP M kd em ca near sh (upd m 4 (nI M)) := by
  refine ⟨pk_us, fun i hi => ?_⟩
  obtain ⟨a, b, c, d, e⟩ := h.2 i hi
  exact ⟨by rw [pk_un (by omega)]; exact a, by rw [pk_un (by omega)]; exact b, by rw [pk_un (by omega)]; exact c, by rw [pk_un (by omega)]; exact d, by rw [pk_un (by omega)]; exact e⟩
theorem BP_kd {kd ca near : Nat → Int32} (h : BP kd ca near) (j : Nat) {v : Nat} (hv : v < 7) : BP (upd kd j (nI v)) ca near := by
  intro i hi
  obtain ⟨a, b, c⟩ := h i hi
  refine ⟨?_, b, c⟩
  by_cases q : i = j
  · subst q; rw [pk_us]; exact ⟨v, hv, rfl⟩
  · rw [pk_un q]; exact a
theorem BP_ca {kd ca near : Nat → Int32} (h : BP kd ca near) (j : Nat) {v : Nat} (hv : v < 256) : BP kd (upd ca j (nI v)) near := by
  intro i hi
  obtain ⟨a, b, c⟩ := h i hi
  refine ⟨a, ?_, c⟩
  by_cases q : i = j
  · subst q; rw [pk_us]; exact ⟨v, hv, rfl⟩
  · rw [pk_un q]; exact b
theorem BP_nr {kd ca near : Nat → Int32} (h : BP kd ca near) (j : Nat) {v : Nat} (hv : v < 100) : BP kd ca (upd near j (nI v)) := by
  intro i hi
  obtain ⟨a, b, c⟩ := h i hi
  refine ⟨a, b, ?_⟩
  by_cases q : i = j
  · subst q; rw [pk_us]; exact ⟨v, hv, rfl⟩
  · rw [pk_un q]; exact c
/-- what a change of people leaves as it was -/
def FP (m m' : Nat → Int32) : Prop := ∀ i, (i < 4 ∨ 48 ≤ i) → m' i = m i
theorem FP_0 (m : Nat → Int32) : FP m m := fun _ _ => rfl
theorem FP_up {m m' : Nat → Int32} (h : FP m m') (k : Nat) (hk : 4 ≤ k ∧ k < 48) (v : Int32) : FP m (upd m' k v) := fun i hi => by rw [pk_un (by omega)]; exact h i hi
theorem dv_10 {k : Nat} (h : k < 70) : nI k / 10 = nI (k / 10) := pk_div (by omega) (by decide) (by decide)
theorem p_person {N : Nat} {x y z : Int32} {kd em ca near sh errs m me : Nat → Int32} {P : Int32 → Int32 → (Nat → Int32) → (Nat → Int32) → (Nat → Int32) → (Nat → Int32) → (Nat → Int32) → (Nat → Int32) → Int32 → (Nat → Int32) → (Nat → Int32) → Prop} (hN : N ≤ 8) (h : RP N kd em ca near sh m) (hB : BP kd ca near) (hE : RE errs me)
    (hP : ∀ r N' kd' em' ca' near' sh' errs' m' me', N' ≤ 8 → RP N' kd' em' ca' near' sh' m' → BP kd' ca' near' → RE errs' me' → FP m m' → P r (nI N') kd' em' ca' near' sh' errs' r m' me') :
    v_X6_person x y z (nI N) kd em ca near sh errs (fun r p' kd' em' ca' near' sh' errs' => v_X7_person x y z m me (fun r' m' me' => P r p' kd' em' ca' near' sh' errs' r' m' me')) := by
  have herr := hP (-1000000001) N kd em ca near sh (upd errs 1 (errs 1 + 1)) m (upd me 1 (me 1 + 1)) hN h hB (RE_up hE 1) (FP_0 m)
  unfold v_X6_person v_X7_person
  rcases ou_or x (n := 70) (by decide) with hx | ⟨k, hk, rfl⟩
  · simp only [kd_no hx, km_no hx, b1_0, true_implies, false_implies, not_true_eq_false, not_false_eq_true, and_true, true_and, implies_true, j_X6_person_21, j_X7_person_27, er61, er71]; exact herr
  rcases ou_or y (n := 100) (by decide) with hy | ⟨a, ha, rfl⟩
  · have i1 : ∀ K, v_X7_in y 0 99 K = K 0 := i_no 99 (by decide) hy
    simp only [kd_yes hk, km_yes hk, nr_no hy, i1, b1_0, true_implies, false_implies, not_true_eq_false, not_false_eq_true, and_true, true_and, implies_true, j_X6_person_21, j_X7_person_27, er61, er71]; exact herr
  have i1 : ∀ K, v_X7_in (nI a) 0 99 K = K 1 := i_yes 99 (by decide) ha
  rcases ou_or z (n := 10) (by decide) with hz | ⟨b, hb, rfl⟩
  · have i2 : ∀ K, v_X7_in z 0 9 K = K 0 := i_no 9 (by decide) hz
    simp only [kd_yes hk, km_yes hk, nr_yes ha, i1, sg_no hz, i2, b1_0, true_implies, false_implies, not_true_eq_false, not_false_eq_true, and_true, true_and, implies_true, j_X6_person_21, j_X7_person_27, er61, er71]; exact herr
  have i2 : ∀ K, v_X7_in (nI b) 0 9 K = K 1 := i_yes 9 (by decide) hb
  simp only [kd_yes hk, km_yes hk, nr_yes ha, i1, sg_yes hb, i2, b1_0, true_implies, false_implies, not_true_eq_false, not_false_eq_true, and_true, true_and, implies_true, v4_, c4, h.1, true_and]
  by_cases e : N = 8
  · subst e
    have a1 : ¬ (8 : Int32) < 8 := by decide
    have a2 : nI 8 = (8 : Int32) := rfl
    simp only [a1, a2, er64, er74, true_implies, false_implies, not_true_eq_false, not_false_eq_true, and_true, true_and, implies_true]
    exact hP _ 8 kd em ca near sh _ m _ hN h hB (RE_up hE 4) (FP_0 m)
  · have hN' : N < 8 := by omega
    have a1 : nI N < (8 : Int32) := nI_lt hN' (by decide)
    have a2 : ¬ nI N = (8 : Int32) := fun q => e ((nI_eq (by omega) (by decide)).mp q)
    simp only [a1, a2, v_X4_join, vi_8 hN', cl_8 hN', d10, ly_0 hN', ly_1 hN', ly_2 hN', ly_3 hN', ly_4 hN', true_implies, false_implies, not_true_eq_false, not_false_eq_true, and_true, true_and, implies_true]
    have e4 : ∀ (f : Nat → Int32) (v0 v1 v2 v3 v4 : Int32), upd (upd (upd (upd (upd f (8 + 5 * N + 0) v0) (8 + 5 * N + 1) v1) (8 + 5 * N + 2) v2) (8 + 5 * N + 3) v3) (8 + 5 * N + 4) v4 4 = f 4 := by
      intro f v0 v1 v2 v3 v4
      rw [pk_un (by omega), pk_un (by omega), pk_un (by omega), pk_un (by omega), pk_un (by omega)]
    rw [e4, h.1, nI_1]
    have q1 := RP_ca (RP_sh (RP_nr (RP_em (RP_kd h hN' (nI k / 10)) hN' (nI k - nI k / 10 * 10)) hN' (nI a)) hN' (nI b)) hN' 0
    refine hP (nI N) (N + 1) _ _ _ _ _ errs _ me (by omega) (RP_N q1 (N + 1)) ?_ hE ?_
    · have q := BP_ca (BP_nr (BP_kd hB N (v := k / 10) (by omega)) N ha) N (v := 0) (by decide)
      rw [← dv_10 hk] at q
      exact q
    · exact FP_up (FP_up (FP_up (FP_up (FP_up (FP_up (FP_0 m) _ (by omega) _) _ (by omega) _) _ (by omega) _) _ (by omega) _) _ (by omega) _) _ (by omega) _
theorem BPk {kd ca near : Nat → Int32} (h : BP kd ca near) {j : Nat} (hj : j < 8) : ∃ k : Nat, k < 7 ∧ kd j = nI k := (h j hj).1
theorem v5_ {j : Nat} (h : j < 5) (i : Nat) (hi : i < 8) (m : Nat → Int32) (K : Int32 → Prop) : v_X7_its (nI i) (nI j) m K = K (m (8 + 5 * i + j)) := it_c j hi h m K
theorem p_personIs {N : Nat} {x y : Int32} {kd em ca near sh errs m me : Nat → Int32} {P : Int32 → (Nat → Int32) → Int32 → (Nat → Int32) → Prop} (hN : N ≤ 8) (h : RP N kd em ca near sh m) (hE : RE errs me)
    (hP : ∀ r errs' me', RE errs' me' → P r errs' r me') :
    v_X6_personIs x y (nI N) kd em ca near sh errs (fun r errs' => v_X7_personIs x y m me (fun r' me' => P r errs' r' me')) := by
  have herr := hP (-1000000001) (upd errs 1 (errs 1 + 1)) (upd me 1 (me 1 + 1)) (RE_up hE 1)
  unfold v_X6_personIs v_X7_personIs
  rcases ou_or x (n := N) (by omega) with hx | ⟨j, hj, rfl⟩
  · simp only [ha_no hN hx, ip_no hN h.1 hx, b1_0, true_implies, false_implies, not_true_eq_false, not_false_eq_true, and_true, true_and, implies_true, j_X7_personIs_26, er61, er71]; exact herr
  have hj8 : j < 8 := by omega
  obtain ⟨q0, q1, q2, q3, q4⟩ := h.2 j hj8
  rcases ou_or y (n := 5) (by decide) with hy | ⟨k, hk, rfl⟩
  · have i1 : ∀ K, v_X7_in y 0 4 K = K 0 := i_no 4 (by decide) hy
    have hi := ou_int (by decide) hy
    have n0 : ¬ y = 0 := fun e => by subst e; revert hi; decide
    have n1 : ¬ y = 1 := fun e => by subst e; revert hi; decide
    have n2 : ¬ y = 2 := fun e => by subst e; revert hi; decide
    have n3 : ¬ y = 3 := fun e => by subst e; revert hi; decide
    have n4 : ¬ y = 4 := fun e => by subst e; revert hi; decide
    simp only [ha_yes hN hj, ip_yes hN h.1 hj, n0, n1, n2, n3, n4, i1, b1_0, true_implies, false_implies, not_true_eq_false, not_false_eq_true, and_true, true_and, implies_true, j_X7_personIs_26, er61, er71]; exact herr
  have i1 : ∀ K, v_X7_in (nI k) 0 4 K = K 1 := i_yes 4 (by decide) hk
  simp only [ha_yes hN hj, ip_yes hN h.1 hj, i1, v5_ hk j hj8, vi_8 hj8, cl_8 hj8, b1_0, true_implies, false_implies, not_true_eq_false, not_false_eq_true, and_true, true_and, implies_true]
  have hc : k = 0 ∨ k = 1 ∨ k = 2 ∨ k = 3 ∨ k = 4 := by omega
  rcases hc with rfl | rfl | rfl | rfl | rfl
  · simp only [show (nI 0 = 0) = True from eq_true rfl, q0, b1_0, true_implies, false_implies, not_true_eq_false, not_false_eq_true, and_true, true_and, implies_true]; exact hP _ _ _ hE
  · simp only [show (nI 1 = 0) = False by decide, show (nI 1 = 1) = True from eq_true rfl, q1, b1_0, true_implies, false_implies, not_true_eq_false, not_false_eq_true, and_true, true_and, implies_true]; exact hP _ _ _ hE
  · simp only [show (nI 2 = 0) = False by decide, show (nI 2 = 1) = False by decide, show (nI 2 = 2) = True from eq_true rfl, q2, b1_0, true_implies, false_implies, not_true_eq_false, not_false_eq_true, and_true, true_and, implies_true]; exact hP _ _ _ hE
  · simp only [show (nI 3 = 0) = False by decide, show (nI 3 = 1) = False by decide, show (nI 3 = 2) = False by decide, show (nI 3 = 3) = True from eq_true rfl, q3, b1_0, true_implies, false_implies, not_true_eq_false, not_false_eq_true, and_true, true_and, implies_true]; exact hP _ _ _ hE
  · simp only [show (nI 4 = 0) = False by decide, show (nI 4 = 1) = False by decide, show (nI 4 = 2) = False by decide, show (nI 4 = 3) = False by decide, show (nI 4 = 4) = True from eq_true rfl, q4, b1_0, true_implies, false_implies, not_true_eq_false, not_false_eq_true, and_true, true_and, implies_true]; exact hP _ _ _ hE
theorem p_become {N : Nat} {x y : Int32} {kd em ca near sh errs m me : Nat → Int32} {P : Int32 → (Nat → Int32) → (Nat → Int32) → (Nat → Int32) → Int32 → (Nat → Int32) → (Nat → Int32) → Prop} (hN : N ≤ 8) (h : RP N kd em ca near sh m) (hB : BP kd ca near) (hE : RE errs me)
    (hP : ∀ r kd' em' errs' m' me', RP N kd' em' ca near sh m' → BP kd' ca near → RE errs' me' → FP m m' → P r kd' em' errs' r m' me') :
    v_X6_become x y (nI N) kd em errs (fun r kd' em' errs' => v_X7_become x y m me (fun r' m' me' => P r kd' em' errs' r' m' me')) := by
  have herr := hP (-1000000001) kd em (upd errs 1 (errs 1 + 1)) m (upd me 1 (me 1 + 1)) h hB (RE_up hE 1) (FP_0 m)
  unfold v_X6_become v_X7_become
  rcases ou_or x (n := N) (by omega) with hx | ⟨j, hj, rfl⟩
  · simp only [ha_no hN hx, ip_no hN h.1 hx, b1_0, true_implies, false_implies, not_true_eq_false, not_false_eq_true, and_true, true_and, implies_true, j_X6_become_18, j_X7_become_15, er61, er71]; exact herr
  have hj8 : j < 8 := by omega
  obtain ⟨q0, q1, q2, q3, q4⟩ := h.2 j hj8
  rcases ou_or y (n := 70) (by decide) with hy | ⟨k, hk, rfl⟩
  · simp only [ha_yes hN hj, ip_yes hN h.1 hj, kd_no hy, km_no hy, b1_0, true_implies, false_implies, not_true_eq_false, not_false_eq_true, and_true, true_and, implies_true, j_X6_become_18, j_X7_become_15, er61, er71]; exact herr
  simp only [ha_yes hN hj, ip_yes hN h.1 hj, kd_yes hk, km_yes hk, vi_8 hj8, cl_8 hj8, d10, ly_1 hj8, ch_0 hj8, b1_0, true_implies, false_implies, not_true_eq_false, not_false_eq_true, and_true, true_and, implies_true]
  rw [pk_un (by omega), q0]
  have e := RP_kd (RP_em h hj8 (nI k - nI k / 10 * 10)) hj8 (nI k / 10)
  have b := BP_kd hB j (v := k / 10) (by omega)
  rw [← dv_10 hk] at b
  exact hP _ _ _ _ _ _ e b hE (FP_up (FP_up (FP_0 m) _ (by omega) _) _ (by omega) _)
theorem p_shows {N : Nat} {x y : Int32} {kd em ca near sh errs m me : Nat → Int32} {P : Int32 → (Nat → Int32) → (Nat → Int32) → Int32 → (Nat → Int32) → (Nat → Int32) → Prop} (hN : N ≤ 8) (h : RP N kd em ca near sh m) (hE : RE errs me)
    (hP : ∀ r sh' errs' m' me', RP N kd em ca near sh' m' → RE errs' me' → FP m m' → P r sh' errs' r m' me') :
    v_X6_shows x y (nI N) sh errs (fun r sh' errs' => v_X7_shows x y m me (fun r' m' me' => P r sh' errs' r' m' me')) := by
  have herr := hP (-1000000001) sh (upd errs 1 (errs 1 + 1)) m (upd me 1 (me 1 + 1)) h (RE_up hE 1) (FP_0 m)
  unfold v_X6_shows v_X7_shows
  rcases ou_or x (n := N) (by omega) with hx | ⟨j, hj, rfl⟩
  · simp only [ha_no hN hx, ip_no hN h.1 hx, b1_0, true_implies, false_implies, not_true_eq_false, not_false_eq_true, and_true, true_and, implies_true, j_X6_shows_18, j_X7_shows_34, er61, er71]; exact herr
  have hj8 : j < 8 := by omega
  obtain ⟨q0, q1, q2, q3, q4⟩ := h.2 j hj8
  rcases ou_or y (n := 10) (by decide) with hy | ⟨k, hk, rfl⟩
  · have i1 : ∀ K, v_X7_in y 0 9 K = K 0 := i_no 9 (by decide) hy
    simp only [ha_yes hN hj, ip_yes hN h.1 hj, sg_no hy, i1, b1_0, true_implies, false_implies, not_true_eq_false, not_false_eq_true, and_true, true_and, implies_true, j_X6_shows_18, j_X7_shows_34, er61, er71]; exact herr
  have i1 : ∀ K, v_X7_in (nI k) 0 9 K = K 1 := i_yes 9 (by decide) hk
  simp only [ha_yes hN hj, ip_yes hN h.1 hj, sg_yes hk, i1, vi_8 hj8, cl_8 hj8, ch_3 hj8, q3, b1_0, true_implies, false_implies, not_true_eq_false, not_false_eq_true, and_true, true_and, implies_true]
  exact hP _ _ _ _ _ (RP_sh h hj8 _) hE (FP_up (FP_0 m) _ (by omega) _)
theorem p_seems {N : Nat} {x y : Int32} {kd em ca near sh errs m me : Nat → Int32} {P : Int32 → (Nat → Int32) → (Nat → Int32) → Int32 → (Nat → Int32) → (Nat → Int32) → Prop} (hN : N ≤ 8) (h : RP N kd em ca near sh m) (hB : BP kd ca near) (hE : RE errs me)
    (hP : ∀ r near' errs' m' me', RP N kd em ca near' sh m' → BP kd ca near' → RE errs' me' → FP m m' → P r near' errs' r m' me') :
    v_X6_seems x y (nI N) near errs (fun r near' errs' => v_X7_seems x y m me (fun r' m' me' => P r near' errs' r' m' me')) := by
  have herr := hP (-1000000001) near (upd errs 1 (errs 1 + 1)) m (upd me 1 (me 1 + 1)) h hB (RE_up hE 1) (FP_0 m)
  unfold v_X6_seems v_X7_seems
  rcases ou_or x (n := N) (by omega) with hx | ⟨j, hj, rfl⟩
  · simp only [ha_no hN hx, ip_no hN h.1 hx, b1_0, true_implies, false_implies, not_true_eq_false, not_false_eq_true, and_true, true_and, implies_true, j_X6_seems_18, j_X7_seems_34, er61, er71]; exact herr
  have hj8 : j < 8 := by omega
  obtain ⟨q0, q1, q2, q3, q4⟩ := h.2 j hj8
  rcases ou_or y (n := 100) (by decide) with hy | ⟨k, hk, rfl⟩
  · have i1 : ∀ K, v_X7_in y 0 99 K = K 0 := i_no 99 (by decide) hy
    simp only [ha_yes hN hj, ip_yes hN h.1 hj, nr_no hy, i1, b1_0, true_implies, false_implies, not_true_eq_false, not_false_eq_true, and_true, true_and, implies_true, j_X6_seems_18, j_X7_seems_34, er61, er71]; exact herr
  have i1 : ∀ K, v_X7_in (nI k) 0 99 K = K 1 := i_yes 99 (by decide) hk
  simp only [ha_yes hN hj, ip_yes hN h.1 hj, nr_yes hk, i1, vi_8 hj8, cl_8 hj8, ch_2 hj8, q2, b1_0, true_implies, false_implies, not_true_eq_false, not_false_eq_true, and_true, true_and, implies_true]
  exact hP _ _ _ _ _ (RP_nr h hj8 _) (BP_nr hB j hk) hE (FP_up (FP_0 m) _ (by omega) _)
theorem p_told {x : Int32} {errs me : Nat → Int32} {P : Int32 → (Nat → Int32) → Int32 → (Nat → Int32) → Prop} (hE : RE errs me) (hP : ∀ r errs' me', RE errs' me' → P r errs' r me') :
    v_X6_told x errs (fun r errs' => v_X7_told x me (fun r' me' => P r errs' r' me')) := by
  have herr := hP (-1000000001) (upd errs 1 (errs 1 + 1)) (upd me 1 (me 1 + 1)) (RE_up hE 1)
  unfold v_X6_told v_X7_told
  have e1 : (1 : Int32).toInt = 1 := rfl
  have e6 : (6 : Int32).toInt = 6 := rfl
  by_cases c1 : x.toInt < 1
  · have i1 : ∀ K, v_X7_in x 1 6 K = K 0 := in_no (Or.inl c1)
    simp only [fa_lt, e1, c1, i1, b1_0, true_implies, false_implies, not_true_eq_false, not_false_eq_true, and_true, true_and, implies_true, j_X6_told_20, er61, er71]; exact herr
  by_cases c2 : 6 < x.toInt
  · have i1 : ∀ K, v_X7_in x 1 6 K = K 0 := in_no (Or.inr c2)
    simp only [fa_lt, e1, e6, c1, c2, i1, b1_0, true_implies, false_implies, not_true_eq_false, not_false_eq_true, and_true, true_and, implies_true, j_X6_told_20, er61, er71]; exact herr
  have i1 : ∀ K, v_X7_in x 1 6 K = K 1 := in_yes (by omega) (by omega)
  obtain ⟨k, hk, rfl⟩ := nI_of (x := x) (by rw [fa_lt, show (0 : Int32).toInt = 0 from rfl]; omega)
  rw [nI_toInt hk] at c1 c2
  have hk7 : k < 7 := by omega
  simp only [fa_lt, e1, e6, nI_toInt hk, c1, c2, i1, vi_7 hk7, nI_clamp hk, b1_0, true_implies, false_implies, not_true_eq_false, not_false_eq_true, and_true, true_and, implies_true]
  rw [hE k (by omega) (by omega)]
  exact hP _ _ _ hE
theorem v1_ : vp_in (1 : Int32) 382 = True := vi_382 (j := 1) (by decide)
theorem v0_ : vp_in (0 : Int32) 382 = True := vi_382 (j := 0) (by decide)
theorem v2_ : vp_in (2 : Int32) 382 = True := vi_382 (j := 2) (by decide)
theorem v3_ : vp_in (3 : Int32) 382 = True := vi_382 (j := 3) (by decide)
theorem c0 : (0 : Int32).toNatClampNeg = 0 := by decide
theorem c1 : (1 : Int32).toNatClampNeg = 1 := by decide
theorem c2 : (2 : Int32).toNatClampNeg = 2 := by decide
theorem c3 : (3 : Int32).toNatClampNeg = 3 := by decide
theorem p_seed {x z : Int32} {m : Nat → Int32} {P : Int32 → Int32 → Int32 → (Nat → Int32) → Prop} (h : m 1 = z) (hP : P z x z (upd m 1 x)) :
    v_X6_seed x z (fun r z' => v_X7_seed x m (fun r' m' => P r z' r' m')) := by
  unfold v_X6_seed v_X7_seed v_X7_change1
  simp only [v1_, c1, h, true_and]; exact hP
def RW_ (W : Nat) (wt m : Nat → Int32) : Prop := m 3 = nI W ∧ ∀ i, i < 24 → m (358 + i) = wt i
theorem p_tell {x : Int32} {W : Nat} {wt errs m me : Nat → Int32} {P : Int32 → Int32 → (Nat → Int32) → (Nat → Int32) → Int32 → (Nat → Int32) → (Nat → Int32) → Prop} (hW : W ≤ 24) (h : RW_ W wt m) (hE : RE errs me)
    (hP : ∀ r W' wt' errs' m' me', W' ≤ 24 → RW_ W' wt' m' → RE errs' me' → (∀ i, i < 358 → i ≠ 3 → m' i = m i) → P r (nI W') wt' errs' r m' me') :
    v_X6_tell x (nI W) wt errs (fun r w' wt' errs' => v_X7_tell x m me (fun r' m' me' => P r w' wt' errs' r' m' me')) := by
  unfold v_X6_tell v_X7_tell
  simp only [v3_, c3, h.1, true_and]
  by_cases e : W = 24
  · subst e
    have a1 : ¬ (24 : Int32) < 24 := by decide
    have a2 : nI 24 = (24 : Int32) := rfl
    simp only [a1, a2, er64, er74, b1_0, true_implies, false_implies, not_true_eq_false, not_false_eq_true, and_true, true_and, implies_true]
    exact hP _ 24 wt _ m _ (by decide) h (RE_up hE 4) (fun _ _ _ => rfl)
  · have hW' : W < 24 := by omega
    have a1 : nI W < (24 : Int32) := nI_lt hW' (by decide)
    have a2 : ¬ nI W = (24 : Int32) := fun q => e ((nI_eq (by omega) (by decide)).mp q)
    have a3 : vp_in (nI W) 24 := vp_in_nI hW' (by decide)
    have a4 : (358 : Int32) + nI W = nI (358 + W) := by rw [show (358 : Int32) = nI 358 from rfl, nI_add]
    have a5 : vp_in (nI (358 + W)) 382 = True := vi_382 (by omega)
    have a6 : (nI (358 + W)).toNatClampNeg = 358 + W := nI_clamp (by omega)
    have a7 : (nI W).toNatClampNeg = W := nI_clamp (by omega)
    have a8 : ∀ (f : Nat → Int32) v, upd f (358 + W) v 3 = f 3 := fun f v => pk_un (by omega)
    simp only [a1, a2, a3, a4, a5, a6, a7, a8, h.1, pk_us, nI_1, b1_0, true_implies, false_implies, not_true_eq_false, not_false_eq_true, and_true, true_and, implies_true]
    refine hP _ (W + 1) _ _ _ _ (by omega) ⟨pk_us, fun i hi => ?_⟩ hE (fun i h1 h2 => by rw [pk_un h2, pk_un (by omega)])
    rw [pk_un (by omega)]
    by_cases q : i = W
    · subst q; rw [pk_us, pk_us]
    · rw [pk_un (by omega), pk_un q]; exact h.2 i hi
