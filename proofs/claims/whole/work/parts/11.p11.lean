/-! nears, judge, fits -/
theorem la_no {x : Int32} {mb : Nat → Int32} (h : ou x 4) (K : Int32 → Prop) : v_X7_lacks x mb K = K 1 := by
  unfold v_X7_lacks
  simp only [is_no h, b1_0, true_implies, false_implies, not_true_eq_false, not_false_eq_true, and_true, true_and, implies_true]
theorem la_mi {s : Nat} {mb : Nat → Int32} (hs : s < 4) (h : mb s = 0) (K : Int32 → Prop) : v_X7_lacks (nI s) mb K = K 2 := by
  unfold v_X7_lacks
  simp only [is_yes hs, vi_4 hs, cl_4 hs, h, b1_0, true_implies, false_implies, not_true_eq_false, not_false_eq_true, and_true, true_and, implies_true]
theorem la_ok {s : Nat} {mb : Nat → Int32} (hs : s < 4) (h : ¬ mb s = 0) (K : Int32 → Prop) : v_X7_lacks (nI s) mb K = K 0 := by
  unfold v_X7_lacks
  simp only [is_yes hs, vi_4 hs, cl_4 hs, h, b1_0, true_implies, false_implies, not_true_eq_false, not_false_eq_true, and_true, true_and, implies_true]
theorem t2_0 : ((2 : Int32) = 0) = False := by decide
theorem ou_n {w n : Nat} (h : w < n) (hn : n < 2 ^ 31) : ¬ ou (nI w) n := by
  intro z
  have := ou_int hn z
  rw [nI_toInt (by omega)] at this
  omega
theorem sr_eq {c t : Int32} (h : sr c t) {w : Nat} (hw : w < 100) : c = nI w ↔ t = nI w := by
  rcases h with h | ⟨h1, h2⟩
  · rw [h]
  · constructor
    · intro z; rw [z] at h1; exact absurd h1 (ou_n hw (by decide))
    · intro z; rw [z] at h2; exact absurd h2 (ou_n hw (by decide))
theorem nr_t {N s S : Nat} {kd em ca sh shb shs mb ms mn : Nat → Int32} {shn : Nat → Nat → Int32} (hN : N ≤ 8) (hs : s < 4) (hS : S ≤ 24) (e1 : shs s = nI S) (e2 : ms s = nI S) (hr : ∀ i, i < 24 → sr (shn s i) (mn (24 * s + i))) : ∀ e k (near m : Nat → Int32), k + e = S → RP N kd em ca near sh m → BP kd ca near → ∃ r near' m', RP N kd em ca near' sh m' ∧ BP kd ca near' ∧ FP m m' ∧
    (∀ (K : Int32 → (Nat → Int32) → (Nat → Int32) → Prop) errs, K r near' errs → l_X6_nears_40 (nI s) (nI N) shb shs shn K (e + 1) (nI k) near errs) ∧
    (∀ (K : Int32 → (Nat → Int32) → (Nat → Int32) → Prop) me, K r m' me → l_X7_nears_18 (nI s) mb ms mn K (e + 1) (nI k) m me) := by
  intro e
  induction e with
  | zero =>
    intro k near m hk h hB
    have e : k = S := by omega
    subst e
    refine ⟨nI k, near, m, h, hB, FP_0 m, fun K errs hK => ?_, fun K me hK => ?_⟩
    · rw [l_X6_nears_40, cl_4 hs, e1, br_y (nI_le (Nat.le_refl _) (by omega))]; exact hK
    · rw [l_X7_nears_18, vi_4 hs, true_and, cl_4 hs, e2, br_y (nI_le (Nat.le_refl _) (by omega))]; exact hK
  | succ e ih =>
    intro k near m hk h hB
    have a0 : ¬ nI S ≤ nI k := nI_ge (by omega) (by omega)
    have h24 : k < 24 := by omega
    have ck : (nI k).toNatClampNeg = k := nI_clamp (by omega)
    by_cases c : k < N
    · have a1 : ¬ nI N ≤ nI k := nI_ge c (by omega)
      have hk8 : k < 8 := by omega
      have v9 : vp_in (nI (24 * s + k)) 96 = True := vi_96 (by omega)
      have c9 : (nI (24 * s + k)).toNatClampNeg = 24 * s + k := nI_clamp (by omega)
      rcases ou_or (shn s k) (n := 100) (by decide) with o | ⟨w, hw, o⟩
      · have o2 : ou (mn (24 * s + k)) 100 := by
          rcases hr k h24 with z | z
          · rw [← z]; exact o
          · exact z.2
        have i2 : ∀ K, v_X7_in (mn (24 * s + k)) 0 99 K = K 0 := i_no 99 (by decide) o2
        refine ⟨nI k, near, m, h, hB, FP_0 m, fun K errs hK => ?_, fun K me hK => ?_⟩
        · rw [l_X6_nears_40, cl_4 hs, e1, br_n a0, br_n a1, vi_24 h24, true_and, ck, nr_no o]
          simp only [b1_0, true_implies, false_implies, not_true_eq_false, not_false_eq_true, and_true, true_and, implies_true]; exact hK
        · rw [l_X7_nears_18, vi_4 hs, true_and, cl_4 hs, e2, br_n a0, ip_yes hN h.1 c]
          simp only [ix_s, v9, c9, i2, b1_0, true_implies, false_implies, not_true_eq_false, not_false_eq_true, and_true, true_and, implies_true]; exact hK
      · have o2 : mn (24 * s + k) = nI w := (sr_eq (hr k h24) hw).mp o
        have i2 : ∀ K, v_X7_in (nI w) 0 99 K = K 1 := i_yes 99 (by decide) hw
        obtain ⟨r, near', m', q1, q2, q3, six, sev⟩ := ih (k + 1) (upd near k (nI w)) (upd m (8 + 5 * k + 2) (nI w)) (by omega) (RP_nr h hk8 _) (BP_nr hB k hw)
        refine ⟨r, near', m', q1, q2, fun i hi => ?_, fun K errs hK => ?_, fun K me hK => ?_⟩
        · rw [q3 i hi, pk_un (by omega)]
        · rw [l_X6_nears_40, cl_4 hs, e1, br_n a0, br_n a1, vi_24 h24, true_and, ck, o, nr_yes hw]
          simp only [vi_8 hk8, true_and, nI_1, b1_0, true_implies, false_implies, not_true_eq_false, not_false_eq_true, and_true, true_and, implies_true]
          exact six K errs hK
        · rw [l_X7_nears_18, vi_4 hs, true_and, cl_4 hs, e2, br_n a0, ip_yes hN h.1 c]
          simp only [ix_s, v9, c9, o2, i2, ly_2 hk8, nI_1, b1_0, true_implies, false_implies, not_true_eq_false, not_false_eq_true, and_true, true_and, implies_true]
          exact sev K me hK
    · have a1 : nI N ≤ nI k := nI_le (by omega) (by omega)
      refine ⟨nI k, near, m, h, hB, FP_0 m, fun K errs hK => ?_, fun K me hK => ?_⟩
      · rw [l_X6_nears_40, cl_4 hs, e1, br_n a0, br_y a1]; exact hK
      · rw [l_X7_nears_18, vi_4 hs, true_and, cl_4 hs, e2, br_n a0, ip_no hN h.1 (Or.inr a1)]
        simp only [b1_0, true_implies, false_implies, not_true_eq_false, not_false_eq_true, and_true, true_and, implies_true]; exact hK
theorem p_nears {N : Nat} {x : Int32} {kd em ca near sh errs m me shb shs mb ms mn : Nat → Int32} {shn : Nat → Nat → Int32} {P : Int32 → (Nat → Int32) → (Nat → Int32) → Int32 → (Nat → Int32) → (Nat → Int32) → Prop} (hN : N ≤ 8) (h : RP N kd em ca near sh m) (hB : BP kd ca near) (hS : RS shb shs shn mb ms mn) (hE : RE errs me)
    (hP : ∀ r near' errs' m' me', RP N kd em ca near' sh m' → BP kd ca near' → FP m m' → RE errs' me' → P r near' errs' r m' me') :
    v_X6_nears x (nI N) near shb shs shn errs (fun r near' errs' => v_X7_nears x m me mb ms mn (fun r' m' me' => P r near' errs' r' m' me')) := by
  unfold v_X6_nears v_X7_nears
  rcases ou_or x (n := 4) (by decide) with hx | ⟨s, hs, rfl⟩
  · simp only [st_no hx, la_no hx, er61, er71, b1_0, true_implies, false_implies, not_true_eq_false, not_false_eq_true, and_true, true_and, implies_true]
    exact hP _ _ _ _ _ h hB (FP_0 m) (RE_up hE 1)
  obtain ⟨a1, a2, ⟨S, hS24, a3⟩, a4, a5⟩ := hS s hs
  by_cases b0 : shb s = 0
  · simp only [st_yes hs, vi_4 hs, cl_4 hs, b0, mi_0, la_mi hs (a1.trans b0), t2_0, er62, er72, b1_0, true_implies, false_implies, not_true_eq_false, not_false_eq_true, and_true, true_and, implies_true]
    exact hP _ _ _ _ _ h hB (FP_0 m) (RE_up hE 2)
  have b1 : ¬ mb s = 0 := by rw [a1]; exact b0
  simp only [st_yes hs, vi_4 hs, cl_4 hs, mi_no b0, la_ok hs b1, b1_0, true_implies, false_implies, not_true_eq_false, not_false_eq_true, and_true, true_and, implies_true]
  obtain ⟨r, near', m', q1, q2, q3, six, sev⟩ := nr_t (shb := shb) (mb := mb) (shn := shn) hN hs hS24 a3 (a2.trans a3) a5 S 0 near m (by omega) h hB
  exact ⟨S + 1, six _ errs ⟨S + 1, sev _ me (hP _ _ _ _ _ q1 q2 q3 hE)⟩⟩
theorem jg_t {N s S gn : Nat} {d : Int32} {kd em ca near sh gs m shb shs mb ms mn : Nat → Int32} {shn : Nat → Nat → Int32} (hN : N ≤ 8) (h : RP N kd em ca near sh m) (hd : m 0 = d) (hG : TX 1 gn gs m) (hs : s < 4) (hS : S ≤ 24) (e1 : shs s = nI S) (e2 : ms s = nI S) (hr : ∀ i, i < 24 → sr (shn s i) (mn (24 * s + i))) : ∀ e k, k + e = S → ∃ r,
    (∀ (K : Int32 → (Nat → Int32) → (Nat → Int32) → Prop) errs, (∀ gst', K r gst' errs) → ∀ gst, l_X6_judge_40 (nI s) (nI N) kd d near sh 9 (nI gn) gs shb shs shn K (e + 1) (nI k) gst errs) ∧
    (∀ (K : Int32 → (Nat → Int32) → (Nat → Int32) → (Nat → Int32) → Prop) me, (∀ nm' pile', K r me nm' pile') → ∀ nm pile, l_X7_judge_18 (nI s) m mb ms mn K (e + 1) (nI k) me nm pile) := by
  intro e
  induction e with
  | zero =>
    intro k hk
    have e : k = S := by omega
    subst e
    refine ⟨nI k, fun K errs hK gst => ?_, fun K me hK nm pile => ?_⟩
    · rw [l_X6_judge_40, cl_4 hs, e1, br_y (nI_le (Nat.le_refl _) (by omega))]; exact hK _
    · rw [l_X7_judge_18, vi_4 hs, true_and, cl_4 hs, e2, br_y (nI_le (Nat.le_refl _) (by omega))]; exact hK _ _
  | succ e ih =>
    intro k hk
    have a0 : ¬ nI S ≤ nI k := nI_ge (by omega) (by omega)
    have h24 : k < 24 := by omega
    have ck : (nI k).toNatClampNeg = k := nI_clamp (by omega)
    by_cases c : k < N
    · have a1 : ¬ nI N ≤ nI k := nI_ge c (by omega)
      have hk8 : k < 8 := by omega
      have v9 : vp_in (nI (24 * s + k)) 96 = True := vi_96 (by omega)
      have c9 : (nI (24 * s + k)).toNatClampNeg = 24 * s + k := nI_clamp (by omega)
      obtain ⟨w, hw, o⟩ := sn_in kd gs gn k (near k) (sh k) d
      have q := sr_eq (hr k h24) (show w < 100 by omega)
      by_cases b : shn s k = nI w
      · obtain ⟨r, six, sev⟩ := ih (k + 1) (by omega)
        refine ⟨r, fun K errs hK gst => ?_, fun K me hK nm pile => ?_⟩
        · rw [l_X6_judge_40, cl_4 hs, e1, br_n a0, br_n a1, vi_24 h24, true_and, ck]
          refine sn_6 hk8 hG (fun gst' => ?_)
          rw [o, br_v b, nI_1]
          exact six K errs hK gst'
        · rw [l_X7_judge_18, vi_4 hs, true_and, cl_4 hs, e2, br_n a0, ip_yes hN h.1 c]
          simp only [b1_0, true_implies, false_implies, not_true_eq_false, not_false_eq_true, and_true, true_and, implies_true]
          refine sn_7 h hk8 hd hG (fun nm' pile' => ?_)
          rw [o, ix_s, v9, true_and, c9, br_v (q.mp b).symm, nI_1]
          exact sev K me hK nm' pile'
      · refine ⟨nI k, fun K errs hK gst => ?_, fun K me hK nm pile => ?_⟩
        · rw [l_X6_judge_40, cl_4 hs, e1, br_n a0, br_n a1, vi_24 h24, true_and, ck]
          refine sn_6 hk8 hG (fun gst' => ?_)
          rw [o, br_u b]
          exact hK gst'
        · rw [l_X7_judge_18, vi_4 hs, true_and, cl_4 hs, e2, br_n a0, ip_yes hN h.1 c]
          simp only [b1_0, true_implies, false_implies, not_true_eq_false, not_false_eq_true, and_true, true_and, implies_true]
          refine sn_7 h hk8 hd hG (fun nm' pile' => ?_)
          rw [o, ix_s, v9, true_and, c9, br_u (fun z => b (q.mpr z.symm))]
          exact hK nm' pile'
    · have a1 : nI N ≤ nI k := nI_le (by omega) (by omega)
      refine ⟨nI k, fun K errs hK gst => ?_, fun K me hK nm pile => ?_⟩
      · rw [l_X6_judge_40, cl_4 hs, e1, br_n a0, br_y a1]; exact hK _
      · rw [l_X7_judge_18, vi_4 hs, true_and, cl_4 hs, e2, br_n a0, ip_no hN h.1 (Or.inr a1)]
        simp only [b1_0, true_implies, false_implies, not_true_eq_false, not_false_eq_true, and_true, true_and, implies_true]; exact hK _ _
theorem p_judge {N gn : Nat} {x d : Int32} {kd em ca near sh gs errs m me gst nm pile shb shs mb ms mn : Nat → Int32} {shn : Nat → Nat → Int32} {P : Int32 → (Nat → Int32) → (Nat → Int32) → Int32 → (Nat → Int32) → (Nat → Int32) → (Nat → Int32) → Prop} (hN : N ≤ 8) (h : RP N kd em ca near sh m) (hd : m 0 = d) (hG : TX 1 gn gs m) (hS : RS shb shs shn mb ms mn) (hE : RE errs me)
    (hP : ∀ r gst' errs' me' nm' pile', RE errs' me' → P r gst' errs' r me' nm' pile') :
    v_X6_judge x (nI N) kd d near sh 9 (nI gn) gs gst shb shs shn errs (fun r gst' errs' => v_X7_judge x m me nm pile mb ms mn (fun r' me' nm' pile' => P r gst' errs' r' me' nm' pile')) := by
  unfold v_X6_judge v_X7_judge
  rcases ou_or x (n := 4) (by decide) with hx | ⟨s, hs, rfl⟩
  · simp only [st_no hx, la_no hx, b1_0, er61, er71, b1_0, true_implies, false_implies, not_true_eq_false, not_false_eq_true, and_true, true_and, implies_true]
    exact hP _ _ _ _ _ _ (RE_up hE 1)
  obtain ⟨a1, a2, ⟨S, hS24, a3⟩, a4, a5⟩ := hS s hs
  by_cases b0 : shb s = 0
  · simp only [st_yes hs, vi_4 hs, cl_4 hs, b0, mi_0, la_mi hs (a1.trans b0), t2_0, er62, er72, b1_0, true_implies, false_implies, not_true_eq_false, not_false_eq_true, and_true, true_and, implies_true]
    exact hP _ _ _ _ _ _ (RE_up hE 2)
  have b1 : ¬ mb s = 0 := by rw [a1]; exact b0
  simp only [st_yes hs, vi_4 hs, cl_4 hs, mi_no b0, la_ok hs b1, b1_0, true_implies, false_implies, not_true_eq_false, not_false_eq_true, and_true, true_and, implies_true]
  obtain ⟨r, six, sev⟩ := jg_t (shb := shb) (mb := mb) (shn := shn) hN h hd hG hs hS24 a3 (a2.trans a3) a5 S 0 (by omega)
  exact ⟨S + 1, six _ errs (fun gst' => ⟨S + 1, sev _ me (fun nm' pile' => hP _ _ _ _ _ _ hE) nm pile⟩) gst⟩
-- a sheet tells who is how near
def tls (N S : Nat) (c near : Nat → Int32) : Prop := S ≤ N ∧ ∀ q, q < S → c q = near q
theorem tm_6 {N S s : Nat} {tnr gnr c : Nat → Int32} {K : Int32 → Prop} (hN : N ≤ 8) (hS : S ≤ 24) (hs : s < 256) (h1 : tls N S c (mx tnr gnr s) → K 1) (h0 : ¬ tls N S c (mx tnr gnr s) → K 0) : v_X6_tellsMixed (nI s) (nI N) tnr gnr (nI S) c K := by
  unfold v_X6_tellsMixed
  by_cases b : S ≤ N
  · rw [br_y (nI_le b (by omega))]
    have lo : ∀ e k, k + e = S → (∀ q, q < k → c q = mx tnr gnr s q) → l_X6_tellsMixed_18 (nI s) (nI N) tnr gnr (nI S) c K (e + 1) (nI k) := by
      intro e
      induction e with
      | zero =>
        intro k hk hq
        have e : k = S := by omega
        subst e
        rw [l_X6_tellsMixed_18, br_y (nI_le (Nat.le_refl _) (by omega))]
        exact h1 ⟨b, hq⟩
      | succ e ih =>
        intro k hk hq
        have a0 : ¬ nI S ≤ nI k := nI_ge (by omega) (by omega)
        rw [l_X6_tellsMixed_18, br_n a0, vi_24 (by omega), true_and, nI_clamp (by omega)]
        refine ni_6 hs (by omega) ⟨fun z => ?_, fun z => h0 (fun w => z (w.2 k (by omega)))⟩
        rw [nI_1]
        refine ih (k + 1) (by omega) (fun q hq2 => ?_)
        by_cases y : q = k
        · subst y; exact z
        · exact hq q (by omega)
    exact ⟨S + 1, lo S 0 (by omega) (fun q hq => absurd hq (Nat.not_lt_zero q))⟩
  · rw [br_n (nI_ge (by omega) (by omega))]
    exact h0 (fun w => b w.1)
theorem an_7 {N S s : Nat} {kd em ca near sh m ms mn c : Nat → Int32} {K : Int32 → Prop} (hN : N ≤ 8) (h : RP N kd em ca near sh m) (hB : BP kd ca near) (hs : s < 4) (hS : S ≤ 24) (e2 : ms s = nI S) (hr : ∀ i, i < 24 → sr (c i) (mn (24 * s + i))) (hK : ∀ r, (¬ r = 0 ↔ tls N S c near) → K r) : v_X7_areNearSo (nI s) m ms mn K := by
  unfold v_X7_areNearSo
  rw [vi_4 hs, true_and, v4_, true_and, cl_4 hs, c4, h.1, e2]
  refine ⟨fun q => ?_, fun q => ?_⟩
  · have b : N < S := by
      rw [fa_lt, nI_toInt (by omega), nI_toInt (by omega)] at q; omega
    unfold j_X7_areNearSo_20
    refine ⟨1, ?_⟩
    rw [l_X7_areNearSo_23, vi_4 hs, true_and, cl_4 hs, e2, br_n (show ¬ nI S ≤ (0 : Int32) from nI_nle (by omega) (by omega)), br_y rfl]
    exact hK 0 ⟨fun z => absurd rfl z, fun z => absurd z.1 (by omega)⟩
  · have b : S ≤ N := by
      rw [fa_lt, nI_toInt (by omega), nI_toInt (by omega)] at q; omega
    unfold j_X7_areNearSo_20
    have lo : ∀ e k x, k + e = S → (¬ x = 0 ↔ ∀ q, q < k → c q = near q) → (x = 0 → k < S ∨ k = S) → l_X7_areNearSo_23 (nI s) m ms mn K (e + 1) x (nI k) := by
      intro e
      induction e with
      | zero =>
        intro k x hk hx _
        have e : k = S := by omega
        subst e
        rw [l_X7_areNearSo_23, vi_4 hs, true_and, cl_4 hs, e2, br_y (nI_le (Nat.le_refl _) (by omega))]
        exact hK x ⟨fun z => ⟨b, hx.mp z⟩, fun z => hx.mpr z.2⟩
      | succ e ih =>
        intro k x hk hx _
        have a0 : ¬ nI S ≤ nI k := nI_ge (by omega) (by omega)
        have hk8 : k < 8 := by omega
        rw [l_X7_areNearSo_23, vi_4 hs, true_and, cl_4 hs, e2, br_n a0]
        refine ⟨fun z => hK x ⟨fun w => absurd z w, fun w => hx.mpr (fun q hq => w.2 q (by omega))⟩, fun z => ?_⟩
        rw [it_2 hk8, (h.2 k hk8).2.2.1, ix_s, vi_96 (by omega), true_and, nI_clamp (by omega)]
        obtain ⟨-, -, ⟨w, hw, o⟩⟩ := hB k hk8
        have q := sr_eq (hr k (by omega)) hw
        unfold j_X7_areNearSo_62
        rw [nI_1, o]
        refine ⟨fun y => ?_, fun y => ?_⟩
        · refine ih (k + 1) 0 (by omega) ⟨fun u => absurd rfl u, fun u => ?_⟩ (fun _ => by omega)
          exact absurd ((q.mp ((u k (by omega)).trans o)).symm) y
        · refine ih (k + 1) 1 (by omega) ⟨fun _ p hp => ?_, fun _ => by decide⟩ (fun _ => by omega)
          by_cases v : p = k
          · subst v; rw [o]; exact q.mpr y.symm
          · exact hx.mp z p (by omega)
    exact ⟨S + 1, lo S 0 1 (by omega) ⟨fun _ q hq => absurd hq (Nat.not_lt_zero q), fun _ => by decide⟩ (fun z => absurd z (by decide))⟩
theorem ft_t {N tn gn D s S : Nat} {kd em ca ts gs m0 n0 s0 gnr shb shs mb ms mn : Nat → Int32} {shn : Nat → Nat → Int32} (hN : N ≤ 8) (hT : TX 0 tn ts m0) (hG : TX 1 gn gs m0) (hs : s < 4) (hS : S ≤ 24) (e1 : shs s = nI S) (e2 : ms s = nI S) (hr : ∀ i, i < 24 → sr (shn s i) (mn (24 * s + i))) : ∀ e k near sh, k + e = 101 → BP kd ca near → ∃ j, j ≤ 101 ∧
    (∀ (K : Int32 → (Nat → Int32) → (Nat → Int32) → Int32 → (Nat → Int32) → (Nat → Int32) → (Nat → Int32) → Prop) errs, (j ≤ 100 → ∀ a b c d f, K (nI j) a b c d f errs) → (j = 101 → ∀ a b c d f, v_X6_error 2 errs (fun r e' => K r a b c d f e')) → ∀ tst gst, l_X6_fits_38 (nI s) (nI N) kd em (nI D) n0 s0 99 (nI tn) ts 9 (nI gn) gs gnr shb shs shn K (e + 1) (nI k) tst gst (nI (D + k)) near sh errs) ∧
    (∀ (K : Int32 → (Nat → Int32) → (Nat → Int32) → (Nat → Int32) → (Nat → Int32) → (Nat → Int32) → (Nat → Int32) → (Nat → Int32) → Prop) (m m1 laid me : Nat → Int32), RP N kd em ca near sh m1 → m1 0 = nI (D + k) → (∀ i, i < 48 → laid i = m i) → (∀ i, 48 ≤ i → m1 i = m i) → TX 0 tn ts m1 → TX 1 gn gs m1 → (j ≤ 100 → ∀ a b c d, K (nI j) m laid me a b c d) → (j = 101 → ∀ a b c d, v_X7_error 2 me (fun r e' => K r m laid e' a b c d)) → ∀ nm pile nt st, l_X7_fits_22 (nI s) mb ms mn K (e + 1) (nI k) m1 laid me nm pile nt st) := by
  have e0 : ∀ near : Nat → Int32, mx near gnr 0 = near := fun near => by
    funext q
    unfold mx
    rw [if_pos (by simp)]
  intro e
  induction e with
  | zero =>
    intro k near sh hk hB
    have e : k = 101 := by omega
    subst e
    refine ⟨101, by omega, ?_, ?_⟩
    · intro K errs _ h2 tst gst
      rw [l_X6_fits_38, br_y (show (100 : Int32) < nI 101 by decide)]
      exact h2 rfl _ _ _ _ _
    · intro K m m1 laid me _ _ hl hf _ _ _ h2 nm pile nt st
      rw [l_X7_fits_22, br_y (show (100 : Int32) < nI 101 by decide)]
      unfold j_X7_fits_46
      refine lb_7 hl hf ?_
      rw [br_n (show ¬ nI 101 ≤ (100 : Int32) by decide)]
      exact h2 rfl _ _ _ _
  | succ e ih =>
    intro k near sh hk hB
    have a0 : ¬ (100 : Int32) < nI k := nI_nlt (a := 100) (by omega) (by decide)
    have a1 : nI k ≤ (100 : Int32) := nI_le (b := 100) (by omega) (by decide)
    by_cases q : tls N S (shn s) near
    · refine ⟨k, by omega, ?_, ?_⟩
      · intro K errs h1 _ tst gst
        rw [l_X6_fits_38, br_n a0, vi_4 hs, true_and, cl_4 hs, e1]
        refine tm_6 (s := 0) hN hS (by decide) (fun _ => ?_) (fun z => absurd q (by rw [e0] at z; exact z))
        simp only [b1_0, b1_0, true_implies, false_implies, not_true_eq_false, not_false_eq_true, and_true, true_and, implies_true]
        exact h1 (by omega) _ _ _ _ _
      · intro K m m1 laid me r r0 hl hf t g h1 _ nm pile nt st
        rw [l_X7_fits_22, br_n a0]
        refine an_7 hN r hB hs hS e2 hr (fun x hx => ?_)
        rw [br_u (hx.mpr q)]
        unfold j_X7_fits_46
        refine lb_7 hl hf ?_
        rw [br_y a1]
        exact h1 (by omega) _ _ _ _
    · obtain ⟨j, hj, six, sev⟩ := ih (k + 1) (dN N kd em ts tn near sh (nI (D + k))) (dS N kd gs gn near sh (nI (D + k))) (by omega) (dN_B hN em ts tn sh _ hB)
      refine ⟨j, hj, ?_, ?_⟩
      · intro K errs h1 h2 tst gst
        rw [l_X6_fits_38, br_n a0, vi_4 hs, true_and, cl_4 hs, e1]
        refine tm_6 (s := 0) hN hS (by decide) (fun z => absurd (by rw [e0] at z; exact z) q) (fun _ => ?_)
        simp only [b1_0, true_implies, false_implies, not_true_eq_false, not_false_eq_true, and_true, true_and, implies_true]
        refine pa_6 hN hT hG (fun r tst' gst' hr => ?_) tst gst
        rw [nI_1, nI_1]
        exact six K errs h1 h2 tst' gst'
      · intro K m m1 laid me r r0 hl hf t g h1 h2 nm pile nt st
        rw [l_X7_fits_22, br_n a0]
        refine an_7 hN r hB hs hS e2 hr (fun x hx => ?_)
        have x0 : x = 0 := by
          by_cases w : x = 0
          · exact w
          · exact absurd (hx.mp w) q
        rw [br_v x0]
        refine ad_7 hN r r0 t g (fun m2 nm2 pile2 nt2 st2 w w0 wf => ?_) _ _ _ _
        rw [nI_1]
        exact sev K m m2 laid me w (by rw [w0, nI_1]; rfl) hl (fun i hi => by rw [wf i (by omega)]; exact hf i hi) (TX_fr t (fun i hi => wf i (by omega))) (TX_fr g (fun i hi => wf i (by omega))) h1 h2 _ _ _ _
theorem p_fits {N tn gn D : Nat} {x td : Int32} {kd em ca near sh ts gs m errs me tst gst tnr tsh gnr laid nm pile nt st shb shs mb ms mn : Nat → Int32} {shn : Nat → Nat → Int32} {P : Int32 → (Nat → Int32) → (Nat → Int32) → Int32 → (Nat → Int32) → (Nat → Int32) → (Nat → Int32) → Int32 → (Nat → Int32) → (Nat → Int32) → (Nat → Int32) → (Nat → Int32) → (Nat → Int32) → (Nat → Int32) → (Nat → Int32) → Prop} (hN : N ≤ 8) (h : RP N kd em ca near sh m) (hB : BP kd ca near) (hd : m 0 = nI D) (hT : TX 0 tn ts m) (hG : TX 1 gn gs m) (hS : RS shb shs shn mb ms mn) (hE : RE errs me)
    (hP : ∀ r tst' gst' td' tnr' tsh' errs' laid' me' nm' pile' nt' st', RE errs' me' → P r tst' gst' td' tnr' tsh' errs' r m laid' me' nm' pile' nt' st') :
    v_X6_fits x (nI N) kd em (nI D) near sh 99 (nI tn) ts tst 9 (nI gn) gs gst td tnr tsh gnr shb shs shn errs (fun r tst' gst' td' tnr' tsh' errs' => v_X7_fits x m laid me nm pile nt st mb ms mn (fun r' m' laid' me' nm' pile' nt' st' => P r tst' gst' td' tnr' tsh' errs' r' m' laid' me' nm' pile' nt' st')) := by
  unfold v_X6_fits v_X7_fits
  rcases ou_or x (n := 4) (by decide) with hx | ⟨s, hs, rfl⟩
  · simp only [st_no hx, la_no hx, b1_0, er61, er71, b1_0, true_implies, false_implies, not_true_eq_false, not_false_eq_true, and_true, true_and, implies_true]
    exact hP _ _ _ _ _ _ _ _ _ _ _ _ _ (RE_up hE 1)
  obtain ⟨a1, a2, ⟨S, hS24, a3⟩, a4, a5⟩ := hS s hs
  by_cases b0 : shb s = 0
  · simp only [st_yes hs, vi_4 hs, cl_4 hs, b0, mi_0, la_mi hs (a1.trans b0), t2_0, er62, er72, b1_0, true_implies, false_implies, not_true_eq_false, not_false_eq_true, and_true, true_and, implies_true]
    exact hP _ _ _ _ _ _ _ _ _ _ _ _ _ (RE_up hE 2)
  have b1 : ¬ mb s = 0 := by rw [a1]; exact b0
  simp only [st_yes hs, vi_4 hs, cl_4 hs, mi_no b0, la_ok hs b1, b1_0, true_implies, false_implies, not_true_eq_false, not_false_eq_true, and_true, true_and, implies_true]
  obtain ⟨j, hj, six, sev⟩ := ft_t (D := D) (kd := kd) (em := em) (ca := ca) (n0 := near) (s0 := sh) (gnr := gnr) (shb := shb) (mb := mb) hN hT hG hs hS24 a3 (a2.trans a3) a5 101 0 (t0 near tnr) (t0 sh tsh) (by omega) (t0_B hB tnr)
  have z : ∀ K, (∀ tst' gst', K tst' gst' (nI (D + 0)) (t0 near tnr) (t0 sh tsh)) → v_X6_think 0 (nI N) kd em (nI D) near sh 99 (nI tn) ts tst 9 (nI gn) gs gst td tnr tsh K := fun K hK => th_6 (n := 0) hN (by decide) hT hG hK tst gst
  refine z _ (fun tst' gst' => ?_)
  by_cases c : j ≤ 100
  · refine ⟨102, six _ errs (fun _ a1 a2 a3 a4 a5 => ?_) (fun w => absurd w (by omega)) _ _⟩
    refine ld_7 (fun laid' hl => ⟨102, ?_⟩)
    refine sev _ m m laid' me (t0_R h tnr tsh) hd hl (fun _ _ => rfl) hT hG (fun _ b1 b2 b3 b4 => ?_) (fun w => absurd w (by omega)) _ _ _ _
    exact hP _ _ _ _ _ _ _ _ _ _ _ _ _ hE
  · have e : j = 101 := by omega
    refine ⟨102, six _ errs (fun w => absurd w c) (fun _ a1 a2 a3 a4 a5 => ?_) _ _⟩
    rw [er62]
    refine ld_7 (fun laid' hl => ⟨102, ?_⟩)
    refine sev _ m m laid' me (t0_R h tnr tsh) hd hl (fun _ _ => rfl) hT hG (fun w => absurd w c) (fun _ b1 b2 b3 b4 => ?_) _ _ _ _
    rw [er72]
    exact hP _ _ _ _ _ _ _ _ _ _ _ _ _ (RE_up hE 2)
