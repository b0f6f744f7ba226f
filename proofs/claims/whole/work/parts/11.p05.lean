/-! a text worked out, on both sides -/
theorem br_u {c : Prop} (h : ¬ c) (A B : Prop) : ((¬ c → A) ∧ (c → B)) = A := by simp [h]
theorem br_v {c : Prop} (h : c) (A B : Prop) : ((¬ c → A) ∧ (c → B)) = B := by simp [h]
theorem vi_60 {j : Nat} (h : j < 60) : vp_in (nI j) 60 = True := eq_true (vp_in_nI h (by decide))
theorem vi_64 {j : Nat} (h : j < 64) : vp_in (nI j) 64 = True := eq_true (vp_in_nI h (by decide))
theorem vi_128 {j : Nat} (h : j < 128) : vp_in (nI j) 128 = True := eq_true (vp_in_nI h (by decide))
def cp (M v : Int32) : Int32 := if v < 0 then 0 else if M < v then M else v
theorem nd_3 {d : Nat} (h : d < 10000) : ¬ nI d < -3 := by
  rw [fa_lt, nI_toInt (by omega), show (-3 : Int32).toInt = -3 by decide]; omega
theorem nd_g {d : Nat} (h : d < 10000) : (-3 : Int32) ≤ nI d := by
  rw [fa_le, nI_toInt (by omega), show (-3 : Int32).toInt = -3 by decide]; omega
theorem nd_v {d : Nat} (h : d < 10000) (a b c : Int32) : nmd (nI d) a b c = nI d := by
  have e : ∀ z : Int32, z.toInt < 0 → ¬ nI d = z := fun z hz q => by
    rw [fa_eq, nI_toInt (by omega)] at q; omega
  unfold nmd
  rw [if_neg (e _ (by decide)), if_neg (e _ (by decide)), if_neg (e _ (by decide))]
theorem gi_l {a b c most : Int32} {n u : Nat} {st m stk0 : Nat → Int32} {K : Int32 → (Nat → Int32) → Prop} (hT : TX u n st m) (hM : 0 ≤ most.toInt) (hK : ∀ st', K (cp most (gv a b c st n)) st') : ∀ d k stack, k + d = n → (∀ i, i < dp st k → stack i = sv a b c st k i) → (k = 0 → stack 0 = a) → l_X0_gives_13 a b c most (nI n) st K (d + 1) (nI (dp st k)) (nI k) stack := by
  obtain ⟨hn, -, ht, ho⟩ := hT
  intro d
  induction d with
  | zero =>
    intro k stack hk hs h0
    have e : k = n := by omega
    subst e
    rw [l_X0_gives_13, br_y (nI_le (Nat.le_refl _) (by omega))]
    refine ⟨vp_in_nI (n := 0) (by decide) (by decide), ?_⟩
    rw [c0]
    refine hd_6 (K := fun r => K r stack) hM ?_
    have e : stack 0 = gv a b c st k := by
      unfold gv
      by_cases q : k = 0
      · rw [if_pos q]; exact h0 q
      · rw [if_neg q]; exact hs 0 (ho.2 (by omega))
    rw [e]
    exact hK stack
  | succ d ih =>
    intro k stack hk hs h0
    have hkn : k < n := by omega
    have hk60 : k < 60 := by omega
    have hdk := dp_le st k
    have a0 : ¬ nI n ≤ nI k := nI_ge hkn (by omega)
    have ck : (nI k).toNatClampNeg = k := nI_clamp (by omega)
    have cd : (nI (dp st k)).toNatClampNeg = dp st k := nI_clamp (by omega)
    rw [l_X0_gives_13, br_n a0, vi_60 hk60, true_and, ck]
    -- a number or a name
    have push : (-3 : Int32) ≤ st k → ∀ r, r = nmd (st k) a b c → j_X0_gives_71 a b c most (nI n) st (fun x4' x5' stack' => l_X0_gives_13 a b c most (nI n) st K (d + 1) x4' x5' stack') K (nI (dp st k)) (nI k) (nI (dp st k)) r stack := by
      intro q r hr
      unfold j_X0_gives_71 j_X0_gives_164
      rw [vi_60 (by omega), true_and, cd, nI_1, nI_1]
      have e1 : dp st (k + 1) = dp st k + 1 := by rw [dp, if_pos q]
      rw [← e1]
      refine ih (k + 1) _ (by omega) (fun i hi => ?_) (fun z => absurd z (by omega))
      rw [sv, if_pos q, up_at, up_at]
      by_cases z : i = dp st k
      · rw [if_pos z, if_pos z, hr]
      · rw [if_neg z, if_neg z]; exact hs i (by omega)
    have b60 : nI (dp st k) < (60 : Int32) := nI_lt (b := 60) (by omega) (by decide)
    rcases ht k hkn with ⟨e, he, q, -, -⟩ | ⟨q, -, -⟩ | ⟨q, -, -⟩ | ⟨q, -, -⟩ | ⟨q, -⟩ | ⟨g, hg, q, -, -⟩
    · have a1 : ¬ st k < -3 := by rw [q]; exact nd_3 he
      have a2 : ¬ st k < 0 := by rw [q]; exact nI_pos (by omega)
      rw [br_n a1, br_y b60, br_n a2]
      exact push (by rw [q]; exact nd_g he) _ (by rw [q, nd_v he])
    · have a1 : ¬ st k < -3 := by rw [q]; decide
      have a2 : st k < 0 := by rw [q]; decide
      rw [br_n a1, br_y b60, br_y a2]
      have := push (by rw [q]; decide) a (by rw [q]; rfl)
      unfold v_X0_named
      rw [q]
      simp only [b1_0, true_implies, false_implies, not_true_eq_false, not_false_eq_true, and_true, true_and, implies_true]
      exact this
    · have a1 : ¬ st k < -3 := by rw [q]; decide
      have a2 : st k < 0 := by rw [q]; decide
      rw [br_n a1, br_y b60, br_y a2]
      have := push (by rw [q]; decide) b (by rw [q]; rfl)
      unfold v_X0_named
      rw [q]
      simp only [show ((-2 : Int32) = -1) = False by decide, b1_0, true_implies, false_implies, not_true_eq_false, not_false_eq_true, and_true, true_and, implies_true]
      exact this
    · have a1 : ¬ st k < -3 := by rw [q]; decide
      have a2 : st k < 0 := by rw [q]; decide
      rw [br_n a1, br_y b60, br_y a2]
      have := push (by rw [q]; decide) c (by rw [q]; rfl)
      unfold v_X0_named
      rw [q]
      simp only [show ((-3 : Int32) = -1) = False by decide, show ((-3 : Int32) = -2) = False by decide, b1_0, true_implies, false_implies, not_true_eq_false, not_false_eq_true, and_true, true_and, implies_true]
      exact this
    · have a1 : st k < -3 := by rw [q]; decide
      have h1 := (ho.1 k hkn).1 q
      have a2 : (1 : Int32) ≤ nI (dp st k) := nI_le (a := 1) h1 (by omega)
      have a3 : nI (dp st k) - 1 = nI (dp st k - 1) := pk_sub (b := 1) h1
      have a4 : (nI (dp st k - 1)).toNatClampNeg = dp st k - 1 := nI_clamp (by omega)
      rw [br_y a1, q]
      simp only [b1_0, true_implies, false_implies, not_true_eq_false, not_false_eq_true, and_true, true_and, implies_true, a2, a3, a4, vi_60 (show dp st k - 1 < 60 by omega), j_X0_gives_118, j_X0_gives_164, nI_1]
      have e1 : dp st (k + 1) = dp st k := by rw [dp, if_neg (by rw [q]; decide), if_pos q]
      rw [hs _ (show dp st k - 1 < dp st k by omega)]
      have fin : ∀ r, r = (if sv a b c st k (dp st k - 1) = 0 then 1 else 0) → l_X0_gives_13 a b c most (nI n) st K (d + 1) (nI (dp st k)) (nI (k + 1)) (upd stack (dp st k - 1) r) := by
        intro r hr
        rw [← e1]
        refine ih (k + 1) _ (by omega) (fun i hi => ?_) (fun z => absurd z (by omega))
        rw [e1]
        rw [sv, if_neg (by rw [q]; decide), if_pos q, up_at, up_at]
        by_cases z : i = dp st k - 1
        · rw [if_pos z, if_pos z, hr]
        · rw [if_neg z, if_neg z]; exact hs i (by omega)
      exact ⟨fun z => fin 0 (by rw [if_neg z]), fun z => fin 1 (by rw [if_pos z])⟩
    · obtain ⟨f1, f2, f3, f4⟩ := sg_f hg
      have a1 : st k < -3 := by rw [q]; exact f1
      have a5 : ¬ st k = -33 := by rw [q]; exact f2
      have a6 : ¬ (-3 : Int32) ≤ st k := by rw [q]; exact f4
      have h1 := (ho.1 k hkn).2 a6 a5
      have a2 : (2 : Int32) ≤ nI (dp st k) := nI_le (a := 2) h1 (by omega)
      have a3 : nI (dp st k) + (-1) = nI (dp st k - 1) := by
        have := pk_m1 (dp st k - 1)
        rw [show dp st k - 1 + 1 = dp st k by omega] at this
        exact this
      have a4 : (nI (dp st k - 1)).toNatClampNeg = dp st k - 1 := nI_clamp (by omega)
      have a7 : nI (dp st k - 1) - 1 = nI (dp st k - 2) := pk_sub (b := 1) (by omega)
      have a8 : (nI (dp st k - 2)).toNatClampNeg = dp st k - 2 := nI_clamp (by omega)
      rw [br_y a1, br_u a5, br_y a2, a3, a7, a4, a8, vi_60 (by omega), vi_60 (by omega), true_and, true_and]
      have e1 : dp st (k + 1) = dp st k - 1 := by rw [dp, if_neg a6, if_neg a5]
      rw [hs _ (show dp st k - 1 < dp st k by omega), hs _ (show dp st k - 2 < dp st k by omega)]
      refine jn_6 (by rw [q, f3]; exact hg) ?_
      rw [true_and]
      unfold j_X0_gives_164
      rw [nI_1, ← e1]
      refine ih (k + 1) _ (by omega) (fun i hi => ?_) (fun z => absurd z (by omega))
      rw [sv, if_neg a6, if_neg a5, up_at, up_at]
      by_cases z : i = dp st k - 2
      · rw [if_pos z, if_pos z, e1]
      · rw [if_neg z, if_neg z]; exact hs i (by omega)
/-- the class: what a text gives, held -/
theorem gi_v {a b c most : Int32} {n u : Nat} {st m stk : Nat → Int32} {K : Int32 → (Nat → Int32) → Prop} (hT : TX u n st m) (hM : 0 ≤ most.toInt) (hK : ∀ st', K (cp most (gv a b c st n)) st') : v_X0_gives a b c most (nI n) st stk K := by
  unfold v_X0_gives
  refine ⟨vp_in_nI (n := 0) (by decide) (by decide), n + 1, ?_⟩
  rw [c0]
  exact gi_l (stk0 := stk) hT hM hK n 0 _ (by omega) (fun i hi => absurd hi (Nat.not_lt_zero i)) (fun _ => pk_us)
theorem na_lt : ∀ u i, na u i < 128 := by
  intro u i
  unfold na
  split
  · split
    · decide
    · split <;> decide
  · split
    · decide
    · split <;> decide
theorem wo_l {a b c : Int32} {n u : Nat} {st m nm : Nat → Int32} {K : Int32 → (Nat → Int32) → Prop} (hu : u < 2) (hT : TX u n st m) (h0 : 0 < n) (hna : nm (na u 0) = a) (hnb : nm (na u 1) = b) (hnc : nm (na u 2) = c) (hK : ∀ st', K (gv a b c st n) st') : ∀ d k pile, k + d = n → (∀ i, i < dp st k → pile i = sv a b c st k i) → l_X7_worked_13 (nI u) m nm K (d + 1) (nI (48 + 125 * u)) (nI (dp st k)) (nI k) pile := by
  obtain ⟨hn, hm, ht, ho⟩ := hT
  have cb : (nI (48 + 125 * u)).toNatClampNeg = 48 + 125 * u := nI_clamp (by omega)
  intro d
  induction d with
  | zero =>
    intro k pile hk hs
    have e : k = n := by omega
    subst e
    rw [l_X7_worked_13, cb, hm, br_y (nI_le (Nat.le_refl _) (by omega))]
    refine ⟨vp_in_nI (by omega) (by decide), vp_in_nI (n := 0) (by decide) (by decide), ?_⟩
    rw [c0]
    have e : pile 0 = gv a b c st k := by
      unfold gv
      rw [if_neg (by omega)]; exact hs 0 (ho.2 (by omega))
    rw [e]
    exact hK pile
  | succ d ih =>
    intro k pile hk hs
    have hkn : k < n := by omega
    have hk60 : k < 60 := by omega
    have hdk := dp_le st k
    have a0 : ¬ nI n ≤ nI k := nI_ge hkn (by omega)
    have ck : (nI k).toNatClampNeg = k := nI_clamp (by omega)
    have cd : (nI (dp st k)).toNatClampNeg = dp st k := nI_clamp (by omega)
    have i1 : (nI (48 + 125 * u) + 1) + (2 : Int32) * nI k = nI (48 + 125 * u + 1 + 2 * k) := by
      rw [show (2 : Int32) = nI 2 from rfl, pk_mul, nI_1, nI_add]
    have i2 : (nI (48 + 125 * u) + 2) + (2 : Int32) * nI k = nI (48 + 125 * u + 2 + 2 * k) := by
      rw [show (2 : Int32) = nI 2 from rfl, pk_mul, nI_add, nI_add]
    have i3 : (nI (48 + 125 * u + 1 + 2 * k)).toNatClampNeg = 48 + 125 * u + 1 + 2 * k := nI_clamp (by omega)
    have i4 : (nI (48 + 125 * u + 2 + 2 * k)).toNatClampNeg = 48 + 125 * u + 2 + 2 * k := nI_clamp (by omega)
    rw [l_X7_worked_13, vi_382 (by omega), true_and, cb, hm, br_n a0, i1, i2, i3, i4, vi_382 (by omega), true_and, vi_382 (by omega), true_and]
    have push : (-3 : Int32) ≤ st k → ∀ r, r = nmd (st k) a b c → j_X7_worked_87 (nI u) m nm (fun x2' x3' x4' m_pile' => l_X7_worked_13 (nI u) m nm K (d + 1) x2' x3' x4' m_pile') K (nI (48 + 125 * u)) (nI (dp st k)) (nI k) (nI (dp st k)) r pile := by
      intro q r hr
      unfold j_X7_worked_87 j_X7_worked_157
      rw [vi_64 (by omega), true_and, cd, nI_1, nI_1]
      have e1 : dp st (k + 1) = dp st k + 1 := by rw [dp, if_pos q]
      rw [← e1]
      refine ih (k + 1) _ (by omega) (fun i hi => ?_)
      rw [sv, if_pos q, up_at, up_at]
      by_cases z : i = dp st k
      · rw [if_pos z, if_pos z, hr]
      · rw [if_neg z, if_neg z]; exact hs i (by omega)
    have nam : ∀ i, m (48 + 125 * u + 1 + 2 * k) = 1 → m (48 + 125 * u + 2 + 2 * k) = nI (na u i) → (-3 : Int32) ≤ st k → nm (na u i) = nmd (st k) a b c → j_X7_worked_65 (nI u) m nm (fun x2' x3' x4' m_pile' => l_X7_worked_13 (nI u) m nm K (d + 1) x2' x3' x4' m_pile') K (nI (48 + 125 * u)) (nI (dp st k)) (nI k) (m (48 + 125 * u + 1 + 2 * k)) (m (48 + 125 * u + 2 + 2 * k)) pile := by
      intro i hw hv q hr
      unfold j_X7_worked_65
      rw [hw, hv]
      have hl := na_lt u i
      simp only [b1_0, b1_0, true_implies, false_implies, not_true_eq_false, not_false_eq_true, and_true, true_and, implies_true, vi_128 hl, nI_clamp (show na u i < 2 ^ 31 by omega)]
      exact push q _ hr
    rcases ht k hkn with ⟨e, he, q, hw, hv⟩ | ⟨q, hw, hv⟩ | ⟨q, hw, hv⟩ | ⟨q, hw, hv⟩ | ⟨q, hw⟩ | ⟨g, hg, q, hw, hv⟩
    · rw [br_y hw]
      unfold j_X7_worked_65
      rw [hw, hv]
      simp only [b1_0, true_implies, false_implies, not_true_eq_false, not_false_eq_true, and_true, true_and, implies_true]
      exact push (by rw [q]; exact nd_g he) _ (by rw [q, nd_v he])
    · have w0 : ¬ m (48 + 125 * u + 1 + 2 * k) = 0 := by rw [hw]; decide
      rw [br_n w0, br_v hw]
      exact nam 0 hw hv (by rw [q]; decide) (by rw [q, hna]; rfl)
    · have w0 : ¬ m (48 + 125 * u + 1 + 2 * k) = 0 := by rw [hw]; decide
      rw [br_n w0, br_v hw]
      exact nam 1 hw hv (by rw [q]; decide) (by rw [q, hnb]; rfl)
    · have w0 : ¬ m (48 + 125 * u + 1 + 2 * k) = 0 := by rw [hw]; decide
      rw [br_n w0, br_v hw]
      exact nam 2 hw hv (by rw [q]; decide) (by rw [q, hnc]; rfl)
    · have h1 := (ho.1 k hkn).1 q
      have a3 : nI (dp st k) - 1 = nI (dp st k - 1) := pk_sub (b := 1) h1
      have a4 : (nI (dp st k - 1)).toNatClampNeg = dp st k - 1 := nI_clamp (by omega)
      simp only [hw, show ((2 : Int32) = 0) = False by decide, show ((2 : Int32) = 1) = False by decide, b1_0, true_implies, false_implies, not_true_eq_false, not_false_eq_true, and_true, true_and, implies_true, a3, a4, vi_64 (show dp st k - 1 < 64 by omega), j_X7_worked_123, j_X7_worked_157, nI_1]
      have e1 : dp st (k + 1) = dp st k := by rw [dp, if_neg (by rw [q]; decide), if_pos q]
      rw [hs _ (show dp st k - 1 < dp st k by omega)]
      have fin : ∀ r, r = (if sv a b c st k (dp st k - 1) = 0 then 1 else 0) → l_X7_worked_13 (nI u) m nm K (d + 1) (nI (48 + 125 * u)) (nI (dp st k)) (nI (k + 1)) (upd pile (dp st k - 1) r) := by
        intro r hr
        rw [← e1]
        refine ih (k + 1) _ (by omega) (fun i hi => ?_)
        rw [e1]
        rw [sv, if_neg (by rw [q]; decide), if_pos q, up_at, up_at]
        by_cases z : i = dp st k - 1
        · rw [if_pos z, if_pos z, hr]
        · rw [if_neg z, if_neg z]; exact hs i (by omega)
      exact ⟨fun z => fin 0 (by rw [if_neg z]), fun z => fin 1 (by rw [if_pos z])⟩
    · obtain ⟨f1, f2, f3, f4⟩ := sg_f hg
      have a5 : ¬ st k = -33 := by rw [q]; exact f2
      have a6 : ¬ (-3 : Int32) ≤ st k := by rw [q]; exact f4
      have h1 := (ho.1 k hkn).2 a6 a5
      have a3 : nI (dp st k) + (-1) = nI (dp st k - 1) := by
        have := pk_m1 (dp st k - 1)
        rw [show dp st k - 1 + 1 = dp st k by omega] at this
        exact this
      have a4 : (nI (dp st k - 1)).toNatClampNeg = dp st k - 1 := nI_clamp (by omega)
      have a7 : nI (dp st k - 1) - 1 = nI (dp st k - 2) := pk_sub (b := 1) (by omega)
      have a8 : (nI (dp st k - 2)).toNatClampNeg = dp st k - 2 := nI_clamp (by omega)
      have w0 : ¬ m (48 + 125 * u + 1 + 2 * k) = 0 := by rw [hw]; decide
      have w1 : ¬ m (48 + 125 * u + 1 + 2 * k) = 1 := by rw [hw]; decide
      have w2 : ¬ m (48 + 125 * u + 1 + 2 * k) = 2 := by rw [hw]; decide
      rw [br_n w0, br_u w1, br_u w2, a3, a7, a4, a8, vi_64 (by omega), vi_64 (by omega), true_and, true_and]
      have e1 : dp st (k + 1) = dp st k - 1 := by rw [dp, if_neg a6, if_neg a5]
      rw [hs _ (show dp st k - 1 < dp st k by omega), hs _ (show dp st k - 2 < dp st k by omega)]
      refine jn_7 ?_
      rw [true_and]
      unfold j_X7_worked_157
      rw [nI_1, ← e1]
      refine ih (k + 1) _ (by omega) (fun i hi => ?_)
      rw [sv, if_neg a6, if_neg a5, up_at, up_at, q, f3, hv]
      by_cases z : i = dp st k - 2
      · rw [if_pos z, if_pos z, e1]
      · rw [if_neg z, if_neg z]; exact hs i (by omega)
theorem wo_v {a b c : Int32} {n u : Nat} {st m nm pile : Nat → Int32} {K : Int32 → (Nat → Int32) → Prop} (hu : u < 2) (hT : TX u n st m) (h0 : 0 < n) (hna : nm (na u 0) = a) (hnb : nm (na u 1) = b) (hnc : nm (na u 2) = c) (hK : ∀ st', K (gv a b c st n) st') : v_X7_worked (nI u) m nm pile K := by
  unfold v_X7_worked
  refine ⟨n + 1, ?_⟩
  rw [show (48 : Int32) = nI 48 from rfl, show (125 : Int32) = nI 125 from rfl, pk_mul, nI_add]
  exact wo_l hu hT h0 hna hnb hnc hK n 0 pile (by omega) (fun i hi => absurd hi (Nat.not_lt_zero i))
-- what one takes another one to be
def rd (k e near sh day : Int32) : Int32 := if k = 1 then (10 * sh + 5) + e else if k = 2 then (10 * sh + near) / 2 else if k = 3 then 99 - 10 * sh else if k = 4 then ((10 * sh + 5) + e) + (day - day / 7 * 7) else if k = 5 then 11 * e else if k = 6 then (if sh = 0 then 90 - e else 10 * sh) else 10 * sh
def tl (k near sh day : Int32) : Int32 := if k = 1 then sh + (if near ≤ 50 then 0 else 1) else if k = 2 then sh - 1 else if k = 4 then (sh + (if near ≤ 50 then 0 else 1)) + (if day - day / 3 * 3 = 0 then 1 else 0) else if k = 5 then near / 10 else if k = 6 then 0 else sh
theorem d2_ : (¬ (2 : Int32) = 0) = True := by decide
theorem d3_ : (¬ (3 : Int32) = 0) = True := by decide
theorem d7_ : (¬ (7 : Int32) = 0) = True := by decide
theorem rd_6 {k e near sh day : Int32} {K : Int32 → Prop} (h : K (rd k e near sh day)) : v_X4_readsOf k e near sh day K := by
  unfold v_X4_readsOf
  unfold rd at h
  refine ⟨fun q => ?_, fun q => ?_⟩
  · rw [if_pos q] at h; exact h
  rw [if_neg q] at h
  refine ⟨fun q => ?_, fun q => ?_⟩
  · rw [if_pos q] at h; rw [d2_, true_and]; exact h
  rw [if_neg q] at h
  refine ⟨fun q => ?_, fun q => ?_⟩
  · rw [if_pos q] at h; exact h
  rw [if_neg q] at h
  refine ⟨fun q => ?_, fun q => ?_⟩
  · rw [if_pos q] at h; rw [d7_, true_and]; exact h
  rw [if_neg q] at h
  refine ⟨fun q => ?_, fun q => ?_⟩
  · rw [if_pos q] at h; exact h
  rw [if_neg q] at h
  refine ⟨fun q => ?_, fun q => ?_⟩
  · rw [if_pos q] at h; exact ifb' h
  · rw [if_neg q] at h; exact h
theorem rd_7 {N : Nat} {kd em ca near sh m : Nat → Int32} (h : RP N kd em ca near sh m) {i o : Nat} (hi : i < 8) (ho : o < 8) {day : Int32} (hd : m 0 = day) {K : Int32 → Prop} (hK : K (rd (kd i) (em i) (near o) (sh o) day)) : v_X7_readsOf (nI i) (nI o) m K := by
  unfold v_X7_readsOf
  obtain ⟨ik, ie, -, -, -⟩ := h.2 i hi
  obtain ⟨-, -, oN, oS, -⟩ := h.2 o ho
  simp only [it_0 hi, it_1 hi, it_2 ho, it_3 ho, ik, ie, oN, oS, c0, hd, v0_, true_and, d2_, d7_]
  have h := hK
  unfold rd at h
  refine ⟨fun q => ?_, fun q => ?_⟩
  · rw [if_pos q] at h; exact h
  rw [if_neg q] at h
  refine ⟨fun q => ?_, fun q => ?_⟩
  · rw [if_pos q] at h; exact h
  rw [if_neg q] at h
  refine ⟨fun q => ?_, fun q => ?_⟩
  · rw [if_pos q] at h; exact h
  rw [if_neg q] at h
  refine ⟨fun q => ?_, fun q => ?_⟩
  · rw [if_pos q] at h; exact h
  rw [if_neg q] at h
  refine ⟨fun q => ?_, fun q => ?_⟩
  · rw [if_pos q] at h; exact h
  rw [if_neg q] at h
  refine ⟨fun q => ?_, fun q => ?_⟩
  · rw [if_pos q] at h; exact ifb' h
  · rw [if_neg q] at h; exact h
theorem tl_6 {k near sh day : Int32} {K : Int32 → Prop} (h : K (tl k near sh day)) : v_X4_tellsOf k near sh day K := by
  have go : ∀ t, t = (if near ≤ 50 then 0 else (1 : Int32)) → j_X4_tellsOf_12 k near sh day K sh t := by
    intro t ht
    unfold tl at h
    rw [← ht] at h
    unfold j_X4_tellsOf_12
    refine ⟨fun q => ?_, fun q => ?_⟩
    · rw [if_pos q] at h; exact h
    rw [if_neg q] at h
    refine ⟨fun q => ?_, fun q => ?_⟩
    · rw [if_pos q] at h; exact h
    rw [if_neg q] at h
    refine ⟨fun q => ?_, fun q => ?_⟩
    · rw [if_pos q] at h
      rw [d3_, true_and]
      refine ⟨fun q2 => ?_, fun q2 => ?_⟩
      · rw [if_neg q2] at h; exact h
      · rw [if_pos q2] at h; exact h
    rw [if_neg q] at h
    refine ⟨fun q => ?_, fun q => ?_⟩
    · rw [if_pos q] at h; rw [d10, true_and]; exact h
    rw [if_neg q] at h
    exact ifb h
  unfold v_X4_tellsOf
  exact ⟨fun q => go 0 (by rw [if_pos q]), fun q => go 1 (by rw [if_neg q])⟩
theorem tl_7 {N : Nat} {kd em ca near sh m : Nat → Int32} (h : RP N kd em ca near sh m) {i : Nat} (hi : i < 8) {day : Int32} (hd : m 0 = day) {K : Int32 → Prop} (hK : K (tl (kd i) (near i) (sh i) day)) : v_X7_tellsOf (nI i) m K := by
  obtain ⟨ik, ie, oN, oS, -⟩ := h.2 i hi
  have go : ∀ t, t = (if near i ≤ 50 then 0 else (1 : Int32)) → j_X7_tellsOf_23 (nI i) m K (sh i) t := by
    intro t ht
    have h := hK
    unfold tl at h
    rw [← ht] at h
    unfold j_X7_tellsOf_23
    simp only [it_0 hi, it_2 hi, ik, oN, c0, hd, v0_, true_and, d3_, d10]
    refine ⟨fun q => ?_, fun q => ?_⟩
    · rw [if_pos q] at h; exact h
    rw [if_neg q] at h
    refine ⟨fun q => ?_, fun q => ?_⟩
    · rw [if_pos q] at h; exact h
    rw [if_neg q] at h
    refine ⟨fun q => ?_, fun q => ?_⟩
    · rw [if_pos q] at h
      refine ⟨fun q2 => ?_, fun q2 => ?_⟩
      · rw [if_neg q2] at h; exact h
      · rw [if_pos q2] at h; exact h
    rw [if_neg q] at h
    refine ⟨fun q => ?_, fun q => ?_⟩
    · rw [if_pos q] at h; exact h
    rw [if_neg q] at h
    exact ifb h
  unfold v_X7_tellsOf
  simp only [it_2 hi, it_3 hi, oN, oS]
  exact ⟨fun q => go 0 (by rw [if_pos q]), fun q => go 1 (by rw [if_neg q])⟩
/-- TAKES and SIGN with their names told -/
def tg (ts : Nat → Int32) (tn : Nat) (a b c : Int32) : Int32 := cp 99 (gv a b c ts tn)
def gg (gs : Nat → Int32) (gn : Nat) (a b c : Int32) : Int32 := cp 9 (gv a b c gs gn)
theorem tg_6 {a b c : Int32} {n : Nat} {st m stk : Nat → Int32} {K : Int32 → (Nat → Int32) → Prop} (hT : TX 0 n st m) (hK : ∀ st', K (tg st n a b c) st') : v_X0_gives a b c 99 (nI n) st stk K := gi_v hT (by decide) hK
theorem gg_6 {a b c : Int32} {n : Nat} {st m stk : Nat → Int32} {K : Int32 → (Nat → Int32) → Prop} (hT : TX 1 n st m) (hK : ∀ st', K (gg st n a b c) st') : v_X0_gives a b c 9 (nI n) st stk K := gi_v hT (by decide) hK
theorem ht_7 {u n : Nat} {st m : Nat → Int32} (hu : u < 2) (hT : TX u n st m) (K : Int32 → Prop) (h0 : n = 0 → K 0) (h1 : ¬ n = 0 → K 1) : v_X7_hasText (nI u) m K := by
  obtain ⟨hn, hm, -, -⟩ := hT
  unfold v_X7_hasText
  rw [show (48 : Int32) = nI 48 from rfl, show (125 : Int32) = nI 125 from rfl, pk_mul, nI_add, vi_382 (by omega), true_and, nI_clamp (by omega), hm]
  refine ⟨fun q => h0 ?_, fun q => h1 (fun z => q (by rw [z]; decide))⟩
  by_cases z : n = 0
  · exact z
  · exact absurd q (nI_nle (by omega) (by omega))
theorem tg_7 {a b c : Int32} {n : Nat} {st m nm pile : Nat → Int32} {K : Int32 → (Nat → Int32) → (Nat → Int32) → Prop} (hT : TX 0 n st m) (hK : ∀ nm' pile', K (tg st n a b c) nm' pile') : v_X7_takesTold a b c m nm pile K := by
  unfold v_X7_takesTold
  rw [show vp_in (114 : Int32) 128 = True from vi_128 (j := 114) (by decide), show vp_in (110 : Int32) 128 = True from vi_128 (j := 110) (by decide), show vp_in (115 : Int32) 128 = True from vi_128 (j := 115) (by decide), true_and, true_and, true_and]
  refine ht_7 (u := 0) (by decide) hT _ (fun z => ?_) (fun z => ?_)
  · simp only [b1_0, true_implies, false_implies, not_true_eq_false, not_false_eq_true, and_true, true_and, implies_true]
    unfold j_X7_takesTold_41
    refine hd_7 ?_
    have := hK (upd (upd (upd nm (114 : Int32).toNatClampNeg a) (110 : Int32).toNatClampNeg b) (115 : Int32).toNatClampNeg c) pile
    unfold tg gv at this
    rw [if_pos z] at this
    exact this
  · simp only [b1_0, true_implies, false_implies, not_true_eq_false, not_false_eq_true, and_true, true_and, implies_true]
    refine wo_v (u := 0) (a := a) (b := b) (c := c) (by decide) hT (by omega) ?_ ?_ ?_ (fun st' => ?_)
    · rfl
    · rfl
    · rfl
    · unfold j_X7_takesTold_41
      exact hd_7 (hK _ _)
theorem gg_7 {a b c : Int32} {n : Nat} {st m nm pile : Nat → Int32} {K : Int32 → (Nat → Int32) → (Nat → Int32) → Prop} (hT : TX 1 n st m) (hK : ∀ nm' pile', K (gg st n a b c) nm' pile') : v_X7_signTold a b c m nm pile K := by
  unfold v_X7_signTold
  rw [show vp_in (103 : Int32) 128 = True from vi_128 (j := 103) (by decide), show vp_in (110 : Int32) 128 = True from vi_128 (j := 110) (by decide), show vp_in (100 : Int32) 128 = True from vi_128 (j := 100) (by decide), true_and, true_and, true_and]
  refine ht_7 (u := 1) (by decide) hT _ (fun z => ?_) (fun z => ?_)
  · simp only [b1_0, true_implies, false_implies, not_true_eq_false, not_false_eq_true, and_true, true_and, implies_true]
    unfold j_X7_signTold_41
    refine hd_7 ?_
    have := hK (upd (upd (upd nm (103 : Int32).toNatClampNeg a) (110 : Int32).toNatClampNeg b) (100 : Int32).toNatClampNeg c) pile
    unfold gg gv at this
    rw [if_pos z] at this
    exact this
  · simp only [b1_0, true_implies, false_implies, not_true_eq_false, not_false_eq_true, and_true, true_and, implies_true]
    refine wo_v (u := 1) (a := a) (b := b) (c := c) (by decide) hT (by omega) ?_ ?_ ?_ (fun st' => ?_)
    · rfl
    · rfl
    · rfl
    · unfold j_X7_signTold_41
      exact hd_7 (hK _ _)
/-- what a reader of these kinds TAKES one to be who is so near and shows that, and what one would SHOW -/
def tk (kd em ts : Nat → Int32) (tn i : Nat) (near sh day : Int32) : Int32 := tg ts tn (rd (kd i) (em i) near sh day) near sh
def sn (kd gs : Nat → Int32) (gn i : Nat) (near sh day : Int32) : Int32 := gg gs gn (tl (kd i) near sh day) near (day - day / 7 * 7)
theorem tk_6 {n i : Nat} {near sh day : Int32} {kd em st m stk : Nat → Int32} {K : Int32 → (Nat → Int32) → Prop} (hi : i < 8) (hT : TX 0 n st m) (hK : ∀ st', K (tk kd em st n i near sh day) st') : v_X4_takenBy (nI i) near sh day kd em 99 (nI n) st stk K := by
  unfold v_X4_takenBy
  rw [vi_8 hi, cl_8 hi, true_and, true_and]
  exact rd_6 (tg_6 hT hK)
theorem tk_7 {N n i o : Nat} {day : Int32} {kd em ca near sh st m nm pile : Nat → Int32} {K : Int32 → (Nat → Int32) → (Nat → Int32) → Prop} (h : RP N kd em ca near sh m) (hi : i < 8) (ho : o < 8) (hd : m 0 = day) (hT : TX 0 n st m) (hK : ∀ nm' pile', K (tk kd em st n i (near o) (sh o) day) nm' pile') : v_X7_takes (nI i) (nI o) m nm pile K := by
  unfold v_X7_takes
  obtain ⟨-, -, oN, oS, -⟩ := h.2 o ho
  refine rd_7 h hi ho hd ?_
  simp only [it_2 ho, it_3 ho, oN, oS]
  exact tg_7 hT hK
theorem sn_6 {n i : Nat} {day : Int32} {kd near sh gs m stk : Nat → Int32} {K : Int32 → (Nat → Int32) → Prop} (hi : i < 8) (hT : TX 1 n gs m) (hK : ∀ st', K (sn kd gs n i (near i) (sh i) day) st') : v_X4_signOf (nI i) kd 9 (nI n) gs stk day near sh K := by
  unfold v_X4_signOf
  simp only [vi_8 hi, cl_8 hi, true_and, d7_]
  exact tl_6 (gg_6 hT hK)
theorem sn_7 {N n i : Nat} {day : Int32} {kd em ca near sh gs m nm pile : Nat → Int32} {K : Int32 → (Nat → Int32) → (Nat → Int32) → Prop} (h : RP N kd em ca near sh m) (hi : i < 8) (hd : m 0 = day) (hT : TX 1 n gs m) (hK : ∀ nm' pile', K (sn kd gs n i (near i) (sh i) day) nm' pile') : v_X7_signOf (nI i) m nm pile K := by
  unfold v_X7_signOf
  obtain ⟨-, -, oN, oS, -⟩ := h.2 i hi
  refine tl_7 h hi hd ?_
  simp only [it_2 hi, oN, v0_, c0, hd, true_and, d7_]
  exact gg_7 hT hK
theorem p_taken {N n : Nat} {x y day : Int32} {kd em ca near sh ts m me errs stk nm pile : Nat → Int32} {P : Int32 → (Nat → Int32) → (Nat → Int32) → Int32 → (Nat → Int32) → (Nat → Int32) → (Nat → Int32) → Prop} (hN : N ≤ 8) (h : RP N kd em ca near sh m) (hd : m 0 = day) (hT : TX 0 n ts m) (hE : RE errs me)
    (hP : ∀ r stk' errs' me' nm' pile', RE errs' me' → P r stk' errs' r me' nm' pile') :
    v_X6_taken x y (nI N) kd em day near sh 99 (nI n) ts stk errs (fun r stk' errs' => v_X7_taken x y m me nm pile (fun r' me' nm' pile' => P r stk' errs' r' me' nm' pile')) := by
  have herr := hP (-1000000001) stk (upd errs 1 (errs 1 + 1)) (upd me 1 (me 1 + 1)) nm pile (RE_up hE 1)
  unfold v_X6_taken v_X7_taken
  rcases ou_or x (n := N) (by omega) with hx | ⟨i, hi, rfl⟩
  · simp only [ha_no hN hx, at_no hN h.1 (Or.inl hx), b1_0, true_implies, false_implies, not_true_eq_false, not_false_eq_true, and_true, true_and, implies_true, j_X6_taken_27, er61, er71]; exact herr
  rcases ou_or y (n := N) (by omega) with hy | ⟨j, hj, rfl⟩
  · simp only [ha_yes hN hi, ha_no hN hy, at_no hN h.1 (Or.inr (Or.inl hy)), b1_0, true_implies, false_implies, not_true_eq_false, not_false_eq_true, and_true, true_and, implies_true, j_X6_taken_27, er61, er71]; exact herr
  by_cases c : i = j
  · subst c
    simp only [ha_yes hN hi, at_no hN h.1 (Or.inr (Or.inr rfl)), b1_0, true_implies, false_implies, not_true_eq_false, not_false_eq_true, and_true, true_and, implies_true, j_X6_taken_27, er61, er71]; exact herr
  have e : ¬ nI i = nI j := fun q => c ((nI_eq (by omega) (by omega)).mp q)
  have hi8 : i < 8 := by omega
  have hj8 : j < 8 := by omega
  simp only [ha_yes hN hi, ha_yes hN hj, at_yes hN h.1 hi hj c, e, vi_8 hj8, cl_8 hj8, b1_0, true_implies, false_implies, not_true_eq_false, not_false_eq_true, and_true, true_and, implies_true]
  refine tk_6 hi8 hT (fun st' => ?_)
  refine tk_7 h hi8 hj8 hd hT (fun nm' pile' => ?_)
  exact hP _ _ _ _ _ _ hE
theorem us_no {x : Int32} (h : ou x 2) (K : Int32 → Prop) : v_X6_isUse x K = K 0 := by
  have hi := ou_int (by decide) h
  unfold v_X6_isUse
  have n0 : ¬ x = 0 := fun e => by subst e; revert hi; decide
  have n1 : ¬ x = 1 := fun e => by subst e; revert hi; decide
  simp only [n0, n1, b1_0, true_implies, false_implies, not_true_eq_false, not_false_eq_true, and_true, true_and, implies_true]
theorem us_0 (K : Int32 → Prop) : v_X6_isUse 0 K = K 1 := by
  unfold v_X6_isUse; simp only [b1_0, true_implies, false_implies, not_true_eq_false, not_false_eq_true, and_true, true_and, implies_true]
theorem us_1 (K : Int32 → Prop) : v_X6_isUse 1 K = K 1 := by
  unfold v_X6_isUse; simp only [b1_0, b1_0, true_implies, false_implies, not_true_eq_false, not_false_eq_true, and_true, true_and, implies_true]
theorem p_law {x a b c : Int32} {tn gn : Nat} {ts gs m me errs tst gst nm pile : Nat → Int32} {P : Int32 → (Nat → Int32) → (Nat → Int32) → (Nat → Int32) → Int32 → (Nat → Int32) → (Nat → Int32) → (Nat → Int32) → Prop} (hT : TX 0 tn ts m) (hG : TX 1 gn gs m) (hE : RE errs me)
    (hP : ∀ r tst' gst' errs' me' nm' pile', RE errs' me' → P r tst' gst' errs' r me' nm' pile') :
    v_X6_law x a b c 99 (nI tn) ts tst 9 (nI gn) gs gst errs (fun r tst' gst' errs' => v_X7_law x a b c m me nm pile (fun r' me' nm' pile' => P r tst' gst' errs' r' me' nm' pile')) := by
  have herr := hP (-1000000001) tst gst (upd errs 1 (errs 1 + 1)) (upd me 1 (me 1 + 1)) nm pile (RE_up hE 1)
  unfold v_X6_law v_X7_law
  rcases ou_or x (n := 2) (by decide) with hx | ⟨u, hu, rfl⟩
  · have i1 : ∀ K, v_X7_in x 0 1 K = K 0 := i_no 1 (by decide) hx
    simp only [us_no hx, i1, b1_0, true_implies, false_implies, not_true_eq_false, not_false_eq_true, and_true, true_and, implies_true, er61, er71]; exact herr
  have i1 : ∀ K, v_X7_in (nI u) 0 1 K = K 1 := i_yes 1 (by decide) hu
  have hc : u = 0 ∨ u = 1 := by omega
  rcases hc with rfl | rfl
  · have i2 : ∀ K, v_X7_in 0 0 1 K = K 1 := i1
    simp only [show nI 0 = (0 : Int32) from rfl, us_0, i2, show ((0 : Int32) = 1) = False by decide, b1_0, true_implies, false_implies, not_true_eq_false, not_false_eq_true, and_true, true_and, implies_true]
    exact tg_6 hT (fun st' => tg_7 hT (fun nm' pile' => hP _ _ _ _ _ _ _ hE))
  · have i2 : ∀ K, v_X7_in 1 0 1 K = K 1 := i1
    simp only [show nI 1 = (1 : Int32) from rfl, us_1, i2, b1_0, true_implies, false_implies, not_true_eq_false, not_false_eq_true, and_true, true_and, implies_true]
    exact gg_6 hG (fun st' => gg_7 hG (fun nm' pile' => hP _ _ _ _ _ _ _ hE))
