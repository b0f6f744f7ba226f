set_option maxHeartbeats 4000000 in
set_option maxRecDepth 100000 in
theorem c_X6_nears (l : Launch) (G : Gt) (b : Nat → Nat) (images : Int32) (n_people : Int32) (n_taped : Int32) (n_waiting : Int32) (n_z : Int32) (n_day : Int32) (n_near : Nat → Int32) (shb : Nat → Int32) (shs : Nat → Int32) (shn : Nat → Nat → Int32) (errs : Nat → Int32) (p1 : Int32) (K : Int32 → (Nat → Int32) → (Nat → Int32) → Prop) (hv : v_X6_nears p1 n_people n_near shb shs shn errs K) : CI l G yX6_nears (.code yX6_nears cX6_nears 4 (some .int) :: wsG) (rmm 2 41) [.ref (b 0), .int p1] (wd_X6_26 G b images n_people n_taped n_waiting n_z n_day n_near shb shs shn errs) (S := (Nat → Int32) × (Nat → Int32)) (fun u => wd_X6_26 G b images n_people n_taped n_waiting n_z n_day u.1 shb shs shn u.2) (fun r u => K r u.1 u.2) := by
  refine ci_intro (by decide) rfl (fun _ => rfl) (Nat.le_of_ble_eq_true rfl) ?_
  intro p e s m args below meth c A H ls Q C hW hS hl ret
  have hx := C.1.1
  have hb := C.1.2.1
  generalize hls : ([] : List Loc) = locs at hS ⊢
  have hl : lv_has ls 4 [(0, .ref (b 0)), (1, .int p1)] := hl
  have h_l_X6_nears_40 : ∀ (n : Nat), ∀ (x3 : Int32) (n_near : Nat → Int32) (errs : Nat → Int32) (H : Heap) (locs : List Loc) (ls : Array Slot), p1.toNatClampNeg < 4 → wo G A (wd_X6_26 G b images n_people n_taped n_waiting n_z n_day n_near shb shs shn errs) H → va_S A s.heap H locs → lv_has ls 4 [(0, .ref (b 0)), (2, .ref (b (43 + 2 * p1.toNatClampNeg))), (3, .int x3)] → l_X6_nears_40 p1 n_people shb shs shn K n x3 n_near errs → W p l e (rmm 2 41) s m args below meth c H locs 0 0 Q (F0 m 40 ls []) := by
    intro n
    induction n with
    | zero =>
      intro x3 n_near errs H locs ls hj_p1_toNatClampNeg hW hS hl hv
      exact False.elim hv
    | succ n ih =>
      intro x3 n_near errs H locs ls hj_p1_toNatClampNeg hW hS hl hv
      refine lv_iload_n hx hb dX6_nears_40 rfl (lv_at hl 2 rfl) ?_
      refine lv_aload_n hx hb dX6_nears_41 rfl (lv_at hl 1 rfl) ?_
      refine q_getN C kc2 hW (5 + 2 * p1.toNatClampNeg) (co_4 (P := fun j => (wd_X6_26 G b images n_people n_taped n_waiting n_z n_day n_near shb shs shn errs)[5 + 2 * j]? = some (b (43 + 2 * j), .inr (2, [.int (shb j), .int (shs j), .ref (b (43 + 2 * j + 1))]))) rfl rfl rfl rfl hj_p1_toNatClampNeg) 1 (by decide) nf_X6_220 rfl rfl dX6_nears_42 ?_
      refine lv_icmp_ge (tgt := 95) hx hb dX6_nears_45 (by decide) (fun c_10 => ?_) (fun c_10 => ?_)
      · replace hv := hv.1 c_10
        refine lv_iload_n hx hb dX6_nears_95 rfl (lv_at hl 2 rfl) ?_
        exact ret (n_near, errs) x3 H locs ls _ rfl hW hS hv dX6_nears_96
      · replace hv := hv.2 c_10
        refine lv_iload_n hx hb dX6_nears_48 rfl (lv_at hl 2 rfl) ?_
        refine lv_aload_n hx hb dX6_nears_49 rfl (lv_at hl 0 rfl) ?_
        refine q_get C kc6 hW 0 rfl 0 (by decide) fl_X6_10 rfl rfl dX6_nears_50 ?_
        refine q_getN C kc4 hW 1 rfl 0 (by decide) nf_X6_68 rfl rfl dX6_nears_53 ?_
        refine lv_icmp_ge (tgt := 95) hx hb dX6_nears_56 (by decide) (fun c_11 => ?_) (fun c_11 => ?_)
        · replace hv := hv.1 c_11
          refine lv_iload_n hx hb dX6_nears_95 rfl (lv_at hl 2 rfl) ?_
          exact ret (n_near, errs) x3 H locs ls _ rfl hW hS hv dX6_nears_96
        · replace hv := hv.2 c_11
          refine lv_aload_n hx hb dX6_nears_59 rfl (lv_at hl 1 rfl) ?_
          refine q_getN C kc2 hW (5 + 2 * p1.toNatClampNeg) (co_4 (P := fun j => (wd_X6_26 G b images n_people n_taped n_waiting n_z n_day n_near shb shs shn errs)[5 + 2 * j]? = some (b (43 + 2 * j), .inr (2, [.int (shb j), .int (shs j), .ref (b (43 + 2 * j + 1))]))) rfl rfl rfl rfl hj_p1_toNatClampNeg) 2 (by decide) nf_X6_230 rfl rfl dX6_nears_60 ?_
          refine lv_iload_n hx hb dX6_nears_63 rfl (lv_at hl 2 rfl) ?_
          obtain ⟨h_12, hv⟩ := hv
          refine q_iald C hW (6 + 2 * p1.toNatClampNeg) (co_4 (P := fun j => (wd_X6_26 G b images n_people n_taped n_waiting n_z n_day n_near shb shs shn errs)[6 + 2 * j]? = some (b (43 + 2 * j + 1), .inl (G.2.1, 24, .inl (shn j)))) rfl rfl rfl rfl hj_p1_toNatClampNeg) h_12 dX6_nears_64 ?_
          refine q_callS (rest := []) (n := 1) C (c_X6_isNear l G (shn p1.toNatClampNeg x3.toNatClampNeg) _ hv) ml_X6_58 kb_X6_isNear rfl ⟨⟨rfl, rfl⟩, (Nat.le_of_ble_eq_true rfl), (Nat.le_of_ble_eq_true rfl)⟩ hW hS hl.1 rfl (Nat.le_of_ble_eq_true rfl) dX6_nears_65 ⟨Nat.zero_le _, Nat.zero_le _⟩ (fun r_13 u_14 H locs hv hW hS => ?_)
          obtain ⟨hv_b_13, hv⟩ := hv
          try dsimp only at hv
          refine lv_if_eq (tgt := 95) hx hb dX6_nears_68 (by decide) (fun c_15 => ?_) (fun c_15 => ?_)
          · replace hv := hv.1 c_15
            refine lv_iload_n hx hb dX6_nears_95 rfl (lv_at hl 2 rfl) ?_
            exact ret (n_near, errs) x3 H locs ls _ rfl hW hS hv dX6_nears_96
          · replace hv := hv.2 c_15
            refine lv_aload_n hx hb dX6_nears_71 rfl (lv_at hl 0 rfl) ?_
            refine q_get C kc6 hW 0 rfl 0 (by decide) fl_X6_10 rfl rfl dX6_nears_72 ?_
            refine q_getN C kc4 hW 1 rfl 4 (by decide) nf_X6_85 rfl rfl dX6_nears_75 ?_
            refine q_getN C kc3 hW 2 rfl 0 (by decide) nf_X6_88 rfl rfl dX6_nears_78 ?_
            refine lv_iload_n hx hb dX6_nears_81 rfl (lv_at hl 2 rfl) ?_
            refine lv_aload_n hx hb dX6_nears_82 rfl (lv_at hl 1 rfl) ?_
            refine q_getN C kc2 hW (5 + 2 * p1.toNatClampNeg) (co_4 (P := fun j => (wd_X6_26 G b images n_people n_taped n_waiting n_z n_day n_near shb shs shn errs)[5 + 2 * j]? = some (b (43 + 2 * j), .inr (2, [.int (shb j), .int (shs j), .ref (b (43 + 2 * j + 1))]))) rfl rfl rfl rfl hj_p1_toNatClampNeg) 2 (by decide) nf_X6_230 rfl rfl dX6_nears_83 ?_
            refine lv_iload_n hx hb dX6_nears_86 rfl (lv_at hl 2 rfl) ?_
            obtain ⟨h_16, hv⟩ := hv
            refine q_iald C hW (6 + 2 * p1.toNatClampNeg) (co_4 (P := fun j => (wd_X6_26 G b images n_people n_taped n_waiting n_z n_day n_near shb shs shn errs)[6 + 2 * j]? = some (b (43 + 2 * j + 1), .inl (G.2.1, 24, .inl (shn j)))) rfl rfl rfl rfl hj_p1_toNatClampNeg) h_16 dX6_nears_87 ?_
            obtain ⟨h_17, hv⟩ := hv
            refine q_iast C hW hS 3 rfl h_17 dX6_nears_88 (fun H locs hW hS => ?_)
            have hW : wo G A (wd_X6_26 G b images n_people n_taped n_waiting n_z n_day (upd n_near x3.toNatClampNeg (shn p1.toNatClampNeg x3.toNatClampNeg)) shb shs shn errs) H := hW
            refine lv_iinc (v := (x3 + 1)) (lv' := [(3, .int (x3 + 1)), (0, .ref (b 0)), (2, .ref (b (43 + 2 * p1.toNatClampNeg)))]) hx hb dX6_nears_89 hl (k := 2) rfl rfl (by decide) rfl (fun ls hl => ?_)
            refine lv_goto (tgt := 40) hx hb dX6_nears_92 (by decide) ?_
            exact ih (x3 + 1) (upd n_near x3.toNatClampNeg (shn p1.toNatClampNeg x3.toNatClampNeg)) errs H locs ls hj_p1_toNatClampNeg hW hS (lv_sub hl [1, 2, 0] rfl) hv
  refine lv_iload_n hx hb dX6_nears_0 rfl (lv_at hl 1 rfl) ?_
  refine q_callS (rest := []) (n := 1) C (c_X6_isSheet l G p1 _ hv) ml_X6_187 kb_X6_isSheet rfl ⟨⟨rfl, rfl⟩, (Nat.le_of_ble_eq_true rfl), (Nat.le_of_ble_eq_true rfl)⟩ hW hS hl.1 rfl (Nat.le_of_ble_eq_true rfl) dX6_nears_1 ⟨Nat.zero_le _, Nat.zero_le _⟩ (fun r_1 u_2 H locs hv hW hS => ?_)
  obtain ⟨hv_b_1, hv⟩ := hv
  try dsimp only at hv
  refine lv_if_ne (tgt := 13) hx hb dX6_nears_4 (by decide) (fun c_3 => ?_) (fun c_3 => ?_)
  · replace hv := hv.1 c_3
    refine lv_aload_n hx hb dX6_nears_13 rfl (lv_at hl 0 rfl) ?_
    refine q_get C kc6 hW 0 rfl 7 (by decide) fl_X6_46 rfl rfl dX6_nears_14 ?_
    refine lv_iload_n hx hb dX6_nears_17 rfl (lv_at hl 1 rfl) ?_
    obtain ⟨h_4, hv⟩ := hv
    refine va_aldq (D := G.1) (cl := GB_cl) (tys := tyG G) hx hb C.2.1 hW.1 4 2 rfl rfl h_4 dX6_nears_18 ?_
    have hj_p1_toNatClampNeg : p1.toNatClampNeg < 4 := Nat.not_le.mp fun q => h_4 (Or.inr q)
    refine q_callN (rest := []) (n := 0) C (c_X2_isMissing l G (fun k => b (43 + 2 * p1.toNatClampNeg + k)) (shb p1.toNatClampNeg) (shs p1.toNatClampNeg) _ hv) nm_X6_190 kb_X2_isMissing rfl ⟨⟨rfl, rfl⟩, (Nat.le_of_ble_eq_true rfl), (Nat.le_of_ble_eq_true rfl)⟩ hW hS [5 + 2 * p1.toNatClampNeg] (co_4 (P := fun j => va_nd [5 + 2 * j] = true) rfl rfl rfl rfl hj_p1_toNatClampNeg) (co_4 (P := fun j => [5 + 2 * j].map (fun i => (wd_X6_26 G b images n_people n_taped n_waiting n_z n_day n_near shb shs shn errs)[i]?) = (wd_X2_0 G (fun k => b (43 + 2 * j + k)) (shb j) (shs j)).map some) rfl rfl rfl rfl hj_p1_toNatClampNeg) kc2 (q0 := 5 + 2 * p1.toNatClampNeg) (co_4 (P := fun j => (wd_X6_26 G b images n_people n_taped n_waiting n_z n_day n_near shb shs shn errs)[5 + 2 * j]? = some (b (43 + 2 * j), .inr (2, [.int (shb j), .int (shs j), .ref (b (43 + 2 * j + 1))]))) rfl rfl rfl rfl hj_p1_toNatClampNeg) hl.1 rfl (Nat.le_of_ble_eq_true rfl) dX6_nears_19 ⟨Nat.zero_le _, Nat.zero_le _⟩ (fun r_5 u_6 H locs hv hW hS => ?_)
    obtain ⟨hv_b_5, hv⟩ := hv
    try dsimp only at hv
    have e_7 := co_4 (P := fun j => mix (wd_X6_26 G b images n_people n_taped n_waiting n_z n_day n_near shb shs shn errs) [5 + 2 * j] (wd_X2_0 G (fun k => b (43 + 2 * j + k)) (shb j) (shs j)) = (wd_X6_26 G b images n_people n_taped n_waiting n_z n_day n_near shb shs shn errs)) rfl rfl rfl rfl hj_p1_toNatClampNeg
    have hW : wo G A (wd_X6_26 G b images n_people n_taped n_waiting n_z n_day n_near shb shs shn errs) H := Eq.mp (congrArg (fun z => wo G A z H) e_7) hW
    refine lv_if_eq (tgt := 31) hx hb dX6_nears_22 (by decide) (fun c_8 => ?_) (fun c_8 => ?_)
    · replace hv := hv.1 c_8
      refine lv_aload_n hx hb dX6_nears_31 rfl (lv_at hl 0 rfl) ?_
      refine q_get C kc6 hW 0 rfl 7 (by decide) fl_X6_46 rfl rfl dX6_nears_32 ?_
      refine lv_iload_n hx hb dX6_nears_35 rfl (lv_at hl 1 rfl) ?_
      obtain ⟨h_9, hv⟩ := hv
      refine va_aldq (D := G.1) (cl := GB_cl) (tys := tyG G) hx hb C.2.1 hW.1 4 2 rfl rfl h_9 dX6_nears_36 ?_
      have hj_p1_toNatClampNeg : p1.toNatClampNeg < 4 := Nat.not_le.mp fun q => h_9 (Or.inr q)
      refine lv_astore_n (lv' := [(2, .ref (b (43 + 2 * p1.toNatClampNeg))), (0, .ref (b 0)), (1, .int p1)]) hx hb dX6_nears_37 rfl hl (by decide) rfl (fun ls hl => ?_)
      refine lv_iconst (v := 0) hx hb dX6_nears_38 kic_0 ?_
      refine lv_istore_n (lv' := [(3, .int (0 : Int32)), (2, .ref (b (43 + 2 * p1.toNatClampNeg))), (0, .ref (b 0)), (1, .int p1)]) hx hb dX6_nears_39 rfl hl (by decide) rfl (fun ls hl => ?_)
      obtain ⟨n_18, hv⟩ := hv
      exact h_l_X6_nears_40 n_18 (0 : Int32) n_near errs H locs ls hj_p1_toNatClampNeg hW hS (lv_sub hl [2, 1, 0] rfl) hv
    · replace hv := hv.2 c_8
      refine lv_aload_n hx hb dX6_nears_25 rfl (lv_at hl 0 rfl) ?_
      refine lv_iconst (v := 2) hx hb dX6_nears_26 kic_2 ?_
      refine q_callV (rest := []) (n := 1) C (c_X6_error l G b images errs (2 : Int32) _ hv) ml_X6_64 kb_X6_error rfl ⟨⟨rfl, rfl⟩, (Nat.le_of_ble_eq_true rfl), (Nat.le_of_ble_eq_true rfl)⟩ hW hS [0, 13] rfl rfl kc6 (q0 := 0) rfl hl.1 rfl (Nat.le_of_ble_eq_true rfl) dX6_nears_27 ⟨Nat.zero_le _, Nat.zero_le _⟩ (fun r_19 u_20 H locs hv hW hS => ?_)
      obtain ⟨errs_19, rfl⟩ : ∃ z, z = u_20 := ⟨_, rfl⟩
      try dsimp only at hv
      have hW : wo G A (wd_X6_26 G b images n_people n_taped n_waiting n_z n_day n_near shb shs shn errs_19) H := hW
      exact ret (n_near, errs_19) r_19 H locs ls _ rfl hW hS hv dX6_nears_30
  · replace hv := hv.2 c_3
    refine lv_aload_n hx hb dX6_nears_7 rfl (lv_at hl 0 rfl) ?_
    refine lv_iconst (v := 1) hx hb dX6_nears_8 kic_1 ?_
    refine q_callV (rest := []) (n := 1) C (c_X6_error l G b images errs (1 : Int32) _ hv) ml_X6_64 kb_X6_error rfl ⟨⟨rfl, rfl⟩, (Nat.le_of_ble_eq_true rfl), (Nat.le_of_ble_eq_true rfl)⟩ hW hS [0, 13] rfl rfl kc6 (q0 := 0) rfl hl.1 rfl (Nat.le_of_ble_eq_true rfl) dX6_nears_9 ⟨Nat.zero_le _, Nat.zero_le _⟩ (fun r_21 u_22 H locs hv hW hS => ?_)
    obtain ⟨errs_21, rfl⟩ : ∃ z, z = u_22 := ⟨_, rfl⟩
    try dsimp only at hv
    have hW : wo G A (wd_X6_26 G b images n_people n_taped n_waiting n_z n_day n_near shb shs shn errs_21) H := hW
    exact ret (n_near, errs_21) r_21 H locs ls _ rfl hW hS hv dX6_nears_12
set_option maxHeartbeats 4000000 in
set_option maxRecDepth 100000 in
theorem c_X6_judge (l : Launch) (G : Gt) (b : Nat → Nat) (images : Int32) (n_people : Int32) (n_taped : Int32) (n_waiting : Int32) (n_z : Int32) (n_kind : Nat → Int32) (n_day : Int32) (n_near : Nat → Int32) (n_shows : Nat → Int32) (n_gmost : Int32) (n_gsize : Int32) (n_gsteps : Nat → Int32) (n_gstack : Nat → Int32) (shb : Nat → Int32) (shs : Nat → Int32) (shn : Nat → Nat → Int32) (errs : Nat → Int32) (p1 : Int32) (K : Int32 → (Nat → Int32) → (Nat → Int32) → Prop) (hv : v_X6_judge p1 n_people n_kind n_day n_near n_shows n_gmost n_gsize n_gsteps n_gstack shb shs shn errs K) : CI l G yX6_judge (.code yX6_judge cX6_judge 4 (some .int) :: wsG) (rmm 3 72) [.ref (b 0), .int p1] (wd_X6_27 G b images n_people n_taped n_waiting n_z n_kind n_day n_near n_shows n_gmost n_gsize n_gsteps n_gstack shb shs shn errs) (S := (Nat → Int32) × (Nat → Int32)) (fun u => wd_X6_27 G b images n_people n_taped n_waiting n_z n_kind n_day n_near n_shows n_gmost n_gsize n_gsteps u.1 shb shs shn u.2) (fun r u => K r u.1 u.2) := by
  refine ci_intro (by decide) rfl (fun _ => rfl) (Nat.le_of_ble_eq_true rfl) ?_
  intro p e s m args below meth c A H ls Q C hW hS hl ret
  have hx := C.1.1
  have hb := C.1.2.1
  generalize hls : ([] : List Loc) = locs at hS ⊢
  have hl : lv_has ls 4 [(0, .ref (b 0)), (1, .int p1)] := hl
  have h_l_X6_judge_40 : ∀ (n : Nat), ∀ (x3 : Int32) (n_gstack : Nat → Int32) (errs : Nat → Int32) (H : Heap) (locs : List Loc) (ls : Array Slot), p1.toNatClampNeg < 4 → wo G A (wd_X6_27 G b images n_people n_taped n_waiting n_z n_kind n_day n_near n_shows n_gmost n_gsize n_gsteps n_gstack shb shs shn errs) H → va_S A s.heap H locs → lv_has ls 4 [(0, .ref (b 0)), (2, .ref (b (43 + 2 * p1.toNatClampNeg))), (3, .int x3)] → l_X6_judge_40 p1 n_people n_kind n_day n_near n_shows n_gmost n_gsize n_gsteps shb shs shn K n x3 n_gstack errs → W p l e (rmm 3 72) s m args below meth c H locs 0 0 Q (F0 m 40 ls []) := by
    intro n
    induction n with
    | zero =>
      intro x3 n_gstack errs H locs ls hj_p1_toNatClampNeg hW hS hl hv
      exact False.elim hv
    | succ n ih =>
      intro x3 n_gstack errs H locs ls hj_p1_toNatClampNeg hW hS hl hv
      refine lv_iload_n hx hb dX6_judge_40 rfl (lv_at hl 2 rfl) ?_
      refine lv_aload_n hx hb dX6_judge_41 rfl (lv_at hl 1 rfl) ?_
      refine q_getN C kc2 hW (10 + 2 * p1.toNatClampNeg) (co_4 (P := fun j => (wd_X6_27 G b images n_people n_taped n_waiting n_z n_kind n_day n_near n_shows n_gmost n_gsize n_gsteps n_gstack shb shs shn errs)[10 + 2 * j]? = some (b (43 + 2 * j), .inr (2, [.int (shb j), .int (shs j), .ref (b (43 + 2 * j + 1))]))) rfl rfl rfl rfl hj_p1_toNatClampNeg) 1 (by decide) nf_X6_220 rfl rfl dX6_judge_42 ?_
      refine lv_icmp_ge (tgt := 89) hx hb dX6_judge_45 (by decide) (fun c_10 => ?_) (fun c_10 => ?_)
      · replace hv := hv.1 c_10
        refine lv_iload_n hx hb dX6_judge_89 rfl (lv_at hl 2 rfl) ?_
        exact ret (n_gstack, errs) x3 H locs ls _ rfl hW hS hv dX6_judge_90
      · replace hv := hv.2 c_10
        refine lv_iload_n hx hb dX6_judge_48 rfl (lv_at hl 2 rfl) ?_
        refine lv_aload_n hx hb dX6_judge_49 rfl (lv_at hl 0 rfl) ?_
        refine q_get C kc6 hW 0 rfl 0 (by decide) fl_X6_10 rfl rfl dX6_judge_50 ?_
        refine q_getN C kc4 hW 1 rfl 0 (by decide) nf_X6_68 rfl rfl dX6_judge_53 ?_
        refine lv_icmp_ge (tgt := 89) hx hb dX6_judge_56 (by decide) (fun c_11 => ?_) (fun c_11 => ?_)
        · replace hv := hv.1 c_11
          refine lv_iload_n hx hb dX6_judge_89 rfl (lv_at hl 2 rfl) ?_
          exact ret (n_gstack, errs) x3 H locs ls _ rfl hW hS hv dX6_judge_90
        · replace hv := hv.2 c_11
          refine lv_aload_n hx hb dX6_judge_59 rfl (lv_at hl 1 rfl) ?_
          refine q_getN C kc2 hW (10 + 2 * p1.toNatClampNeg) (co_4 (P := fun j => (wd_X6_27 G b images n_people n_taped n_waiting n_z n_kind n_day n_near n_shows n_gmost n_gsize n_gsteps n_gstack shb shs shn errs)[10 + 2 * j]? = some (b (43 + 2 * j), .inr (2, [.int (shb j), .int (shs j), .ref (b (43 + 2 * j + 1))]))) rfl rfl rfl rfl hj_p1_toNatClampNeg) 2 (by decide) nf_X6_230 rfl rfl dX6_judge_60 ?_
          refine lv_iload_n hx hb dX6_judge_63 rfl (lv_at hl 2 rfl) ?_
          obtain ⟨h_12, hv⟩ := hv
          refine q_iald C hW (11 + 2 * p1.toNatClampNeg) (co_4 (P := fun j => (wd_X6_27 G b images n_people n_taped n_waiting n_z n_kind n_day n_near n_shows n_gmost n_gsize n_gsteps n_gstack shb shs shn errs)[11 + 2 * j]? = some (b (43 + 2 * j + 1), .inl (G.2.1, 24, .inl (shn j)))) rfl rfl rfl rfl hj_p1_toNatClampNeg) h_12 dX6_judge_64 ?_
          refine lv_aload_n hx hb dX6_judge_65 rfl (lv_at hl 0 rfl) ?_
          refine q_get C kc6 hW 0 rfl 0 (by decide) fl_X6_10 rfl rfl dX6_judge_66 ?_
          refine lv_iload_n hx hb dX6_judge_69 rfl (lv_at hl 2 rfl) ?_
          refine lv_aload_n hx hb dX6_judge_70 rfl (lv_at hl 0 rfl) ?_
          refine q_get C kc6 hW 0 rfl 0 (by decide) fl_X6_10 rfl rfl dX6_judge_71 ?_
          refine q_getN C kc4 hW 1 rfl 4 (by decide) nf_X6_85 rfl rfl dX6_judge_74 ?_
          refine q_callN (rest := [.int (shn p1.toNatClampNeg x3.toNatClampNeg)]) (n := 2) C (c_X4_signOf l G (fun k => b (k + 1)) (fun k => b (k + 5)) n_people n_taped n_waiting n_z n_kind n_gmost n_gsize n_gsteps n_gstack n_day n_near n_shows x3 _ hv) nm_X6_239 kb_X4_signOf rfl ⟨⟨rfl, rfl⟩, (Nat.le_of_ble_eq_true rfl), (Nat.le_of_ble_eq_true rfl)⟩ hW hS [1, 2, 6, 7, 8, 3, 4, 5] rfl rfl kc4 (q0 := 1) rfl hl.1 rfl (Nat.le_of_ble_eq_true rfl) dX6_judge_77 ⟨Nat.zero_le _, Nat.zero_le _⟩ (fun r_13 u_14 H locs hv hW hS => ?_)
          obtain ⟨n_gstack_13, rfl⟩ : ∃ z, z = u_14 := ⟨_, rfl⟩
          try dsimp only at hv
          have hW : wo G A (wd_X6_27 G b images n_people n_taped n_waiting n_z n_kind n_day n_near n_shows n_gmost n_gsize n_gsteps n_gstack_13 shb shs shn errs) H := hW
          refine lv_icmp_ne (tgt := 89) hx hb dX6_judge_80 (by decide) (fun c_15 => ?_) (fun c_15 => ?_)
          · replace hv := hv.1 c_15
            refine lv_iload_n hx hb dX6_judge_89 rfl (lv_at hl 2 rfl) ?_
            exact ret (n_gstack_13, errs) x3 H locs ls _ rfl hW hS hv dX6_judge_90
          · replace hv := hv.2 c_15
            refine lv_iinc (v := (x3 + 1)) (lv' := [(3, .int (x3 + 1)), (0, .ref (b 0)), (2, .ref (b (43 + 2 * p1.toNatClampNeg)))]) hx hb dX6_judge_83 hl (k := 2) rfl rfl (by decide) rfl (fun ls hl => ?_)
            refine lv_goto (tgt := 40) hx hb dX6_judge_86 (by decide) ?_
            exact ih (x3 + 1) n_gstack_13 errs H locs ls hj_p1_toNatClampNeg hW hS (lv_sub hl [1, 2, 0] rfl) hv
  refine lv_iload_n hx hb dX6_judge_0 rfl (lv_at hl 1 rfl) ?_
  refine q_callS (rest := []) (n := 1) C (c_X6_isSheet l G p1 _ hv) ml_X6_187 kb_X6_isSheet rfl ⟨⟨rfl, rfl⟩, (Nat.le_of_ble_eq_true rfl), (Nat.le_of_ble_eq_true rfl)⟩ hW hS hl.1 rfl (Nat.le_of_ble_eq_true rfl) dX6_judge_1 ⟨Nat.zero_le _, Nat.zero_le _⟩ (fun r_1 u_2 H locs hv hW hS => ?_)
  obtain ⟨hv_b_1, hv⟩ := hv
  try dsimp only at hv
  refine lv_if_ne (tgt := 13) hx hb dX6_judge_4 (by decide) (fun c_3 => ?_) (fun c_3 => ?_)
  · replace hv := hv.1 c_3
    refine lv_aload_n hx hb dX6_judge_13 rfl (lv_at hl 0 rfl) ?_
    refine q_get C kc6 hW 0 rfl 7 (by decide) fl_X6_46 rfl rfl dX6_judge_14 ?_
    refine lv_iload_n hx hb dX6_judge_17 rfl (lv_at hl 1 rfl) ?_
    obtain ⟨h_4, hv⟩ := hv
    refine va_aldq (D := G.1) (cl := GB_cl) (tys := tyG G) hx hb C.2.1 hW.1 9 2 rfl rfl h_4 dX6_judge_18 ?_
    have hj_p1_toNatClampNeg : p1.toNatClampNeg < 4 := Nat.not_le.mp fun q => h_4 (Or.inr q)
    refine q_callN (rest := []) (n := 0) C (c_X2_isMissing l G (fun k => b (43 + 2 * p1.toNatClampNeg + k)) (shb p1.toNatClampNeg) (shs p1.toNatClampNeg) _ hv) nm_X6_190 kb_X2_isMissing rfl ⟨⟨rfl, rfl⟩, (Nat.le_of_ble_eq_true rfl), (Nat.le_of_ble_eq_true rfl)⟩ hW hS [10 + 2 * p1.toNatClampNeg] (co_4 (P := fun j => va_nd [10 + 2 * j] = true) rfl rfl rfl rfl hj_p1_toNatClampNeg) (co_4 (P := fun j => [10 + 2 * j].map (fun i => (wd_X6_27 G b images n_people n_taped n_waiting n_z n_kind n_day n_near n_shows n_gmost n_gsize n_gsteps n_gstack shb shs shn errs)[i]?) = (wd_X2_0 G (fun k => b (43 + 2 * j + k)) (shb j) (shs j)).map some) rfl rfl rfl rfl hj_p1_toNatClampNeg) kc2 (q0 := 10 + 2 * p1.toNatClampNeg) (co_4 (P := fun j => (wd_X6_27 G b images n_people n_taped n_waiting n_z n_kind n_day n_near n_shows n_gmost n_gsize n_gsteps n_gstack shb shs shn errs)[10 + 2 * j]? = some (b (43 + 2 * j), .inr (2, [.int (shb j), .int (shs j), .ref (b (43 + 2 * j + 1))]))) rfl rfl rfl rfl hj_p1_toNatClampNeg) hl.1 rfl (Nat.le_of_ble_eq_true rfl) dX6_judge_19 ⟨Nat.zero_le _, Nat.zero_le _⟩ (fun r_5 u_6 H locs hv hW hS => ?_)
    obtain ⟨hv_b_5, hv⟩ := hv
    try dsimp only at hv
    have e_7 := co_4 (P := fun j => mix (wd_X6_27 G b images n_people n_taped n_waiting n_z n_kind n_day n_near n_shows n_gmost n_gsize n_gsteps n_gstack shb shs shn errs) [10 + 2 * j] (wd_X2_0 G (fun k => b (43 + 2 * j + k)) (shb j) (shs j)) = (wd_X6_27 G b images n_people n_taped n_waiting n_z n_kind n_day n_near n_shows n_gmost n_gsize n_gsteps n_gstack shb shs shn errs)) rfl rfl rfl rfl hj_p1_toNatClampNeg
    have hW : wo G A (wd_X6_27 G b images n_people n_taped n_waiting n_z n_kind n_day n_near n_shows n_gmost n_gsize n_gsteps n_gstack shb shs shn errs) H := Eq.mp (congrArg (fun z => wo G A z H) e_7) hW
    refine lv_if_eq (tgt := 31) hx hb dX6_judge_22 (by decide) (fun c_8 => ?_) (fun c_8 => ?_)
    · replace hv := hv.1 c_8
      refine lv_aload_n hx hb dX6_judge_31 rfl (lv_at hl 0 rfl) ?_
      refine q_get C kc6 hW 0 rfl 7 (by decide) fl_X6_46 rfl rfl dX6_judge_32 ?_
      refine lv_iload_n hx hb dX6_judge_35 rfl (lv_at hl 1 rfl) ?_
      obtain ⟨h_9, hv⟩ := hv
      refine va_aldq (D := G.1) (cl := GB_cl) (tys := tyG G) hx hb C.2.1 hW.1 9 2 rfl rfl h_9 dX6_judge_36 ?_
      have hj_p1_toNatClampNeg : p1.toNatClampNeg < 4 := Nat.not_le.mp fun q => h_9 (Or.inr q)
      refine lv_astore_n (lv' := [(2, .ref (b (43 + 2 * p1.toNatClampNeg))), (0, .ref (b 0)), (1, .int p1)]) hx hb dX6_judge_37 rfl hl (by decide) rfl (fun ls hl => ?_)
      refine lv_iconst (v := 0) hx hb dX6_judge_38 kic_0 ?_
      refine lv_istore_n (lv' := [(3, .int (0 : Int32)), (2, .ref (b (43 + 2 * p1.toNatClampNeg))), (0, .ref (b 0)), (1, .int p1)]) hx hb dX6_judge_39 rfl hl (by decide) rfl (fun ls hl => ?_)
      obtain ⟨n_16, hv⟩ := hv
      exact h_l_X6_judge_40 n_16 (0 : Int32) n_gstack errs H locs ls hj_p1_toNatClampNeg hW hS (lv_sub hl [2, 1, 0] rfl) hv
    · replace hv := hv.2 c_8
      refine lv_aload_n hx hb dX6_judge_25 rfl (lv_at hl 0 rfl) ?_
      refine lv_iconst (v := 2) hx hb dX6_judge_26 kic_2 ?_
      refine q_callV (rest := []) (n := 1) C (c_X6_error l G b images errs (2 : Int32) _ hv) ml_X6_64 kb_X6_error rfl ⟨⟨rfl, rfl⟩, (Nat.le_of_ble_eq_true rfl), (Nat.le_of_ble_eq_true rfl)⟩ hW hS [0, 18] rfl rfl kc6 (q0 := 0) rfl hl.1 rfl (Nat.le_of_ble_eq_true rfl) dX6_judge_27 ⟨Nat.zero_le _, Nat.zero_le _⟩ (fun r_17 u_18 H locs hv hW hS => ?_)
      obtain ⟨errs_17, rfl⟩ : ∃ z, z = u_18 := ⟨_, rfl⟩
      try dsimp only at hv
      have hW : wo G A (wd_X6_27 G b images n_people n_taped n_waiting n_z n_kind n_day n_near n_shows n_gmost n_gsize n_gsteps n_gstack shb shs shn errs_17) H := hW
      exact ret (n_gstack, errs_17) r_17 H locs ls _ rfl hW hS hv dX6_judge_30
  · replace hv := hv.2 c_3
    refine lv_aload_n hx hb dX6_judge_7 rfl (lv_at hl 0 rfl) ?_
    refine lv_iconst (v := 1) hx hb dX6_judge_8 kic_1 ?_
    refine q_callV (rest := []) (n := 1) C (c_X6_error l G b images errs (1 : Int32) _ hv) ml_X6_64 kb_X6_error rfl ⟨⟨rfl, rfl⟩, (Nat.le_of_ble_eq_true rfl), (Nat.le_of_ble_eq_true rfl)⟩ hW hS [0, 18] rfl rfl kc6 (q0 := 0) rfl hl.1 rfl (Nat.le_of_ble_eq_true rfl) dX6_judge_9 ⟨Nat.zero_le _, Nat.zero_le _⟩ (fun r_19 u_20 H locs hv hW hS => ?_)
    obtain ⟨errs_19, rfl⟩ : ∃ z, z = u_20 := ⟨_, rfl⟩
    try dsimp only at hv
    have hW : wo G A (wd_X6_27 G b images n_people n_taped n_waiting n_z n_kind n_day n_near n_shows n_gmost n_gsize n_gsteps n_gstack shb shs shn errs_19) H := hW
    exact ret (n_gstack, errs_19) r_19 H locs ls _ rfl hW hS hv dX6_judge_12
set_option maxHeartbeats 4000000 in
set_option maxRecDepth 100000 in
theorem c_X6_image (l : Launch) (G : Gt) (b : Nat → Nat) (images : Int32) (n_people : Int32) (n_taped : Int32) (n_waiting : Int32) (n_z : Int32) (n_kind : Nat → Int32) (n_em : Nat → Int32) (n_called : Nat → Int32) (n_day : Int32) (n_near : Nat → Int32) (n_shows : Nat → Int32) (n_tmost : Int32) (n_tsize : Int32) (n_tsteps : Nat → Int32) (n_gmost : Int32) (n_gsize : Int32) (n_gsteps : Nat → Int32) (n_tape : Nat → Int32) (n_waits : Nat → Int32) (k_people : Int32) (k_taped : Int32) (k_waiting : Int32) (k_z : Int32) (k_kind : Nat → Int32) (k_em : Nat → Int32) (k_called : Nat → Int32) (k_day : Int32) (k_near : Nat → Int32) (k_shows : Nat → Int32) (k_tmost : Int32) (k_tsize : Int32) (k_tsteps : Nat → Int32) (k_gmost : Int32) (k_gsize : Int32) (k_gsteps : Nat → Int32) (k_tape : Nat → Int32) (k_waits : Nat → Int32) (K : Int32 → Int32 → Int32 → Int32 → Int32 → Int32 → (Nat → Int32) → (Nat → Int32) → (Nat → Int32) → Int32 → (Nat → Int32) → (Nat → Int32) → Int32 → (Nat → Int32) → Int32 → (Nat → Int32) → (Nat → Int32) → (Nat → Int32) → Prop) (hv : v_X6_image images n_people n_taped n_waiting n_z n_kind n_em n_called n_day n_near n_shows n_tsize n_tsteps n_gsize n_gsteps n_tape n_waits k_people k_taped k_waiting k_z k_kind k_em k_called k_day k_near k_shows k_tsize k_tsteps k_gsize k_gsteps k_tape k_waits K) : CI l G yX6_image (.code yX6_image cX6_image 1 (some .int) :: wsG) (rmm 3 103) [.ref (b 0)] (wd_X6_28 G b images n_people n_taped n_waiting n_z n_kind n_em n_called n_day n_near n_shows n_tmost n_tsize n_tsteps n_gmost n_gsize n_gsteps n_tape n_waits k_people k_taped k_waiting k_z k_kind k_em k_called k_day k_near k_shows k_tmost k_tsize k_tsteps k_gmost k_gsize k_gsteps k_tape k_waits) (S := Int32 × Int32 × Int32 × Int32 × Int32 × (Nat → Int32) × (Nat → Int32) × (Nat → Int32) × Int32 × (Nat → Int32) × (Nat → Int32) × Int32 × (Nat → Int32) × Int32 × (Nat → Int32) × (Nat → Int32) × (Nat → Int32)) (fun u => wd_X6_28 G b u.1 n_people n_taped n_waiting n_z n_kind n_em n_called n_day n_near n_shows n_tmost n_tsize n_tsteps n_gmost n_gsize n_gsteps n_tape n_waits u.2.1 u.2.2.1 u.2.2.2.1 u.2.2.2.2.1 u.2.2.2.2.2.1 u.2.2.2.2.2.2.1 u.2.2.2.2.2.2.2.1 u.2.2.2.2.2.2.2.2.1 u.2.2.2.2.2.2.2.2.2.1 u.2.2.2.2.2.2.2.2.2.2.1 k_tmost u.2.2.2.2.2.2.2.2.2.2.2.1 u.2.2.2.2.2.2.2.2.2.2.2.2.1 k_gmost u.2.2.2.2.2.2.2.2.2.2.2.2.2.1 u.2.2.2.2.2.2.2.2.2.2.2.2.2.2.1 u.2.2.2.2.2.2.2.2.2.2.2.2.2.2.2.1 u.2.2.2.2.2.2.2.2.2.2.2.2.2.2.2.2) (fun r u => K r u.1 u.2.1 u.2.2.1 u.2.2.2.1 u.2.2.2.2.1 u.2.2.2.2.2.1 u.2.2.2.2.2.2.1 u.2.2.2.2.2.2.2.1 u.2.2.2.2.2.2.2.2.1 u.2.2.2.2.2.2.2.2.2.1 u.2.2.2.2.2.2.2.2.2.2.1 u.2.2.2.2.2.2.2.2.2.2.2.1 u.2.2.2.2.2.2.2.2.2.2.2.2.1 u.2.2.2.2.2.2.2.2.2.2.2.2.2.1 u.2.2.2.2.2.2.2.2.2.2.2.2.2.2.1 u.2.2.2.2.2.2.2.2.2.2.2.2.2.2.2.1 u.2.2.2.2.2.2.2.2.2.2.2.2.2.2.2.2) := by
  refine ci_intro (by decide) rfl (fun _ => rfl) (Nat.le_of_ble_eq_true rfl) ?_
  intro p e s m args below meth c A H ls Q C hW hS hl ret
  have hx := C.1.1
  have hb := C.1.2.1
  generalize hls : ([] : List Loc) = locs at hS ⊢
  have hl : lv_has ls 1 [(0, .ref (b 0))] := hl
  refine lv_aload_n hx hb dX6_image_0 rfl (lv_at hl 0 rfl) ?_
  refine q_get C kc6 hW 0 rfl 1 (by decide) fl_X6_16 rfl rfl dX6_image_1 ?_
  refine lv_aload_n hx hb dX6_image_4 rfl (lv_at hl 0 rfl) ?_
  refine q_get C kc6 hW 0 rfl 0 (by decide) fl_X6_10 rfl rfl dX6_image_5 ?_
  refine q_callNv (rest := []) (n := 1) C (c_X4_copy l G (fun k => b (k + 16)) (fun k => b (k + 1)) k_people k_taped k_waiting k_z k_kind k_em k_called k_day k_near k_shows k_tmost k_tsize k_tsteps k_gmost k_gsize k_gsteps k_tape k_waits n_people n_taped n_waiting n_z n_kind n_em n_called n_day n_near n_shows n_tmost n_tsize n_tsteps n_gmost n_gsize n_gsteps n_tape n_waits _ hv) nm_X6_243 kb_X4_copy rfl ⟨⟨rfl, rfl⟩, (Nat.le_of_ble_eq_true rfl), (Nat.le_of_ble_eq_true rfl)⟩ hW hS [14, 15, 16, 17, 18, 19, 20, 21, 22, 23, 24, 25, 26, 1, 2, 3, 4, 5, 6, 7, 8, 9, 10, 11, 12, 13] rfl rfl kc4 (q0 := 14) rfl hl.1 rfl (Nat.le_of_ble_eq_true rfl) dX6_image_8 ⟨Nat.zero_le _, Nat.zero_le _⟩ (fun u_2 H locs hv hW hS => ?_)
  obtain ⟨k_people_1, k_taped_1, k_waiting_1, k_z_1, k_kind_1, k_em_1, k_called_1, k_day_1, k_near_1, k_shows_1, k_tsize_1, k_tsteps_1, k_gsize_1, k_gsteps_1, k_tape_1, k_waits_1⟩ := u_2
  try dsimp only at hv
  have hW : wo G A (wd_X6_28 G b images n_people n_taped n_waiting n_z n_kind n_em n_called n_day n_near n_shows n_tmost n_tsize n_tsteps n_gmost n_gsize n_gsteps n_tape n_waits k_people_1 k_taped_1 k_waiting_1 k_z_1 k_kind_1 k_em_1 k_called_1 k_day_1 k_near_1 k_shows_1 k_tmost k_tsize_1 k_tsteps_1 k_gmost k_gsize_1 k_gsteps_1 k_tape_1 k_waits_1) H := hW
  refine lv_aload_n hx hb dX6_image_11 rfl (lv_at hl 0 rfl) ?_
  refine lv_dup hx hb dX6_image_12 rfl ?_
  refine q_get C kc6 hW 0 rfl 2 (by decide) fl_X6_247 rfl rfl dX6_image_13 ?_
  refine lv_iconst (v := 1) hx hb dX6_image_16 kic_1 ?_
  refine lv_iadd hx hb dX6_image_17 ?_
  refine q_put C kc6 hW hS 0 rfl 2 (by decide) fl_X6_247 rfl rfl rfl rfl (Nat.le_of_ble_eq_true rfl) dX6_image_18 (fun H locs hW hS => ?_)
  have hW : wo G A (wd_X6_28 G b (images + (1 : Int32)) n_people n_taped n_waiting n_z n_kind n_em n_called n_day n_near n_shows n_tmost n_tsize n_tsteps n_gmost n_gsize n_gsteps n_tape n_waits k_people_1 k_taped_1 k_waiting_1 k_z_1 k_kind_1 k_em_1 k_called_1 k_day_1 k_near_1 k_shows_1 k_tmost k_tsize_1 k_tsteps_1 k_gmost k_gsize_1 k_gsteps_1 k_tape_1 k_waits_1) H := hW
  refine lv_aload_n hx hb dX6_image_21 rfl (lv_at hl 0 rfl) ?_
  refine q_get C kc6 hW 0 rfl 2 (by decide) fl_X6_247 rfl rfl dX6_image_22 ?_
  exact ret ((images + (1 : Int32)), k_people_1, k_taped_1, k_waiting_1, k_z_1, k_kind_1, k_em_1, k_called_1, k_day_1, k_near_1, k_shows_1, k_tsize_1, k_tsteps_1, k_gsize_1, k_gsteps_1, k_tape_1, k_waits_1) (images + (1 : Int32)) H locs ls _ rfl hW hS hv dX6_image_25
set_option maxHeartbeats 4000000 in
set_option maxRecDepth 100000 in
theorem c_X6_restore (l : Launch) (G : Gt) (b : Nat → Nat) (images : Int32) (n_people : Int32) (n_taped : Int32) (n_waiting : Int32) (n_z : Int32) (n_kind : Nat → Int32) (n_em : Nat → Int32) (n_called : Nat → Int32) (n_day : Int32) (n_near : Nat → Int32) (n_shows : Nat → Int32) (n_tmost : Int32) (n_tsize : Int32) (n_tsteps : Nat → Int32) (n_gmost : Int32) (n_gsize : Int32) (n_gsteps : Nat → Int32) (n_tape : Nat → Int32) (n_waits : Nat → Int32) (k_people : Int32) (k_taped : Int32) (k_waiting : Int32) (k_z : Int32) (k_kind : Nat → Int32) (k_em : Nat → Int32) (k_called : Nat → Int32) (k_day : Int32) (k_near : Nat → Int32) (k_shows : Nat → Int32) (k_tmost : Int32) (k_tsize : Int32) (k_tsteps : Nat → Int32) (k_gmost : Int32) (k_gsize : Int32) (k_gsteps : Nat → Int32) (k_tape : Nat → Int32) (k_waits : Nat → Int32) (errs : Nat → Int32) (K : Int32 → Int32 → Int32 → Int32 → Int32 → (Nat → Int32) → (Nat → Int32) → (Nat → Int32) → Int32 → (Nat → Int32) → (Nat → Int32) → Int32 → (Nat → Int32) → Int32 → (Nat → Int32) → (Nat → Int32) → (Nat → Int32) → (Nat → Int32) → Prop) (hv : v_X6_restore images n_people n_taped n_waiting n_z n_kind n_em n_called n_day n_near n_shows n_tsize n_tsteps n_gsize n_gsteps n_tape n_waits k_people k_taped k_waiting k_z k_kind k_em k_called k_day k_near k_shows k_tsize k_tsteps k_gsize k_gsteps k_tape k_waits errs K) : CI l G yX6_restore (.code yX6_restore cX6_restore 1 (some .int) :: wsG) (rmm 3 103) [.ref (b 0)] (wd_X6_29 G b images n_people n_taped n_waiting n_z n_kind n_em n_called n_day n_near n_shows n_tmost n_tsize n_tsteps n_gmost n_gsize n_gsteps n_tape n_waits k_people k_taped k_waiting k_z k_kind k_em k_called k_day k_near k_shows k_tmost k_tsize k_tsteps k_gmost k_gsize k_gsteps k_tape k_waits errs) (S := Int32 × Int32 × Int32 × Int32 × (Nat → Int32) × (Nat → Int32) × (Nat → Int32) × Int32 × (Nat → Int32) × (Nat → Int32) × Int32 × (Nat → Int32) × Int32 × (Nat → Int32) × (Nat → Int32) × (Nat → Int32) × (Nat → Int32)) (fun u => wd_X6_29 G b images u.1 u.2.1 u.2.2.1 u.2.2.2.1 u.2.2.2.2.1 u.2.2.2.2.2.1 u.2.2.2.2.2.2.1 u.2.2.2.2.2.2.2.1 u.2.2.2.2.2.2.2.2.1 u.2.2.2.2.2.2.2.2.2.1 n_tmost u.2.2.2.2.2.2.2.2.2.2.1 u.2.2.2.2.2.2.2.2.2.2.2.1 n_gmost u.2.2.2.2.2.2.2.2.2.2.2.2.1 u.2.2.2.2.2.2.2.2.2.2.2.2.2.1 u.2.2.2.2.2.2.2.2.2.2.2.2.2.2.1 u.2.2.2.2.2.2.2.2.2.2.2.2.2.2.2.1 k_people k_taped k_waiting k_z k_kind k_em k_called k_day k_near k_shows k_tmost k_tsize k_tsteps k_gmost k_gsize k_gsteps k_tape k_waits u.2.2.2.2.2.2.2.2.2.2.2.2.2.2.2.2) (fun r u => K r u.1 u.2.1 u.2.2.1 u.2.2.2.1 u.2.2.2.2.1 u.2.2.2.2.2.1 u.2.2.2.2.2.2.1 u.2.2.2.2.2.2.2.1 u.2.2.2.2.2.2.2.2.1 u.2.2.2.2.2.2.2.2.2.1 u.2.2.2.2.2.2.2.2.2.2.1 u.2.2.2.2.2.2.2.2.2.2.2.1 u.2.2.2.2.2.2.2.2.2.2.2.2.1 u.2.2.2.2.2.2.2.2.2.2.2.2.2.1 u.2.2.2.2.2.2.2.2.2.2.2.2.2.2.1 u.2.2.2.2.2.2.2.2.2.2.2.2.2.2.2.1 u.2.2.2.2.2.2.2.2.2.2.2.2.2.2.2.2) := by
  refine ci_intro (by decide) rfl (fun _ => rfl) (Nat.le_of_ble_eq_true rfl) ?_
  intro p e s m args below meth c A H ls Q C hW hS hl ret
  have hx := C.1.1
  have hb := C.1.2.1
  generalize hls : ([] : List Loc) = locs at hS ⊢
  have hl : lv_has ls 1 [(0, .ref (b 0))] := hl
  refine lv_aload_n hx hb dX6_restore_0 rfl (lv_at hl 0 rfl) ?_
  refine q_get C kc6 hW 0 rfl 2 (by decide) fl_X6_247 rfl rfl dX6_restore_1 ?_
  refine lv_if_ne (tgt := 13) hx hb dX6_restore_4 (by decide) (fun c_1 => ?_) (fun c_1 => ?_)
  · replace hv := hv.1 c_1
    refine lv_aload_n hx hb dX6_restore_13 rfl (lv_at hl 0 rfl) ?_
    refine q_get C kc6 hW 0 rfl 0 (by decide) fl_X6_10 rfl rfl dX6_restore_14 ?_
    refine lv_aload_n hx hb dX6_restore_17 rfl (lv_at hl 0 rfl) ?_
    refine q_get C kc6 hW 0 rfl 1 (by decide) fl_X6_16 rfl rfl dX6_restore_18 ?_
    refine q_callNv (rest := []) (n := 1) C (c_X4_copy l G (fun k => b (k + 1)) (fun k => b (k + 16)) n_people n_taped n_waiting n_z n_kind n_em n_called n_day n_near n_shows n_tmost n_tsize n_tsteps n_gmost n_gsize n_gsteps n_tape n_waits k_people k_taped k_waiting k_z k_kind k_em k_called k_day k_near k_shows k_tmost k_tsize k_tsteps k_gmost k_gsize k_gsteps k_tape k_waits _ hv) nm_X6_243 kb_X4_copy rfl ⟨⟨rfl, rfl⟩, (Nat.le_of_ble_eq_true rfl), (Nat.le_of_ble_eq_true rfl)⟩ hW hS [1, 2, 3, 4, 5, 6, 7, 8, 9, 10, 11, 12, 13, 14, 15, 16, 17, 18, 19, 20, 21, 22, 23, 24, 25, 26] rfl rfl kc4 (q0 := 1) rfl hl.1 rfl (Nat.le_of_ble_eq_true rfl) dX6_restore_21 ⟨Nat.zero_le _, Nat.zero_le _⟩ (fun u_3 H locs hv hW hS => ?_)
    obtain ⟨n_people_2, n_taped_2, n_waiting_2, n_z_2, n_kind_2, n_em_2, n_called_2, n_day_2, n_near_2, n_shows_2, n_tsize_2, n_tsteps_2, n_gsize_2, n_gsteps_2, n_tape_2, n_waits_2⟩ := u_3
    try dsimp only at hv
    have hW : wo G A (wd_X6_29 G b images n_people_2 n_taped_2 n_waiting_2 n_z_2 n_kind_2 n_em_2 n_called_2 n_day_2 n_near_2 n_shows_2 n_tmost n_tsize_2 n_tsteps_2 n_gmost n_gsize_2 n_gsteps_2 n_tape_2 n_waits_2 k_people k_taped k_waiting k_z k_kind k_em k_called k_day k_near k_shows k_tmost k_tsize k_tsteps k_gmost k_gsize k_gsteps k_tape k_waits errs) H := hW
    refine lv_aload_n hx hb dX6_restore_24 rfl (lv_at hl 0 rfl) ?_
    refine q_get C kc6 hW 0 rfl 0 (by decide) fl_X6_10 rfl rfl dX6_restore_25 ?_
    refine q_getN C kc4 hW 1 rfl 4 (by decide) nf_X6_85 rfl rfl dX6_restore_28 ?_
    refine q_getN C kc3 hW 5 rfl 2 (by decide) nf_X6_104 rfl rfl dX6_restore_31 ?_
    exact ret (n_people_2, n_taped_2, n_waiting_2, n_z_2, n_kind_2, n_em_2, n_called_2, n_day_2, n_near_2, n_shows_2, n_tsize_2, n_tsteps_2, n_gsize_2, n_gsteps_2, n_tape_2, n_waits_2, errs) n_day_2 H locs ls _ rfl hW hS hv dX6_restore_34
  · replace hv := hv.2 c_1
    refine lv_aload_n hx hb dX6_restore_7 rfl (lv_at hl 0 rfl) ?_
    refine lv_iconst (v := 2) hx hb dX6_restore_8 kic_2 ?_
    refine q_callV (rest := []) (n := 1) C (c_X6_error l G b images errs (2 : Int32) _ hv) ml_X6_64 kb_X6_error rfl ⟨⟨rfl, rfl⟩, (Nat.le_of_ble_eq_true rfl), (Nat.le_of_ble_eq_true rfl)⟩ hW hS [0, 27] rfl rfl kc6 (q0 := 0) rfl hl.1 rfl (Nat.le_of_ble_eq_true rfl) dX6_restore_9 ⟨Nat.zero_le _, Nat.zero_le _⟩ (fun r_4 u_5 H locs hv hW hS => ?_)
    obtain ⟨errs_4, rfl⟩ : ∃ z, z = u_5 := ⟨_, rfl⟩
    try dsimp only at hv
    have hW : wo G A (wd_X6_29 G b images n_people n_taped n_waiting n_z n_kind n_em n_called n_day n_near n_shows n_tmost n_tsize n_tsteps n_gmost n_gsize n_gsteps n_tape n_waits k_people k_taped k_waiting k_z k_kind k_em k_called k_day k_near k_shows k_tmost k_tsize k_tsteps k_gmost k_gsize k_gsteps k_tape k_waits errs_4) H := hW
    exact ret (n_people, n_taped, n_waiting, n_z, n_kind, n_em, n_called, n_day, n_near, n_shows, n_tsize, n_tsteps, n_gsize, n_gsteps, n_tape, n_waits, errs_4) r_4 H locs ls _ rfl hW hS hv dX6_restore_12
set_option maxHeartbeats 4000000 in
set_option maxRecDepth 100000 in
theorem c_X6_tell (l : Launch) (G : Gt) (b : Nat → Nat) (images : Int32) (n_people : Int32) (n_taped : Int32) (n_waiting : Int32) (n_z : Int32) (n_waits : Nat → Int32) (errs : Nat → Int32) (p1 : Int32) (K : Int32 → Int32 → (Nat → Int32) → (Nat → Int32) → Prop) (hv : v_X6_tell p1 n_waiting n_waits errs K) : CI l G yX6_tell (.code yX6_tell cX6_tell 2 (some .int) :: wsG) (rmm 1 21) [.ref (b 0), .int p1] (wd_X6_30 G b images n_people n_taped n_waiting n_z n_waits errs) (S := Int32 × (Nat → Int32) × (Nat → Int32)) (fun u => wd_X6_30 G b images n_people n_taped u.1 n_z u.2.1 u.2.2) (fun r u => K r u.1 u.2.1 u.2.2) := by
  refine ci_intro (by decide) rfl (fun _ => rfl) (Nat.le_of_ble_eq_true rfl) ?_
  intro p e s m args below meth c A H ls Q C hW hS hl ret
  have hx := C.1.1
  have hb := C.1.2.1
  generalize hls : ([] : List Loc) = locs at hS ⊢
  have hl : lv_has ls 2 [(0, .ref (b 0)), (1, .int p1)] := hl
  refine lv_aload_n hx hb dX6_tell_0 rfl (lv_at hl 0 rfl) ?_
  refine q_get C kc6 hW 0 rfl 0 (by decide) fl_X6_10 rfl rfl dX6_tell_1 ?_
  refine q_getN C kc4 hW 1 rfl 10 (by decide) nf_X6_250 rfl rfl dX6_tell_4 ?_
  refine lv_bipush (v := 24) hx hb dX6_tell_7 kbp_24 ?_
  refine lv_icmp_lt (tgt := 18) hx hb dX6_tell_9 (by decide) (fun c_1 => ?_) (fun c_1 => ?_)
  · replace hv := hv.1 c_1
    refine lv_aload_n hx hb dX6_tell_18 rfl (lv_at hl 0 rfl) ?_
    refine q_get C kc6 hW 0 rfl 0 (by decide) fl_X6_10 rfl rfl dX6_tell_19 ?_
    refine q_getN C kc4 hW 1 rfl 9 (by decide) nf_X6_253 rfl rfl dX6_tell_22 ?_
    refine lv_aload_n hx hb dX6_tell_25 rfl (lv_at hl 0 rfl) ?_
    refine q_get C kc6 hW 0 rfl 0 (by decide) fl_X6_10 rfl rfl dX6_tell_26 ?_
    refine q_getN C kc4 hW 1 rfl 10 (by decide) nf_X6_250 rfl rfl dX6_tell_29 ?_
    refine lv_iload_n hx hb dX6_tell_32 rfl (lv_at hl 1 rfl) ?_
    obtain ⟨h_2, hv⟩ := hv
    refine q_iast C hW hS 2 rfl h_2 dX6_tell_33 (fun H locs hW hS => ?_)
    have hW : wo G A (wd_X6_30 G b images n_people n_taped n_waiting n_z (upd n_waits n_waiting.toNatClampNeg p1) errs) H := hW
    refine lv_aload_n hx hb dX6_tell_34 rfl (lv_at hl 0 rfl) ?_
    refine q_get C kc6 hW 0 rfl 0 (by decide) fl_X6_10 rfl rfl dX6_tell_35 ?_
    refine lv_dup hx hb dX6_tell_38 rfl ?_
    refine q_getN C kc4 hW 1 rfl 10 (by decide) nf_X6_250 rfl rfl dX6_tell_39 ?_
    refine lv_iconst (v := 1) hx hb dX6_tell_42 kic_1 ?_
    refine lv_iadd hx hb dX6_tell_43 ?_
    refine q_putN C kc4 hW hS 1 rfl 10 (by decide) nf_X6_250 rfl rfl rfl rfl (Nat.le_of_ble_eq_true rfl) dX6_tell_44 (fun H locs hW hS => ?_)
    have hW : wo G A (wd_X6_30 G b images n_people n_taped (n_waiting + (1 : Int32)) n_z (upd n_waits n_waiting.toNatClampNeg p1) errs) H := hW
    refine lv_aload_n hx hb dX6_tell_47 rfl (lv_at hl 0 rfl) ?_
    refine q_get C kc6 hW 0 rfl 0 (by decide) fl_X6_10 rfl rfl dX6_tell_48 ?_
    refine q_getN C kc4 hW 1 rfl 10 (by decide) nf_X6_250 rfl rfl dX6_tell_51 ?_
    exact ret ((n_waiting + (1 : Int32)), (upd n_waits n_waiting.toNatClampNeg p1), errs) (n_waiting + (1 : Int32)) H locs ls _ rfl hW hS hv dX6_tell_54
  · replace hv := hv.2 c_1
    refine lv_aload_n hx hb dX6_tell_12 rfl (lv_at hl 0 rfl) ?_
    refine lv_iconst (v := 4) hx hb dX6_tell_13 kic_4 ?_
    refine q_callV (rest := []) (n := 1) C (c_X6_error l G b images errs (4 : Int32) _ hv) ml_X6_64 kb_X6_error rfl ⟨⟨rfl, rfl⟩, (Nat.le_of_ble_eq_true rfl), (Nat.le_of_ble_eq_true rfl)⟩ hW hS [0, 3] rfl rfl kc6 (q0 := 0) rfl hl.1 rfl (Nat.le_of_ble_eq_true rfl) dX6_tell_14 ⟨Nat.zero_le _, Nat.zero_le _⟩ (fun r_3 u_4 H locs hv hW hS => ?_)
    obtain ⟨errs_3, rfl⟩ : ∃ z, z = u_4 := ⟨_, rfl⟩
    try dsimp only at hv
    have hW : wo G A (wd_X6_30 G b images n_people n_taped n_waiting n_z n_waits errs_3) H := hW
    exact ret (n_waiting, n_waits, errs_3) r_3 H locs ls _ rfl hW hS hv dX6_tell_17
set_option maxHeartbeats 4000000 in
set_option maxRecDepth 100000 in
theorem c_X6_check (l : Launch) (G : Gt) (b : Nat → Nat) (images : Int32) (n_people : Int32) (n_taped : Int32) (n_waiting : Int32) (n_z : Int32) (n_day : Int32) (n_near : Nat → Int32) (n_waits : Nat → Int32) (K : Int32 → Int32 → Prop) (hv : v_X6_check n_people n_waiting n_near n_waits K) : CI l G yX6_check (.code yX6_check cX6_check 3 (some .int) :: wsG) (rmm 0 0) [.ref (b 0)] (wd_X6_31 G b images n_people n_taped n_waiting n_z n_day n_near n_waits) (S := Int32) (fun u => wd_X6_31 G b images n_people n_taped u n_z n_day n_near n_waits) (fun r u => K r u) := by
  refine ci_intro (by decide) rfl (fun _ => rfl) (Nat.le_of_ble_eq_true rfl) ?_
  intro p e s m args below meth c A H ls Q C hW hS hl ret
  have hx := C.1.1
  have hb := C.1.2.1
  generalize hls : ([] : List Loc) = locs at hS ⊢
  have hl : lv_has ls 3 [(0, .ref (b 0))] := hl
  have h_l_X6_check_18 : ∀ (n : Nat), ∀ (x1 : Int32) (x2 : Int32) (n_waiting : Int32) (H : Heap) (locs : List Loc) (ls : Array Slot), wo G A (wd_X6_31 G b images n_people n_taped n_waiting n_z n_day n_near n_waits) H → va_S A s.heap H locs → lv_has ls 3 [(0, .ref (b 0)), (1, .int x1), (2, .int x2)] → l_X6_check_18 n_people n_near n_waits K n x1 x2 n_waiting → W p l e (rmm 0 0) s m args below meth c H locs 0 0 Q (F0 m 18 ls []) := by
    intro n
    induction n with
    | zero =>
      intro x1 x2 n_waiting H locs ls hW hS hl hv
      exact False.elim hv
    | succ n ih =>
      intro x1 x2 n_waiting H locs ls hW hS hl hv
      refine lv_iload_n hx hb dX6_check_18 rfl (lv_at hl 2 rfl) ?_
      refine lv_iload_n hx hb dX6_check_19 rfl (lv_at hl 1 rfl) ?_
      refine lv_icmp_ge (tgt := 68) hx hb dX6_check_20 (by decide) (fun c_1 => ?_) (fun c_1 => ?_)
      · replace hv := hv.1 c_1
        refine lv_iconst (v := 0) hx hb dX6_check_68 kic_0 ?_
        exact ret (n_waiting) (0 : Int32) H locs ls _ rfl hW hS hv dX6_check_69
      · replace hv := hv.2 c_1
        refine lv_iload_n hx hb dX6_check_23 rfl (lv_at hl 2 rfl) ?_
        refine lv_aload_n hx hb dX6_check_24 rfl (lv_at hl 0 rfl) ?_
        refine q_get C kc6 hW 0 rfl 0 (by decide) fl_X6_10 rfl rfl dX6_check_25 ?_
        refine q_getN C kc4 hW 1 rfl 0 (by decide) nf_X6_68 rfl rfl dX6_check_28 ?_
        refine lv_icmp_ge (tgt := 58) hx hb dX6_check_31 (by decide) (fun c_2 => ?_) (fun c_2 => ?_)
        · replace hv := hv.1 c_2
          refine lv_iconst (v := 1) hx hb dX6_check_58 kic_1 ?_
          refine lv_iload_n hx hb dX6_check_59 rfl (lv_at hl 2 rfl) ?_
          refine lv_iadd hx hb dX6_check_60 ?_
          exact ret (n_waiting) ((1 : Int32) + x2) H locs ls _ rfl hW hS hv dX6_check_61
        · replace hv := hv.2 c_2
          refine lv_aload_n hx hb dX6_check_34 rfl (lv_at hl 0 rfl) ?_
          refine q_get C kc6 hW 0 rfl 0 (by decide) fl_X6_10 rfl rfl dX6_check_35 ?_
          refine q_getN C kc4 hW 1 rfl 9 (by decide) nf_X6_253 rfl rfl dX6_check_38 ?_
          refine lv_iload_n hx hb dX6_check_41 rfl (lv_at hl 2 rfl) ?_
          obtain ⟨h_3, hv⟩ := hv
          refine q_iald C hW 4 rfl h_3 dX6_check_42 ?_
          refine lv_aload_n hx hb dX6_check_43 rfl (lv_at hl 0 rfl) ?_
          refine q_get C kc6 hW 0 rfl 0 (by decide) fl_X6_10 rfl rfl dX6_check_44 ?_
          refine q_getN C kc4 hW 1 rfl 4 (by decide) nf_X6_85 rfl rfl dX6_check_47 ?_
          refine q_getN C kc3 hW 2 rfl 0 (by decide) nf_X6_88 rfl rfl dX6_check_50 ?_
          refine lv_iload_n hx hb dX6_check_53 rfl (lv_at hl 2 rfl) ?_
          obtain ⟨h_4, hv⟩ := hv
          refine q_iald C hW 3 rfl h_4 dX6_check_54 ?_
          refine lv_icmp_eq (tgt := 62) hx hb dX6_check_55 (by decide) (fun c_5 => ?_) (fun c_5 => ?_)
          · replace hv := hv.1 c_5
            refine lv_iinc (v := (x2 + 1)) (lv' := [(2, .int (x2 + 1)), (0, .ref (b 0)), (1, .int x1)]) hx hb dX6_check_62 hl (k := 2) rfl rfl (by decide) rfl (fun ls hl => ?_)
            refine lv_goto (tgt := 18) hx hb dX6_check_65 (by decide) ?_
            exact ih x1 (x2 + 1) n_waiting H locs ls hW hS (lv_sub hl [1, 2, 0] rfl) hv
          · replace hv := hv.2 c_5
            refine lv_iconst (v := 1) hx hb dX6_check_58 kic_1 ?_
            refine lv_iload_n hx hb dX6_check_59 rfl (lv_at hl 2 rfl) ?_
            refine lv_iadd hx hb dX6_check_60 ?_
            exact ret (n_waiting) ((1 : Int32) + x2) H locs ls _ rfl hW hS hv dX6_check_61
  refine lv_aload_n hx hb dX6_check_0 rfl (lv_at hl 0 rfl) ?_
  refine q_get C kc6 hW 0 rfl 0 (by decide) fl_X6_10 rfl rfl dX6_check_1 ?_
  refine q_getN C kc4 hW 1 rfl 10 (by decide) nf_X6_250 rfl rfl dX6_check_4 ?_
  refine lv_istore_n (lv' := [(1, .int n_waiting), (0, .ref (b 0))]) hx hb dX6_check_7 rfl hl (by decide) rfl (fun ls hl => ?_)
  refine lv_aload_n hx hb dX6_check_8 rfl (lv_at hl 1 rfl) ?_
  refine q_get C kc6 hW 0 rfl 0 (by decide) fl_X6_10 rfl rfl dX6_check_9 ?_
  refine lv_iconst (v := 0) hx hb dX6_check_12 kic_0 ?_
  refine q_putN C kc4 hW hS 1 rfl 10 (by decide) nf_X6_250 rfl rfl rfl rfl (Nat.le_of_ble_eq_true rfl) dX6_check_13 (fun H locs hW hS => ?_)
  have hW : wo G A (wd_X6_31 G b images n_people n_taped (0 : Int32) n_z n_day n_near n_waits) H := hW
  refine lv_iconst (v := 0) hx hb dX6_check_16 kic_0 ?_
  refine lv_istore_n (lv' := [(2, .int (0 : Int32)), (1, .int n_waiting), (0, .ref (b 0))]) hx hb dX6_check_17 rfl hl (by decide) rfl (fun ls hl => ?_)
  obtain ⟨n_6, hv⟩ := hv
  exact h_l_X6_check_18 n_6 n_waiting (0 : Int32) (0 : Int32) H locs ls hW hS (lv_sub hl [2, 1, 0] rfl) hv
set_option maxHeartbeats 4000000 in
set_option maxRecDepth 100000 in
theorem c_X6_count (l : Launch) (G : Gt) (b : Nat → Nat) (images : Int32) (n_people : Int32) (n_taped : Int32) (n_waiting : Int32) (n_z : Int32) (n_day : Int32) (n_near : Nat → Int32) (v_traced : Int32) (v_parted : Int32) (v_yk : Int32) (v_ykind : Int32) (v_ym : Int32) (errs : Nat → Int32) (p1 : Int32) (K : Int32 → (Nat → Int32) → Prop) (hv : v_X6_count p1 n_people n_taped n_waiting n_z n_day n_near v_traced errs K) : CI l G yX6_count (.code yX6_count cX6_count 2 (some .int) :: wsG) (rmm 1 23) [.ref (b 0), .int p1] (wd_X6_32 G b images n_people n_taped n_waiting n_z n_day n_near v_traced v_parted v_yk v_ykind v_ym errs) (S := (Nat → Int32)) (fun u => wd_X6_32 G b images n_people n_taped n_waiting n_z n_day n_near v_traced v_parted v_yk v_ykind v_ym u) (fun r u => K r u) := by
  refine ci_intro (by decide) rfl (fun _ => rfl) (Nat.le_of_ble_eq_true rfl) ?_
  intro p e s m args below meth c A H ls Q C hW hS hl ret
  have hx := C.1.1
  have hb := C.1.2.1
  generalize hls : ([] : List Loc) = locs at hS ⊢
  have hl : lv_has ls 2 [(0, .ref (b 0)), (1, .int p1)] := hl
  refine lv_iload_n hx hb dX6_count_0 rfl (lv_at hl 1 rfl) ?_
  by_cases c_1_0 : p1 = 0
  · replace hv := hv.1 c_1_0
    refine lv_tableIn (tgt := 44) hx hb dX6_count_1 (by rw [c_1_0]; decide) (by rw [c_1_0]; decide) (by rw [c_1_0]; rfl) (by decide) ?_
    refine lv_aload_n hx hb dX6_count_44 rfl (lv_at hl 0 rfl) ?_
    refine q_get C kc6 hW 0 rfl 0 (by decide) fl_X6_10 rfl rfl dX6_count_45 ?_
    refine q_getN C kc4 hW 1 rfl 0 (by decide) nf_X6_68 rfl rfl dX6_count_48 ?_
    exact ret (errs) n_people H locs ls _ rfl hW hS hv dX6_count_51
  · replace hv := hv.2 c_1_0
    by_cases c_1_1 : p1 = 1
    · replace hv := hv.1 c_1_1
      refine lv_tableIn (tgt := 52) hx hb dX6_count_1 (by rw [c_1_1]; decide) (by rw [c_1_1]; decide) (by rw [c_1_1]; rfl) (by decide) ?_
      refine lv_aload_n hx hb dX6_count_52 rfl (lv_at hl 0 rfl) ?_
      refine q_get C kc6 hW 0 rfl 0 (by decide) fl_X6_10 rfl rfl dX6_count_53 ?_
      refine q_getN C kc4 hW 1 rfl 4 (by decide) nf_X6_85 rfl rfl dX6_count_56 ?_
      refine q_getN C kc3 hW 2 rfl 2 (by decide) nf_X6_104 rfl rfl dX6_count_59 ?_
      exact ret (errs) n_day H locs ls _ rfl hW hS hv dX6_count_62
    · replace hv := hv.2 c_1_1
      by_cases c_1_2 : p1 = 2
      · replace hv := hv.1 c_1_2
        refine lv_tableIn (tgt := 63) hx hb dX6_count_1 (by rw [c_1_2]; decide) (by rw [c_1_2]; decide) (by rw [c_1_2]; rfl) (by decide) ?_
        refine lv_aload_n hx hb dX6_count_63 rfl (lv_at hl 0 rfl) ?_
        refine q_get C kc6 hW 0 rfl 0 (by decide) fl_X6_10 rfl rfl dX6_count_64 ?_
        refine lv_aload_n hx hb dX6_count_67 rfl (lv_at hl 0 rfl) ?_
        refine q_get C kc6 hW 0 rfl 0 (by decide) fl_X6_10 rfl rfl dX6_count_68 ?_
        refine q_getN C kc4 hW 1 rfl 4 (by decide) nf_X6_85 rfl rfl dX6_count_71 ?_
        refine q_callN (rest := []) (n := 1) C (c_X4_nearestIn l G (fun k => b (k + 1)) (fun k => b (k + 5)) n_people n_taped n_waiting n_z n_day n_near _ hv) nm_X6_152 kb_X4_nearestIn rfl ⟨⟨rfl, rfl⟩, (Nat.le_of_ble_eq_true rfl), (Nat.le_of_ble_eq_true rfl)⟩ hW hS [1, 2, 3] rfl rfl kc4 (q0 := 1) rfl hl.1 rfl (Nat.le_of_ble_eq_true rfl) dX6_count_74 ⟨Nat.zero_le _, Nat.zero_le _⟩ (fun r_2 u_3 H locs hv hW hS => ?_)
        try dsimp only at hv
        exact ret (errs) r_2 H locs ls _ rfl hW hS hv dX6_count_77
      · replace hv := hv.2 c_1_2
        by_cases c_1_3 : p1 = 3
        · replace hv := hv.1 c_1_3
          refine lv_tableIn (tgt := 78) hx hb dX6_count_1 (by rw [c_1_3]; decide) (by rw [c_1_3]; decide) (by rw [c_1_3]; rfl) (by decide) ?_
          refine lv_aload_n hx hb dX6_count_78 rfl (lv_at hl 0 rfl) ?_
          refine q_get C kc6 hW 0 rfl 0 (by decide) fl_X6_10 rfl rfl dX6_count_79 ?_
          refine q_getN C kc4 hW 1 rfl 8 (by decide) nf_X6_115 rfl rfl dX6_count_82 ?_
          exact ret (errs) n_taped H locs ls _ rfl hW hS hv dX6_count_85
        · replace hv := hv.2 c_1_3
          by_cases c_1_4 : p1 = 4
          · replace hv := hv.1 c_1_4
            refine lv_tableIn (tgt := 86) hx hb dX6_count_1 (by rw [c_1_4]; decide) (by rw [c_1_4]; decide) (by rw [c_1_4]; rfl) (by decide) ?_
            refine lv_aload_n hx hb dX6_count_86 rfl (lv_at hl 0 rfl) ?_
            refine q_get C kc6 hW 0 rfl 0 (by decide) fl_X6_10 rfl rfl dX6_count_87 ?_
            refine q_getN C kc4 hW 1 rfl 10 (by decide) nf_X6_250 rfl rfl dX6_count_90 ?_
            exact ret (errs) n_waiting H locs ls _ rfl hW hS hv dX6_count_93
          · replace hv := hv.2 c_1_4
            by_cases c_1_5 : p1 = 5
            · replace hv := hv.1 c_1_5
              refine lv_tableIn (tgt := 94) hx hb dX6_count_1 (by rw [c_1_5]; decide) (by rw [c_1_5]; decide) (by rw [c_1_5]; rfl) (by decide) ?_
              refine lv_aload_n hx hb dX6_count_94 rfl (lv_at hl 0 rfl) ?_
              refine q_get C kc6 hW 0 rfl 6 (by decide) fl_X6_39 rfl rfl dX6_count_95 ?_
              refine q_getN C kc5 hW 4 rfl 1 (by decide) nf_X6_211 rfl rfl dX6_count_98 ?_
              exact ret (errs) v_traced H locs ls _ rfl hW hS hv dX6_count_101
            · replace hv := hv.2 c_1_5
              by_cases c_1_6 : p1 = 6
              · replace hv := hv.1 c_1_6
                refine lv_tableIn (tgt := 102) hx hb dX6_count_1 (by rw [c_1_6]; decide) (by rw [c_1_6]; decide) (by rw [c_1_6]; rfl) (by decide) ?_
                refine lv_aload_n hx hb dX6_count_102 rfl (lv_at hl 0 rfl) ?_
                refine q_get C kc6 hW 0 rfl 0 (by decide) fl_X6_10 rfl rfl dX6_count_103 ?_
                refine q_getN C kc4 hW 1 rfl 11 (by decide) nf_X6_156 rfl rfl dX6_count_106 ?_
                exact ret (errs) n_z H locs ls _ rfl hW hS hv dX6_count_109
              · replace hv := hv.2 c_1_6
                refine sw_row (tgt := 110) hx hb dX6_count_1 rfl (lt_s (lt_s (lt_s (lt_s (lt_s (lt_s (lt_s lt_0 (Or.inr (lv_neT c_1_0 rfl))) (Or.inr (lv_neT c_1_1 rfl))) (Or.inr (lv_neT c_1_2 rfl))) (Or.inr (lv_neT c_1_3 rfl))) (Or.inr (lv_neT c_1_4 rfl))) (Or.inr (lv_neT c_1_5 rfl))) (Or.inr (lv_neT c_1_6 rfl))) (by decide) ?_
                refine lv_aload_n hx hb dX6_count_110 rfl (lv_at hl 0 rfl) ?_
                refine lv_iconst (v := 1) hx hb dX6_count_111 kic_1 ?_
                refine q_callV (rest := []) (n := 1) C (c_X6_error l G b images errs (1 : Int32) _ hv) ml_X6_64 kb_X6_error rfl ⟨⟨rfl, rfl⟩, (Nat.le_of_ble_eq_true rfl), (Nat.le_of_ble_eq_true rfl)⟩ hW hS [0, 5] rfl rfl kc6 (q0 := 0) rfl hl.1 rfl (Nat.le_of_ble_eq_true rfl) dX6_count_112 ⟨Nat.zero_le _, Nat.zero_le _⟩ (fun r_4 u_5 H locs hv hW hS => ?_)
                obtain ⟨errs_4, rfl⟩ : ∃ z, z = u_5 := ⟨_, rfl⟩
                try dsimp only at hv
                have hW : wo G A (wd_X6_32 G b images n_people n_taped n_waiting n_z n_day n_near v_traced v_parted v_yk v_ykind v_ym errs_4) H := hW
                exact ret (errs_4) r_4 H locs ls _ rfl hW hS hv dX6_count_115
set_option maxHeartbeats 4000000 in
set_option maxRecDepth 100000 in
theorem c_X6_told (l : Launch) (G : Gt) (b : Nat → Nat) (images : Int32) (errs : Nat → Int32) (p1 : Int32) (K : Int32 → (Nat → Int32) → Prop) (hv : v_X6_told p1 errs K) : CI l G yX6_told (.code yX6_told cX6_told 2 (some .int) :: wsG) (rmm 1 21) [.ref (b 0), .int p1] (wd_X6_0 G b images errs) (S := (Nat → Int32)) (fun u => wd_X6_0 G b images u) (fun r u => K r u) := by
  refine ci_intro (by decide) rfl (fun _ => rfl) (Nat.le_of_ble_eq_true rfl) ?_
  intro p e s m args below meth c A H ls Q C hW hS hl ret
  have hx := C.1.1
  have hb := C.1.2.1
  generalize hls : ([] : List Loc) = locs at hS ⊢
  have hl : lv_has ls 2 [(0, .ref (b 0)), (1, .int p1)] := hl
  have h_j_X6_told_20 : ∀ (errs : Nat → Int32) (H : Heap) (locs : List Loc) (ls : Array Slot), wo G A (wd_X6_0 G b images errs) H → va_S A s.heap H locs → lv_has ls 2 [(0, .ref (b 0))] → j_X6_told_20 p1 K errs → W p l e (rmm 1 21) s m args below meth c H locs 0 0 Q (F0 m 20 ls []) := by
    intro errs H locs ls hW hS hl hv
    refine lv_aload_n hx hb dX6_told_20 rfl (lv_at hl 0 rfl) ?_
    refine lv_iconst (v := 1) hx hb dX6_told_21 kic_1 ?_
    refine q_callV (rest := []) (n := 1) C (c_X6_error l G b images errs (1 : Int32) _ hv) ml_X6_64 kb_X6_error rfl ⟨⟨rfl, rfl⟩, (Nat.le_of_ble_eq_true rfl), (Nat.le_of_ble_eq_true rfl)⟩ hW hS [0, 1] rfl rfl kc6 (q0 := 0) rfl hl.1 rfl (Nat.le_of_ble_eq_true rfl) dX6_told_22 ⟨Nat.zero_le _, Nat.zero_le _⟩ (fun r_2 u_3 H locs hv hW hS => ?_)
    obtain ⟨errs_2, rfl⟩ : ∃ z, z = u_3 := ⟨_, rfl⟩
    try dsimp only at hv
    have hW : wo G A (wd_X6_0 G b images errs_2) H := hW
    exact ret (errs_2) r_2 H locs ls _ rfl hW hS hv dX6_told_25
  refine lv_iload_n hx hb dX6_told_0 rfl (lv_at hl 1 rfl) ?_
  refine lv_iconst (v := 1) hx hb dX6_told_1 kic_1 ?_
  refine lv_icmp_lt (tgt := 20) hx hb dX6_told_2 (by decide) (fun c_1 => ?_) (fun c_1 => ?_)
  · replace hv := hv.1 c_1
    exact h_j_X6_told_20 errs H locs ls hW hS (lv_sub hl [0] rfl) hv
  · replace hv := hv.2 c_1
    refine lv_iload_n hx hb dX6_told_5 rfl (lv_at hl 1 rfl) ?_
    refine lv_bipush (v := 6) hx hb dX6_told_6 kbp_6 ?_
    refine lv_icmp_gt (tgt := 20) hx hb dX6_told_8 (by decide) (fun c_4 => ?_) (fun c_4 => ?_)
    · replace hv := hv.1 c_4
      exact h_j_X6_told_20 errs H locs ls hW hS (lv_sub hl [0] rfl) hv
    · replace hv := hv.2 c_4
      refine lv_aload_n hx hb dX6_told_11 rfl (lv_at hl 0 rfl) ?_
      refine q_get C kc6 hW 0 rfl 8 (by decide) fl_X6_50 rfl rfl dX6_told_12 ?_
      refine lv_iload_n hx hb dX6_told_15 rfl (lv_at hl 1 rfl) ?_
      obtain ⟨h_5, hv⟩ := hv
      refine q_iald C hW 1 rfl h_5 dX6_told_16 ?_
      refine lv_goto (tgt := 25) hx hb dX6_told_17 (by decide) ?_
      exact ret (errs) (errs p1.toNatClampNeg) H locs ls _ rfl hW hS hv dX6_told_25
