set_option maxHeartbeats 4000000 in
set_option maxRecDepth 100000 in
theorem c_X6_put (l : Launch) (G : Gt) (b : Nat → Nat) (images : Int32) (shb : Nat → Int32) (shs : Nat → Int32) (shn : Nat → Nat → Int32) (errs : Nat → Int32) (p1 : Int32) (p2 : Int32) (p3 : Int32) (K : Int32 → (Nat → Nat → Int32) → (Nat → Int32) → Prop) (hv : v_X6_put p1 p2 p3 shb shs shn errs K) : CI l G yX6_put (.code yX6_put cX6_put 4 (some .int) :: wsG) (rmm 2 41) [.ref (b 0), .int p1, .int p2, .int p3] (wd_X6_26 G b images shb shs shn errs) (S := (Nat → Nat → Int32) × (Nat → Int32)) (fun u => wd_X6_26 G b images shb shs u.1 u.2) (fun r u => K r u.1 u.2) := by
  refine ci_intro (by decide) rfl (fun _ => rfl) (Nat.le_of_ble_eq_true rfl) ?_
  intro p e s m args below meth c A H ls Q C hW hS hl ret
  have hx := C.1.1
  have hb := C.1.2.1
  generalize hls : ([] : List Loc) = locs at hS ⊢
  have hl : lv_has ls 4 [(0, .ref (b 0)), (1, .int p1), (2, .int p2), (3, .int p3)] := hl
  have h_j_X6_put_48 : ∀ (shn : Nat → Nat → Int32) (errs : Nat → Int32) (H : Heap) (locs : List Loc) (ls : Array Slot), wo G A (wd_X6_26 G b images shb shs shn errs) H → va_S A s.heap H locs → lv_has ls 4 [(0, .ref (b 0))] → j_X6_put_48 p1 p2 p3 shb shs K shn errs → W p l e (rmm 2 41) s m args below meth c H locs 0 0 Q (F0 m 48 ls []) := by
    intro shn errs H locs ls hW hS hl hv
    refine lv_aload_n hx hb dX6_put_48 rfl (lv_at hl 0 rfl) ?_
    refine lv_iconst (v := 1) hx hb dX6_put_49 kic_1 ?_
    refine q_callV (rest := []) (n := 1) C (c_X6_error l G b images errs (1 : Int32) _ hv) ml_X6_64 kb_X6_error rfl ⟨⟨rfl, rfl⟩, (Nat.le_of_ble_eq_true rfl), (Nat.le_of_ble_eq_true rfl)⟩ hW hS [0, 10] rfl rfl kc6 (q0 := 0) rfl hl.1 rfl (Nat.le_of_ble_eq_true rfl) dX6_put_50 ⟨Nat.zero_le _, Nat.zero_le _⟩ (fun r_10 u_11 H locs hv hW hS => ?_)
    obtain ⟨errs_10, rfl⟩ : ∃ z, z = u_11 := ⟨_, rfl⟩
    try dsimp only at hv
    have hW : wo G A (wd_X6_26 G b images shb shs shn errs_10) H := hW
    exact ret (shn, errs_10) r_10 H locs ls _ rfl hW hS hv dX6_put_53
  refine lv_iload_n hx hb dX6_put_0 rfl (lv_at hl 1 rfl) ?_
  refine q_callS (rest := []) (n := 1) C (c_X6_isSheet l G p1 _ hv) ml_X6_187 kb_X6_isSheet rfl ⟨⟨rfl, rfl⟩, (Nat.le_of_ble_eq_true rfl), (Nat.le_of_ble_eq_true rfl)⟩ hW hS hl.1 rfl (Nat.le_of_ble_eq_true rfl) dX6_put_1 ⟨Nat.zero_le _, Nat.zero_le _⟩ (fun r_1 u_2 H locs hv hW hS => ?_)
  obtain ⟨hv_b_1, hv⟩ := hv
  try dsimp only at hv
  refine lv_if_ne (tgt := 13) hx hb dX6_put_4 (by decide) (fun c_3 => ?_) (fun c_3 => ?_)
  · replace hv := hv.1 c_3
    refine lv_aload_n hx hb dX6_put_13 rfl (lv_at hl 0 rfl) ?_
    refine q_get C kc6 hW 0 rfl 7 (by decide) fl_X6_46 rfl rfl dX6_put_14 ?_
    refine lv_iload_n hx hb dX6_put_17 rfl (lv_at hl 1 rfl) ?_
    obtain ⟨h_4, hv⟩ := hv
    refine va_aldq (D := G.1) (cl := GB_cl) (tys := tyG G) hx hb C.2.1 hW.1 1 2 rfl rfl h_4 dX6_put_18 ?_
    have hj_p1_toNatClampNeg : p1.toNatClampNeg < 4 := Nat.not_le.mp fun q => h_4 (Or.inr q)
    refine q_callN (rest := []) (n := 0) C (c_X2_isMissing l G (fun k => b (43 + 2 * p1.toNatClampNeg + k)) (shb p1.toNatClampNeg) (shs p1.toNatClampNeg) _ hv) nm_X6_190 kb_X2_isMissing rfl ⟨⟨rfl, rfl⟩, (Nat.le_of_ble_eq_true rfl), (Nat.le_of_ble_eq_true rfl)⟩ hW hS [2 + 2 * p1.toNatClampNeg] (co_4 (P := fun j => va_nd [2 + 2 * j] = true) rfl rfl rfl rfl hj_p1_toNatClampNeg) (co_4 (P := fun j => [2 + 2 * j].map (fun i => (wd_X6_26 G b images shb shs shn errs)[i]?) = (wd_X2_0 G (fun k => b (43 + 2 * j + k)) (shb j) (shs j)).map some) rfl rfl rfl rfl hj_p1_toNatClampNeg) kc2 (q0 := 2 + 2 * p1.toNatClampNeg) (co_4 (P := fun j => (wd_X6_26 G b images shb shs shn errs)[2 + 2 * j]? = some (b (43 + 2 * j), .inr (2, [.int (shb j), .int (shs j), .ref (b (43 + 2 * j + 1))]))) rfl rfl rfl rfl hj_p1_toNatClampNeg) hl.1 rfl (Nat.le_of_ble_eq_true rfl) dX6_put_19 ⟨Nat.zero_le _, Nat.zero_le _⟩ (fun r_5 u_6 H locs hv hW hS => ?_)
    obtain ⟨hv_b_5, hv⟩ := hv
    try dsimp only at hv
    have e_7 := co_4 (P := fun j => mix (wd_X6_26 G b images shb shs shn errs) [2 + 2 * j] (wd_X2_0 G (fun k => b (43 + 2 * j + k)) (shb j) (shs j)) = (wd_X6_26 G b images shb shs shn errs)) rfl rfl rfl rfl hj_p1_toNatClampNeg
    have hW : wo G A (wd_X6_26 G b images shb shs shn errs) H := Eq.mp (congrArg (fun z => wo G A z H) e_7) hW
    refine lv_if_eq (tgt := 31) hx hb dX6_put_22 (by decide) (fun c_8 => ?_) (fun c_8 => ?_)
    · replace hv := hv.1 c_8
      refine lv_iload_n hx hb dX6_put_31 rfl (lv_at hl 2 rfl) ?_
      refine lv_if_lt (tgt := 48) hx hb dX6_put_32 (by decide) (fun c_9 => ?_) (fun c_9 => ?_)
      · replace hv := hv.1 c_9
        exact h_j_X6_put_48 shn errs H locs ls hW hS (lv_sub hl [0] rfl) hv
      · replace hv := hv.2 c_9
        refine lv_iload_n hx hb dX6_put_35 rfl (lv_at hl 2 rfl) ?_
        refine lv_aload_n hx hb dX6_put_36 rfl (lv_at hl 0 rfl) ?_
        refine q_get C kc6 hW 0 rfl 7 (by decide) fl_X6_46 rfl rfl dX6_put_37 ?_
        refine lv_iload_n hx hb dX6_put_40 rfl (lv_at hl 1 rfl) ?_
        obtain ⟨h_12, hv⟩ := hv
        refine va_aldq (D := G.1) (cl := GB_cl) (tys := tyG G) hx hb C.2.1 hW.1 1 2 rfl rfl h_12 dX6_put_41 ?_
        have hj_p1_toNatClampNeg : p1.toNatClampNeg < 4 := Nat.not_le.mp fun q => h_12 (Or.inr q)
        refine q_getN C kc2 hW (2 + 2 * p1.toNatClampNeg) (co_4 (P := fun j => (wd_X6_26 G b images shb shs shn errs)[2 + 2 * j]? = some (b (43 + 2 * j), .inr (2, [.int (shb j), .int (shs j), .ref (b (43 + 2 * j + 1))]))) rfl rfl rfl rfl hj_p1_toNatClampNeg) 1 (by decide) nf_X6_220 rfl rfl dX6_put_42 ?_
        refine lv_icmp_lt (tgt := 54) hx hb dX6_put_45 (by decide) (fun c_13 => ?_) (fun c_13 => ?_)
        · replace hv := hv.1 c_13
          refine lv_aload_n hx hb dX6_put_54 rfl (lv_at hl 0 rfl) ?_
          refine q_get C kc6 hW 0 rfl 7 (by decide) fl_X6_46 rfl rfl dX6_put_55 ?_
          refine lv_iload_n hx hb dX6_put_58 rfl (lv_at hl 1 rfl) ?_
          obtain ⟨h_14, hv⟩ := hv
          refine va_aldq (D := G.1) (cl := GB_cl) (tys := tyG G) hx hb C.2.1 hW.1 1 2 rfl rfl h_14 dX6_put_59 ?_
          have hj_p1_toNatClampNeg : p1.toNatClampNeg < 4 := Nat.not_le.mp fun q => h_14 (Or.inr q)
          refine lv_iload_n hx hb dX6_put_60 rfl (lv_at hl 2 rfl) ?_
          refine lv_iload_n hx hb dX6_put_61 rfl (lv_at hl 3 rfl) ?_
          refine q_callNv (rest := []) (n := 2) C (c_X2_write l G (fun k => b (43 + 2 * p1.toNatClampNeg + k)) (shb p1.toNatClampNeg) (shs p1.toNatClampNeg) (shn p1.toNatClampNeg) p2 p3 _ hv) nm_X6_221 kb_X2_write rfl ⟨⟨rfl, rfl⟩, (Nat.le_of_ble_eq_true rfl), (Nat.le_of_ble_eq_true rfl)⟩ hW hS [2 + 2 * p1.toNatClampNeg, 3 + 2 * p1.toNatClampNeg] (co_4 (P := fun j => va_nd [2 + 2 * j, 3 + 2 * j] = true) rfl rfl rfl rfl hj_p1_toNatClampNeg) (co_4 (P := fun j => [2 + 2 * j, 3 + 2 * j].map (fun i => (wd_X6_26 G b images shb shs shn errs)[i]?) = (wd_X2_1 G (fun k => b (43 + 2 * j + k)) (shb j) (shs j) (shn j)).map some) rfl rfl rfl rfl hj_p1_toNatClampNeg) kc2 (q0 := 2 + 2 * p1.toNatClampNeg) (co_4 (P := fun j => (wd_X6_26 G b images shb shs shn errs)[2 + 2 * j]? = some (b (43 + 2 * j), .inr (2, [.int (shb j), .int (shs j), .ref (b (43 + 2 * j + 1))]))) rfl rfl rfl rfl hj_p1_toNatClampNeg) hl.1 rfl (Nat.le_of_ble_eq_true rfl) dX6_put_62 ⟨Nat.zero_le _, Nat.zero_le _⟩ (fun u_16 H locs hv hW hS => ?_)
          obtain ⟨shn_15, rfl⟩ : ∃ z, z = u_16 := ⟨_, rfl⟩
          try dsimp only at hv
          have e_17 := co_4 (P := fun j => ∀ (shn_15 : Nat → Int32), mix (wd_X6_26 G b images shb shs shn errs) [2 + 2 * j, 3 + 2 * j] (wd_X2_1 G (fun k => b (43 + 2 * j + k)) (shb j) (shs j) shn_15) = (wd_X6_26 G b images shb shs (va_up shn j shn_15) errs)) (fun _ => rfl) (fun _ => rfl) (fun _ => rfl) (fun _ => rfl) hj_p1_toNatClampNeg shn_15
          have hW : wo G A (wd_X6_26 G b images shb shs (va_up shn p1.toNatClampNeg shn_15) errs) H := Eq.mp (congrArg (fun z => wo G A z H) e_17) hW
          refine lv_iconst (v := 1) hx hb dX6_put_65 kic_1 ?_
          exact ret ((va_up shn p1.toNatClampNeg shn_15), errs) (1 : Int32) H locs ls _ rfl hW hS hv dX6_put_66
        · replace hv := hv.2 c_13
          exact h_j_X6_put_48 shn errs H locs ls hW hS (lv_sub hl [0] rfl) hv
    · replace hv := hv.2 c_8
      refine lv_aload_n hx hb dX6_put_25 rfl (lv_at hl 0 rfl) ?_
      refine lv_iconst (v := 2) hx hb dX6_put_26 kic_2 ?_
      refine q_callV (rest := []) (n := 1) C (c_X6_error l G b images errs (2 : Int32) _ hv) ml_X6_64 kb_X6_error rfl ⟨⟨rfl, rfl⟩, (Nat.le_of_ble_eq_true rfl), (Nat.le_of_ble_eq_true rfl)⟩ hW hS [0, 10] rfl rfl kc6 (q0 := 0) rfl hl.1 rfl (Nat.le_of_ble_eq_true rfl) dX6_put_27 ⟨Nat.zero_le _, Nat.zero_le _⟩ (fun r_18 u_19 H locs hv hW hS => ?_)
      obtain ⟨errs_18, rfl⟩ : ∃ z, z = u_19 := ⟨_, rfl⟩
      try dsimp only at hv
      have hW : wo G A (wd_X6_26 G b images shb shs shn errs_18) H := hW
      exact ret (shn, errs_18) r_18 H locs ls _ rfl hW hS hv dX6_put_30
  · replace hv := hv.2 c_3
    refine lv_aload_n hx hb dX6_put_7 rfl (lv_at hl 0 rfl) ?_
    refine lv_iconst (v := 1) hx hb dX6_put_8 kic_1 ?_
    refine q_callV (rest := []) (n := 1) C (c_X6_error l G b images errs (1 : Int32) _ hv) ml_X6_64 kb_X6_error rfl ⟨⟨rfl, rfl⟩, (Nat.le_of_ble_eq_true rfl), (Nat.le_of_ble_eq_true rfl)⟩ hW hS [0, 10] rfl rfl kc6 (q0 := 0) rfl hl.1 rfl (Nat.le_of_ble_eq_true rfl) dX6_put_9 ⟨Nat.zero_le _, Nat.zero_le _⟩ (fun r_20 u_21 H locs hv hW hS => ?_)
    obtain ⟨errs_20, rfl⟩ : ∃ z, z = u_21 := ⟨_, rfl⟩
    try dsimp only at hv
    have hW : wo G A (wd_X6_26 G b images shb shs shn errs_20) H := hW
    exact ret (shn, errs_20) r_20 H locs ls _ rfl hW hS hv dX6_put_12
set_option maxHeartbeats 4000000 in
set_option maxRecDepth 100000 in
theorem c_X6_move (l : Launch) (G : Gt) (b : Nat → Nat) (images : Int32) (shb : Nat → Int32) (shs : Nat → Int32) (shn : Nat → Nat → Int32) (errs : Nat → Int32) (p1 : Int32) (p2 : Int32) (p3 : Int32) (p4 : Int32) (p5 : Int32) (K : Int32 → (Nat → Nat → Int32) → (Nat → Int32) → Prop) (hv : v_X6_move p1 p2 p3 p4 p5 shb shs shn errs K) : CI l G yX6_move (.code yX6_move cX6_move 8 (some .int) :: wsG) (rmm 2 60) [.ref (b 0), .int p1, .int p2, .int p3, .int p4, .int p5] (wd_X6_26 G b images shb shs shn errs) (S := (Nat → Nat → Int32) × (Nat → Int32)) (fun u => wd_X6_26 G b images shb shs u.1 u.2) (fun r u => K r u.1 u.2) := by
  refine ci_intro (by decide) rfl (fun _ => rfl) (Nat.le_of_ble_eq_true rfl) ?_
  intro p e s m args below meth c A H ls Q C hW hS hl ret
  have hx := C.1.1
  have hb := C.1.2.1
  generalize hls : ([] : List Loc) = locs at hS ⊢
  have hl : lv_has ls 8 [(0, .ref (b 0)), (1, .int p1), (2, .int p2), (3, .int p3), (4, .int p4), (5, .int p5)] := hl
  have h_j_X6_move_14 : ∀ (shn : Nat → Nat → Int32) (errs : Nat → Int32) (H : Heap) (locs : List Loc) (ls : Array Slot), wo G A (wd_X6_26 G b images shb shs shn errs) H → va_S A s.heap H locs → lv_has ls 8 [(0, .ref (b 0))] → j_X6_move_14 p1 p2 p3 p4 p5 shb shs K shn errs → W p l e (rmm 2 60) s m args below meth c H locs 0 0 Q (F0 m 14 ls []) := by
    intro shn errs H locs ls hW hS hl hv
    refine lv_aload_n hx hb dX6_move_14 rfl (lv_at hl 0 rfl) ?_
    refine lv_iconst (v := 1) hx hb dX6_move_15 kic_1 ?_
    refine q_callV (rest := []) (n := 1) C (c_X6_error l G b images errs (1 : Int32) _ hv) ml_X6_64 kb_X6_error rfl ⟨⟨rfl, rfl⟩, (Nat.le_of_ble_eq_true rfl), (Nat.le_of_ble_eq_true rfl)⟩ hW hS [0, 10] rfl rfl kc6 (q0 := 0) rfl hl.1 rfl (Nat.le_of_ble_eq_true rfl) dX6_move_16 ⟨Nat.zero_le _, Nat.zero_le _⟩ (fun r_4 u_5 H locs hv hW hS => ?_)
    obtain ⟨errs_4, rfl⟩ : ∃ z, z = u_5 := ⟨_, rfl⟩
    try dsimp only at hv
    have hW : wo G A (wd_X6_26 G b images shb shs shn errs_4) H := hW
    exact ret (shn, errs_4) r_4 H locs ls _ rfl hW hS hv dX6_move_19
  have h_j_X6_move_52 : ∀ (shn : Nat → Nat → Int32) (errs : Nat → Int32) (H : Heap) (locs : List Loc) (ls : Array Slot), wo G A (wd_X6_26 G b images shb shs shn errs) H → va_S A s.heap H locs → lv_has ls 8 [(0, .ref (b 0))] → j_X6_move_52 p1 p2 p3 p4 p5 shb shs K shn errs → W p l e (rmm 2 60) s m args below meth c H locs 0 0 Q (F0 m 52 ls []) := by
    intro shn errs H locs ls hW hS hl hv
    refine lv_aload_n hx hb dX6_move_52 rfl (lv_at hl 0 rfl) ?_
    refine lv_iconst (v := 2) hx hb dX6_move_53 kic_2 ?_
    refine q_callV (rest := []) (n := 1) C (c_X6_error l G b images errs (2 : Int32) _ hv) ml_X6_64 kb_X6_error rfl ⟨⟨rfl, rfl⟩, (Nat.le_of_ble_eq_true rfl), (Nat.le_of_ble_eq_true rfl)⟩ hW hS [0, 10] rfl rfl kc6 (q0 := 0) rfl hl.1 rfl (Nat.le_of_ble_eq_true rfl) dX6_move_54 ⟨Nat.zero_le _, Nat.zero_le _⟩ (fun r_15 u_16 H locs hv hW hS => ?_)
    obtain ⟨errs_15, rfl⟩ : ∃ z, z = u_16 := ⟨_, rfl⟩
    try dsimp only at hv
    have hW : wo G A (wd_X6_26 G b images shb shs shn errs_15) H := hW
    exact ret (shn, errs_15) r_15 H locs ls _ rfl hW hS hv dX6_move_57
  have h_j_X6_move_100 : ∀ (shn : Nat → Nat → Int32) (errs : Nat → Int32) (H : Heap) (locs : List Loc) (ls : Array Slot), wo G A (wd_X6_26 G b images shb shs shn errs) H → va_S A s.heap H locs → lv_has ls 8 [(0, .ref (b 0))] → j_X6_move_100 p1 p2 p3 p4 p5 shb shs K shn errs → W p l e (rmm 2 60) s m args below meth c H locs 0 0 Q (F0 m 100 ls []) := by
    intro shn errs H locs ls hW hS hl hv
    refine lv_aload_n hx hb dX6_move_100 rfl (lv_at hl 0 rfl) ?_
    refine lv_iconst (v := 1) hx hb dX6_move_101 kic_1 ?_
    refine q_callV (rest := []) (n := 1) C (c_X6_error l G b images errs (1 : Int32) _ hv) ml_X6_64 kb_X6_error rfl ⟨⟨rfl, rfl⟩, (Nat.le_of_ble_eq_true rfl), (Nat.le_of_ble_eq_true rfl)⟩ hW hS [0, 10] rfl rfl kc6 (q0 := 0) rfl hl.1 rfl (Nat.le_of_ble_eq_true rfl) dX6_move_102 ⟨Nat.zero_le _, Nat.zero_le _⟩ (fun r_26 u_27 H locs hv hW hS => ?_)
    obtain ⟨errs_26, rfl⟩ : ∃ z, z = u_27 := ⟨_, rfl⟩
    try dsimp only at hv
    have hW : wo G A (wd_X6_26 G b images shb shs shn errs_26) H := hW
    exact ret (shn, errs_26) r_26 H locs ls _ rfl hW hS hv dX6_move_105
  refine lv_iload_n hx hb dX6_move_0 rfl (lv_at hl 1 rfl) ?_
  refine q_callS (rest := []) (n := 1) C (c_X6_isSheet l G p1 _ hv) ml_X6_187 kb_X6_isSheet rfl ⟨⟨rfl, rfl⟩, (Nat.le_of_ble_eq_true rfl), (Nat.le_of_ble_eq_true rfl)⟩ hW hS hl.1 rfl (Nat.le_of_ble_eq_true rfl) dX6_move_1 ⟨Nat.zero_le _, Nat.zero_le _⟩ (fun r_1 u_2 H locs hv hW hS => ?_)
  obtain ⟨hv_b_1, hv⟩ := hv
  try dsimp only at hv
  refine lv_if_eq (tgt := 14) hx hb dX6_move_4 (by decide) (fun c_3 => ?_) (fun c_3 => ?_)
  · replace hv := hv.1 c_3
    exact h_j_X6_move_14 shn errs H locs ls hW hS (lv_sub hl [0] rfl) hv
  · replace hv := hv.2 c_3
    refine lv_iload_n hx hb dX6_move_7 rfl (lv_at hl 3 rfl) ?_
    refine q_callS (rest := []) (n := 1) C (c_X6_isSheet l G p3 _ hv) ml_X6_187 kb_X6_isSheet rfl ⟨⟨rfl, rfl⟩, (Nat.le_of_ble_eq_true rfl), (Nat.le_of_ble_eq_true rfl)⟩ hW hS hl.1 rfl (Nat.le_of_ble_eq_true rfl) dX6_move_8 ⟨Nat.zero_le _, Nat.zero_le _⟩ (fun r_6 u_7 H locs hv hW hS => ?_)
    obtain ⟨hv_b_6, hv⟩ := hv
    try dsimp only at hv
    refine lv_if_ne (tgt := 20) hx hb dX6_move_11 (by decide) (fun c_8 => ?_) (fun c_8 => ?_)
    · replace hv := hv.1 c_8
      refine lv_aload_n hx hb dX6_move_20 rfl (lv_at hl 0 rfl) ?_
      refine q_get C kc6 hW 0 rfl 7 (by decide) fl_X6_46 rfl rfl dX6_move_21 ?_
      refine lv_iload_n hx hb dX6_move_24 rfl (lv_at hl 1 rfl) ?_
      obtain ⟨h_9, hv⟩ := hv
      refine va_aldq (D := G.1) (cl := GB_cl) (tys := tyG G) hx hb C.2.1 hW.1 1 2 rfl rfl h_9 dX6_move_25 ?_
      have hj_p1_toNatClampNeg : p1.toNatClampNeg < 4 := Nat.not_le.mp fun q => h_9 (Or.inr q)
      refine lv_astore (lv' := [(6, .ref (b (43 + 2 * p1.toNatClampNeg))), (0, .ref (b 0)), (1, .int p1), (2, .int p2), (3, .int p3), (4, .int p4), (5, .int p5)]) hx hb dX6_move_26 hl (by decide) rfl (fun ls hl => ?_)
      refine lv_aload_n hx hb dX6_move_28 rfl (lv_at hl 1 rfl) ?_
      refine q_get C kc6 hW 0 rfl 7 (by decide) fl_X6_46 rfl rfl dX6_move_29 ?_
      refine lv_iload_n hx hb dX6_move_32 rfl (lv_at hl 4 rfl) ?_
      obtain ⟨h_10, hv⟩ := hv
      refine va_aldq (D := G.1) (cl := GB_cl) (tys := tyG G) hx hb C.2.1 hW.1 1 2 rfl rfl h_10 dX6_move_33 ?_
      have hj_p3_toNatClampNeg : p3.toNatClampNeg < 4 := Nat.not_le.mp fun q => h_10 (Or.inr q)
      refine lv_astore (lv' := [(7, .ref (b (43 + 2 * p3.toNatClampNeg))), (6, .ref (b (43 + 2 * p1.toNatClampNeg))), (0, .ref (b 0)), (1, .int p1), (2, .int p2), (3, .int p3), (4, .int p4), (5, .int p5)]) hx hb dX6_move_34 hl (by decide) rfl (fun ls hl => ?_)
      refine lv_aload hx hb dX6_move_36 (lv_at hl 1 rfl) ?_
      refine q_callN (rest := []) (n := 0) C (c_X2_isMissing l G (fun k => b (43 + 2 * p1.toNatClampNeg + k)) (shb p1.toNatClampNeg) (shs p1.toNatClampNeg) _ hv) nm_X6_190 kb_X2_isMissing rfl ⟨⟨rfl, rfl⟩, (Nat.le_of_ble_eq_true rfl), (Nat.le_of_ble_eq_true rfl)⟩ hW hS [2 + 2 * p1.toNatClampNeg] (co_4 (P := fun j => va_nd [2 + 2 * j] = true) rfl rfl rfl rfl hj_p1_toNatClampNeg) (co_4 (P := fun j => [2 + 2 * j].map (fun i => (wd_X6_26 G b images shb shs shn errs)[i]?) = (wd_X2_0 G (fun k => b (43 + 2 * j + k)) (shb j) (shs j)).map some) rfl rfl rfl rfl hj_p1_toNatClampNeg) kc2 (q0 := 2 + 2 * p1.toNatClampNeg) (co_4 (P := fun j => (wd_X6_26 G b images shb shs shn errs)[2 + 2 * j]? = some (b (43 + 2 * j), .inr (2, [.int (shb j), .int (shs j), .ref (b (43 + 2 * j + 1))]))) rfl rfl rfl rfl hj_p1_toNatClampNeg) hl.1 rfl (Nat.le_of_ble_eq_true rfl) dX6_move_38 ⟨Nat.zero_le _, Nat.zero_le _⟩ (fun r_11 u_12 H locs hv hW hS => ?_)
      obtain ⟨hv_b_11, hv⟩ := hv
      try dsimp only at hv
      have e_13 := co_4 (P := fun j => mix (wd_X6_26 G b images shb shs shn errs) [2 + 2 * j] (wd_X2_0 G (fun k => b (43 + 2 * j + k)) (shb j) (shs j)) = (wd_X6_26 G b images shb shs shn errs)) rfl rfl rfl rfl hj_p1_toNatClampNeg
      have hW : wo G A (wd_X6_26 G b images shb shs shn errs) H := Eq.mp (congrArg (fun z => wo G A z H) e_13) hW
      refine lv_if_ne (tgt := 52) hx hb dX6_move_41 (by decide) (fun c_14 => ?_) (fun c_14 => ?_)
      · replace hv := hv.1 c_14
        exact h_j_X6_move_52 shn errs H locs ls hW hS (lv_sub hl [2] rfl) hv
      · replace hv := hv.2 c_14
        refine lv_aload hx hb dX6_move_44 (lv_at hl 0 rfl) ?_
        refine q_callN (rest := []) (n := 0) C (c_X2_isMissing l G (fun k => b (43 + 2 * p3.toNatClampNeg + k)) (shb p3.toNatClampNeg) (shs p3.toNatClampNeg) _ hv) nm_X6_190 kb_X2_isMissing rfl ⟨⟨rfl, rfl⟩, (Nat.le_of_ble_eq_true rfl), (Nat.le_of_ble_eq_true rfl)⟩ hW hS [2 + 2 * p3.toNatClampNeg] (co_4 (P := fun j => va_nd [2 + 2 * j] = true) rfl rfl rfl rfl hj_p3_toNatClampNeg) (co_4 (P := fun j => [2 + 2 * j].map (fun i => (wd_X6_26 G b images shb shs shn errs)[i]?) = (wd_X2_0 G (fun k => b (43 + 2 * j + k)) (shb j) (shs j)).map some) rfl rfl rfl rfl hj_p3_toNatClampNeg) kc2 (q0 := 2 + 2 * p3.toNatClampNeg) (co_4 (P := fun j => (wd_X6_26 G b images shb shs shn errs)[2 + 2 * j]? = some (b (43 + 2 * j), .inr (2, [.int (shb j), .int (shs j), .ref (b (43 + 2 * j + 1))]))) rfl rfl rfl rfl hj_p3_toNatClampNeg) hl.1 rfl (Nat.le_of_ble_eq_true rfl) dX6_move_46 ⟨Nat.zero_le _, Nat.zero_le _⟩ (fun r_17 u_18 H locs hv hW hS => ?_)
        obtain ⟨hv_b_17, hv⟩ := hv
        try dsimp only at hv
        have e_19 := co_4 (P := fun j => mix (wd_X6_26 G b images shb shs shn errs) [2 + 2 * j] (wd_X2_0 G (fun k => b (43 + 2 * j + k)) (shb j) (shs j)) = (wd_X6_26 G b images shb shs shn errs)) rfl rfl rfl rfl hj_p3_toNatClampNeg
        have hW : wo G A (wd_X6_26 G b images shb shs shn errs) H := Eq.mp (congrArg (fun z => wo G A z H) e_19) hW
        refine lv_if_eq (tgt := 58) hx hb dX6_move_49 (by decide) (fun c_20 => ?_) (fun c_20 => ?_)
        · replace hv := hv.1 c_20
          refine lv_aload hx hb dX6_move_58 (lv_at hl 1 rfl) ?_
          refine q_getN C kc2 hW (2 + 2 * p1.toNatClampNeg) (co_4 (P := fun j => (wd_X6_26 G b images shb shs shn errs)[2 + 2 * j]? = some (b (43 + 2 * j), .inr (2, [.int (shb j), .int (shs j), .ref (b (43 + 2 * j + 1))]))) rfl rfl rfl rfl hj_p1_toNatClampNeg) 0 (by decide) nf_X6_224 rfl rfl dX6_move_60 ?_
          refine lv_aload hx hb dX6_move_63 (lv_at hl 0 rfl) ?_
          refine q_getN C kc2 hW (2 + 2 * p3.toNatClampNeg) (co_4 (P := fun j => (wd_X6_26 G b images shb shs shn errs)[2 + 2 * j]? = some (b (43 + 2 * j), .inr (2, [.int (shb j), .int (shs j), .ref (b (43 + 2 * j + 1))]))) rfl rfl rfl rfl hj_p3_toNatClampNeg) 0 (by decide) nf_X6_224 rfl rfl dX6_move_65 ?_
          refine lv_icmp_eq (tgt := 77) hx hb dX6_move_68 (by decide) (fun c_21 => ?_) (fun c_21 => ?_)
          · replace hv := hv.1 c_21
            refine lv_aload hx hb dX6_move_77 (lv_at hl 1 rfl) ?_
            refine lv_iload_n hx hb dX6_move_79 rfl (lv_at hl 4 rfl) ?_
            refine lv_iload hx hb dX6_move_80 (lv_at hl 7 rfl) ?_
            refine q_callN (rest := []) (n := 2) C (c_X2_holds l G (fun k => b (43 + 2 * p1.toNatClampNeg + k)) (shb p1.toNatClampNeg) (shs p1.toNatClampNeg) p2 p5 _ hv) nm_X6_227 kb_X2_holds rfl ⟨⟨rfl, rfl⟩, (Nat.le_of_ble_eq_true rfl), (Nat.le_of_ble_eq_true rfl)⟩ hW hS [2 + 2 * p1.toNatClampNeg] (co_4 (P := fun j => va_nd [2 + 2 * j] = true) rfl rfl rfl rfl hj_p1_toNatClampNeg) (co_4 (P := fun j => [2 + 2 * j].map (fun i => (wd_X6_26 G b images shb shs shn errs)[i]?) = (wd_X2_0 G (fun k => b (43 + 2 * j + k)) (shb j) (shs j)).map some) rfl rfl rfl rfl hj_p1_toNatClampNeg) kc2 (q0 := 2 + 2 * p1.toNatClampNeg) (co_4 (P := fun j => (wd_X6_26 G b images shb shs shn errs)[2 + 2 * j]? = some (b (43 + 2 * j), .inr (2, [.int (shb j), .int (shs j), .ref (b (43 + 2 * j + 1))]))) rfl rfl rfl rfl hj_p1_toNatClampNeg) hl.1 rfl (Nat.le_of_ble_eq_true rfl) dX6_move_82 ⟨Nat.zero_le _, Nat.zero_le _⟩ (fun r_22 u_23 H locs hv hW hS => ?_)
            obtain ⟨hv_b_22, hv⟩ := hv
            try dsimp only at hv
            have e_24 := co_4 (P := fun j => mix (wd_X6_26 G b images shb shs shn errs) [2 + 2 * j] (wd_X2_0 G (fun k => b (43 + 2 * j + k)) (shb j) (shs j)) = (wd_X6_26 G b images shb shs shn errs)) rfl rfl rfl rfl hj_p1_toNatClampNeg
            have hW : wo G A (wd_X6_26 G b images shb shs shn errs) H := Eq.mp (congrArg (fun z => wo G A z H) e_24) hW
            refine lv_if_eq (tgt := 100) hx hb dX6_move_85 (by decide) (fun c_25 => ?_) (fun c_25 => ?_)
            · replace hv := hv.1 c_25
              exact h_j_X6_move_100 shn errs H locs ls hW hS (lv_sub hl [2] rfl) hv
            · replace hv := hv.2 c_25
              refine lv_aload hx hb dX6_move_88 (lv_at hl 0 rfl) ?_
              refine lv_iload hx hb dX6_move_90 (lv_at hl 6 rfl) ?_
              refine lv_iload hx hb dX6_move_92 (lv_at hl 7 rfl) ?_
              refine q_callN (rest := []) (n := 2) C (c_X2_holds l G (fun k => b (43 + 2 * p3.toNatClampNeg + k)) (shb p3.toNatClampNeg) (shs p3.toNatClampNeg) p4 p5 _ hv) nm_X6_227 kb_X2_holds rfl ⟨⟨rfl, rfl⟩, (Nat.le_of_ble_eq_true rfl), (Nat.le_of_ble_eq_true rfl)⟩ hW hS [2 + 2 * p3.toNatClampNeg] (co_4 (P := fun j => va_nd [2 + 2 * j] = true) rfl rfl rfl rfl hj_p3_toNatClampNeg) (co_4 (P := fun j => [2 + 2 * j].map (fun i => (wd_X6_26 G b images shb shs shn errs)[i]?) = (wd_X2_0 G (fun k => b (43 + 2 * j + k)) (shb j) (shs j)).map some) rfl rfl rfl rfl hj_p3_toNatClampNeg) kc2 (q0 := 2 + 2 * p3.toNatClampNeg) (co_4 (P := fun j => (wd_X6_26 G b images shb shs shn errs)[2 + 2 * j]? = some (b (43 + 2 * j), .inr (2, [.int (shb j), .int (shs j), .ref (b (43 + 2 * j + 1))]))) rfl rfl rfl rfl hj_p3_toNatClampNeg) hl.1 rfl (Nat.le_of_ble_eq_true rfl) dX6_move_94 ⟨Nat.zero_le _, Nat.zero_le _⟩ (fun r_28 u_29 H locs hv hW hS => ?_)
              obtain ⟨hv_b_28, hv⟩ := hv
              try dsimp only at hv
              have e_30 := co_4 (P := fun j => mix (wd_X6_26 G b images shb shs shn errs) [2 + 2 * j] (wd_X2_0 G (fun k => b (43 + 2 * j + k)) (shb j) (shs j)) = (wd_X6_26 G b images shb shs shn errs)) rfl rfl rfl rfl hj_p3_toNatClampNeg
              have hW : wo G A (wd_X6_26 G b images shb shs shn errs) H := Eq.mp (congrArg (fun z => wo G A z H) e_30) hW
              refine lv_if_ne (tgt := 106) hx hb dX6_move_97 (by decide) (fun c_31 => ?_) (fun c_31 => ?_)
              · replace hv := hv.1 c_31
                refine lv_aload hx hb dX6_move_106 (lv_at hl 1 rfl) ?_
                refine q_getN C kc2 hW (2 + 2 * p1.toNatClampNeg) (co_4 (P := fun j => (wd_X6_26 G b images shb shs shn errs)[2 + 2 * j]? = some (b (43 + 2 * j), .inr (2, [.int (shb j), .int (shs j), .ref (b (43 + 2 * j + 1))]))) rfl rfl rfl rfl hj_p1_toNatClampNeg) 2 (by decide) nf_X6_230 rfl rfl dX6_move_108 ?_
                refine lv_iload_n hx hb dX6_move_111 rfl (lv_at hl 4 rfl) ?_
                refine lv_aload hx hb dX6_move_112 (lv_at hl 0 rfl) ?_
                refine q_getN C kc2 hW (2 + 2 * p3.toNatClampNeg) (co_4 (P := fun j => (wd_X6_26 G b images shb shs shn errs)[2 + 2 * j]? = some (b (43 + 2 * j), .inr (2, [.int (shb j), .int (shs j), .ref (b (43 + 2 * j + 1))]))) rfl rfl rfl rfl hj_p3_toNatClampNeg) 2 (by decide) nf_X6_230 rfl rfl dX6_move_114 ?_
                refine lv_iload hx hb dX6_move_117 (lv_at hl 6 rfl) ?_
                refine lv_iload hx hb dX6_move_119 (lv_at hl 7 rfl) ?_
                obtain ⟨h_32, hv⟩ := hv
                obtain ⟨h_33, hv⟩ := hv
                obtain ⟨h_34, hv⟩ := hv
                obtain ⟨h_35, hv⟩ := hv
                obtain ⟨h_36, hv⟩ := hv
                refine va_copyi (D := G.1) (cl := GB_cl) (tys := tyG G) hx hb (C.1.2.2.1.trans hl.1.symm) C.1.2.2.2.1 (C.hts ml_X6_233) (C.hts nat_copy) (C.hts st_copy) (C.hts ini_javalangSystem) C.2.1 hW.1 hW.2 hS (3 + 2 * p1.toNatClampNeg) (3 + 2 * p3.toNatClampNeg) 0 0 (co_4 (P := fun j => (wd_X6_26 G b images shb shs shn errs)[3 + 2 * j]? = some (b (43 + 2 * j + 1), .inl (G.2.1, 24, .inl (shn j)))) rfl rfl rfl rfl hj_p1_toNatClampNeg) (co_4 (P := fun j => (wd_X6_26 G b images shb shs shn errs)[3 + 2 * j]? = some (b (43 + 2 * j + 1), .inl (G.2.1, 24, .inl (shn j)))) rfl rfl rfl rfl hj_p3_toNatClampNeg) rfl rfl rfl h_32 h_33 h_34 h_35 h_36 (fun _ _ => rfl) (Nat.le_of_ble_eq_true rfl) (Nat.le_of_ble_eq_true rfl) dX6_move_121 (fun H locs hP hD hS => ?_)
                have e_37 := co_4 (P := fun j => ∀ v : Nat → Int32, List.set (wd_X6_26 G b images shb shs shn errs) (3 + 2 * j) (b (43 + 2 * j + 1), .inl (G.2.1, 24, .inl v)) = (wd_X6_26 G b images shb shs (va_up shn j v) errs)) (fun _ => rfl) (fun _ => rfl) (fun _ => rfl) (fun _ => rfl) hj_p3_toNatClampNeg (va_cpy (shn p1.toNatClampNeg) (shn p3.toNatClampNeg) p2.toNatClampNeg p4.toNatClampNeg p5.toNatClampNeg)
                have hW : wo G A (wd_X6_26 G b images shb shs (va_up shn p3.toNatClampNeg (va_cpy (shn p1.toNatClampNeg) (shn p3.toNatClampNeg) p2.toNatClampNeg p4.toNatClampNeg p5.toNatClampNeg)) errs) H := Eq.mp (congrArg (fun z => wo G A z H) e_37) ⟨hP, hD⟩
                refine lv_iload hx hb dX6_move_124 (lv_at hl 7 rfl) ?_
                exact ret ((va_up shn p3.toNatClampNeg (va_cpy (shn p1.toNatClampNeg) (shn p3.toNatClampNeg) p2.toNatClampNeg p4.toNatClampNeg p5.toNatClampNeg)), errs) p5 H locs ls _ rfl hW hS hv dX6_move_126
              · replace hv := hv.2 c_31
                exact h_j_X6_move_100 shn errs H locs ls hW hS (lv_sub hl [2] rfl) hv
          · replace hv := hv.2 c_21
            refine lv_aload_n hx hb dX6_move_71 rfl (lv_at hl 2 rfl) ?_
            refine lv_iconst (v := 5) hx hb dX6_move_72 kic_5 ?_
            refine q_callV (rest := []) (n := 1) C (c_X6_error l G b images errs (5 : Int32) _ hv) ml_X6_64 kb_X6_error rfl ⟨⟨rfl, rfl⟩, (Nat.le_of_ble_eq_true rfl), (Nat.le_of_ble_eq_true rfl)⟩ hW hS [0, 10] rfl rfl kc6 (q0 := 0) rfl hl.1 rfl (Nat.le_of_ble_eq_true rfl) dX6_move_73 ⟨Nat.zero_le _, Nat.zero_le _⟩ (fun r_38 u_39 H locs hv hW hS => ?_)
            obtain ⟨errs_38, rfl⟩ : ∃ z, z = u_39 := ⟨_, rfl⟩
            try dsimp only at hv
            have hW : wo G A (wd_X6_26 G b images shb shs shn errs_38) H := hW
            exact ret (shn, errs_38) r_38 H locs ls _ rfl hW hS hv dX6_move_76
        · replace hv := hv.2 c_20
          exact h_j_X6_move_52 shn errs H locs ls hW hS (lv_sub hl [2] rfl) hv
    · replace hv := hv.2 c_8
      exact h_j_X6_move_14 shn errs H locs ls hW hS (lv_sub hl [0] rfl) hv
set_option maxHeartbeats 4000000 in
set_option maxRecDepth 100000 in
theorem c_X6_nears (l : Launch) (G : Gt) (b : Nat → Nat) (images : Int32) (n_people : Int32) (n_taped : Int32) (n_waiting : Int32) (n_z : Int32) (n_day : Int32) (n_near : Nat → Int32) (shb : Nat → Int32) (shs : Nat → Int32) (shn : Nat → Nat → Int32) (errs : Nat → Int32) (p1 : Int32) (K : Int32 → (Nat → Int32) → (Nat → Int32) → Prop) (hv : v_X6_nears p1 n_people n_near shb shs shn errs K) : CI l G yX6_nears (.code yX6_nears cX6_nears 4 (some .int) :: wsG) (rmm 2 41) [.ref (b 0), .int p1] (wd_X6_27 G b images n_people n_taped n_waiting n_z n_day n_near shb shs shn errs) (S := (Nat → Int32) × (Nat → Int32)) (fun u => wd_X6_27 G b images n_people n_taped n_waiting n_z n_day u.1 shb shs shn u.2) (fun r u => K r u.1 u.2) := by
  refine ci_intro (by decide) rfl (fun _ => rfl) (Nat.le_of_ble_eq_true rfl) ?_
  intro p e s m args below meth c A H ls Q C hW hS hl ret
  have hx := C.1.1
  have hb := C.1.2.1
  generalize hls : ([] : List Loc) = locs at hS ⊢
  have hl : lv_has ls 4 [(0, .ref (b 0)), (1, .int p1)] := hl
  have h_l_X6_nears_40 : ∀ (n : Nat), ∀ (x3 : Int32) (n_near : Nat → Int32) (errs : Nat → Int32) (H : Heap) (locs : List Loc) (ls : Array Slot), p1.toNatClampNeg < 4 → wo G A (wd_X6_27 G b images n_people n_taped n_waiting n_z n_day n_near shb shs shn errs) H → va_S A s.heap H locs → lv_has ls 4 [(0, .ref (b 0)), (2, .ref (b (43 + 2 * p1.toNatClampNeg))), (3, .int x3)] → l_X6_nears_40 p1 n_people shb shs shn K n x3 n_near errs → W p l e (rmm 2 41) s m args below meth c H locs 0 0 Q (F0 m 40 ls []) := by
    intro n
    induction n with
    | zero =>
      intro x3 n_near errs H locs ls hj_p1_toNatClampNeg hW hS hl hv
      exact False.elim hv
    | succ n ih =>
      intro x3 n_near errs H locs ls hj_p1_toNatClampNeg hW hS hl hv
      refine lv_iload_n hx hb dX6_nears_40 rfl (lv_at hl 2 rfl) ?_
      refine lv_aload_n hx hb dX6_nears_41 rfl (lv_at hl 1 rfl) ?_
      refine q_getN C kc2 hW (5 + 2 * p1.toNatClampNeg) (co_4 (P := fun j => (wd_X6_27 G b images n_people n_taped n_waiting n_z n_day n_near shb shs shn errs)[5 + 2 * j]? = some (b (43 + 2 * j), .inr (2, [.int (shb j), .int (shs j), .ref (b (43 + 2 * j + 1))]))) rfl rfl rfl rfl hj_p1_toNatClampNeg) 1 (by decide) nf_X6_220 rfl rfl dX6_nears_42 ?_
      refine lv_icmp_ge (tgt := 95) hx hb dX6_nears_45 (by decide) (fun c_10 => ?_) (fun c_10 => ?_)
      · replace hv := hv.1 c_10
        refine lv_iload_n hx hb dX6_nears_95 rfl (lv_at hl 2 rfl) ?_
        exact ret (n_near, errs) x3 H locs ls _ rfl hW hS hv dX6_nears_96
      · replace hv := hv.2 c_10
        refine lv_iload_n hx hb dX6_nears_48 rfl (lv_at hl 2 rfl) ?_
        refine lv_aload_n hx hb dX6_nears_49 rfl (lv_at hl 0 rfl) ?_
        refine q_get C kc6 hW 0 rfl 0 (by decide) fl_X6_10 rfl rfl dX6_nears_50 ?_
        refine q_getN C kc4 hW 1 rfl 0 (by decide) nf_X6_68 rfl rfl dX6_nears_53 ?_
        refine lv_icmp_ge (tgt := 95) hx hb dX6_nears_56 (by decide) (fun c_11 => ?_) (fun c_11 => ?_)
        · replace hv := hv.1 c_11
          refine lv_iload_n hx hb dX6_nears_95 rfl (lv_at hl 2 rfl) ?_
          exact ret (n_near, errs) x3 H locs ls _ rfl hW hS hv dX6_nears_96
        · replace hv := hv.2 c_11
          refine lv_aload_n hx hb dX6_nears_59 rfl (lv_at hl 1 rfl) ?_
          refine q_getN C kc2 hW (5 + 2 * p1.toNatClampNeg) (co_4 (P := fun j => (wd_X6_27 G b images n_people n_taped n_waiting n_z n_day n_near shb shs shn errs)[5 + 2 * j]? = some (b (43 + 2 * j), .inr (2, [.int (shb j), .int (shs j), .ref (b (43 + 2 * j + 1))]))) rfl rfl rfl rfl hj_p1_toNatClampNeg) 2 (by decide) nf_X6_230 rfl rfl dX6_nears_60 ?_
          refine lv_iload_n hx hb dX6_nears_63 rfl (lv_at hl 2 rfl) ?_
          obtain ⟨h_12, hv⟩ := hv
          refine q_iald C hW (6 + 2 * p1.toNatClampNeg) (co_4 (P := fun j => (wd_X6_27 G b images n_people n_taped n_waiting n_z n_day n_near shb shs shn errs)[6 + 2 * j]? = some (b (43 + 2 * j + 1), .inl (G.2.1, 24, .inl (shn j)))) rfl rfl rfl rfl hj_p1_toNatClampNeg) h_12 dX6_nears_64 ?_
          refine q_callS (rest := []) (n := 1) C (c_X6_isNear l G (shn p1.toNatClampNeg x3.toNatClampNeg) _ hv) ml_X6_58 kb_X6_isNear rfl ⟨⟨rfl, rfl⟩, (Nat.le_of_ble_eq_true rfl), (Nat.le_of_ble_eq_true rfl)⟩ hW hS hl.1 rfl (Nat.le_of_ble_eq_true rfl) dX6_nears_65 ⟨Nat.zero_le _, Nat.zero_le _⟩ (fun r_13 u_14 H locs hv hW hS => ?_)
          obtain ⟨hv_b_13, hv⟩ := hv
          try dsimp only at hv
          refine lv_if_eq (tgt := 95) hx hb dX6_nears_68 (by decide) (fun c_15 => ?_) (fun c_15 => ?_)
          · replace hv := hv.1 c_15
            refine lv_iload_n hx hb dX6_nears_95 rfl (lv_at hl 2 rfl) ?_
            exact ret (n_near, errs) x3 H locs ls _ rfl hW hS hv dX6_nears_96
          · replace hv := hv.2 c_15
            refine lv_aload_n hx hb dX6_nears_71 rfl (lv_at hl 0 rfl) ?_
            refine q_get C kc6 hW 0 rfl 0 (by decide) fl_X6_10 rfl rfl dX6_nears_72 ?_
            refine q_getN C kc4 hW 1 rfl 4 (by decide) nf_X6_85 rfl rfl dX6_nears_75 ?_
            refine q_getN C kc3 hW 2 rfl 0 (by decide) nf_X6_88 rfl rfl dX6_nears_78 ?_
            refine lv_iload_n hx hb dX6_nears_81 rfl (lv_at hl 2 rfl) ?_
            refine lv_aload_n hx hb dX6_nears_82 rfl (lv_at hl 1 rfl) ?_
            refine q_getN C kc2 hW (5 + 2 * p1.toNatClampNeg) (co_4 (P := fun j => (wd_X6_27 G b images n_people n_taped n_waiting n_z n_day n_near shb shs shn errs)[5 + 2 * j]? = some (b (43 + 2 * j), .inr (2, [.int (shb j), .int (shs j), .ref (b (43 + 2 * j + 1))]))) rfl rfl rfl rfl hj_p1_toNatClampNeg) 2 (by decide) nf_X6_230 rfl rfl dX6_nears_83 ?_
            refine lv_iload_n hx hb dX6_nears_86 rfl (lv_at hl 2 rfl) ?_
            obtain ⟨h_16, hv⟩ := hv
            refine q_iald C hW (6 + 2 * p1.toNatClampNeg) (co_4 (P := fun j => (wd_X6_27 G b images n_people n_taped n_waiting n_z n_day n_near shb shs shn errs)[6 + 2 * j]? = some (b (43 + 2 * j + 1), .inl (G.2.1, 24, .inl (shn j)))) rfl rfl rfl rfl hj_p1_toNatClampNeg) h_16 dX6_nears_87 ?_
            obtain ⟨h_17, hv⟩ := hv
            refine q_iast C hW hS 3 rfl h_17 dX6_nears_88 (fun H locs hW hS => ?_)
            have hW : wo G A (wd_X6_27 G b images n_people n_taped n_waiting n_z n_day (upd n_near x3.toNatClampNeg (shn p1.toNatClampNeg x3.toNatClampNeg)) shb shs shn errs) H := hW
            refine lv_iinc (v := (x3 + 1)) (lv' := [(3, .int (x3 + 1)), (0, .ref (b 0)), (2, .ref (b (43 + 2 * p1.toNatClampNeg)))]) hx hb dX6_nears_89 hl (k := 2) rfl rfl (by decide) rfl (fun ls hl => ?_)
            refine lv_goto (tgt := 40) hx hb dX6_nears_92 (by decide) ?_
            exact ih (x3 + 1) (upd n_near x3.toNatClampNeg (shn p1.toNatClampNeg x3.toNatClampNeg)) errs H locs ls hj_p1_toNatClampNeg hW hS (lv_sub hl [1, 2, 0] rfl) hv
  refine lv_iload_n hx hb dX6_nears_0 rfl (lv_at hl 1 rfl) ?_
  refine q_callS (rest := []) (n := 1) C (c_X6_isSheet l G p1 _ hv) ml_X6_187 kb_X6_isSheet rfl ⟨⟨rfl, rfl⟩, (Nat.le_of_ble_eq_true rfl), (Nat.le_of_ble_eq_true rfl)⟩ hW hS hl.1 rfl (Nat.le_of_ble_eq_true rfl) dX6_nears_1 ⟨Nat.zero_le _, Nat.zero_le _⟩ (fun r_1 u_2 H locs hv hW hS => ?_)
  obtain ⟨hv_b_1, hv⟩ := hv
  try dsimp only at hv
  refine lv_if_ne (tgt := 13) hx hb dX6_nears_4 (by decide) (fun c_3 => ?_) (fun c_3 => ?_)
  · replace hv := hv.1 c_3
    refine lv_aload_n hx hb dX6_nears_13 rfl (lv_at hl 0 rfl) ?_
    refine q_get C kc6 hW 0 rfl 7 (by decide) fl_X6_46 rfl rfl dX6_nears_14 ?_
    refine lv_iload_n hx hb dX6_nears_17 rfl (lv_at hl 1 rfl) ?_
    obtain ⟨h_4, hv⟩ := hv
    refine va_aldq (D := G.1) (cl := GB_cl) (tys := tyG G) hx hb C.2.1 hW.1 4 2 rfl rfl h_4 dX6_nears_18 ?_
    have hj_p1_toNatClampNeg : p1.toNatClampNeg < 4 := Nat.not_le.mp fun q => h_4 (Or.inr q)
    refine q_callN (rest := []) (n := 0) C (c_X2_isMissing l G (fun k => b (43 + 2 * p1.toNatClampNeg + k)) (shb p1.toNatClampNeg) (shs p1.toNatClampNeg) _ hv) nm_X6_190 kb_X2_isMissing rfl ⟨⟨rfl, rfl⟩, (Nat.le_of_ble_eq_true rfl), (Nat.le_of_ble_eq_true rfl)⟩ hW hS [5 + 2 * p1.toNatClampNeg] (co_4 (P := fun j => va_nd [5 + 2 * j] = true) rfl rfl rfl rfl hj_p1_toNatClampNeg) (co_4 (P := fun j => [5 + 2 * j].map (fun i => (wd_X6_27 G b images n_people n_taped n_waiting n_z n_day n_near shb shs shn errs)[i]?) = (wd_X2_0 G (fun k => b (43 + 2 * j + k)) (shb j) (shs j)).map some) rfl rfl rfl rfl hj_p1_toNatClampNeg) kc2 (q0 := 5 + 2 * p1.toNatClampNeg) (co_4 (P := fun j => (wd_X6_27 G b images n_people n_taped n_waiting n_z n_day n_near shb shs shn errs)[5 + 2 * j]? = some (b (43 + 2 * j), .inr (2, [.int (shb j), .int (shs j), .ref (b (43 + 2 * j + 1))]))) rfl rfl rfl rfl hj_p1_toNatClampNeg) hl.1 rfl (Nat.le_of_ble_eq_true rfl) dX6_nears_19 ⟨Nat.zero_le _, Nat.zero_le _⟩ (fun r_5 u_6 H locs hv hW hS => ?_)
    obtain ⟨hv_b_5, hv⟩ := hv
    try dsimp only at hv
    have e_7 := co_4 (P := fun j => mix (wd_X6_27 G b images n_people n_taped n_waiting n_z n_day n_near shb shs shn errs) [5 + 2 * j] (wd_X2_0 G (fun k => b (43 + 2 * j + k)) (shb j) (shs j)) = (wd_X6_27 G b images n_people n_taped n_waiting n_z n_day n_near shb shs shn errs)) rfl rfl rfl rfl hj_p1_toNatClampNeg
    have hW : wo G A (wd_X6_27 G b images n_people n_taped n_waiting n_z n_day n_near shb shs shn errs) H := Eq.mp (congrArg (fun z => wo G A z H) e_7) hW
    refine lv_if_eq (tgt := 31) hx hb dX6_nears_22 (by decide) (fun c_8 => ?_) (fun c_8 => ?_)
    · replace hv := hv.1 c_8
      refine lv_aload_n hx hb dX6_nears_31 rfl (lv_at hl 0 rfl) ?_
      refine q_get C kc6 hW 0 rfl 7 (by decide) fl_X6_46 rfl rfl dX6_nears_32 ?_
      refine lv_iload_n hx hb dX6_nears_35 rfl (lv_at hl 1 rfl) ?_
      obtain ⟨h_9, hv⟩ := hv
      refine va_aldq (D := G.1) (cl := GB_cl) (tys := tyG G) hx hb C.2.1 hW.1 4 2 rfl rfl h_9 dX6_nears_36 ?_
      have hj_p1_toNatClampNeg : p1.toNatClampNeg < 4 := Nat.not_le.mp fun q => h_9 (Or.inr q)
      refine lv_astore_n (lv' := [(2, .ref (b (43 + 2 * p1.toNatClampNeg))), (0, .ref (b 0)), (1, .int p1)]) hx hb dX6_nears_37 rfl hl (by decide) rfl (fun ls hl => ?_)
      refine lv_iconst (v := 0) hx hb dX6_nears_38 kic_0 ?_
      refine lv_istore_n (lv' := [(3, .int (0 : Int32)), (2, .ref (b (43 + 2 * p1.toNatClampNeg))), (0, .ref (b 0)), (1, .int p1)]) hx hb dX6_nears_39 rfl hl (by decide) rfl (fun ls hl => ?_)
      obtain ⟨n_18, hv⟩ := hv
      exact h_l_X6_nears_40 n_18 (0 : Int32) n_near errs H locs ls hj_p1_toNatClampNeg hW hS (lv_sub hl [2, 1, 0] rfl) hv
    · replace hv := hv.2 c_8
      refine lv_aload_n hx hb dX6_nears_25 rfl (lv_at hl 0 rfl) ?_
      refine lv_iconst (v := 2) hx hb dX6_nears_26 kic_2 ?_
      refine q_callV (rest := []) (n := 1) C (c_X6_error l G b images errs (2 : Int32) _ hv) ml_X6_64 kb_X6_error rfl ⟨⟨rfl, rfl⟩, (Nat.le_of_ble_eq_true rfl), (Nat.le_of_ble_eq_true rfl)⟩ hW hS [0, 13] rfl rfl kc6 (q0 := 0) rfl hl.1 rfl (Nat.le_of_ble_eq_true rfl) dX6_nears_27 ⟨Nat.zero_le _, Nat.zero_le _⟩ (fun r_19 u_20 H locs hv hW hS => ?_)
      obtain ⟨errs_19, rfl⟩ : ∃ z, z = u_20 := ⟨_, rfl⟩
      try dsimp only at hv
      have hW : wo G A (wd_X6_27 G b images n_people n_taped n_waiting n_z n_day n_near shb shs shn errs_19) H := hW
      exact ret (n_near, errs_19) r_19 H locs ls _ rfl hW hS hv dX6_nears_30
  · replace hv := hv.2 c_3
    refine lv_aload_n hx hb dX6_nears_7 rfl (lv_at hl 0 rfl) ?_
    refine lv_iconst (v := 1) hx hb dX6_nears_8 kic_1 ?_
    refine q_callV (rest := []) (n := 1) C (c_X6_error l G b images errs (1 : Int32) _ hv) ml_X6_64 kb_X6_error rfl ⟨⟨rfl, rfl⟩, (Nat.le_of_ble_eq_true rfl), (Nat.le_of_ble_eq_true rfl)⟩ hW hS [0, 13] rfl rfl kc6 (q0 := 0) rfl hl.1 rfl (Nat.le_of_ble_eq_true rfl) dX6_nears_9 ⟨Nat.zero_le _, Nat.zero_le _⟩ (fun r_21 u_22 H locs hv hW hS => ?_)
    obtain ⟨errs_21, rfl⟩ : ∃ z, z = u_22 := ⟨_, rfl⟩
    try dsimp only at hv
    have hW : wo G A (wd_X6_27 G b images n_people n_taped n_waiting n_z n_day n_near shb shs shn errs_21) H := hW
    exact ret (n_near, errs_21) r_21 H locs ls _ rfl hW hS hv dX6_nears_12
set_option maxHeartbeats 4000000 in
set_option maxRecDepth 100000 in
theorem c_X6_judge (l : Launch) (G : Gt) (b : Nat → Nat) (images : Int32) (n_people : Int32) (n_taped : Int32) (n_waiting : Int32) (n_z : Int32) (n_kind : Nat → Int32) (n_day : Int32) (n_near : Nat → Int32) (n_shows : Nat → Int32) (n_gmost : Int32) (n_gsize : Int32) (n_gsteps : Nat → Int32) (n_gstack : Nat → Int32) (shb : Nat → Int32) (shs : Nat → Int32) (shn : Nat → Nat → Int32) (errs : Nat → Int32) (p1 : Int32) (K : Int32 → (Nat → Int32) → (Nat → Int32) → Prop) (hv : v_X6_judge p1 n_people n_kind n_day n_near n_shows n_gmost n_gsize n_gsteps n_gstack shb shs shn errs K) : CI l G yX6_judge (.code yX6_judge cX6_judge 4 (some .int) :: wsG) (rmm 3 72) [.ref (b 0), .int p1] (wd_X6_28 G b images n_people n_taped n_waiting n_z n_kind n_day n_near n_shows n_gmost n_gsize n_gsteps n_gstack shb shs shn errs) (S := (Nat → Int32) × (Nat → Int32)) (fun u => wd_X6_28 G b images n_people n_taped n_waiting n_z n_kind n_day n_near n_shows n_gmost n_gsize n_gsteps u.1 shb shs shn u.2) (fun r u => K r u.1 u.2) := by
  refine ci_intro (by decide) rfl (fun _ => rfl) (Nat.le_of_ble_eq_true rfl) ?_
  intro p e s m args below meth c A H ls Q C hW hS hl ret
  have hx := C.1.1
  have hb := C.1.2.1
  generalize hls : ([] : List Loc) = locs at hS ⊢
  have hl : lv_has ls 4 [(0, .ref (b 0)), (1, .int p1)] := hl
  have h_l_X6_judge_40 : ∀ (n : Nat), ∀ (x3 : Int32) (n_gstack : Nat → Int32) (errs : Nat → Int32) (H : Heap) (locs : List Loc) (ls : Array Slot), p1.toNatClampNeg < 4 → wo G A (wd_X6_28 G b images n_people n_taped n_waiting n_z n_kind n_day n_near n_shows n_gmost n_gsize n_gsteps n_gstack shb shs shn errs) H → va_S A s.heap H locs → lv_has ls 4 [(0, .ref (b 0)), (2, .ref (b (43 + 2 * p1.toNatClampNeg))), (3, .int x3)] → l_X6_judge_40 p1 n_people n_kind n_day n_near n_shows n_gmost n_gsize n_gsteps shb shs shn K n x3 n_gstack errs → W p l e (rmm 3 72) s m args below meth c H locs 0 0 Q (F0 m 40 ls []) := by
    intro n
    induction n with
    | zero =>
      intro x3 n_gstack errs H locs ls hj_p1_toNatClampNeg hW hS hl hv
      exact False.elim hv
    | succ n ih =>
      intro x3 n_gstack errs H locs ls hj_p1_toNatClampNeg hW hS hl hv
      refine lv_iload_n hx hb dX6_judge_40 rfl (lv_at hl 2 rfl) ?_
      refine lv_aload_n hx hb dX6_judge_41 rfl (lv_at hl 1 rfl) ?_
      refine q_getN C kc2 hW (10 + 2 * p1.toNatClampNeg) (co_4 (P := fun j => (wd_X6_28 G b images n_people n_taped n_waiting n_z n_kind n_day n_near n_shows n_gmost n_gsize n_gsteps n_gstack shb shs shn errs)[10 + 2 * j]? = some (b (43 + 2 * j), .inr (2, [.int (shb j), .int (shs j), .ref (b (43 + 2 * j + 1))]))) rfl rfl rfl rfl hj_p1_toNatClampNeg) 1 (by decide) nf_X6_220 rfl rfl dX6_judge_42 ?_
      refine lv_icmp_ge (tgt := 89) hx hb dX6_judge_45 (by decide) (fun c_10 => ?_) (fun c_10 => ?_)
      · replace hv := hv.1 c_10
        refine lv_iload_n hx hb dX6_judge_89 rfl (lv_at hl 2 rfl) ?_
        exact ret (n_gstack, errs) x3 H locs ls _ rfl hW hS hv dX6_judge_90
      · replace hv := hv.2 c_10
        refine lv_iload_n hx hb dX6_judge_48 rfl (lv_at hl 2 rfl) ?_
        refine lv_aload_n hx hb dX6_judge_49 rfl (lv_at hl 0 rfl) ?_
        refine q_get C kc6 hW 0 rfl 0 (by decide) fl_X6_10 rfl rfl dX6_judge_50 ?_
        refine q_getN C kc4 hW 1 rfl 0 (by decide) nf_X6_68 rfl rfl dX6_judge_53 ?_
        refine lv_icmp_ge (tgt := 89) hx hb dX6_judge_56 (by decide) (fun c_11 => ?_) (fun c_11 => ?_)
        · replace hv := hv.1 c_11
          refine lv_iload_n hx hb dX6_judge_89 rfl (lv_at hl 2 rfl) ?_
          exact ret (n_gstack, errs) x3 H locs ls _ rfl hW hS hv dX6_judge_90
        · replace hv := hv.2 c_11
          refine lv_aload_n hx hb dX6_judge_59 rfl (lv_at hl 1 rfl) ?_
          refine q_getN C kc2 hW (10 + 2 * p1.toNatClampNeg) (co_4 (P := fun j => (wd_X6_28 G b images n_people n_taped n_waiting n_z n_kind n_day n_near n_shows n_gmost n_gsize n_gsteps n_gstack shb shs shn errs)[10 + 2 * j]? = some (b (43 + 2 * j), .inr (2, [.int (shb j), .int (shs j), .ref (b (43 + 2 * j + 1))]))) rfl rfl rfl rfl hj_p1_toNatClampNeg) 2 (by decide) nf_X6_230 rfl rfl dX6_judge_60 ?_
          refine lv_iload_n hx hb dX6_judge_63 rfl (lv_at hl 2 rfl) ?_
          obtain ⟨h_12, hv⟩ := hv
          refine q_iald C hW (11 + 2 * p1.toNatClampNeg) (co_4 (P := fun j => (wd_X6_28 G b images n_people n_taped n_waiting n_z n_kind n_day n_near n_shows n_gmost n_gsize n_gsteps n_gstack shb shs shn errs)[11 + 2 * j]? = some (b (43 + 2 * j + 1), .inl (G.2.1, 24, .inl (shn j)))) rfl rfl rfl rfl hj_p1_toNatClampNeg) h_12 dX6_judge_64 ?_
          refine lv_aload_n hx hb dX6_judge_65 rfl (lv_at hl 0 rfl) ?_
          refine q_get C kc6 hW 0 rfl 0 (by decide) fl_X6_10 rfl rfl dX6_judge_66 ?_
          refine lv_iload_n hx hb dX6_judge_69 rfl (lv_at hl 2 rfl) ?_
          refine lv_aload_n hx hb dX6_judge_70 rfl (lv_at hl 0 rfl) ?_
          refine q_get C kc6 hW 0 rfl 0 (by decide) fl_X6_10 rfl rfl dX6_judge_71 ?_
          refine q_getN C kc4 hW 1 rfl 4 (by decide) nf_X6_85 rfl rfl dX6_judge_74 ?_
          refine q_callN (rest := [.int (shn p1.toNatClampNeg x3.toNatClampNeg)]) (n := 2) C (c_X4_signOf l G (fun k => b (k + 1)) (fun k => b (k + 5)) n_people n_taped n_waiting n_z n_kind n_gmost n_gsize n_gsteps n_gstack n_day n_near n_shows x3 _ hv) nm_X6_239 kb_X4_signOf rfl ⟨⟨rfl, rfl⟩, (Nat.le_of_ble_eq_true rfl), (Nat.le_of_ble_eq_true rfl)⟩ hW hS [1, 2, 6, 7, 8, 3, 4, 5] rfl rfl kc4 (q0 := 1) rfl hl.1 rfl (Nat.le_of_ble_eq_true rfl) dX6_judge_77 ⟨Nat.zero_le _, Nat.zero_le _⟩ (fun r_13 u_14 H locs hv hW hS => ?_)
          obtain ⟨n_gstack_13, rfl⟩ : ∃ z, z = u_14 := ⟨_, rfl⟩
          try dsimp only at hv
          have hW : wo G A (wd_X6_28 G b images n_people n_taped n_waiting n_z n_kind n_day n_near n_shows n_gmost n_gsize n_gsteps n_gstack_13 shb shs shn errs) H := hW
          refine lv_icmp_ne (tgt := 89) hx hb dX6_judge_80 (by decide) (fun c_15 => ?_) (fun c_15 => ?_)
          · replace hv := hv.1 c_15
            refine lv_iload_n hx hb dX6_judge_89 rfl (lv_at hl 2 rfl) ?_
            exact ret (n_gstack_13, errs) x3 H locs ls _ rfl hW hS hv dX6_judge_90
          · replace hv := hv.2 c_15
            refine lv_iinc (v := (x3 + 1)) (lv' := [(3, .int (x3 + 1)), (0, .ref (b 0)), (2, .ref (b (43 + 2 * p1.toNatClampNeg)))]) hx hb dX6_judge_83 hl (k := 2) rfl rfl (by decide) rfl (fun ls hl => ?_)
            refine lv_goto (tgt := 40) hx hb dX6_judge_86 (by decide) ?_
            exact ih (x3 + 1) n_gstack_13 errs H locs ls hj_p1_toNatClampNeg hW hS (lv_sub hl [1, 2, 0] rfl) hv
  refine lv_iload_n hx hb dX6_judge_0 rfl (lv_at hl 1 rfl) ?_
  refine q_callS (rest := []) (n := 1) C (c_X6_isSheet l G p1 _ hv) ml_X6_187 kb_X6_isSheet rfl ⟨⟨rfl, rfl⟩, (Nat.le_of_ble_eq_true rfl), (Nat.le_of_ble_eq_true rfl)⟩ hW hS hl.1 rfl (Nat.le_of_ble_eq_true rfl) dX6_judge_1 ⟨Nat.zero_le _, Nat.zero_le _⟩ (fun r_1 u_2 H locs hv hW hS => ?_)
  obtain ⟨hv_b_1, hv⟩ := hv
  try dsimp only at hv
  refine lv_if_ne (tgt := 13) hx hb dX6_judge_4 (by decide) (fun c_3 => ?_) (fun c_3 => ?_)
  · replace hv := hv.1 c_3
    refine lv_aload_n hx hb dX6_judge_13 rfl (lv_at hl 0 rfl) ?_
    refine q_get C kc6 hW 0 rfl 7 (by decide) fl_X6_46 rfl rfl dX6_judge_14 ?_
    refine lv_iload_n hx hb dX6_judge_17 rfl (lv_at hl 1 rfl) ?_
    obtain ⟨h_4, hv⟩ := hv
    refine va_aldq (D := G.1) (cl := GB_cl) (tys := tyG G) hx hb C.2.1 hW.1 9 2 rfl rfl h_4 dX6_judge_18 ?_
    have hj_p1_toNatClampNeg : p1.toNatClampNeg < 4 := Nat.not_le.mp fun q => h_4 (Or.inr q)
    refine q_callN (rest := []) (n := 0) C (c_X2_isMissing l G (fun k => b (43 + 2 * p1.toNatClampNeg + k)) (shb p1.toNatClampNeg) (shs p1.toNatClampNeg) _ hv) nm_X6_190 kb_X2_isMissing rfl ⟨⟨rfl, rfl⟩, (Nat.le_of_ble_eq_true rfl), (Nat.le_of_ble_eq_true rfl)⟩ hW hS [10 + 2 * p1.toNatClampNeg] (co_4 (P := fun j => va_nd [10 + 2 * j] = true) rfl rfl rfl rfl hj_p1_toNatClampNeg) (co_4 (P := fun j => [10 + 2 * j].map (fun i => (wd_X6_28 G b images n_people n_taped n_waiting n_z n_kind n_day n_near n_shows n_gmost n_gsize n_gsteps n_gstack shb shs shn errs)[i]?) = (wd_X2_0 G (fun k => b (43 + 2 * j + k)) (shb j) (shs j)).map some) rfl rfl rfl rfl hj_p1_toNatClampNeg) kc2 (q0 := 10 + 2 * p1.toNatClampNeg) (co_4 (P := fun j => (wd_X6_28 G b images n_people n_taped n_waiting n_z n_kind n_day n_near n_shows n_gmost n_gsize n_gsteps n_gstack shb shs shn errs)[10 + 2 * j]? = some (b (43 + 2 * j), .inr (2, [.int (shb j), .int (shs j), .ref (b (43 + 2 * j + 1))]))) rfl rfl rfl rfl hj_p1_toNatClampNeg) hl.1 rfl (Nat.le_of_ble_eq_true rfl) dX6_judge_19 ⟨Nat.zero_le _, Nat.zero_le _⟩ (fun r_5 u_6 H locs hv hW hS => ?_)
    obtain ⟨hv_b_5, hv⟩ := hv
    try dsimp only at hv
    have e_7 := co_4 (P := fun j => mix (wd_X6_28 G b images n_people n_taped n_waiting n_z n_kind n_day n_near n_shows n_gmost n_gsize n_gsteps n_gstack shb shs shn errs) [10 + 2 * j] (wd_X2_0 G (fun k => b (43 + 2 * j + k)) (shb j) (shs j)) = (wd_X6_28 G b images n_people n_taped n_waiting n_z n_kind n_day n_near n_shows n_gmost n_gsize n_gsteps n_gstack shb shs shn errs)) rfl rfl rfl rfl hj_p1_toNatClampNeg
    have hW : wo G A (wd_X6_28 G b images n_people n_taped n_waiting n_z n_kind n_day n_near n_shows n_gmost n_gsize n_gsteps n_gstack shb shs shn errs) H := Eq.mp (congrArg (fun z => wo G A z H) e_7) hW
    refine lv_if_eq (tgt := 31) hx hb dX6_judge_22 (by decide) (fun c_8 => ?_) (fun c_8 => ?_)
    · replace hv := hv.1 c_8
      refine lv_aload_n hx hb dX6_judge_31 rfl (lv_at hl 0 rfl) ?_
      refine q_get C kc6 hW 0 rfl 7 (by decide) fl_X6_46 rfl rfl dX6_judge_32 ?_
      refine lv_iload_n hx hb dX6_judge_35 rfl (lv_at hl 1 rfl) ?_
      obtain ⟨h_9, hv⟩ := hv
      refine va_aldq (D := G.1) (cl := GB_cl) (tys := tyG G) hx hb C.2.1 hW.1 9 2 rfl rfl h_9 dX6_judge_36 ?_
      have hj_p1_toNatClampNeg : p1.toNatClampNeg < 4 := Nat.not_le.mp fun q => h_9 (Or.inr q)
      refine lv_astore_n (lv' := [(2, .ref (b (43 + 2 * p1.toNatClampNeg))), (0, .ref (b 0)), (1, .int p1)]) hx hb dX6_judge_37 rfl hl (by decide) rfl (fun ls hl => ?_)
      refine lv_iconst (v := 0) hx hb dX6_judge_38 kic_0 ?_
      refine lv_istore_n (lv' := [(3, .int (0 : Int32)), (2, .ref (b (43 + 2 * p1.toNatClampNeg))), (0, .ref (b 0)), (1, .int p1)]) hx hb dX6_judge_39 rfl hl (by decide) rfl (fun ls hl => ?_)
      obtain ⟨n_16, hv⟩ := hv
      exact h_l_X6_judge_40 n_16 (0 : Int32) n_gstack errs H locs ls hj_p1_toNatClampNeg hW hS (lv_sub hl [2, 1, 0] rfl) hv
    · replace hv := hv.2 c_8
      refine lv_aload_n hx hb dX6_judge_25 rfl (lv_at hl 0 rfl) ?_
      refine lv_iconst (v := 2) hx hb dX6_judge_26 kic_2 ?_
      refine q_callV (rest := []) (n := 1) C (c_X6_error l G b images errs (2 : Int32) _ hv) ml_X6_64 kb_X6_error rfl ⟨⟨rfl, rfl⟩, (Nat.le_of_ble_eq_true rfl), (Nat.le_of_ble_eq_true rfl)⟩ hW hS [0, 18] rfl rfl kc6 (q0 := 0) rfl hl.1 rfl (Nat.le_of_ble_eq_true rfl) dX6_judge_27 ⟨Nat.zero_le _, Nat.zero_le _⟩ (fun r_17 u_18 H locs hv hW hS => ?_)
      obtain ⟨errs_17, rfl⟩ : ∃ z, z = u_18 := ⟨_, rfl⟩
      try dsimp only at hv
      have hW : wo G A (wd_X6_28 G b images n_people n_taped n_waiting n_z n_kind n_day n_near n_shows n_gmost n_gsize n_gsteps n_gstack shb shs shn errs_17) H := hW
      exact ret (n_gstack, errs_17) r_17 H locs ls _ rfl hW hS hv dX6_judge_30
  · replace hv := hv.2 c_3
    refine lv_aload_n hx hb dX6_judge_7 rfl (lv_at hl 0 rfl) ?_
    refine lv_iconst (v := 1) hx hb dX6_judge_8 kic_1 ?_
    refine q_callV (rest := []) (n := 1) C (c_X6_error l G b images errs (1 : Int32) _ hv) ml_X6_64 kb_X6_error rfl ⟨⟨rfl, rfl⟩, (Nat.le_of_ble_eq_true rfl), (Nat.le_of_ble_eq_true rfl)⟩ hW hS [0, 18] rfl rfl kc6 (q0 := 0) rfl hl.1 rfl (Nat.le_of_ble_eq_true rfl) dX6_judge_9 ⟨Nat.zero_le _, Nat.zero_le _⟩ (fun r_19 u_20 H locs hv hW hS => ?_)
    obtain ⟨errs_19, rfl⟩ : ∃ z, z = u_20 := ⟨_, rfl⟩
    try dsimp only at hv
    have hW : wo G A (wd_X6_28 G b images n_people n_taped n_waiting n_z n_kind n_day n_near n_shows n_gmost n_gsize n_gsteps n_gstack shb shs shn errs_19) H := hW
    exact ret (n_gstack, errs_19) r_19 H locs ls _ rfl hW hS hv dX6_judge_12
set_option maxHeartbeats 4000000 in
set_option maxRecDepth 100000 in
theorem c_X6_image (l : Launch) (G : Gt) (b : Nat → Nat) (images : Int32) (n_people : Int32) (n_taped : Int32) (n_waiting : Int32) (n_z : Int32) (n_kind : Nat → Int32) (n_em : Nat → Int32) (n_called : Nat → Int32) (n_day : Int32) (n_near : Nat → Int32) (n_shows : Nat → Int32) (n_tmost : Int32) (n_tsize : Int32) (n_tsteps : Nat → Int32) (n_gmost : Int32) (n_gsize : Int32) (n_gsteps : Nat → Int32) (n_tape : Nat → Int32) (n_waits : Nat → Int32) (k_people : Int32) (k_taped : Int32) (k_waiting : Int32) (k_z : Int32) (k_kind : Nat → Int32) (k_em : Nat → Int32) (k_called : Nat → Int32) (k_day : Int32) (k_near : Nat → Int32) (k_shows : Nat → Int32) (k_tmost : Int32) (k_tsize : Int32) (k_tsteps : Nat → Int32) (k_gmost : Int32) (k_gsize : Int32) (k_gsteps : Nat → Int32) (k_tape : Nat → Int32) (k_waits : Nat → Int32) (K : Int32 → Int32 → Int32 → Int32 → Int32 → Int32 → (Nat → Int32) → (Nat → Int32) → (Nat → Int32) → Int32 → (Nat → Int32) → (Nat → Int32) → Int32 → (Nat → Int32) → Int32 → (Nat → Int32) → (Nat → Int32) → (Nat → Int32) → Prop) (hv : v_X6_image images n_people n_taped n_waiting n_z n_kind n_em n_called n_day n_near n_shows n_tsize n_tsteps n_gsize n_gsteps n_tape n_waits k_people k_taped k_waiting k_z k_kind k_em k_called k_day k_near k_shows k_tsize k_tsteps k_gsize k_gsteps k_tape k_waits K) : CI l G yX6_image (.code yX6_image cX6_image 1 (some .int) :: wsG) (rmm 3 103) [.ref (b 0)] (wd_X6_29 G b images n_people n_taped n_waiting n_z n_kind n_em n_called n_day n_near n_shows n_tmost n_tsize n_tsteps n_gmost n_gsize n_gsteps n_tape n_waits k_people k_taped k_waiting k_z k_kind k_em k_called k_day k_near k_shows k_tmost k_tsize k_tsteps k_gmost k_gsize k_gsteps k_tape k_waits) (S := Int32 × Int32 × Int32 × Int32 × Int32 × (Nat → Int32) × (Nat → Int32) × (Nat → Int32) × Int32 × (Nat → Int32) × (Nat → Int32) × Int32 × (Nat → Int32) × Int32 × (Nat → Int32) × (Nat → Int32) × (Nat → Int32)) (fun u => wd_X6_29 G b u.1 n_people n_taped n_waiting n_z n_kind n_em n_called n_day n_near n_shows n_tmost n_tsize n_tsteps n_gmost n_gsize n_gsteps n_tape n_waits u.2.1 u.2.2.1 u.2.2.2.1 u.2.2.2.2.1 u.2.2.2.2.2.1 u.2.2.2.2.2.2.1 u.2.2.2.2.2.2.2.1 u.2.2.2.2.2.2.2.2.1 u.2.2.2.2.2.2.2.2.2.1 u.2.2.2.2.2.2.2.2.2.2.1 k_tmost u.2.2.2.2.2.2.2.2.2.2.2.1 u.2.2.2.2.2.2.2.2.2.2.2.2.1 k_gmost u.2.2.2.2.2.2.2.2.2.2.2.2.2.1 u.2.2.2.2.2.2.2.2.2.2.2.2.2.2.1 u.2.2.2.2.2.2.2.2.2.2.2.2.2.2.2.1 u.2.2.2.2.2.2.2.2.2.2.2.2.2.2.2.2) (fun r u => K r u.1 u.2.1 u.2.2.1 u.2.2.2.1 u.2.2.2.2.1 u.2.2.2.2.2.1 u.2.2.2.2.2.2.1 u.2.2.2.2.2.2.2.1 u.2.2.2.2.2.2.2.2.1 u.2.2.2.2.2.2.2.2.2.1 u.2.2.2.2.2.2.2.2.2.2.1 u.2.2.2.2.2.2.2.2.2.2.2.1 u.2.2.2.2.2.2.2.2.2.2.2.2.1 u.2.2.2.2.2.2.2.2.2.2.2.2.2.1 u.2.2.2.2.2.2.2.2.2.2.2.2.2.2.1 u.2.2.2.2.2.2.2.2.2.2.2.2.2.2.2.1 u.2.2.2.2.2.2.2.2.2.2.2.2.2.2.2.2) := by
  refine ci_intro (by decide) rfl (fun _ => rfl) (Nat.le_of_ble_eq_true rfl) ?_
  intro p e s m args below meth c A H ls Q C hW hS hl ret
  have hx := C.1.1
  have hb := C.1.2.1
  generalize hls : ([] : List Loc) = locs at hS ⊢
  have hl : lv_has ls 1 [(0, .ref (b 0))] := hl
  refine lv_aload_n hx hb dX6_image_0 rfl (lv_at hl 0 rfl) ?_
  refine q_get C kc6 hW 0 rfl 1 (by decide) fl_X6_16 rfl rfl dX6_image_1 ?_
  refine lv_aload_n hx hb dX6_image_4 rfl (lv_at hl 0 rfl) ?_
  refine q_get C kc6 hW 0 rfl 0 (by decide) fl_X6_10 rfl rfl dX6_image_5 ?_
  refine q_callNv (rest := []) (n := 1) C (c_X4_copy l G (fun k => b (k + 16)) (fun k => b (k + 1)) k_people k_taped k_waiting k_z k_kind k_em k_called k_day k_near k_shows k_tmost k_tsize k_tsteps k_gmost k_gsize k_gsteps k_tape k_waits n_people n_taped n_waiting n_z n_kind n_em n_called n_day n_near n_shows n_tmost n_tsize n_tsteps n_gmost n_gsize n_gsteps n_tape n_waits _ hv) nm_X6_243 kb_X4_copy rfl ⟨⟨rfl, rfl⟩, (Nat.le_of_ble_eq_true rfl), (Nat.le_of_ble_eq_true rfl)⟩ hW hS [14, 15, 16, 17, 18, 19, 20, 21, 22, 23, 24, 25, 26, 1, 2, 3, 4, 5, 6, 7, 8, 9, 10, 11, 12, 13] rfl rfl kc4 (q0 := 14) rfl hl.1 rfl (Nat.le_of_ble_eq_true rfl) dX6_image_8 ⟨Nat.zero_le _, Nat.zero_le _⟩ (fun u_2 H locs hv hW hS => ?_)
  obtain ⟨k_people_1, k_taped_1, k_waiting_1, k_z_1, k_kind_1, k_em_1, k_called_1, k_day_1, k_near_1, k_shows_1, k_tsize_1, k_tsteps_1, k_gsize_1, k_gsteps_1, k_tape_1, k_waits_1⟩ := u_2
  try dsimp only at hv
  have hW : wo G A (wd_X6_29 G b images n_people n_taped n_waiting n_z n_kind n_em n_called n_day n_near n_shows n_tmost n_tsize n_tsteps n_gmost n_gsize n_gsteps n_tape n_waits k_people_1 k_taped_1 k_waiting_1 k_z_1 k_kind_1 k_em_1 k_called_1 k_day_1 k_near_1 k_shows_1 k_tmost k_tsize_1 k_tsteps_1 k_gmost k_gsize_1 k_gsteps_1 k_tape_1 k_waits_1) H := hW
  refine lv_aload_n hx hb dX6_image_11 rfl (lv_at hl 0 rfl) ?_
  refine lv_dup hx hb dX6_image_12 rfl ?_
  refine q_get C kc6 hW 0 rfl 2 (by decide) fl_X6_247 rfl rfl dX6_image_13 ?_
  refine lv_iconst (v := 1) hx hb dX6_image_16 kic_1 ?_
  refine lv_iadd hx hb dX6_image_17 ?_
  refine q_put C kc6 hW hS 0 rfl 2 (by decide) fl_X6_247 rfl rfl rfl rfl (Nat.le_of_ble_eq_true rfl) dX6_image_18 (fun H locs hW hS => ?_)
  have hW : wo G A (wd_X6_29 G b (images + (1 : Int32)) n_people n_taped n_waiting n_z n_kind n_em n_called n_day n_near n_shows n_tmost n_tsize n_tsteps n_gmost n_gsize n_gsteps n_tape n_waits k_people_1 k_taped_1 k_waiting_1 k_z_1 k_kind_1 k_em_1 k_called_1 k_day_1 k_near_1 k_shows_1 k_tmost k_tsize_1 k_tsteps_1 k_gmost k_gsize_1 k_gsteps_1 k_tape_1 k_waits_1) H := hW
  refine lv_aload_n hx hb dX6_image_21 rfl (lv_at hl 0 rfl) ?_
  refine q_get C kc6 hW 0 rfl 2 (by decide) fl_X6_247 rfl rfl dX6_image_22 ?_
  exact ret ((images + (1 : Int32)), k_people_1, k_taped_1, k_waiting_1, k_z_1, k_kind_1, k_em_1, k_called_1, k_day_1, k_near_1, k_shows_1, k_tsize_1, k_tsteps_1, k_gsize_1, k_gsteps_1, k_tape_1, k_waits_1) (images + (1 : Int32)) H locs ls _ rfl hW hS hv dX6_image_25
set_option maxHeartbeats 4000000 in
set_option maxRecDepth 100000 in
theorem c_X6_restore (l : Launch) (G : Gt) (b : Nat → Nat) (images : Int32) (n_people : Int32) (n_taped : Int32) (n_waiting : Int32) (n_z : Int32) (n_kind : Nat → Int32) (n_em : Nat → Int32) (n_called : Nat → Int32) (n_day : Int32) (n_near : Nat → Int32) (n_shows : Nat → Int32) (n_tmost : Int32) (n_tsize : Int32) (n_tsteps : Nat → Int32) (n_gmost : Int32) (n_gsize : Int32) (n_gsteps : Nat → Int32) (n_tape : Nat → Int32) (n_waits : Nat → Int32) (k_people : Int32) (k_taped : Int32) (k_waiting : Int32) (k_z : Int32) (k_kind : Nat → Int32) (k_em : Nat → Int32) (k_called : Nat → Int32) (k_day : Int32) (k_near : Nat → Int32) (k_shows : Nat → Int32) (k_tmost : Int32) (k_tsize : Int32) (k_tsteps : Nat → Int32) (k_gmost : Int32) (k_gsize : Int32) (k_gsteps : Nat → Int32) (k_tape : Nat → Int32) (k_waits : Nat → Int32) (errs : Nat → Int32) (K : Int32 → Int32 → Int32 → Int32 → Int32 → (Nat → Int32) → (Nat → Int32) → (Nat → Int32) → Int32 → (Nat → Int32) → (Nat → Int32) → Int32 → (Nat → Int32) → Int32 → (Nat → Int32) → (Nat → Int32) → (Nat → Int32) → (Nat → Int32) → Prop) (hv : v_X6_restore images n_people n_taped n_waiting n_z n_kind n_em n_called n_day n_near n_shows n_tsize n_tsteps n_gsize n_gsteps n_tape n_waits k_people k_taped k_waiting k_z k_kind k_em k_called k_day k_near k_shows k_tsize k_tsteps k_gsize k_gsteps k_tape k_waits errs K) : CI l G yX6_restore (.code yX6_restore cX6_restore 1 (some .int) :: wsG) (rmm 3 103) [.ref (b 0)] (wd_X6_30 G b images n_people n_taped n_waiting n_z n_kind n_em n_called n_day n_near n_shows n_tmost n_tsize n_tsteps n_gmost n_gsize n_gsteps n_tape n_waits k_people k_taped k_waiting k_z k_kind k_em k_called k_day k_near k_shows k_tmost k_tsize k_tsteps k_gmost k_gsize k_gsteps k_tape k_waits errs) (S := Int32 × Int32 × Int32 × Int32 × (Nat → Int32) × (Nat → Int32) × (Nat → Int32) × Int32 × (Nat → Int32) × (Nat → Int32) × Int32 × (Nat → Int32) × Int32 × (Nat → Int32) × (Nat → Int32) × (Nat → Int32) × (Nat → Int32)) (fun u => wd_X6_30 G b images u.1 u.2.1 u.2.2.1 u.2.2.2.1 u.2.2.2.2.1 u.2.2.2.2.2.1 u.2.2.2.2.2.2.1 u.2.2.2.2.2.2.2.1 u.2.2.2.2.2.2.2.2.1 u.2.2.2.2.2.2.2.2.2.1 n_tmost u.2.2.2.2.2.2.2.2.2.2.1 u.2.2.2.2.2.2.2.2.2.2.2.1 n_gmost u.2.2.2.2.2.2.2.2.2.2.2.2.1 u.2.2.2.2.2.2.2.2.2.2.2.2.2.1 u.2.2.2.2.2.2.2.2.2.2.2.2.2.2.1 u.2.2.2.2.2.2.2.2.2.2.2.2.2.2.2.1 k_people k_taped k_waiting k_z k_kind k_em k_called k_day k_near k_shows k_tmost k_tsize k_tsteps k_gmost k_gsize k_gsteps k_tape k_waits u.2.2.2.2.2.2.2.2.2.2.2.2.2.2.2.2) (fun r u => K r u.1 u.2.1 u.2.2.1 u.2.2.2.1 u.2.2.2.2.1 u.2.2.2.2.2.1 u.2.2.2.2.2.2.1 u.2.2.2.2.2.2.2.1 u.2.2.2.2.2.2.2.2.1 u.2.2.2.2.2.2.2.2.2.1 u.2.2.2.2.2.2.2.2.2.2.1 u.2.2.2.2.2.2.2.2.2.2.2.1 u.2.2.2.2.2.2.2.2.2.2.2.2.1 u.2.2.2.2.2.2.2.2.2.2.2.2.2.1 u.2.2.2.2.2.2.2.2.2.2.2.2.2.2.1 u.2.2.2.2.2.2.2.2.2.2.2.2.2.2.2.1 u.2.2.2.2.2.2.2.2.2.2.2.2.2.2.2.2) := by
  refine ci_intro (by decide) rfl (fun _ => rfl) (Nat.le_of_ble_eq_true rfl) ?_
  intro p e s m args below meth c A H ls Q C hW hS hl ret
  have hx := C.1.1
  have hb := C.1.2.1
  generalize hls : ([] : List Loc) = locs at hS ⊢
  have hl : lv_has ls 1 [(0, .ref (b 0))] := hl
  refine lv_aload_n hx hb dX6_restore_0 rfl (lv_at hl 0 rfl) ?_
  refine q_get C kc6 hW 0 rfl 2 (by decide) fl_X6_247 rfl rfl dX6_restore_1 ?_
  refine lv_if_ne (tgt := 13) hx hb dX6_restore_4 (by decide) (fun c_1 => ?_) (fun c_1 => ?_)
  · replace hv := hv.1 c_1
    refine lv_aload_n hx hb dX6_restore_13 rfl (lv_at hl 0 rfl) ?_
    refine q_get C kc6 hW 0 rfl 0 (by decide) fl_X6_10 rfl rfl dX6_restore_14 ?_
    refine lv_aload_n hx hb dX6_restore_17 rfl (lv_at hl 0 rfl) ?_
    refine q_get C kc6 hW 0 rfl 1 (by decide) fl_X6_16 rfl rfl dX6_restore_18 ?_
    refine q_callNv (rest := []) (n := 1) C (c_X4_copy l G (fun k => b (k + 1)) (fun k => b (k + 16)) n_people n_taped n_waiting n_z n_kind n_em n_called n_day n_near n_shows n_tmost n_tsize n_tsteps n_gmost n_gsize n_gsteps n_tape n_waits k_people k_taped k_waiting k_z k_kind k_em k_called k_day k_near k_shows k_tmost k_tsize k_tsteps k_gmost k_gsize k_gsteps k_tape k_waits _ hv) nm_X6_243 kb_X4_copy rfl ⟨⟨rfl, rfl⟩, (Nat.le_of_ble_eq_true rfl), (Nat.le_of_ble_eq_true rfl)⟩ hW hS [1, 2, 3, 4, 5, 6, 7, 8, 9, 10, 11, 12, 13, 14, 15, 16, 17, 18, 19, 20, 21, 22, 23, 24, 25, 26] rfl rfl kc4 (q0 := 1) rfl hl.1 rfl (Nat.le_of_ble_eq_true rfl) dX6_restore_21 ⟨Nat.zero_le _, Nat.zero_le _⟩ (fun u_3 H locs hv hW hS => ?_)
    obtain ⟨n_people_2, n_taped_2, n_waiting_2, n_z_2, n_kind_2, n_em_2, n_called_2, n_day_2, n_near_2, n_shows_2, n_tsize_2, n_tsteps_2, n_gsize_2, n_gsteps_2, n_tape_2, n_waits_2⟩ := u_3
    try dsimp only at hv
    have hW : wo G A (wd_X6_30 G b images n_people_2 n_taped_2 n_waiting_2 n_z_2 n_kind_2 n_em_2 n_called_2 n_day_2 n_near_2 n_shows_2 n_tmost n_tsize_2 n_tsteps_2 n_gmost n_gsize_2 n_gsteps_2 n_tape_2 n_waits_2 k_people k_taped k_waiting k_z k_kind k_em k_called k_day k_near k_shows k_tmost k_tsize k_tsteps k_gmost k_gsize k_gsteps k_tape k_waits errs) H := hW
    refine lv_aload_n hx hb dX6_restore_24 rfl (lv_at hl 0 rfl) ?_
    refine q_get C kc6 hW 0 rfl 0 (by decide) fl_X6_10 rfl rfl dX6_restore_25 ?_
    refine q_getN C kc4 hW 1 rfl 4 (by decide) nf_X6_85 rfl rfl dX6_restore_28 ?_
    refine q_getN C kc3 hW 5 rfl 2 (by decide) nf_X6_104 rfl rfl dX6_restore_31 ?_
    exact ret (n_people_2, n_taped_2, n_waiting_2, n_z_2, n_kind_2, n_em_2, n_called_2, n_day_2, n_near_2, n_shows_2, n_tsize_2, n_tsteps_2, n_gsize_2, n_gsteps_2, n_tape_2, n_waits_2, errs) n_day_2 H locs ls _ rfl hW hS hv dX6_restore_34
  · replace hv := hv.2 c_1
    refine lv_aload_n hx hb dX6_restore_7 rfl (lv_at hl 0 rfl) ?_
    refine lv_iconst (v := 2) hx hb dX6_restore_8 kic_2 ?_
    refine q_callV (rest := []) (n := 1) C (c_X6_error l G b images errs (2 : Int32) _ hv) ml_X6_64 kb_X6_error rfl ⟨⟨rfl, rfl⟩, (Nat.le_of_ble_eq_true rfl), (Nat.le_of_ble_eq_true rfl)⟩ hW hS [0, 27] rfl rfl kc6 (q0 := 0) rfl hl.1 rfl (Nat.le_of_ble_eq_true rfl) dX6_restore_9 ⟨Nat.zero_le _, Nat.zero_le _⟩ (fun r_4 u_5 H locs hv hW hS => ?_)
    obtain ⟨errs_4, rfl⟩ : ∃ z, z = u_5 := ⟨_, rfl⟩
    try dsimp only at hv
    have hW : wo G A (wd_X6_30 G b images n_people n_taped n_waiting n_z n_kind n_em n_called n_day n_near n_shows n_tmost n_tsize n_tsteps n_gmost n_gsize n_gsteps n_tape n_waits k_people k_taped k_waiting k_z k_kind k_em k_called k_day k_near k_shows k_tmost k_tsize k_tsteps k_gmost k_gsize k_gsteps k_tape k_waits errs_4) H := hW
    exact ret (n_people, n_taped, n_waiting, n_z, n_kind, n_em, n_called, n_day, n_near, n_shows, n_tsize, n_tsteps, n_gsize, n_gsteps, n_tape, n_waits, errs_4) r_4 H locs ls _ rfl hW hS hv dX6_restore_12
set_option maxHeartbeats 4000000 in
set_option maxRecDepth 100000 in
theorem c_X6_tell (l : Launch) (G : Gt) (b : Nat → Nat) (images : Int32) (n_people : Int32) (n_taped : Int32) (n_waiting : Int32) (n_z : Int32) (n_waits : Nat → Int32) (errs : Nat → Int32) (p1 : Int32) (K : Int32 → Int32 → (Nat → Int32) → (Nat → Int32) → Prop) (hv : v_X6_tell p1 n_waiting n_waits errs K) : CI l G yX6_tell (.code yX6_tell cX6_tell 2 (some .int) :: wsG) (rmm 1 21) [.ref (b 0), .int p1] (wd_X6_31 G b images n_people n_taped n_waiting n_z n_waits errs) (S := Int32 × (Nat → Int32) × (Nat → Int32)) (fun u => wd_X6_31 G b images n_people n_taped u.1 n_z u.2.1 u.2.2) (fun r u => K r u.1 u.2.1 u.2.2) := by
  refine ci_intro (by decide) rfl (fun _ => rfl) (Nat.le_of_ble_eq_true rfl) ?_
  intro p e s m args below meth c A H ls Q C hW hS hl ret
  have hx := C.1.1
  have hb := C.1.2.1
  generalize hls : ([] : List Loc) = locs at hS ⊢
  have hl : lv_has ls 2 [(0, .ref (b 0)), (1, .int p1)] := hl
  refine lv_aload_n hx hb dX6_tell_0 rfl (lv_at hl 0 rfl) ?_
  refine q_get C kc6 hW 0 rfl 0 (by decide) fl_X6_10 rfl rfl dX6_tell_1 ?_
  refine q_getN C kc4 hW 1 rfl 10 (by decide) nf_X6_250 rfl rfl dX6_tell_4 ?_
  refine lv_bipush (v := 24) hx hb dX6_tell_7 kbp_24 ?_
  refine lv_icmp_lt (tgt := 18) hx hb dX6_tell_9 (by decide) (fun c_1 => ?_) (fun c_1 => ?_)
  · replace hv := hv.1 c_1
    refine lv_aload_n hx hb dX6_tell_18 rfl (lv_at hl 0 rfl) ?_
    refine q_get C kc6 hW 0 rfl 0 (by decide) fl_X6_10 rfl rfl dX6_tell_19 ?_
    refine q_getN C kc4 hW 1 rfl 9 (by decide) nf_X6_253 rfl rfl dX6_tell_22 ?_
    refine lv_aload_n hx hb dX6_tell_25 rfl (lv_at hl 0 rfl) ?_
    refine q_get C kc6 hW 0 rfl 0 (by decide) fl_X6_10 rfl rfl dX6_tell_26 ?_
    refine q_getN C kc4 hW 1 rfl 10 (by decide) nf_X6_250 rfl rfl dX6_tell_29 ?_
    refine lv_iload_n hx hb dX6_tell_32 rfl (lv_at hl 1 rfl) ?_
    obtain ⟨h_2, hv⟩ := hv
    refine q_iast C hW hS 2 rfl h_2 dX6_tell_33 (fun H locs hW hS => ?_)
    have hW : wo G A (wd_X6_31 G b images n_people n_taped n_waiting n_z (upd n_waits n_waiting.toNatClampNeg p1) errs) H := hW
    refine lv_aload_n hx hb dX6_tell_34 rfl (lv_at hl 0 rfl) ?_
    refine q_get C kc6 hW 0 rfl 0 (by decide) fl_X6_10 rfl rfl dX6_tell_35 ?_
    refine lv_dup hx hb dX6_tell_38 rfl ?_
    refine q_getN C kc4 hW 1 rfl 10 (by decide) nf_X6_250 rfl rfl dX6_tell_39 ?_
    refine lv_iconst (v := 1) hx hb dX6_tell_42 kic_1 ?_
    refine lv_iadd hx hb dX6_tell_43 ?_
    refine q_putN C kc4 hW hS 1 rfl 10 (by decide) nf_X6_250 rfl rfl rfl rfl (Nat.le_of_ble_eq_true rfl) dX6_tell_44 (fun H locs hW hS => ?_)
    have hW : wo G A (wd_X6_31 G b images n_people n_taped (n_waiting + (1 : Int32)) n_z (upd n_waits n_waiting.toNatClampNeg p1) errs) H := hW
    refine lv_aload_n hx hb dX6_tell_47 rfl (lv_at hl 0 rfl) ?_
    refine q_get C kc6 hW 0 rfl 0 (by decide) fl_X6_10 rfl rfl dX6_tell_48 ?_
    refine q_getN C kc4 hW 1 rfl 10 (by decide) nf_X6_250 rfl rfl dX6_tell_51 ?_
    exact ret ((n_waiting + (1 : Int32)), (upd n_waits n_waiting.toNatClampNeg p1), errs) (n_waiting + (1 : Int32)) H locs ls _ rfl hW hS hv dX6_tell_54
  · replace hv := hv.2 c_1
    refine lv_aload_n hx hb dX6_tell_12 rfl (lv_at hl 0 rfl) ?_
    refine lv_iconst (v := 4) hx hb dX6_tell_13 kic_4 ?_
    refine q_callV (rest := []) (n := 1) C (c_X6_error l G b images errs (4 : Int32) _ hv) ml_X6_64 kb_X6_error rfl ⟨⟨rfl, rfl⟩, (Nat.le_of_ble_eq_true rfl), (Nat.le_of_ble_eq_true rfl)⟩ hW hS [0, 3] rfl rfl kc6 (q0 := 0) rfl hl.1 rfl (Nat.le_of_ble_eq_true rfl) dX6_tell_14 ⟨Nat.zero_le _, Nat.zero_le _⟩ (fun r_3 u_4 H locs hv hW hS => ?_)
    obtain ⟨errs_3, rfl⟩ : ∃ z, z = u_4 := ⟨_, rfl⟩
    try dsimp only at hv
    have hW : wo G A (wd_X6_31 G b images n_people n_taped n_waiting n_z n_waits errs_3) H := hW
    exact ret (n_waiting, n_waits, errs_3) r_3 H locs ls _ rfl hW hS hv dX6_tell_17
set_option maxHeartbeats 4000000 in
set_option maxRecDepth 100000 in
theorem c_X6_check (l : Launch) (G : Gt) (b : Nat → Nat) (images : Int32) (n_people : Int32) (n_taped : Int32) (n_waiting : Int32) (n_z : Int32) (n_day : Int32) (n_near : Nat → Int32) (n_waits : Nat → Int32) (K : Int32 → Int32 → Prop) (hv : v_X6_check n_people n_waiting n_near n_waits K) : CI l G yX6_check (.code yX6_check cX6_check 3 (some .int) :: wsG) (rmm 0 0) [.ref (b 0)] (wd_X6_32 G b images n_people n_taped n_waiting n_z n_day n_near n_waits) (S := Int32) (fun u => wd_X6_32 G b images n_people n_taped u n_z n_day n_near n_waits) (fun r u => K r u) := by
  refine ci_intro (by decide) rfl (fun _ => rfl) (Nat.le_of_ble_eq_true rfl) ?_
  intro p e s m args below meth c A H ls Q C hW hS hl ret
  have hx := C.1.1
  have hb := C.1.2.1
  generalize hls : ([] : List Loc) = locs at hS ⊢
  have hl : lv_has ls 3 [(0, .ref (b 0))] := hl
  have h_l_X6_check_18 : ∀ (n : Nat), ∀ (x1 : Int32) (x2 : Int32) (n_waiting : Int32) (H : Heap) (locs : List Loc) (ls : Array Slot), wo G A (wd_X6_32 G b images n_people n_taped n_waiting n_z n_day n_near n_waits) H → va_S A s.heap H locs → lv_has ls 3 [(0, .ref (b 0)), (1, .int x1), (2, .int x2)] → l_X6_check_18 n_people n_near n_waits K n x1 x2 n_waiting → W p l e (rmm 0 0) s m args below meth c H locs 0 0 Q (F0 m 18 ls []) := by
    intro n
    induction n with
    | zero =>
      intro x1 x2 n_waiting H locs ls hW hS hl hv
      exact False.elim hv
    | succ n ih =>
      intro x1 x2 n_waiting H locs ls hW hS hl hv
      refine lv_iload_n hx hb dX6_check_18 rfl (lv_at hl 2 rfl) ?_
      refine lv_iload_n hx hb dX6_check_19 rfl (lv_at hl 1 rfl) ?_
      refine lv_icmp_ge (tgt := 68) hx hb dX6_check_20 (by decide) (fun c_1 => ?_) (fun c_1 => ?_)
      · replace hv := hv.1 c_1
        refine lv_iconst (v := 0) hx hb dX6_check_68 kic_0 ?_
        exact ret (n_waiting) (0 : Int32) H locs ls _ rfl hW hS hv dX6_check_69
      · replace hv := hv.2 c_1
        refine lv_iload_n hx hb dX6_check_23 rfl (lv_at hl 2 rfl) ?_
        refine lv_aload_n hx hb dX6_check_24 rfl (lv_at hl 0 rfl) ?_
        refine q_get C kc6 hW 0 rfl 0 (by decide) fl_X6_10 rfl rfl dX6_check_25 ?_
        refine q_getN C kc4 hW 1 rfl 0 (by decide) nf_X6_68 rfl rfl dX6_check_28 ?_
        refine lv_icmp_ge (tgt := 58) hx hb dX6_check_31 (by decide) (fun c_2 => ?_) (fun c_2 => ?_)
        · replace hv := hv.1 c_2
          refine lv_iconst (v := 1) hx hb dX6_check_58 kic_1 ?_
          refine lv_iload_n hx hb dX6_check_59 rfl (lv_at hl 2 rfl) ?_
          refine lv_iadd hx hb dX6_check_60 ?_
          exact ret (n_waiting) ((1 : Int32) + x2) H locs ls _ rfl hW hS hv dX6_check_61
        · replace hv := hv.2 c_2
          refine lv_aload_n hx hb dX6_check_34 rfl (lv_at hl 0 rfl) ?_
          refine q_get C kc6 hW 0 rfl 0 (by decide) fl_X6_10 rfl rfl dX6_check_35 ?_
          refine q_getN C kc4 hW 1 rfl 9 (by decide) nf_X6_253 rfl rfl dX6_check_38 ?_
          refine lv_iload_n hx hb dX6_check_41 rfl (lv_at hl 2 rfl) ?_
          obtain ⟨h_3, hv⟩ := hv
          refine q_iald C hW 4 rfl h_3 dX6_check_42 ?_
          refine lv_aload_n hx hb dX6_check_43 rfl (lv_at hl 0 rfl) ?_
          refine q_get C kc6 hW 0 rfl 0 (by decide) fl_X6_10 rfl rfl dX6_check_44 ?_
          refine q_getN C kc4 hW 1 rfl 4 (by decide) nf_X6_85 rfl rfl dX6_check_47 ?_
          refine q_getN C kc3 hW 2 rfl 0 (by decide) nf_X6_88 rfl rfl dX6_check_50 ?_
          refine lv_iload_n hx hb dX6_check_53 rfl (lv_at hl 2 rfl) ?_
          obtain ⟨h_4, hv⟩ := hv
          refine q_iald C hW 3 rfl h_4 dX6_check_54 ?_
          refine lv_icmp_eq (tgt := 62) hx hb dX6_check_55 (by decide) (fun c_5 => ?_) (fun c_5 => ?_)
          · replace hv := hv.1 c_5
            refine lv_iinc (v := (x2 + 1)) (lv' := [(2, .int (x2 + 1)), (0, .ref (b 0)), (1, .int x1)]) hx hb dX6_check_62 hl (k := 2) rfl rfl (by decide) rfl (fun ls hl => ?_)
            refine lv_goto (tgt := 18) hx hb dX6_check_65 (by decide) ?_
            exact ih x1 (x2 + 1) n_waiting H locs ls hW hS (lv_sub hl [1, 2, 0] rfl) hv
          · replace hv := hv.2 c_5
            refine lv_iconst (v := 1) hx hb dX6_check_58 kic_1 ?_
            refine lv_iload_n hx hb dX6_check_59 rfl (lv_at hl 2 rfl) ?_
            refine lv_iadd hx hb dX6_check_60 ?_
            exact ret (n_waiting) ((1 : Int32) + x2) H locs ls _ rfl hW hS hv dX6_check_61
  refine lv_aload_n hx hb dX6_check_0 rfl (lv_at hl 0 rfl) ?_
  refine q_get C kc6 hW 0 rfl 0 (by decide) fl_X6_10 rfl rfl dX6_check_1 ?_
  refine q_getN C kc4 hW 1 rfl 10 (by decide) nf_X6_250 rfl rfl dX6_check_4 ?_
  refine lv_istore_n (lv' := [(1, .int n_waiting), (0, .ref (b 0))]) hx hb dX6_check_7 rfl hl (by decide) rfl (fun ls hl => ?_)
  refine lv_aload_n hx hb dX6_check_8 rfl (lv_at hl 1 rfl) ?_
  refine q_get C kc6 hW 0 rfl 0 (by decide) fl_X6_10 rfl rfl dX6_check_9 ?_
  refine lv_iconst (v := 0) hx hb dX6_check_12 kic_0 ?_
  refine q_putN C kc4 hW hS 1 rfl 10 (by decide) nf_X6_250 rfl rfl rfl rfl (Nat.le_of_ble_eq_true rfl) dX6_check_13 (fun H locs hW hS => ?_)
  have hW : wo G A (wd_X6_32 G b images n_people n_taped (0 : Int32) n_z n_day n_near n_waits) H := hW
  refine lv_iconst (v := 0) hx hb dX6_check_16 kic_0 ?_
  refine lv_istore_n (lv' := [(2, .int (0 : Int32)), (1, .int n_waiting), (0, .ref (b 0))]) hx hb dX6_check_17 rfl hl (by decide) rfl (fun ls hl => ?_)
  obtain ⟨n_6, hv⟩ := hv
  exact h_l_X6_check_18 n_6 n_waiting (0 : Int32) (0 : Int32) H locs ls hW hS (lv_sub hl [2, 1, 0] rfl) hv
set_option maxHeartbeats 4000000 in
set_option maxRecDepth 100000 in
theorem c_X6_count (l : Launch) (G : Gt) (b : Nat → Nat) (images : Int32) (n_people : Int32) (n_taped : Int32) (n_waiting : Int32) (n_z : Int32) (n_day : Int32) (n_near : Nat → Int32) (v_traced : Int32) (v_parted : Int32) (v_yk : Int32) (v_ykind : Int32) (v_ym : Int32) (errs : Nat → Int32) (p1 : Int32) (K : Int32 → (Nat → Int32) → Prop) (hv : v_X6_count p1 n_people n_taped n_waiting n_z n_day n_near v_traced errs K) : CI l G yX6_count (.code yX6_count cX6_count 2 (some .int) :: wsG) (rmm 1 23) [.ref (b 0), .int p1] (wd_X6_33 G b images n_people n_taped n_waiting n_z n_day n_near v_traced v_parted v_yk v_ykind v_ym errs) (S := (Nat → Int32)) (fun u => wd_X6_33 G b images n_people n_taped n_waiting n_z n_day n_near v_traced v_parted v_yk v_ykind v_ym u) (fun r u => K r u) := by
  refine ci_intro (by decide) rfl (fun _ => rfl) (Nat.le_of_ble_eq_true rfl) ?_
  intro p e s m args below meth c A H ls Q C hW hS hl ret
  have hx := C.1.1
  have hb := C.1.2.1
  generalize hls : ([] : List Loc) = locs at hS ⊢
  have hl : lv_has ls 2 [(0, .ref (b 0)), (1, .int p1)] := hl
  refine lv_iload_n hx hb dX6_count_0 rfl (lv_at hl 1 rfl) ?_
  by_cases c_1_0 : p1 = 0
  · replace hv := hv.1 c_1_0
    refine lv_tableIn (tgt := 44) hx hb dX6_count_1 (by rw [c_1_0]; decide) (by rw [c_1_0]; decide) (by rw [c_1_0]; rfl) (by decide) ?_
    refine lv_aload_n hx hb dX6_count_44 rfl (lv_at hl 0 rfl) ?_
    refine q_get C kc6 hW 0 rfl 0 (by decide) fl_X6_10 rfl rfl dX6_count_45 ?_
    refine q_getN C kc4 hW 1 rfl 0 (by decide) nf_X6_68 rfl rfl dX6_count_48 ?_
    exact ret (errs) n_people H locs ls _ rfl hW hS hv dX6_count_51
  · replace hv := hv.2 c_1_0
    by_cases c_1_1 : p1 = 1
    · replace hv := hv.1 c_1_1
      refine lv_tableIn (tgt := 52) hx hb dX6_count_1 (by rw [c_1_1]; decide) (by rw [c_1_1]; decide) (by rw [c_1_1]; rfl) (by decide) ?_
      refine lv_aload_n hx hb dX6_count_52 rfl (lv_at hl 0 rfl) ?_
      refine q_get C kc6 hW 0 rfl 0 (by decide) fl_X6_10 rfl rfl dX6_count_53 ?_
      refine q_getN C kc4 hW 1 rfl 4 (by decide) nf_X6_85 rfl rfl dX6_count_56 ?_
      refine q_getN C kc3 hW 2 rfl 2 (by decide) nf_X6_104 rfl rfl dX6_count_59 ?_
      exact ret (errs) n_day H locs ls _ rfl hW hS hv dX6_count_62
    · replace hv := hv.2 c_1_1
      by_cases c_1_2 : p1 = 2
      · replace hv := hv.1 c_1_2
        refine lv_tableIn (tgt := 63) hx hb dX6_count_1 (by rw [c_1_2]; decide) (by rw [c_1_2]; decide) (by rw [c_1_2]; rfl) (by decide) ?_
        refine lv_aload_n hx hb dX6_count_63 rfl (lv_at hl 0 rfl) ?_
        refine q_get C kc6 hW 0 rfl 0 (by decide) fl_X6_10 rfl rfl dX6_count_64 ?_
        refine lv_aload_n hx hb dX6_count_67 rfl (lv_at hl 0 rfl) ?_
        refine q_get C kc6 hW 0 rfl 0 (by decide) fl_X6_10 rfl rfl dX6_count_68 ?_
        refine q_getN C kc4 hW 1 rfl 4 (by decide) nf_X6_85 rfl rfl dX6_count_71 ?_
        refine q_callN (rest := []) (n := 1) C (c_X4_nearestIn l G (fun k => b (k + 1)) (fun k => b (k + 5)) n_people n_taped n_waiting n_z n_day n_near _ hv) nm_X6_152 kb_X4_nearestIn rfl ⟨⟨rfl, rfl⟩, (Nat.le_of_ble_eq_true rfl), (Nat.le_of_ble_eq_true rfl)⟩ hW hS [1, 2, 3] rfl rfl kc4 (q0 := 1) rfl hl.1 rfl (Nat.le_of_ble_eq_true rfl) dX6_count_74 ⟨Nat.zero_le _, Nat.zero_le _⟩ (fun r_2 u_3 H locs hv hW hS => ?_)
        try dsimp only at hv
        exact ret (errs) r_2 H locs ls _ rfl hW hS hv dX6_count_77
      · replace hv := hv.2 c_1_2
        by_cases c_1_3 : p1 = 3
        · replace hv := hv.1 c_1_3
          refine lv_tableIn (tgt := 78) hx hb dX6_count_1 (by rw [c_1_3]; decide) (by rw [c_1_3]; decide) (by rw [c_1_3]; rfl) (by decide) ?_
          refine lv_aload_n hx hb dX6_count_78 rfl (lv_at hl 0 rfl) ?_
          refine q_get C kc6 hW 0 rfl 0 (by decide) fl_X6_10 rfl rfl dX6_count_79 ?_
          refine q_getN C kc4 hW 1 rfl 8 (by decide) nf_X6_115 rfl rfl dX6_count_82 ?_
          exact ret (errs) n_taped H locs ls _ rfl hW hS hv dX6_count_85
        · replace hv := hv.2 c_1_3
          by_cases c_1_4 : p1 = 4
          · replace hv := hv.1 c_1_4
            refine lv_tableIn (tgt := 86) hx hb dX6_count_1 (by rw [c_1_4]; decide) (by rw [c_1_4]; decide) (by rw [c_1_4]; rfl) (by decide) ?_
            refine lv_aload_n hx hb dX6_count_86 rfl (lv_at hl 0 rfl) ?_
            refine q_get C kc6 hW 0 rfl 0 (by decide) fl_X6_10 rfl rfl dX6_count_87 ?_
            refine q_getN C kc4 hW 1 rfl 10 (by decide) nf_X6_250 rfl rfl dX6_count_90 ?_
            exact ret (errs) n_waiting H locs ls _ rfl hW hS hv dX6_count_93
          · replace hv := hv.2 c_1_4
            by_cases c_1_5 : p1 = 5
            · replace hv := hv.1 c_1_5
              refine lv_tableIn (tgt := 94) hx hb dX6_count_1 (by rw [c_1_5]; decide) (by rw [c_1_5]; decide) (by rw [c_1_5]; rfl) (by decide) ?_
              refine lv_aload_n hx hb dX6_count_94 rfl (lv_at hl 0 rfl) ?_
              refine q_get C kc6 hW 0 rfl 6 (by decide) fl_X6_39 rfl rfl dX6_count_95 ?_
              refine q_getN C kc5 hW 4 rfl 1 (by decide) nf_X6_211 rfl rfl dX6_count_98 ?_
              exact ret (errs) v_traced H locs ls _ rfl hW hS hv dX6_count_101
            · replace hv := hv.2 c_1_5
              by_cases c_1_6 : p1 = 6
              · replace hv := hv.1 c_1_6
                refine lv_tableIn (tgt := 102) hx hb dX6_count_1 (by rw [c_1_6]; decide) (by rw [c_1_6]; decide) (by rw [c_1_6]; rfl) (by decide) ?_
                refine lv_aload_n hx hb dX6_count_102 rfl (lv_at hl 0 rfl) ?_
                refine q_get C kc6 hW 0 rfl 0 (by decide) fl_X6_10 rfl rfl dX6_count_103 ?_
                refine q_getN C kc4 hW 1 rfl 11 (by decide) nf_X6_156 rfl rfl dX6_count_106 ?_
                exact ret (errs) n_z H locs ls _ rfl hW hS hv dX6_count_109
              · replace hv := hv.2 c_1_6
                refine sw_row (tgt := 110) hx hb dX6_count_1 rfl (lt_s (lt_s (lt_s (lt_s (lt_s (lt_s (lt_s lt_0 (Or.inr (lv_neT c_1_0 rfl))) (Or.inr (lv_neT c_1_1 rfl))) (Or.inr (lv_neT c_1_2 rfl))) (Or.inr (lv_neT c_1_3 rfl))) (Or.inr (lv_neT c_1_4 rfl))) (Or.inr (lv_neT c_1_5 rfl))) (Or.inr (lv_neT c_1_6 rfl))) (by decide) ?_
                refine lv_aload_n hx hb dX6_count_110 rfl (lv_at hl 0 rfl) ?_
                refine lv_iconst (v := 1) hx hb dX6_count_111 kic_1 ?_
                refine q_callV (rest := []) (n := 1) C (c_X6_error l G b images errs (1 : Int32) _ hv) ml_X6_64 kb_X6_error rfl ⟨⟨rfl, rfl⟩, (Nat.le_of_ble_eq_true rfl), (Nat.le_of_ble_eq_true rfl)⟩ hW hS [0, 5] rfl rfl kc6 (q0 := 0) rfl hl.1 rfl (Nat.le_of_ble_eq_true rfl) dX6_count_112 ⟨Nat.zero_le _, Nat.zero_le _⟩ (fun r_4 u_5 H locs hv hW hS => ?_)
                obtain ⟨errs_4, rfl⟩ : ∃ z, z = u_5 := ⟨_, rfl⟩
                try dsimp only at hv
                have hW : wo G A (wd_X6_33 G b images n_people n_taped n_waiting n_z n_day n_near v_traced v_parted v_yk v_ykind v_ym errs_4) H := hW
                exact ret (errs_4) r_4 H locs ls _ rfl hW hS hv dX6_count_115
set_option maxHeartbeats 4000000 in
set_option maxRecDepth 100000 in
theorem c_X6_told (l : Launch) (G : Gt) (b : Nat → Nat) (images : Int32) (errs : Nat → Int32) (p1 : Int32) (K : Int32 → (Nat → Int32) → Prop) (hv : v_X6_told p1 errs K) : CI l G yX6_told (.code yX6_told cX6_told 2 (some .int) :: wsG) (rmm 1 21) [.ref (b 0), .int p1] (wd_X6_0 G b images errs) (S := (Nat → Int32)) (fun u => wd_X6_0 G b images u) (fun r u => K r u) := by
  refine ci_intro (by decide) rfl (fun _ => rfl) (Nat.le_of_ble_eq_true rfl) ?_
  intro p e s m args below meth c A H ls Q C hW hS hl ret
  have hx := C.1.1
  have hb := C.1.2.1
  generalize hls : ([] : List Loc) = locs at hS ⊢
  have hl : lv_has ls 2 [(0, .ref (b 0)), (1, .int p1)] := hl
  have h_j_X6_told_20 : ∀ (errs : Nat → Int32) (H : Heap) (locs : List Loc) (ls : Array Slot), wo G A (wd_X6_0 G b images errs) H → va_S A s.heap H locs → lv_has ls 2 [(0, .ref (b 0))] → j_X6_told_20 p1 K errs → W p l e (rmm 1 21) s m args below meth c H locs 0 0 Q (F0 m 20 ls []) := by
    intro errs H locs ls hW hS hl hv
    refine lv_aload_n hx hb dX6_told_20 rfl (lv_at hl 0 rfl) ?_
    refine lv_iconst (v := 1) hx hb dX6_told_21 kic_1 ?_
    refine q_callV (rest := []) (n := 1) C (c_X6_error l G b images errs (1 : Int32) _ hv) ml_X6_64 kb_X6_error rfl ⟨⟨rfl, rfl⟩, (Nat.le_of_ble_eq_true rfl), (Nat.le_of_ble_eq_true rfl)⟩ hW hS [0, 1] rfl rfl kc6 (q0 := 0) rfl hl.1 rfl (Nat.le_of_ble_eq_true rfl) dX6_told_22 ⟨Nat.zero_le _, Nat.zero_le _⟩ (fun r_2 u_3 H locs hv hW hS => ?_)
    obtain ⟨errs_2, rfl⟩ : ∃ z, z = u_3 := ⟨_, rfl⟩
    try dsimp only at hv
    have hW : wo G A (wd_X6_0 G b images errs_2) H := hW
    exact ret (errs_2) r_2 H locs ls _ rfl hW hS hv dX6_told_25
  refine lv_iload_n hx hb dX6_told_0 rfl (lv_at hl 1 rfl) ?_
  refine lv_iconst (v := 1) hx hb dX6_told_1 kic_1 ?_
  refine lv_icmp_lt (tgt := 20) hx hb dX6_told_2 (by decide) (fun c_1 => ?_) (fun c_1 => ?_)
  · replace hv := hv.1 c_1
    exact h_j_X6_told_20 errs H locs ls hW hS (lv_sub hl [0] rfl) hv
  · replace hv := hv.2 c_1
    refine lv_iload_n hx hb dX6_told_5 rfl (lv_at hl 1 rfl) ?_
    refine lv_bipush (v := 6) hx hb dX6_told_6 kbp_6 ?_
    refine lv_icmp_gt (tgt := 20) hx hb dX6_told_8 (by decide) (fun c_4 => ?_) (fun c_4 => ?_)
    · replace hv := hv.1 c_4
      exact h_j_X6_told_20 errs H locs ls hW hS (lv_sub hl [0] rfl) hv
    · replace hv := hv.2 c_4
      refine lv_aload_n hx hb dX6_told_11 rfl (lv_at hl 0 rfl) ?_
      refine q_get C kc6 hW 0 rfl 8 (by decide) fl_X6_50 rfl rfl dX6_told_12 ?_
      refine lv_iload_n hx hb dX6_told_15 rfl (lv_at hl 1 rfl) ?_
      obtain ⟨h_5, hv⟩ := hv
      refine q_iald C hW 1 rfl h_5 dX6_told_16 ?_
      refine lv_goto (tgt := 25) hx hb dX6_told_17 (by decide) ?_
      exact ret (errs) (errs p1.toNatClampNeg) H locs ls _ rfl hW hS hv dX6_told_25
set_option maxHeartbeats 4000000 in
set_option maxRecDepth 100000 in
theorem c_X7_error (l : Launch) (G : Gt) (b : Nat → Nat) (m_images : Int32) (m_at_ : Int32) (m_open_ : Int32) (m_steps : Int32) (m_use_ : Int32) (m_traced : Int32) (m_speaks : Int32) (m_isParted : Int32) (m_errors : Nat → Int32) (p1 : Int32) (K : Int32 → (Nat → Int32) → Prop) (hv : v_X7_error p1 m_errors K) : CI l G yX7_error (.code yX7_error cX7_error 2 (some .int) :: wsG) (rmm 0 0) [.ref (b 0), .int p1] (wd_X7_0 G b m_images m_at_ m_open_ m_steps m_use_ m_traced m_speaks m_isParted m_errors) (S := (Nat → Int32)) (fun u => wd_X7_0 G b m_images m_at_ m_open_ m_steps m_use_ m_traced m_speaks m_isParted u) (fun r u => K r u) := by
  refine ci_intro (by decide) rfl (fun _ => rfl) (Nat.le_of_ble_eq_true rfl) ?_
  intro p e s m args below meth c A H ls Q C hW hS hl ret
  have hx := C.1.1
  have hb := C.1.2.1
  generalize hls : ([] : List Loc) = locs at hS ⊢
  have hl : lv_has ls 2 [(0, .ref (b 0)), (1, .int p1)] := hl
  refine lv_aload_n hx hb dX7_error_0 rfl (lv_at hl 0 rfl) ?_
  refine q_get C kc7 hW 0 rfl 4 (by decide) fl_X7_19 rfl rfl dX7_error_1 ?_
  refine lv_iload_n hx hb dX7_error_4 rfl (lv_at hl 1 rfl) ?_
  refine lv_dup2_11 hx hb dX7_error_5 rfl rfl ?_
  obtain ⟨h_1, hv⟩ := hv
  refine q_iald C hW 1 rfl h_1 dX7_error_6 ?_
  refine lv_iconst (v := 1) hx hb dX7_error_7 kic_1 ?_
  refine lv_iadd hx hb dX7_error_8 ?_
  obtain ⟨h_2, hv⟩ := hv
  refine q_iast C hW hS 1 rfl h_2 dX7_error_9 (fun H locs hW hS => ?_)
  have hW : wo G A (wd_X7_0 G b m_images m_at_ m_open_ m_steps m_use_ m_traced m_speaks m_isParted (upd m_errors p1.toNatClampNeg ((m_errors p1.toNatClampNeg) + (1 : Int32)))) H := hW
  refine lv_ldc (v := (-1000000000)) hx hb C.1.2.2.2.1 (C.hts kc_X7_52) dX7_error_10 ?_
  refine lv_iload_n hx hb dX7_error_12 rfl (lv_at hl 1 rfl) ?_
  refine lv_isub hx hb dX7_error_13 ?_
  exact ret ((upd m_errors p1.toNatClampNeg ((m_errors p1.toNatClampNeg) + (1 : Int32)))) ((-1000000000 : Int32) - p1) H locs ls _ rfl hW hS hv dX7_error_14
set_option maxHeartbeats 4000000 in
set_option maxRecDepth 100000 in
theorem c_X7_in (l : Launch) (G : Gt) (p1 : Int32) (p2 : Int32) (p3 : Int32) (K : Int32 → Prop) (hv : v_X7_in p1 p2 p3 K) : CI l G yX7_in (.code yX7_in cX7_in 3 (some .boolean) :: wsG) (rmm 0 0) [.int p1, .int p2, .int p3] [] (S := Unit) (fun _ => []) (fun r u => (r = 0 ∨ r = 1) ∧ K r) := by
  refine ci_intro (by decide) rfl (fun _ => rfl) (Nat.le_of_ble_eq_true rfl) ?_
  intro p e s m args below meth c A H ls Q C hW hS hl ret
  have hx := C.1.1
  have hb := C.1.2.1
  generalize hls : ([] : List Loc) = locs at hS ⊢
  have hl : lv_has ls 3 [(0, .int p1), (1, .int p2), (2, .int p3)] := hl
  refine lv_iload_n hx hb dX7_in_0 rfl (lv_at hl 0 rfl) ?_
  refine lv_iload_n hx hb dX7_in_1 rfl (lv_at hl 1 rfl) ?_
  refine lv_icmp_lt (tgt := 14) hx hb dX7_in_2 (by decide) (fun c_1 => ?_) (fun c_1 => ?_)
  · replace hv := hv.1 c_1
    refine lv_iconst (v := 0) hx hb dX7_in_14 kic_0 ?_
    exact ret () (0 : Int32) H locs ls _ (bl_narrow (Or.inl rfl)) hW hS ⟨(Or.inl rfl), hv⟩ dX7_in_15
  · replace hv := hv.2 c_1
    refine lv_iload_n hx hb dX7_in_5 rfl (lv_at hl 0 rfl) ?_
    refine lv_iload_n hx hb dX7_in_6 rfl (lv_at hl 2 rfl) ?_
    refine lv_icmp_gt (tgt := 14) hx hb dX7_in_7 (by decide) (fun c_2 => ?_) (fun c_2 => ?_)
    · replace hv := hv.1 c_2
      refine lv_iconst (v := 0) hx hb dX7_in_14 kic_0 ?_
      exact ret () (0 : Int32) H locs ls _ (bl_narrow (Or.inl rfl)) hW hS ⟨(Or.inl rfl), hv⟩ dX7_in_15
    · replace hv := hv.2 c_2
      refine lv_iconst (v := 1) hx hb dX7_in_10 kic_1 ?_
      refine lv_goto (tgt := 15) hx hb dX7_in_11 (by decide) ?_
      exact ret () (1 : Int32) H locs ls _ (bl_narrow (Or.inr rfl)) hW hS ⟨(Or.inr rfl), hv⟩ dX7_in_15
set_option maxHeartbeats 4000000 in
set_option maxRecDepth 100000 in
theorem c_X7_held (l : Launch) (G : Gt) (p1 : Int32) (p2 : Int32) (p3 : Int32) (K : Int32 → Prop) (hv : v_X7_held p1 p2 p3 K) : CI l G yX7_held (.code yX7_held cX7_held 3 (some .int) :: wsG) (rmm 0 0) [.int p1, .int p2, .int p3] [] (S := Unit) (fun _ => []) (fun r u => K r) := by
  refine ci_intro (by decide) rfl (fun _ => rfl) (Nat.le_of_ble_eq_true rfl) ?_
  intro p e s m args below meth c A H ls Q C hW hS hl ret
  have hx := C.1.1
  have hb := C.1.2.1
  generalize hls : ([] : List Loc) = locs at hS ⊢
  have hl : lv_has ls 3 [(0, .int p1), (1, .int p2), (2, .int p3)] := hl
  refine lv_iload_n hx hb dX7_held_0 rfl (lv_at hl 0 rfl) ?_
  refine lv_iload_n hx hb dX7_held_1 rfl (lv_at hl 1 rfl) ?_
  refine lv_icmp_ge (tgt := 9) hx hb dX7_held_2 (by decide) (fun c_1 => ?_) (fun c_1 => ?_)
  · replace hv := hv.1 c_1
    refine lv_iload_n hx hb dX7_held_9 rfl (lv_at hl 0 rfl) ?_
    refine lv_iload_n hx hb dX7_held_10 rfl (lv_at hl 2 rfl) ?_
    refine lv_icmp_le (tgt := 18) hx hb dX7_held_11 (by decide) (fun c_2 => ?_) (fun c_2 => ?_)
    · replace hv := hv.1 c_2
      refine lv_iload_n hx hb dX7_held_18 rfl (lv_at hl 0 rfl) ?_
      exact ret () p1 H locs ls _ rfl hW hS hv dX7_held_19
    · replace hv := hv.2 c_2
      refine lv_iload_n hx hb dX7_held_14 rfl (lv_at hl 2 rfl) ?_
      refine lv_goto (tgt := 19) hx hb dX7_held_15 (by decide) ?_
      exact ret () p3 H locs ls _ rfl hW hS hv dX7_held_19
  · replace hv := hv.2 c_1
    refine lv_iload_n hx hb dX7_held_5 rfl (lv_at hl 1 rfl) ?_
    refine lv_goto (tgt := 19) hx hb dX7_held_6 (by decide) ?_
    exact ret () p2 H locs ls _ rfl hW hS hv dX7_held_19
set_option maxHeartbeats 4000000 in
set_option maxRecDepth 100000 in
theorem c_X7_copyAll (l : Launch) (G : Gt) (f0 : Nat) (h0 : Nat) (f_a : Nat → Int32) (h_a : Nat → Int32) (K : (Nat → Int32) → Prop) (hv : v_X7_copyAll f_a h_a K) : CV l G yX7_copyAll (.code yX7_copyAll cX7_copyAll 3 none :: wsG) (rmm 0 0) [.ref f0, .ref h0] (wd_X7_1 G f0 h0 f_a h_a) (S := (Nat → Int32)) (fun u => wd_X7_1 G f0 h0 f_a u) (fun u => K u) := by
  refine cv_intro (by decide) rfl (fun _ => rfl) (Nat.le_of_ble_eq_true rfl) ?_
  intro p e s m args below meth c A H ls Q C hW hS hl ret
  have hx := C.1.1
  have hb := C.1.2.1
  generalize hls : ([] : List Loc) = locs at hS ⊢
  have hl : lv_has ls 3 [(0, .ref f0), (1, .ref h0)] := hl
  have h_l_X7_copyAll_2 : ∀ (n : Nat), ∀ (x2 : Int32) (h_a : Nat → Int32) (H : Heap) (locs : List Loc) (ls : Array Slot), wo G A (wd_X7_1 G f0 h0 f_a h_a) H → va_S A s.heap H locs → lv_has ls 3 [(0, .ref f0), (1, .ref h0), (2, .int x2)] → l_X7_copyAll_2 f_a K n x2 h_a → W p l e (rmm 0 0) s m args below meth c H locs 0 0 Q (F0 m 2 ls []) := by
    intro n
    induction n with
    | zero =>
      intro x2 h_a H locs ls hW hS hl hv
      exact False.elim hv
    | succ n ih =>
      intro x2 h_a H locs ls hW hS hl hv
      refine lv_iload_n hx hb dX7_copyAll_2 rfl (lv_at hl 2 rfl) ?_
      refine lv_sipush (v := 382) hx hb dX7_copyAll_3 ksp_382 ?_
      refine lv_icmp_ge (tgt := 21) hx hb dX7_copyAll_6 (by decide) (fun c_1 => ?_) (fun c_1 => ?_)
      · replace hv := hv.1 c_1
        exact ret (h_a) H locs ls _ hW hS hv dX7_copyAll_21
      · replace hv := hv.2 c_1
        refine lv_aload_n hx hb dX7_copyAll_9 rfl (lv_at hl 1 rfl) ?_
        refine lv_iload_n hx hb dX7_copyAll_10 rfl (lv_at hl 2 rfl) ?_
        refine lv_aload_n hx hb dX7_copyAll_11 rfl (lv_at hl 0 rfl) ?_
        refine lv_iload_n hx hb dX7_copyAll_12 rfl (lv_at hl 2 rfl) ?_
        obtain ⟨h_2, hv⟩ := hv
        refine q_iald C hW 0 rfl h_2 dX7_copyAll_13 ?_
        obtain ⟨h_3, hv⟩ := hv
        refine q_iast C hW hS 1 rfl h_3 dX7_copyAll_14 (fun H locs hW hS => ?_)
        have hW : wo G A (wd_X7_1 G f0 h0 f_a (upd h_a x2.toNatClampNeg (f_a x2.toNatClampNeg))) H := hW
        refine lv_iinc (v := (x2 + 1)) (lv' := [(2, .int (x2 + 1)), (0, .ref f0), (1, .ref h0)]) hx hb dX7_copyAll_15 hl (k := 2) rfl rfl (by decide) rfl (fun ls hl => ?_)
        refine lv_goto (tgt := 2) hx hb dX7_copyAll_18 (by decide) ?_
        exact ih (x2 + 1) (upd h_a x2.toNatClampNeg (f_a x2.toNatClampNeg)) H locs ls hW hS (lv_sub hl [1, 2, 0] rfl) hv
  refine lv_iconst (v := 0) hx hb dX7_copyAll_0 kic_0 ?_
  refine lv_istore_n (lv' := [(2, .int (0 : Int32)), (0, .ref f0), (1, .ref h0)]) hx hb dX7_copyAll_1 rfl hl (by decide) rfl (fun ls hl => ?_)
  obtain ⟨n_4, hv⟩ := hv
  exact h_l_X7_copyAll_2 n_4 (0 : Int32) h_a H locs ls hW hS (lv_sub hl [1, 2, 0] rfl) hv
set_option maxHeartbeats 4000000 in
set_option maxRecDepth 100000 in
theorem c_X7_layDown (l : Launch) (G : Gt) (b : Nat → Nat) (m_images : Int32) (m_at_ : Int32) (m_open_ : Int32) (m_steps : Int32) (m_use_ : Int32) (m_traced : Int32) (m_speaks : Int32) (m_isParted : Int32) (m_s : Nat → Int32) (m_laid : Nat → Int32) (K : (Nat → Int32) → Prop) (hv : v_X7_layDown m_s m_laid K) : CV l G yX7_layDown (.code yX7_layDown cX7_layDown 2 none :: wsG) (rmm 0 0) [.ref (b 0)] (wd_X7_2 G b m_images m_at_ m_open_ m_steps m_use_ m_traced m_speaks m_isParted m_s m_laid) (S := (Nat → Int32)) (fun u => wd_X7_2 G b m_images m_at_ m_open_ m_steps m_use_ m_traced m_speaks m_isParted m_s u) (fun u => K u) := by
  refine cv_intro (by decide) rfl (fun _ => rfl) (Nat.le_of_ble_eq_true rfl) ?_
  intro p e s m args below meth c A H ls Q C hW hS hl ret
  have hx := C.1.1
  have hb := C.1.2.1
  generalize hls : ([] : List Loc) = locs at hS ⊢
  have hl : lv_has ls 2 [(0, .ref (b 0))] := hl
  have h_l_X7_layDown_2 : ∀ (n : Nat), ∀ (x1 : Int32) (m_laid : Nat → Int32) (H : Heap) (locs : List Loc) (ls : Array Slot), wo G A (wd_X7_2 G b m_images m_at_ m_open_ m_steps m_use_ m_traced m_speaks m_isParted m_s m_laid) H → va_S A s.heap H locs → lv_has ls 2 [(0, .ref (b 0)), (1, .int x1)] → l_X7_layDown_2 m_s K n x1 m_laid → W p l e (rmm 0 0) s m args below meth c H locs 0 0 Q (F0 m 2 ls []) := by
    intro n
    induction n with
    | zero =>
      intro x1 m_laid H locs ls hW hS hl hv
      exact False.elim hv
    | succ n ih =>
      intro x1 m_laid H locs ls hW hS hl hv
      refine lv_iload_n hx hb dX7_layDown_2 rfl (lv_at hl 1 rfl) ?_
      refine lv_bipush (v := 48) hx hb dX7_layDown_3 kbp_48 ?_
      refine lv_icmp_ge (tgt := 26) hx hb dX7_layDown_5 (by decide) (fun c_1 => ?_) (fun c_1 => ?_)
      · replace hv := hv.1 c_1
        exact ret (m_laid) H locs ls _ hW hS hv dX7_layDown_26
      · replace hv := hv.2 c_1
        refine lv_aload_n hx hb dX7_layDown_8 rfl (lv_at hl 0 rfl) ?_
        refine q_get C kc7 hW 0 rfl 2 (by decide) fl_X7_16 rfl rfl dX7_layDown_9 ?_
        refine lv_iload_n hx hb dX7_layDown_12 rfl (lv_at hl 1 rfl) ?_
        refine lv_aload_n hx hb dX7_layDown_13 rfl (lv_at hl 0 rfl) ?_
        refine q_get C kc7 hW 0 rfl 0 (by decide) fl_X7_7 rfl rfl dX7_layDown_14 ?_
        refine lv_iload_n hx hb dX7_layDown_17 rfl (lv_at hl 1 rfl) ?_
        obtain ⟨h_2, hv⟩ := hv
        refine q_iald C hW 1 rfl h_2 dX7_layDown_18 ?_
        obtain ⟨h_3, hv⟩ := hv
        refine q_iast C hW hS 2 rfl h_3 dX7_layDown_19 (fun H locs hW hS => ?_)
        have hW : wo G A (wd_X7_2 G b m_images m_at_ m_open_ m_steps m_use_ m_traced m_speaks m_isParted m_s (upd m_laid x1.toNatClampNeg (m_s x1.toNatClampNeg))) H := hW
        refine lv_iinc (v := (x1 + 1)) (lv' := [(1, .int (x1 + 1)), (0, .ref (b 0))]) hx hb dX7_layDown_20 hl (k := 1) rfl rfl (by decide) rfl (fun ls hl => ?_)
        refine lv_goto (tgt := 2) hx hb dX7_layDown_23 (by decide) ?_
        exact ih (x1 + 1) (upd m_laid x1.toNatClampNeg (m_s x1.toNatClampNeg)) H locs ls hW hS (lv_sub hl [1, 0] rfl) hv
  refine lv_iconst (v := 0) hx hb dX7_layDown_0 kic_0 ?_
  refine lv_istore_n (lv' := [(1, .int (0 : Int32)), (0, .ref (b 0))]) hx hb dX7_layDown_1 rfl hl (by decide) rfl (fun ls hl => ?_)
  obtain ⟨n_4, hv⟩ := hv
  exact h_l_X7_layDown_2 n_4 (0 : Int32) m_laid H locs ls hW hS (lv_sub hl [1, 0] rfl) hv
set_option maxHeartbeats 4000000 in
set_option maxRecDepth 100000 in
theorem c_X7_layBack (l : Launch) (G : Gt) (b : Nat → Nat) (m_images : Int32) (m_at_ : Int32) (m_open_ : Int32) (m_steps : Int32) (m_use_ : Int32) (m_traced : Int32) (m_speaks : Int32) (m_isParted : Int32) (m_s : Nat → Int32) (m_laid : Nat → Int32) (K : (Nat → Int32) → Prop) (hv : v_X7_layBack m_s m_laid K) : CV l G yX7_layBack (.code yX7_layBack cX7_layBack 2 none :: wsG) (rmm 0 0) [.ref (b 0)] (wd_X7_2 G b m_images m_at_ m_open_ m_steps m_use_ m_traced m_speaks m_isParted m_s m_laid) (S := (Nat → Int32)) (fun u => wd_X7_2 G b m_images m_at_ m_open_ m_steps m_use_ m_traced m_speaks m_isParted u m_laid) (fun u => K u) := by
  refine cv_intro (by decide) rfl (fun _ => rfl) (Nat.le_of_ble_eq_true rfl) ?_
  intro p e s m args below meth c A H ls Q C hW hS hl ret
  have hx := C.1.1
  have hb := C.1.2.1
  generalize hls : ([] : List Loc) = locs at hS ⊢
  have hl : lv_has ls 2 [(0, .ref (b 0))] := hl
  have h_l_X7_layBack_2 : ∀ (n : Nat), ∀ (x1 : Int32) (m_s : Nat → Int32) (H : Heap) (locs : List Loc) (ls : Array Slot), wo G A (wd_X7_2 G b m_images m_at_ m_open_ m_steps m_use_ m_traced m_speaks m_isParted m_s m_laid) H → va_S A s.heap H locs → lv_has ls 2 [(0, .ref (b 0)), (1, .int x1)] → l_X7_layBack_2 m_laid K n x1 m_s → W p l e (rmm 0 0) s m args below meth c H locs 0 0 Q (F0 m 2 ls []) := by
    intro n
    induction n with
    | zero =>
      intro x1 m_s H locs ls hW hS hl hv
      exact False.elim hv
    | succ n ih =>
      intro x1 m_s H locs ls hW hS hl hv
      refine lv_iload_n hx hb dX7_layBack_2 rfl (lv_at hl 1 rfl) ?_
      refine lv_bipush (v := 48) hx hb dX7_layBack_3 kbp_48 ?_
      refine lv_icmp_ge (tgt := 26) hx hb dX7_layBack_5 (by decide) (fun c_1 => ?_) (fun c_1 => ?_)
      · replace hv := hv.1 c_1
        exact ret (m_s) H locs ls _ hW hS hv dX7_layBack_26
      · replace hv := hv.2 c_1
        refine lv_aload_n hx hb dX7_layBack_8 rfl (lv_at hl 0 rfl) ?_
        refine q_get C kc7 hW 0 rfl 0 (by decide) fl_X7_7 rfl rfl dX7_layBack_9 ?_
        refine lv_iload_n hx hb dX7_layBack_12 rfl (lv_at hl 1 rfl) ?_
        refine lv_aload_n hx hb dX7_layBack_13 rfl (lv_at hl 0 rfl) ?_
        refine q_get C kc7 hW 0 rfl 2 (by decide) fl_X7_16 rfl rfl dX7_layBack_14 ?_
        refine lv_iload_n hx hb dX7_layBack_17 rfl (lv_at hl 1 rfl) ?_
        obtain ⟨h_2, hv⟩ := hv
        refine q_iald C hW 2 rfl h_2 dX7_layBack_18 ?_
        obtain ⟨h_3, hv⟩ := hv
        refine q_iast C hW hS 1 rfl h_3 dX7_layBack_19 (fun H locs hW hS => ?_)
        have hW : wo G A (wd_X7_2 G b m_images m_at_ m_open_ m_steps m_use_ m_traced m_speaks m_isParted (upd m_s x1.toNatClampNeg (m_laid x1.toNatClampNeg)) m_laid) H := hW
        refine lv_iinc (v := (x1 + 1)) (lv' := [(1, .int (x1 + 1)), (0, .ref (b 0))]) hx hb dX7_layBack_20 hl (k := 1) rfl rfl (by decide) rfl (fun ls hl => ?_)
        refine lv_goto (tgt := 2) hx hb dX7_layBack_23 (by decide) ?_
        exact ih (x1 + 1) (upd m_s x1.toNatClampNeg (m_laid x1.toNatClampNeg)) H locs ls hW hS (lv_sub hl [1, 0] rfl) hv
  refine lv_iconst (v := 0) hx hb dX7_layBack_0 kic_0 ?_
  refine lv_istore_n (lv' := [(1, .int (0 : Int32)), (0, .ref (b 0))]) hx hb dX7_layBack_1 rfl hl (by decide) rfl (fun ls hl => ?_)
  obtain ⟨n_4, hv⟩ := hv
  exact h_l_X7_layBack_2 n_4 (0 : Int32) m_s H locs ls hW hS (lv_sub hl [1, 0] rfl) hv
set_option maxHeartbeats 4000000 in
set_option maxRecDepth 100000 in
theorem c_X7_isPerson (l : Launch) (G : Gt) (b : Nat → Nat) (m_images : Int32) (m_at_ : Int32) (m_open_ : Int32) (m_steps : Int32) (m_use_ : Int32) (m_traced : Int32) (m_speaks : Int32) (m_isParted : Int32) (m_s : Nat → Int32) (p1 : Int32) (K : Int32 → Prop) (hv : v_X7_isPerson p1 m_s K) : CI l G yX7_isPerson (.code yX7_isPerson cX7_isPerson 2 (some .boolean) :: wsG) (rmm 1 22) [.ref (b 0), .int p1] (wd_X7_3 G b m_images m_at_ m_open_ m_steps m_use_ m_traced m_speaks m_isParted m_s) (S := Unit) (fun u => wd_X7_3 G b m_images m_at_ m_open_ m_steps m_use_ m_traced m_speaks m_isParted m_s) (fun r u => (r = 0 ∨ r = 1) ∧ K r) := by
  refine ci_intro (by decide) rfl (fun _ => rfl) (Nat.le_of_ble_eq_true rfl) ?_
  intro p e s m args below meth c A H ls Q C hW hS hl ret
  have hx := C.1.1
  have hb := C.1.2.1
  generalize hls : ([] : List Loc) = locs at hS ⊢
  have hl : lv_has ls 2 [(0, .ref (b 0)), (1, .int p1)] := hl
  refine lv_iload_n hx hb dX7_isPerson_0 rfl (lv_at hl 1 rfl) ?_
  refine lv_iconst (v := 0) hx hb dX7_isPerson_1 kic_0 ?_
  refine lv_aload_n hx hb dX7_isPerson_2 rfl (lv_at hl 0 rfl) ?_
  refine q_get C kc7 hW 0 rfl 0 (by decide) fl_X7_7 rfl rfl dX7_isPerson_3 ?_
  refine lv_iconst (v := 4) hx hb dX7_isPerson_6 kic_4 ?_
  obtain ⟨h_1, hv⟩ := hv
  refine q_iald C hW 1 rfl h_1 dX7_isPerson_7 ?_
  refine lv_iconst (v := 1) hx hb dX7_isPerson_8 kic_1 ?_
  refine lv_isub hx hb dX7_isPerson_9 ?_
  refine q_callS (rest := []) (n := 3) C (c_X7_in l G p1 (0 : Int32) ((m_s (4 : Int32).toNatClampNeg) - (1 : Int32)) _ hv) ml_X7_53 kb_X7_in rfl ⟨⟨rfl, rfl⟩, (Nat.le_of_ble_eq_true rfl), (Nat.le_of_ble_eq_true rfl)⟩ hW hS hl.1 rfl (Nat.le_of_ble_eq_true rfl) dX7_isPerson_10 ⟨Nat.zero_le _, Nat.zero_le _⟩ (fun r_2 u_3 H locs hv hW hS => ?_)
  obtain ⟨hv_b_2, hv⟩ := hv
  try dsimp only at hv
  exact ret () r_2 H locs ls _ (bl_narrow hv_b_2) hW hS ⟨hv_b_2, hv⟩ dX7_isPerson_13
set_option maxHeartbeats 4000000 in
set_option maxRecDepth 100000 in
theorem c_X7_areTwo (l : Launch) (G : Gt) (b : Nat → Nat) (m_images : Int32) (m_at_ : Int32) (m_open_ : Int32) (m_steps : Int32) (m_use_ : Int32) (m_traced : Int32) (m_speaks : Int32) (m_isParted : Int32) (m_s : Nat → Int32) (p1 : Int32) (p2 : Int32) (K : Int32 → Prop) (hv : v_X7_areTwo p1 p2 m_s K) : CI l G yX7_areTwo (.code yX7_areTwo cX7_areTwo 3 (some .boolean) :: wsG) (rmm 2 43) [.ref (b 0), .int p1, .int p2] (wd_X7_3 G b m_images m_at_ m_open_ m_steps m_use_ m_traced m_speaks m_isParted m_s) (S := Unit) (fun u => wd_X7_3 G b m_images m_at_ m_open_ m_steps m_use_ m_traced m_speaks m_isParted m_s) (fun r u => (r = 0 ∨ r = 1) ∧ K r) := by
  refine ci_intro (by decide) rfl (fun _ => rfl) (Nat.le_of_ble_eq_true rfl) ?_
  intro p e s m args below meth c A H ls Q C hW hS hl ret
  have hx := C.1.1
  have hb := C.1.2.1
  generalize hls : ([] : List Loc) = locs at hS ⊢
  have hl : lv_has ls 3 [(0, .ref (b 0)), (1, .int p1), (2, .int p2)] := hl
  refine lv_aload_n hx hb dX7_areTwo_0 rfl (lv_at hl 0 rfl) ?_
  refine lv_iload_n hx hb dX7_areTwo_1 rfl (lv_at hl 1 rfl) ?_
  refine q_callV (rest := []) (n := 1) C (c_X7_isPerson l G b m_images m_at_ m_open_ m_steps m_use_ m_traced m_speaks m_isParted m_s p1 _ hv) ml_X7_57 kb_X7_isPerson rfl ⟨⟨rfl, rfl⟩, (Nat.le_of_ble_eq_true rfl), (Nat.le_of_ble_eq_true rfl)⟩ hW hS [0, 1] rfl rfl kc7 (q0 := 0) rfl hl.1 rfl (Nat.le_of_ble_eq_true rfl) dX7_areTwo_2 ⟨Nat.zero_le _, Nat.zero_le _⟩ (fun r_1 u_2 H locs hv hW hS => ?_)
  obtain ⟨hv_b_1, hv⟩ := hv
  try dsimp only at hv
  refine lv_if_eq (tgt := 25) hx hb dX7_areTwo_5 (by decide) (fun c_3 => ?_) (fun c_3 => ?_)
  · replace hv := hv.1 c_3
    refine lv_iconst (v := 0) hx hb dX7_areTwo_25 kic_0 ?_
    exact ret () (0 : Int32) H locs ls _ (bl_narrow (Or.inl rfl)) hW hS ⟨(Or.inl rfl), hv⟩ dX7_areTwo_26
  · replace hv := hv.2 c_3
    refine lv_aload_n hx hb dX7_areTwo_8 rfl (lv_at hl 0 rfl) ?_
    refine lv_iload_n hx hb dX7_areTwo_9 rfl (lv_at hl 2 rfl) ?_
    refine q_callV (rest := []) (n := 1) C (c_X7_isPerson l G b m_images m_at_ m_open_ m_steps m_use_ m_traced m_speaks m_isParted m_s p2 _ hv) ml_X7_57 kb_X7_isPerson rfl ⟨⟨rfl, rfl⟩, (Nat.le_of_ble_eq_true rfl), (Nat.le_of_ble_eq_true rfl)⟩ hW hS [0, 1] rfl rfl kc7 (q0 := 0) rfl hl.1 rfl (Nat.le_of_ble_eq_true rfl) dX7_areTwo_10 ⟨Nat.zero_le _, Nat.zero_le _⟩ (fun r_4 u_5 H locs hv hW hS => ?_)
    obtain ⟨hv_b_4, hv⟩ := hv
    try dsimp only at hv
    refine lv_if_eq (tgt := 25) hx hb dX7_areTwo_13 (by decide) (fun c_6 => ?_) (fun c_6 => ?_)
    · replace hv := hv.1 c_6
      refine lv_iconst (v := 0) hx hb dX7_areTwo_25 kic_0 ?_
      exact ret () (0 : Int32) H locs ls _ (bl_narrow (Or.inl rfl)) hW hS ⟨(Or.inl rfl), hv⟩ dX7_areTwo_26
    · replace hv := hv.2 c_6
      refine lv_iload_n hx hb dX7_areTwo_16 rfl (lv_at hl 1 rfl) ?_
      refine lv_iload_n hx hb dX7_areTwo_17 rfl (lv_at hl 2 rfl) ?_
      refine lv_icmp_eq (tgt := 25) hx hb dX7_areTwo_18 (by decide) (fun c_7 => ?_) (fun c_7 => ?_)
      · replace hv := hv.1 c_7
        refine lv_iconst (v := 0) hx hb dX7_areTwo_25 kic_0 ?_
        exact ret () (0 : Int32) H locs ls _ (bl_narrow (Or.inl rfl)) hW hS ⟨(Or.inl rfl), hv⟩ dX7_areTwo_26
      · replace hv := hv.2 c_7
        refine lv_iconst (v := 1) hx hb dX7_areTwo_21 kic_1 ?_
        refine lv_goto (tgt := 26) hx hb dX7_areTwo_22 (by decide) ?_
        exact ret () (1 : Int32) H locs ls _ (bl_narrow (Or.inr rfl)) hW hS ⟨(Or.inr rfl), hv⟩ dX7_areTwo_26
set_option maxHeartbeats 4000000 in
set_option maxRecDepth 100000 in
theorem c_X7_its (l : Launch) (G : Gt) (b : Nat → Nat) (m_images : Int32) (m_at_ : Int32) (m_open_ : Int32) (m_steps : Int32) (m_use_ : Int32) (m_traced : Int32) (m_speaks : Int32) (m_isParted : Int32) (m_s : Nat → Int32) (p1 : Int32) (p2 : Int32) (K : Int32 → Prop) (hv : v_X7_its p1 p2 m_s K) : CI l G yX7_its (.code yX7_its cX7_its 3 (some .int) :: wsG) (rmm 0 0) [.ref (b 0), .int p1, .int p2] (wd_X7_3 G b m_images m_at_ m_open_ m_steps m_use_ m_traced m_speaks m_isParted m_s) (S := Unit) (fun u => wd_X7_3 G b m_images m_at_ m_open_ m_steps m_use_ m_traced m_speaks m_isParted m_s) (fun r u => K r) := by
  refine ci_intro (by decide) rfl (fun _ => rfl) (Nat.le_of_ble_eq_true rfl) ?_
  intro p e s m args below meth c A H ls Q C hW hS hl ret
  have hx := C.1.1
  have hb := C.1.2.1
  generalize hls : ([] : List Loc) = locs at hS ⊢
  have hl : lv_has ls 3 [(0, .ref (b 0)), (1, .int p1), (2, .int p2)] := hl
  refine lv_aload_n hx hb dX7_its_0 rfl (lv_at hl 0 rfl) ?_
  refine q_get C kc7 hW 0 rfl 0 (by decide) fl_X7_7 rfl rfl dX7_its_1 ?_
  refine lv_bipush (v := 8) hx hb dX7_its_4 kbp_8 ?_
  refine lv_iconst (v := 5) hx hb dX7_its_6 kic_5 ?_
  refine lv_iload_n hx hb dX7_its_7 rfl (lv_at hl 1 rfl) ?_
  refine lv_imul hx hb dX7_its_8 ?_
  refine lv_iadd hx hb dX7_its_9 ?_
  refine lv_iload_n hx hb dX7_its_10 rfl (lv_at hl 2 rfl) ?_
  refine lv_iadd hx hb dX7_its_11 ?_
  obtain ⟨h_1, hv⟩ := hv
  refine q_iald C hW 1 rfl h_1 dX7_its_12 ?_
  exact ret () (m_s (((8 : Int32) + ((5 : Int32) * p1)) + p2).toNatClampNeg) H locs ls _ rfl hW hS hv dX7_its_13
set_option maxHeartbeats 4000000 in
set_option maxRecDepth 100000 in
theorem c_X7_lays1 (l : Launch) (G : Gt) (b : Nat → Nat) (m_images : Int32) (m_at_ : Int32) (m_open_ : Int32) (m_steps : Int32) (m_use_ : Int32) (m_traced : Int32) (m_speaks : Int32) (m_isParted : Int32) (m_s : Nat → Int32) (p1 : Int32) (p2 : Int32) (p3 : Int32) (K : (Nat → Int32) → Prop) (hv : v_X7_lays1 p1 p2 p3 m_s K) : CV l G yX7_lays1 (.code yX7_lays1 cX7_lays1 4 none :: wsG) (rmm 0 0) [.ref (b 0), .int p1, .int p2, .int p3] (wd_X7_3 G b m_images m_at_ m_open_ m_steps m_use_ m_traced m_speaks m_isParted m_s) (S := (Nat → Int32)) (fun u => wd_X7_3 G b m_images m_at_ m_open_ m_steps m_use_ m_traced m_speaks m_isParted u) (fun u => K u) := by
  refine cv_intro (by decide) rfl (fun _ => rfl) (Nat.le_of_ble_eq_true rfl) ?_
  intro p e s m args below meth c A H ls Q C hW hS hl ret
  have hx := C.1.1
  have hb := C.1.2.1
  generalize hls : ([] : List Loc) = locs at hS ⊢
  have hl : lv_has ls 4 [(0, .ref (b 0)), (1, .int p1), (2, .int p2), (3, .int p3)] := hl
  refine lv_aload_n hx hb dX7_lays1_0 rfl (lv_at hl 0 rfl) ?_
  refine q_get C kc7 hW 0 rfl 0 (by decide) fl_X7_7 rfl rfl dX7_lays1_1 ?_
  refine lv_bipush (v := 8) hx hb dX7_lays1_4 kbp_8 ?_
  refine lv_iconst (v := 5) hx hb dX7_lays1_6 kic_5 ?_
  refine lv_iload_n hx hb dX7_lays1_7 rfl (lv_at hl 1 rfl) ?_
  refine lv_imul hx hb dX7_lays1_8 ?_
  refine lv_iadd hx hb dX7_lays1_9 ?_
  refine lv_iload_n hx hb dX7_lays1_10 rfl (lv_at hl 2 rfl) ?_
  refine lv_iadd hx hb dX7_lays1_11 ?_
  refine lv_iload_n hx hb dX7_lays1_12 rfl (lv_at hl 3 rfl) ?_
  obtain ⟨h_1, hv⟩ := hv
  refine q_iast C hW hS 1 rfl h_1 dX7_lays1_13 (fun H locs hW hS => ?_)
  have hW : wo G A (wd_X7_3 G b m_images m_at_ m_open_ m_steps m_use_ m_traced m_speaks m_isParted (upd m_s (((8 : Int32) + ((5 : Int32) * p1)) + p2).toNatClampNeg p3)) H := hW
  exact ret ((upd m_s (((8 : Int32) + ((5 : Int32) * p1)) + p2).toNatClampNeg p3)) H locs ls _ hW hS hv dX7_lays1_14
set_option maxHeartbeats 4000000 in
set_option maxRecDepth 100000 in
theorem c_X7_change1 (l : Launch) (G : Gt) (b : Nat → Nat) (m_images : Int32) (m_at_ : Int32) (m_open_ : Int32) (m_steps : Int32) (m_use_ : Int32) (m_traced : Int32) (m_speaks : Int32) (m_isParted : Int32) (m_s : Nat → Int32) (p1 : Int32) (p2 : Int32) (K : Int32 → (Nat → Int32) → Prop) (hv : v_X7_change1 p1 p2 m_s K) : CI l G yX7_change1 (.code yX7_change1 cX7_change1 4 (some .int) :: wsG) (rmm 0 0) [.ref (b 0), .int p1, .int p2] (wd_X7_3 G b m_images m_at_ m_open_ m_steps m_use_ m_traced m_speaks m_isParted m_s) (S := (Nat → Int32)) (fun u => wd_X7_3 G b m_images m_at_ m_open_ m_steps m_use_ m_traced m_speaks m_isParted u) (fun r u => K r u) := by
  refine ci_intro (by decide) rfl (fun _ => rfl) (Nat.le_of_ble_eq_true rfl) ?_
  intro p e s m args below meth c A H ls Q C hW hS hl ret
  have hx := C.1.1
  have hb := C.1.2.1
  generalize hls : ([] : List Loc) = locs at hS ⊢
  have hl : lv_has ls 4 [(0, .ref (b 0)), (1, .int p1), (2, .int p2)] := hl
  refine lv_aload_n hx hb dX7_change1_0 rfl (lv_at hl 0 rfl) ?_
  refine q_get C kc7 hW 0 rfl 0 (by decide) fl_X7_7 rfl rfl dX7_change1_1 ?_
  refine lv_iload_n hx hb dX7_change1_4 rfl (lv_at hl 1 rfl) ?_
  obtain ⟨h_1, hv⟩ := hv
  refine q_iald C hW 1 rfl h_1 dX7_change1_5 ?_
  refine lv_istore_n (lv' := [(3, .int (m_s p1.toNatClampNeg)), (0, .ref (b 0)), (1, .int p1), (2, .int p2)]) hx hb dX7_change1_6 rfl hl (by decide) rfl (fun ls hl => ?_)
  refine lv_aload_n hx hb dX7_change1_7 rfl (lv_at hl 1 rfl) ?_
  refine q_get C kc7 hW 0 rfl 0 (by decide) fl_X7_7 rfl rfl dX7_change1_8 ?_
  refine lv_iload_n hx hb dX7_change1_11 rfl (lv_at hl 2 rfl) ?_
  refine lv_iload_n hx hb dX7_change1_12 rfl (lv_at hl 3 rfl) ?_
  obtain ⟨h_2, hv⟩ := hv
  refine q_iast C hW hS 1 rfl h_2 dX7_change1_13 (fun H locs hW hS => ?_)
  have hW : wo G A (wd_X7_3 G b m_images m_at_ m_open_ m_steps m_use_ m_traced m_speaks m_isParted (upd m_s p1.toNatClampNeg p2)) H := hW
  refine lv_iload_n hx hb dX7_change1_14 rfl (lv_at hl 0 rfl) ?_
  exact ret ((upd m_s p1.toNatClampNeg p2)) (m_s p1.toNatClampNeg) H locs ls _ rfl hW hS hv dX7_change1_15
set_option maxHeartbeats 4000000 in
set_option maxRecDepth 100000 in
theorem c_X7_feed (l : Launch) (G : Gt) (b : Nat → Nat) (m_images : Int32) (m_at_ : Int32) (m_open_ : Int32) (m_steps : Int32) (m_use_ : Int32) (m_traced : Int32) (m_speaks : Int32) (m_isParted : Int32) (m_s : Nat → Int32) (m_errors : Nat → Int32) (p1 : Int64) (p2 : Int32) (K : Int32 → (Nat → Int32) → (Nat → Int32) → Prop) (hv : v_X7_feed p1 p2 m_s m_errors K) : CI l G yX7_feed (.code yX7_feed cX7_feed 5 (some .int) :: wsG) (rmm 1 22) [.ref (b 0), .long p1, .int p2] (wd_X7_4 G b m_images m_at_ m_open_ m_steps m_use_ m_traced m_speaks m_isParted m_s m_errors) (S := (Nat → Int32) × (Nat → Int32)) (fun u => wd_X7_4 G b m_images m_at_ m_open_ m_steps m_use_ m_traced m_speaks m_isParted u.1 u.2) (fun r u => K r u.1 u.2) := by
  refine ci_intro (by decide) rfl (fun _ => rfl) (Nat.le_of_ble_eq_true rfl) ?_
  intro p e s m args below meth c A H ls Q C hW hS hl ret
  have hx := C.1.1
  have hb := C.1.2.1
  generalize hls : ([] : List Loc) = locs at hS ⊢
  have hl : lv_has ls 5 [(0, .ref (b 0)), (1, .long p1), (3, .int p2)] := hl
  have h_l_X7_feed_38 : ∀ (n : Nat), ∀ (x4 : Int32) (m_s : Nat → Int32) (m_errors : Nat → Int32) (H : Heap) (locs : List Loc) (ls : Array Slot), wo G A (wd_X7_4 G b m_images m_at_ m_open_ m_steps m_use_ m_traced m_speaks m_isParted m_s m_errors) H → va_S A s.heap H locs → lv_has ls 5 [(0, .ref (b 0)), (1, .long p1), (3, .int p2), (4, .int x4)] → l_X7_feed_38 p1 p2 K n x4 m_s m_errors → W p l e (rmm 1 22) s m args below meth c H locs 0 0 Q (F0 m 38 ls []) := by
    intro n
    induction n with
    | zero =>
      intro x4 m_s m_errors H locs ls hW hS hl hv
      exact False.elim hv
    | succ n ih =>
      intro x4 m_s m_errors H locs ls hW hS hl hv
      refine lv_iload hx hb dX7_feed_38 (lv_at hl 3 rfl) ?_
      refine lv_iload_n hx hb dX7_feed_40 rfl (lv_at hl 2 rfl) ?_
      refine lv_icmp_ge (tgt := 87) hx hb dX7_feed_41 (by decide) (fun c_6 => ?_) (fun c_6 => ?_)
      · replace hv := hv.1 c_6
        refine lv_aload_n hx hb dX7_feed_87 rfl (lv_at hl 0 rfl) ?_
        refine q_get C kc7 hW 0 rfl 0 (by decide) fl_X7_7 rfl rfl dX7_feed_88 ?_
        refine lv_iconst (v := 2) hx hb dX7_feed_91 kic_2 ?_
        obtain ⟨h_7, hv⟩ := hv
        refine q_iald C hW 1 rfl h_7 dX7_feed_92 ?_
        exact ret (m_s, m_errors) (m_s (2 : Int32).toNatClampNeg) H locs ls _ rfl hW hS hv dX7_feed_93
      · replace hv := hv.2 c_6
        refine lv_aload_n hx hb dX7_feed_44 rfl (lv_at hl 0 rfl) ?_
        refine q_get C kc7 hW 0 rfl 0 (by decide) fl_X7_7 rfl rfl dX7_feed_45 ?_
        refine lv_sipush (v := 298) hx hb dX7_feed_48 ksp_298 ?_
        refine lv_aload_n hx hb dX7_feed_51 rfl (lv_at hl 0 rfl) ?_
        refine q_get C kc7 hW 0 rfl 0 (by decide) fl_X7_7 rfl rfl dX7_feed_52 ?_
        refine lv_iconst (v := 2) hx hb dX7_feed_55 kic_2 ?_
        obtain ⟨h_8, hv⟩ := hv
        refine q_iald C hW 1 rfl h_8 dX7_feed_56 ?_
        refine lv_iadd hx hb dX7_feed_57 ?_
        refine lv_lload_n hx hb dX7_feed_58 rfl (lv_at hl 1 rfl) ?_
        refine lv_bipush (v := 8) hx hb dX7_feed_59 kbp_8 ?_
        refine lv_iload hx hb dX7_feed_61 (lv_at hl 3 rfl) ?_
        refine lv_imul hx hb dX7_feed_63 ?_
        refine lv_lshr hx hb dX7_feed_64 rfl ?_
        refine lv_ldc2 (v := 255) hx hb C.1.2.2.2.1 (C.hts kl_X7_65) dX7_feed_65 ?_
        refine lv_land hx hb dX7_feed_68 ?_
        refine lv_l2i hx hb dX7_feed_69 rfl ?_
        obtain ⟨h_9, hv⟩ := hv
        refine q_iast C hW hS 1 rfl h_9 dX7_feed_70 (fun H locs hW hS => ?_)
        have hW : wo G A (wd_X7_4 G b m_images m_at_ m_open_ m_steps m_use_ m_traced m_speaks m_isParted (upd m_s ((298 : Int32) + (m_s (2 : Int32).toNatClampNeg)).toNatClampNeg (((p1 >>> (((8 : Int32) * x4).toInt64 &&& 63)) &&& (255 : Int64)).toInt32)) m_errors) H := hW
        refine lv_aload_n hx hb dX7_feed_71 rfl (lv_at hl 0 rfl) ?_
        refine q_get C kc7 hW 0 rfl 0 (by decide) fl_X7_7 rfl rfl dX7_feed_72 ?_
        refine lv_iconst (v := 2) hx hb dX7_feed_75 kic_2 ?_
        refine lv_dup2_11 hx hb dX7_feed_76 rfl rfl ?_
        obtain ⟨h_10, hv⟩ := hv
        refine q_iald C hW 1 rfl h_10 dX7_feed_77 ?_
        refine lv_iconst (v := 1) hx hb dX7_feed_78 kic_1 ?_
        refine lv_iadd hx hb dX7_feed_79 ?_
        obtain ⟨h_11, hv⟩ := hv
        refine q_iast C hW hS 1 rfl h_11 dX7_feed_80 (fun H locs hW hS => ?_)
        have hW : wo G A (wd_X7_4 G b m_images m_at_ m_open_ m_steps m_use_ m_traced m_speaks m_isParted (upd (upd m_s ((298 : Int32) + (m_s (2 : Int32).toNatClampNeg)).toNatClampNeg (((p1 >>> (((8 : Int32) * x4).toInt64 &&& 63)) &&& (255 : Int64)).toInt32)) (2 : Int32).toNatClampNeg (((upd m_s ((298 : Int32) + (m_s (2 : Int32).toNatClampNeg)).toNatClampNeg (((p1 >>> (((8 : Int32) * x4).toInt64 &&& 63)) &&& (255 : Int64)).toInt32)) (2 : Int32).toNatClampNeg) + (1 : Int32))) m_errors) H := hW
        refine lv_iinc (v := (x4 + 1)) (lv' := [(4, .int (x4 + 1)), (0, .ref (b 0)), (1, .long p1), (3, .int p2)]) hx hb dX7_feed_81 hl (k := 3) rfl rfl (by decide) rfl (fun ls hl => ?_)
        refine lv_goto (tgt := 38) hx hb dX7_feed_84 (by decide) ?_
        exact ih (x4 + 1) (upd (upd m_s ((298 : Int32) + (m_s (2 : Int32).toNatClampNeg)).toNatClampNeg (((p1 >>> (((8 : Int32) * x4).toInt64 &&& 63)) &&& (255 : Int64)).toInt32)) (2 : Int32).toNatClampNeg (((upd m_s ((298 : Int32) + (m_s (2 : Int32).toNatClampNeg)).toNatClampNeg (((p1 >>> (((8 : Int32) * x4).toInt64 &&& 63)) &&& (255 : Int64)).toInt32)) (2 : Int32).toNatClampNeg) + (1 : Int32))) m_errors H locs ls hW hS (lv_sub hl [1, 2, 3, 0] rfl) hv
  refine lv_iload_n hx hb dX7_feed_0 rfl (lv_at hl 2 rfl) ?_
  refine lv_iconst (v := 1) hx hb dX7_feed_1 kic_1 ?_
  refine lv_bipush (v := 8) hx hb dX7_feed_2 kbp_8 ?_
  refine q_callS (rest := []) (n := 3) C (c_X7_in l G p2 (1 : Int32) (8 : Int32) _ hv) ml_X7_53 kb_X7_in rfl ⟨⟨rfl, rfl⟩, (Nat.le_of_ble_eq_true rfl), (Nat.le_of_ble_eq_true rfl)⟩ hW hS hl.1 rfl (Nat.le_of_ble_eq_true rfl) dX7_feed_4 ⟨Nat.zero_le _, Nat.zero_le _⟩ (fun r_1 u_2 H locs hv hW hS => ?_)
  obtain ⟨hv_b_1, hv⟩ := hv
  try dsimp only at hv
  refine lv_if_ne (tgt := 16) hx hb dX7_feed_7 (by decide) (fun c_3 => ?_) (fun c_3 => ?_)
  · replace hv := hv.1 c_3
    refine lv_aload_n hx hb dX7_feed_16 rfl (lv_at hl 0 rfl) ?_
    refine q_get C kc7 hW 0 rfl 0 (by decide) fl_X7_7 rfl rfl dX7_feed_17 ?_
    refine lv_iconst (v := 2) hx hb dX7_feed_20 kic_2 ?_
    obtain ⟨h_4, hv⟩ := hv
    refine q_iald C hW 1 rfl h_4 dX7_feed_21 ?_
    refine lv_iload_n hx hb dX7_feed_22 rfl (lv_at hl 2 rfl) ?_
    refine lv_iadd hx hb dX7_feed_23 ?_
    refine lv_bipush (v := 60) hx hb dX7_feed_24 kbp_60 ?_
    refine lv_icmp_le (tgt := 35) hx hb dX7_feed_26 (by decide) (fun c_5 => ?_) (fun c_5 => ?_)
    · replace hv := hv.1 c_5
      refine lv_iconst (v := 0) hx hb dX7_feed_35 kic_0 ?_
      refine lv_istore (lv' := [(4, .int (0 : Int32)), (0, .ref (b 0)), (1, .long p1), (3, .int p2)]) hx hb dX7_feed_36 hl (by decide) rfl (fun ls hl => ?_)
      obtain ⟨n_12, hv⟩ := hv
      exact h_l_X7_feed_38 n_12 (0 : Int32) m_s m_errors H locs ls hW hS (lv_sub hl [1, 2, 3, 0] rfl) hv
    · replace hv := hv.2 c_5
      refine lv_aload_n hx hb dX7_feed_29 rfl (lv_at hl 0 rfl) ?_
      refine lv_iconst (v := 4) hx hb dX7_feed_30 kic_4 ?_
      refine q_callV (rest := []) (n := 1) C (c_X7_error l G b m_images m_at_ m_open_ m_steps m_use_ m_traced m_speaks m_isParted m_errors (4 : Int32) _ hv) ml_X7_61 kb_X7_error rfl ⟨⟨rfl, rfl⟩, (Nat.le_of_ble_eq_true rfl), (Nat.le_of_ble_eq_true rfl)⟩ hW hS [0, 2] rfl rfl kc7 (q0 := 0) rfl hl.1 rfl (Nat.le_of_ble_eq_true rfl) dX7_feed_31 ⟨Nat.zero_le _, Nat.zero_le _⟩ (fun r_13 u_14 H locs hv hW hS => ?_)
      obtain ⟨m_errors_13, rfl⟩ : ∃ z, z = u_14 := ⟨_, rfl⟩
      try dsimp only at hv
      have hW : wo G A (wd_X7_4 G b m_images m_at_ m_open_ m_steps m_use_ m_traced m_speaks m_isParted m_s m_errors_13) H := hW
      exact ret (m_s, m_errors_13) r_13 H locs ls _ rfl hW hS hv dX7_feed_34
  · replace hv := hv.2 c_3
    refine lv_aload_n hx hb dX7_feed_10 rfl (lv_at hl 0 rfl) ?_
    refine lv_iconst (v := 1) hx hb dX7_feed_11 kic_1 ?_
    refine q_callV (rest := []) (n := 1) C (c_X7_error l G b m_images m_at_ m_open_ m_steps m_use_ m_traced m_speaks m_isParted m_errors (1 : Int32) _ hv) ml_X7_61 kb_X7_error rfl ⟨⟨rfl, rfl⟩, (Nat.le_of_ble_eq_true rfl), (Nat.le_of_ble_eq_true rfl)⟩ hW hS [0, 2] rfl rfl kc7 (q0 := 0) rfl hl.1 rfl (Nat.le_of_ble_eq_true rfl) dX7_feed_12 ⟨Nat.zero_le _, Nat.zero_le _⟩ (fun r_15 u_16 H locs hv hW hS => ?_)
    obtain ⟨m_errors_15, rfl⟩ : ∃ z, z = u_16 := ⟨_, rfl⟩
    try dsimp only at hv
    have hW : wo G A (wd_X7_4 G b m_images m_at_ m_open_ m_steps m_use_ m_traced m_speaks m_isParted m_s m_errors_15) H := hW
    exact ret (m_s, m_errors_15) r_15 H locs ls _ rfl hW hS hv dX7_feed_15
set_option maxHeartbeats 4000000 in
set_option maxRecDepth 100000 in
theorem c_X7_look (l : Launch) (G : Gt) (b : Nat → Nat) (m_images : Int32) (m_at_ : Int32) (m_open_ : Int32) (m_steps : Int32) (m_use_ : Int32) (m_traced : Int32) (m_speaks : Int32) (m_isParted : Int32) (m_s : Nat → Int32) (K : Int32 → Prop) (hv : v_X7_look m_at_ m_s K) : CI l G yX7_look (.code yX7_look cX7_look 1 (some .int) :: wsG) (rmm 0 0) [.ref (b 0)] (wd_X7_3 G b m_images m_at_ m_open_ m_steps m_use_ m_traced m_speaks m_isParted m_s) (S := Unit) (fun u => wd_X7_3 G b m_images m_at_ m_open_ m_steps m_use_ m_traced m_speaks m_isParted m_s) (fun r u => K r) := by
  refine ci_intro (by decide) rfl (fun _ => rfl) (Nat.le_of_ble_eq_true rfl) ?_
  intro p e s m args below meth c A H ls Q C hW hS hl ret
  have hx := C.1.1
  have hb := C.1.2.1
  generalize hls : ([] : List Loc) = locs at hS ⊢
  have hl : lv_has ls 1 [(0, .ref (b 0))] := hl
  refine lv_aload_n hx hb dX7_look_0 rfl (lv_at hl 0 rfl) ?_
  refine q_get C kc7 hW 0 rfl 5 (by decide) fl_X7_67 rfl rfl dX7_look_1 ?_
  refine lv_aload_n hx hb dX7_look_4 rfl (lv_at hl 0 rfl) ?_
  refine q_get C kc7 hW 0 rfl 0 (by decide) fl_X7_7 rfl rfl dX7_look_5 ?_
  refine lv_iconst (v := 2) hx hb dX7_look_8 kic_2 ?_
  obtain ⟨h_1, hv⟩ := hv
  refine q_iald C hW 1 rfl h_1 dX7_look_9 ?_
  refine lv_icmp_ge (tgt := 29) hx hb dX7_look_10 (by decide) (fun c_2 => ?_) (fun c_2 => ?_)
  · replace hv := hv.1 c_2
    refine lv_iconst (v := (-1)) hx hb dX7_look_29 kic_m1 ?_
    exact ret () (-1 : Int32) H locs ls _ rfl hW hS hv dX7_look_30
  · replace hv := hv.2 c_2
    refine lv_aload_n hx hb dX7_look_13 rfl (lv_at hl 0 rfl) ?_
    refine q_get C kc7 hW 0 rfl 0 (by decide) fl_X7_7 rfl rfl dX7_look_14 ?_
    refine lv_sipush (v := 298) hx hb dX7_look_17 ksp_298 ?_
    refine lv_aload_n hx hb dX7_look_20 rfl (lv_at hl 0 rfl) ?_
    refine q_get C kc7 hW 0 rfl 5 (by decide) fl_X7_67 rfl rfl dX7_look_21 ?_
    refine lv_iadd hx hb dX7_look_24 ?_
    obtain ⟨h_3, hv⟩ := hv
    refine q_iald C hW 1 rfl h_3 dX7_look_25 ?_
    refine lv_goto (tgt := 30) hx hb dX7_look_26 (by decide) ?_
    exact ret () (m_s ((298 : Int32) + m_at_).toNatClampNeg) H locs ls _ rfl hW hS hv dX7_look_30
set_option maxHeartbeats 4000000 in
set_option maxRecDepth 100000 in
theorem c_X7_isName (l : Launch) (G : Gt) (b : Nat → Nat) (m_images : Int32) (m_at_ : Int32) (m_open_ : Int32) (m_steps : Int32) (m_use_ : Int32) (m_traced : Int32) (m_speaks : Int32) (m_isParted : Int32) (p1 : Int32) (K : Int32 → Prop) (hv : v_X7_isName p1 m_use_ K) : CI l G yX7_isName (.code yX7_isName cX7_isName 2 (some .boolean) :: wsG) (rmm 0 0) [.ref (b 0), .int p1] (wd_X7_5 G b m_images m_at_ m_open_ m_steps m_use_ m_traced m_speaks m_isParted) (S := Unit) (fun u => wd_X7_5 G b m_images m_at_ m_open_ m_steps m_use_ m_traced m_speaks m_isParted) (fun r u => (r = 0 ∨ r = 1) ∧ K r) := by
  refine ci_intro (by decide) rfl (fun _ => rfl) (Nat.le_of_ble_eq_true rfl) ?_
  intro p e s m args below meth c A H ls Q C hW hS hl ret
  have hx := C.1.1
  have hb := C.1.2.1
  generalize hls : ([] : List Loc) = locs at hS ⊢
  have hl : lv_has ls 2 [(0, .ref (b 0)), (1, .int p1)] := hl
  refine lv_iload_n hx hb dX7_isName_0 rfl (lv_at hl 1 rfl) ?_
  refine lv_bipush (v := 110) hx hb dX7_isName_1 kbp_110 ?_
  refine lv_icmp_ne (tgt := 8) hx hb dX7_isName_3 (by decide) (fun c_1 => ?_) (fun c_1 => ?_)
  · replace hv := hv.1 c_1
    refine lv_aload_n hx hb dX7_isName_8 rfl (lv_at hl 0 rfl) ?_
    refine q_get C kc7 hW 0 rfl 8 (by decide) fl_X7_71 rfl rfl dX7_isName_9 ?_
    refine lv_if_ne (tgt := 35) hx hb dX7_isName_12 (by decide) (fun c_2 => ?_) (fun c_2 => ?_)
    · replace hv := hv.1 c_2
      refine lv_iload_n hx hb dX7_isName_35 rfl (lv_at hl 1 rfl) ?_
      refine lv_bipush (v := 103) hx hb dX7_isName_36 kbp_103 ?_
      refine lv_icmp_eq (tgt := 47) hx hb dX7_isName_38 (by decide) (fun c_3 => ?_) (fun c_3 => ?_)
      · replace hv := hv.1 c_3
        refine lv_iconst (v := 1) hx hb dX7_isName_47 kic_1 ?_
        refine lv_goto (tgt := 52) hx hb dX7_isName_48 (by decide) ?_
        exact ret () (1 : Int32) H locs ls _ (bl_narrow (Or.inr rfl)) hW hS ⟨(Or.inr rfl), hv⟩ dX7_isName_52
      · replace hv := hv.2 c_3
        refine lv_iload_n hx hb dX7_isName_41 rfl (lv_at hl 1 rfl) ?_
        refine lv_bipush (v := 100) hx hb dX7_isName_42 kbp_100 ?_
        refine lv_icmp_ne (tgt := 51) hx hb dX7_isName_44 (by decide) (fun c_4 => ?_) (fun c_4 => ?_)
        · replace hv := hv.1 c_4
          refine lv_iconst (v := 0) hx hb dX7_isName_51 kic_0 ?_
          exact ret () (0 : Int32) H locs ls _ (bl_narrow (Or.inl rfl)) hW hS ⟨(Or.inl rfl), hv⟩ dX7_isName_52
        · replace hv := hv.2 c_4
          refine lv_iconst (v := 1) hx hb dX7_isName_47 kic_1 ?_
          refine lv_goto (tgt := 52) hx hb dX7_isName_48 (by decide) ?_
          exact ret () (1 : Int32) H locs ls _ (bl_narrow (Or.inr rfl)) hW hS ⟨(Or.inr rfl), hv⟩ dX7_isName_52
    · replace hv := hv.2 c_2
      refine lv_iload_n hx hb dX7_isName_15 rfl (lv_at hl 1 rfl) ?_
      refine lv_bipush (v := 114) hx hb dX7_isName_16 kbp_114 ?_
      refine lv_icmp_eq (tgt := 27) hx hb dX7_isName_18 (by decide) (fun c_5 => ?_) (fun c_5 => ?_)
      · replace hv := hv.1 c_5
        refine lv_iconst (v := 1) hx hb dX7_isName_27 kic_1 ?_
        refine lv_goto (tgt := 52) hx hb dX7_isName_28 (by decide) ?_
        exact ret () (1 : Int32) H locs ls _ (bl_narrow (Or.inr rfl)) hW hS ⟨(Or.inr rfl), hv⟩ dX7_isName_52
      · replace hv := hv.2 c_5
        refine lv_iload_n hx hb dX7_isName_21 rfl (lv_at hl 1 rfl) ?_
        refine lv_bipush (v := 115) hx hb dX7_isName_22 kbp_115 ?_
        refine lv_icmp_ne (tgt := 31) hx hb dX7_isName_24 (by decide) (fun c_6 => ?_) (fun c_6 => ?_)
        · replace hv := hv.1 c_6
          refine lv_iconst (v := 0) hx hb dX7_isName_31 kic_0 ?_
          refine lv_goto (tgt := 52) hx hb dX7_isName_32 (by decide) ?_
          exact ret () (0 : Int32) H locs ls _ (bl_narrow (Or.inl rfl)) hW hS ⟨(Or.inl rfl), hv⟩ dX7_isName_52
        · replace hv := hv.2 c_6
          refine lv_iconst (v := 1) hx hb dX7_isName_27 kic_1 ?_
          refine lv_goto (tgt := 52) hx hb dX7_isName_28 (by decide) ?_
          exact ret () (1 : Int32) H locs ls _ (bl_narrow (Or.inr rfl)) hW hS ⟨(Or.inr rfl), hv⟩ dX7_isName_52
  · replace hv := hv.2 c_1
    refine lv_iconst (v := 1) hx hb dX7_isName_6 kic_1 ?_
    exact ret () (1 : Int32) H locs ls _ (bl_narrow (Or.inr rfl)) hW hS ⟨(Or.inr rfl), hv⟩ dX7_isName_7
set_option maxHeartbeats 4000000 in
set_option maxRecDepth 100000 in
theorem c_X7_step1 (l : Launch) (G : Gt) (b : Nat → Nat) (m_images : Int32) (m_at_ : Int32) (m_open_ : Int32) (m_steps : Int32) (m_use_ : Int32) (m_traced : Int32) (m_speaks : Int32) (m_isParted : Int32) (m_step : Nat → Int32) (p1 : Int32) (p2 : Int32) (K : Int32 → (Nat → Int32) → Prop) (hv : v_X7_step1 p1 p2 m_steps m_step K) : CV l G yX7_step1 (.code yX7_step1 cX7_step1 3 none :: wsG) (rmm 0 0) [.ref (b 0), .int p1, .int p2] (wd_X7_6 G b m_images m_at_ m_open_ m_steps m_use_ m_traced m_speaks m_isParted m_step) (S := Int32 × (Nat → Int32)) (fun u => wd_X7_6 G b m_images m_at_ m_open_ u.1 m_use_ m_traced m_speaks m_isParted u.2) (fun u => K u.1 u.2) := by
  refine cv_intro (by decide) rfl (fun _ => rfl) (Nat.le_of_ble_eq_true rfl) ?_
  intro p e s m args below meth c A H ls Q C hW hS hl ret
  have hx := C.1.1
  have hb := C.1.2.1
  generalize hls : ([] : List Loc) = locs at hS ⊢
  have hl : lv_has ls 3 [(0, .ref (b 0)), (1, .int p1), (2, .int p2)] := hl
  refine lv_aload_n hx hb dX7_step1_0 rfl (lv_at hl 0 rfl) ?_
  refine q_get C kc7 hW 0 rfl 9 (by decide) fl_X7_22 rfl rfl dX7_step1_1 ?_
  refine lv_iconst (v := 2) hx hb dX7_step1_4 kic_2 ?_
  refine lv_aload_n hx hb dX7_step1_5 rfl (lv_at hl 0 rfl) ?_
  refine q_get C kc7 hW 0 rfl 7 (by decide) fl_X7_74 rfl rfl dX7_step1_6 ?_
  refine lv_imul hx hb dX7_step1_9 ?_
  refine lv_iload_n hx hb dX7_step1_10 rfl (lv_at hl 1 rfl) ?_
  obtain ⟨h_1, hv⟩ := hv
  refine q_iast C hW hS 1 rfl h_1 dX7_step1_11 (fun H locs hW hS => ?_)
  have hW : wo G A (wd_X7_6 G b m_images m_at_ m_open_ m_steps m_use_ m_traced m_speaks m_isParted (upd m_step ((2 : Int32) * m_steps).toNatClampNeg p1)) H := hW
  refine lv_aload_n hx hb dX7_step1_12 rfl (lv_at hl 0 rfl) ?_
  refine q_get C kc7 hW 0 rfl 9 (by decide) fl_X7_22 rfl rfl dX7_step1_13 ?_
  refine lv_iconst (v := 2) hx hb dX7_step1_16 kic_2 ?_
  refine lv_aload_n hx hb dX7_step1_17 rfl (lv_at hl 0 rfl) ?_
  refine q_get C kc7 hW 0 rfl 7 (by decide) fl_X7_74 rfl rfl dX7_step1_18 ?_
  refine lv_imul hx hb dX7_step1_21 ?_
  refine lv_iconst (v := 1) hx hb dX7_step1_22 kic_1 ?_
  refine lv_iadd hx hb dX7_step1_23 ?_
  refine lv_iload_n hx hb dX7_step1_24 rfl (lv_at hl 2 rfl) ?_
  obtain ⟨h_2, hv⟩ := hv
  refine q_iast C hW hS 1 rfl h_2 dX7_step1_25 (fun H locs hW hS => ?_)
  have hW : wo G A (wd_X7_6 G b m_images m_at_ m_open_ m_steps m_use_ m_traced m_speaks m_isParted (upd (upd m_step ((2 : Int32) * m_steps).toNatClampNeg p1) (((2 : Int32) * m_steps) + (1 : Int32)).toNatClampNeg p2)) H := hW
  refine lv_aload_n hx hb dX7_step1_26 rfl (lv_at hl 0 rfl) ?_
  refine lv_dup hx hb dX7_step1_27 rfl ?_
  refine q_get C kc7 hW 0 rfl 7 (by decide) fl_X7_74 rfl rfl dX7_step1_28 ?_
  refine lv_iconst (v := 1) hx hb dX7_step1_31 kic_1 ?_
  refine lv_iadd hx hb dX7_step1_32 ?_
  refine q_put C kc7 hW hS 0 rfl 7 (by decide) fl_X7_74 rfl rfl rfl rfl (Nat.le_of_ble_eq_true rfl) dX7_step1_33 (fun H locs hW hS => ?_)
  have hW : wo G A (wd_X7_6 G b m_images m_at_ m_open_ (m_steps + (1 : Int32)) m_use_ m_traced m_speaks m_isParted (upd (upd m_step ((2 : Int32) * m_steps).toNatClampNeg p1) (((2 : Int32) * m_steps) + (1 : Int32)).toNatClampNeg p2)) H := hW
  exact ret ((m_steps + (1 : Int32)), (upd (upd m_step ((2 : Int32) * m_steps).toNatClampNeg p1) (((2 : Int32) * m_steps) + (1 : Int32)).toNatClampNeg p2)) H locs ls _ hW hS hv dX7_step1_36
set_option maxHeartbeats 4000000 in
set_option maxRecDepth 100000 in
theorem c_X7_opens (l : Launch) (G : Gt) (b : Nat → Nat) (m_images : Int32) (m_at_ : Int32) (m_open_ : Int32) (m_steps : Int32) (m_use_ : Int32) (m_traced : Int32) (m_speaks : Int32) (m_isParted : Int32) (K : Int32 → Int32 → Int32 → Prop) (hv : v_X7_opens m_at_ m_open_ K) : CI l G yX7_opens (.code yX7_opens cX7_opens 1 (some .boolean) :: wsG) (rmm 0 0) [.ref (b 0)] (wd_X7_5 G b m_images m_at_ m_open_ m_steps m_use_ m_traced m_speaks m_isParted) (S := Int32 × Int32) (fun u => wd_X7_5 G b m_images u.1 u.2 m_steps m_use_ m_traced m_speaks m_isParted) (fun r u => (r = 0 ∨ r = 1) ∧ K r u.1 u.2) := by
  refine ci_intro (by decide) rfl (fun _ => rfl) (Nat.le_of_ble_eq_true rfl) ?_
  intro p e s m args below meth c A H ls Q C hW hS hl ret
  have hx := C.1.1
  have hb := C.1.2.1
  generalize hls : ([] : List Loc) = locs at hS ⊢
  have hl : lv_has ls 1 [(0, .ref (b 0))] := hl
  refine lv_aload_n hx hb dX7_opens_0 rfl (lv_at hl 0 rfl) ?_
  refine q_get C kc7 hW 0 rfl 6 (by decide) fl_X7_101 rfl rfl dX7_opens_1 ?_
  refine lv_iconst (v := 5) hx hb dX7_opens_4 kic_5 ?_
  refine lv_icmp_ne (tgt := 10) hx hb dX7_opens_5 (by decide) (fun c_1 => ?_) (fun c_1 => ?_)
  · replace hv := hv.1 c_1
    refine lv_aload_n hx hb dX7_opens_10 rfl (lv_at hl 0 rfl) ?_
    refine lv_dup hx hb dX7_opens_11 rfl ?_
    refine q_get C kc7 hW 0 rfl 6 (by decide) fl_X7_101 rfl rfl dX7_opens_12 ?_
    refine lv_iconst (v := 1) hx hb dX7_opens_15 kic_1 ?_
    refine lv_iadd hx hb dX7_opens_16 ?_
    refine q_put C kc7 hW hS 0 rfl 6 (by decide) fl_X7_101 rfl rfl rfl rfl (Nat.le_of_ble_eq_true rfl) dX7_opens_17 (fun H locs hW hS => ?_)
    have hW : wo G A (wd_X7_5 G b m_images m_at_ (m_open_ + (1 : Int32)) m_steps m_use_ m_traced m_speaks m_isParted) H := hW
    refine lv_aload_n hx hb dX7_opens_20 rfl (lv_at hl 0 rfl) ?_
    refine lv_dup hx hb dX7_opens_21 rfl ?_
    refine q_get C kc7 hW 0 rfl 5 (by decide) fl_X7_67 rfl rfl dX7_opens_22 ?_
    refine lv_iconst (v := 1) hx hb dX7_opens_25 kic_1 ?_
    refine lv_iadd hx hb dX7_opens_26 ?_
    refine q_put C kc7 hW hS 0 rfl 5 (by decide) fl_X7_67 rfl rfl rfl rfl (Nat.le_of_ble_eq_true rfl) dX7_opens_27 (fun H locs hW hS => ?_)
    have hW : wo G A (wd_X7_5 G b m_images (m_at_ + (1 : Int32)) (m_open_ + (1 : Int32)) m_steps m_use_ m_traced m_speaks m_isParted) H := hW
    refine lv_iconst (v := 1) hx hb dX7_opens_30 kic_1 ?_
    exact ret ((m_at_ + (1 : Int32)), (m_open_ + (1 : Int32))) (1 : Int32) H locs ls _ (bl_narrow (Or.inr rfl)) hW hS ⟨(Or.inr rfl), hv⟩ dX7_opens_31
  · replace hv := hv.2 c_1
    refine lv_iconst (v := 0) hx hb dX7_opens_8 kic_0 ?_
    exact ret (m_at_, m_open_) (0 : Int32) H locs ls _ (bl_narrow (Or.inl rfl)) hW hS ⟨(Or.inl rfl), hv⟩ dX7_opens_9
set_option maxHeartbeats 4000000 in
set_option maxRecDepth 100000 in
theorem c_X7_product (l : Launch) (f o : Nat) (O_X7_one : Int32 → Int32 → Int32 → Int32 → (Nat → Int32) → (Nat → Int32) → (Int32 → Int32 → Int32 → Int32 → (Nat → Int32) → Prop) → Prop) (hO_X7_one : ∀ (G : Gt) (b : Nat → Nat) (m_images : Int32) (m_at_ : Int32) (m_open_ : Int32) (m_steps : Int32) (m_use_ : Int32) (m_traced : Int32) (m_speaks : Int32) (m_isParted : Int32) (m_s : Nat → Int32) (m_step : Nat → Int32) (K : Int32 → Int32 → Int32 → Int32 → (Nat → Int32) → Prop), O_X7_one m_at_ m_open_ m_steps m_use_ m_s m_step K → CI l G yX7_one (.code yX7_one cX7_one 4 (some .boolean) :: wsG) (rmm f o) [.ref (b 0)] (wd_X7_7 G b m_images m_at_ m_open_ m_steps m_use_ m_traced m_speaks m_isParted m_s m_step) (S := Int32 × Int32 × Int32 × (Nat → Int32)) (fun u => wd_X7_7 G b m_images u.1 u.2.1 u.2.2.1 m_use_ m_traced m_speaks m_isParted m_s u.2.2.2) (fun r u => (r = 0 ∨ r = 1) ∧ K r u.1 u.2.1 u.2.2.1 u.2.2.2)) (G : Gt) (b : Nat → Nat) (m_images : Int32) (m_at_ : Int32) (m_open_ : Int32) (m_steps : Int32) (m_use_ : Int32) (m_traced : Int32) (m_speaks : Int32) (m_isParted : Int32) (m_s : Nat → Int32) (m_step : Nat → Int32) (K : Int32 → Int32 → Int32 → Int32 → (Nat → Int32) → Prop) (hv : v_X7_product O_X7_one m_at_ m_open_ m_steps m_use_ m_s m_step K) : CI l G yX7_product (.code yX7_product cX7_product 2 (some .boolean) :: wsG) (rmm (f + 1) (o + 23)) [.ref (b 0)] (wd_X7_7 G b m_images m_at_ m_open_ m_steps m_use_ m_traced m_speaks m_isParted m_s m_step) (S := Int32 × Int32 × Int32 × (Nat → Int32)) (fun u => wd_X7_7 G b m_images u.1 u.2.1 u.2.2.1 m_use_ m_traced m_speaks m_isParted m_s u.2.2.2) (fun r u => (r = 0 ∨ r = 1) ∧ K r u.1 u.2.1 u.2.2.1 u.2.2.2) := by
  refine ci_intro (by decide) rfl (fun _ => rfl) (Nat.le_of_ble_eq_true rfl) ?_
  intro p e s m args below meth c A H ls Q C hW hS hl ret
  have hx := C.1.1
  have hb := C.1.2.1
  generalize hls : ([] : List Loc) = locs at hS ⊢
  have hl : lv_has ls 2 [(0, .ref (b 0))] := hl
  have h_j_X7_product_36 : ∀ (B9 : Int32 → Int32 → Int32 → (Nat → Int32) → Prop) (hB9 : ∀ (m_at_ : Int32) (m_open_ : Int32) (m_steps : Int32) (m_step : Nat → Int32) (H : Heap) (locs : List Loc) (ls : Array Slot), wo G A (wd_X7_7 G b m_images m_at_ m_open_ m_steps m_use_ m_traced m_speaks m_isParted m_s m_step) H → va_S A s.heap H locs → lv_has ls 2 [(0, .ref (b 0))] → B9 m_at_ m_open_ m_steps m_step → W p l e (rmm (f + 1) (o + 23)) s m args below meth c H locs 0 0 Q (F0 m 9 ls [])), ∀ (m_at_ : Int32) (m_open_ : Int32) (m_steps : Int32) (m_step : Nat → Int32) (H : Heap) (locs : List Loc) (ls : Array Slot), wo G A (wd_X7_7 G b m_images m_at_ m_open_ m_steps m_use_ m_traced m_speaks m_isParted m_s m_step) H → va_S A s.heap H locs → lv_has ls 2 [(0, .ref (b 0))] → j_X7_product_36 O_X7_one m_use_ m_s B9 K m_at_ m_open_ m_steps m_step → W p l e (rmm (f + 1) (o + 23)) s m args below meth c H locs 0 0 Q (F0 m 36 ls []) := by
    intro B9 hB9 m_at_ m_open_ m_steps m_step H locs ls hW hS hl hv
    refine lv_aload_n hx hb dX7_product_36 rfl (lv_at hl 0 rfl) ?_
    refine q_callV (rest := []) (n := 0) C (c_X7_look l G b m_images m_at_ m_open_ m_steps m_use_ m_traced m_speaks m_isParted m_s _ hv) ml_X7_81 kb_X7_look rfl ⟨⟨rfl, rfl⟩, (by show 0 + 1 ≤ f + 1; omega), (by show 8 + (1 + 11) + 0 ≤ o + 23; omega)⟩ hW hS [0, 1] rfl rfl kc7 (q0 := 0) rfl hl.1 rfl (Nat.le_of_ble_eq_true rfl) dX7_product_37 ⟨Nat.zero_le _, Nat.zero_le _⟩ (fun r_7 u_8 H locs hv hW hS => ?_)
    try dsimp only at hv
    refine lv_istore_n (lv' := [(1, .int r_7), (0, .ref (b 0))]) hx hb dX7_product_40 rfl hl (by decide) rfl (fun ls hl => ?_)
    refine lv_aload_n hx hb dX7_product_41 rfl (lv_at hl 1 rfl) ?_
    refine lv_dup hx hb dX7_product_42 rfl ?_
    refine q_get C kc7 hW 0 rfl 5 (by decide) fl_X7_67 rfl rfl dX7_product_43 ?_
    refine lv_iconst (v := 1) hx hb dX7_product_46 kic_1 ?_
    refine lv_iadd hx hb dX7_product_47 ?_
    refine q_put C kc7 hW hS 0 rfl 5 (by decide) fl_X7_67 rfl rfl rfl rfl (Nat.le_of_ble_eq_true rfl) dX7_product_48 (fun H locs hW hS => ?_)
    have hW : wo G A (wd_X7_7 G b m_images (m_at_ + (1 : Int32)) m_open_ m_steps m_use_ m_traced m_speaks m_isParted m_s m_step) H := hW
    refine lv_aload_n hx hb dX7_product_51 rfl (lv_at hl 1 rfl) ?_
    refine q_callV (rest := []) (n := 0) C (hO_X7_one G b m_images (m_at_ + (1 : Int32)) m_open_ m_steps m_use_ m_traced m_speaks m_isParted m_s m_step _ hv) ml_X7_98 kb_X7_one rfl ⟨⟨rfl, rfl⟩, (by show f + 1 ≤ f + 1; omega), (by show 8 + (4 + 11) + o ≤ o + 23; omega)⟩ hW hS [0, 1, 2] rfl rfl kc7 (q0 := 0) rfl hl.1 rfl (Nat.le_of_ble_eq_true rfl) dX7_product_52 ⟨Nat.zero_le _, Nat.zero_le _⟩ (fun r_9 u_10 H locs hv hW hS => ?_)
    obtain ⟨m_at__9, m_open__9, m_steps_9, m_step_9⟩ := u_10
    obtain ⟨hv_b_9, hv⟩ := hv
    try dsimp only at hv
    have hW : wo G A (wd_X7_7 G b m_images m_at__9 m_open__9 m_steps_9 m_use_ m_traced m_speaks m_isParted m_s m_step_9) H := hW
    refine lv_if_ne (tgt := 60) hx hb dX7_product_55 (by decide) (fun c_11 => ?_) (fun c_11 => ?_)
    · replace hv := hv.1 c_11
      refine lv_aload_n hx hb dX7_product_60 rfl (lv_at hl 1 rfl) ?_
      refine lv_iconst (v := 3) hx hb dX7_product_61 kic_3 ?_
      refine lv_iload_n hx hb dX7_product_62 rfl (lv_at hl 0 rfl) ?_
      refine q_callVv (rest := []) (n := 2) C (c_X7_step1 l G b m_images m_at__9 m_open__9 m_steps_9 m_use_ m_traced m_speaks m_isParted m_step_9 (3 : Int32) r_7 _ hv) ml_X7_85 kb_X7_step1 rfl ⟨⟨rfl, rfl⟩, (by show 0 + 1 ≤ f + 1; omega), (by show 8 + (3 + 11) + 0 ≤ o + 23; omega)⟩ hW hS [0, 2] rfl rfl kc7 (q0 := 0) rfl hl.1 rfl (Nat.le_of_ble_eq_true rfl) dX7_product_63 ⟨Nat.zero_le _, Nat.zero_le _⟩ (fun u_13 H locs hv hW hS => ?_)
      obtain ⟨m_steps_12, m_step_12⟩ := u_13
      try dsimp only at hv
      have hW : wo G A (wd_X7_7 G b m_images m_at__9 m_open__9 m_steps_12 m_use_ m_traced m_speaks m_isParted m_s m_step_12) H := hW
      refine lv_goto (tgt := 9) hx hb dX7_product_66 (by decide) ?_
      exact hB9 m_at__9 m_open__9 m_steps_12 m_step_12 H locs ls hW hS (lv_sub hl [1] rfl) hv
    · replace hv := hv.2 c_11
      refine lv_iconst (v := 0) hx hb dX7_product_58 kic_0 ?_
      exact ret (m_at__9, m_open__9, m_steps_9, m_step_9) (0 : Int32) H locs ls _ (bl_narrow (Or.inl rfl)) hW hS ⟨(Or.inl rfl), hv⟩ dX7_product_59
  have h_l_X7_product_9 : ∀ (n : Nat), ∀ (m_at_ : Int32) (m_open_ : Int32) (m_steps : Int32) (m_step : Nat → Int32) (H : Heap) (locs : List Loc) (ls : Array Slot), wo G A (wd_X7_7 G b m_images m_at_ m_open_ m_steps m_use_ m_traced m_speaks m_isParted m_s m_step) H → va_S A s.heap H locs → lv_has ls 2 [(0, .ref (b 0))] → l_X7_product_9 O_X7_one m_use_ m_s K n m_at_ m_open_ m_steps m_step → W p l e (rmm (f + 1) (o + 23)) s m args below meth c H locs 0 0 Q (F0 m 9 ls []) := by
    intro n
    induction n with
    | zero =>
      intro m_at_ m_open_ m_steps m_step H locs ls hW hS hl hv
      exact False.elim hv
    | succ n ih =>
      intro m_at_ m_open_ m_steps m_step H locs ls hW hS hl hv
      refine lv_aload_n hx hb dX7_product_9 rfl (lv_at hl 0 rfl) ?_
      refine q_callV (rest := []) (n := 0) C (c_X7_look l G b m_images m_at_ m_open_ m_steps m_use_ m_traced m_speaks m_isParted m_s _ hv) ml_X7_81 kb_X7_look rfl ⟨⟨rfl, rfl⟩, (by show 0 + 1 ≤ f + 1; omega), (by show 8 + (1 + 11) + 0 ≤ o + 23; omega)⟩ hW hS [0, 1] rfl rfl kc7 (q0 := 0) rfl hl.1 rfl (Nat.le_of_ble_eq_true rfl) dX7_product_10 ⟨Nat.zero_le _, Nat.zero_le _⟩ (fun r_4 u_5 H locs hv hW hS => ?_)
      try dsimp only at hv
      refine lv_bipush (v := 42) hx hb dX7_product_13 kbp_42 ?_
      refine lv_icmp_eq (tgt := 36) hx hb dX7_product_15 (by decide) (fun c_6 => ?_) (fun c_6 => ?_)
      · replace hv := hv.1 c_6
        exact h_j_X7_product_36 (fun m_at_' m_open_' m_steps' m_step' => l_X7_product_9 O_X7_one m_use_ m_s K n m_at_' m_open_' m_steps' m_step') ih m_at_ m_open_ m_steps m_step H locs ls hW hS (lv_sub hl [0] rfl) hv
      · replace hv := hv.2 c_6
        refine lv_aload_n hx hb dX7_product_18 rfl (lv_at hl 0 rfl) ?_
        refine q_callV (rest := []) (n := 0) C (c_X7_look l G b m_images m_at_ m_open_ m_steps m_use_ m_traced m_speaks m_isParted m_s _ hv) ml_X7_81 kb_X7_look rfl ⟨⟨rfl, rfl⟩, (by show 0 + 1 ≤ f + 1; omega), (by show 8 + (1 + 11) + 0 ≤ o + 23; omega)⟩ hW hS [0, 1] rfl rfl kc7 (q0 := 0) rfl hl.1 rfl (Nat.le_of_ble_eq_true rfl) dX7_product_19 ⟨Nat.zero_le _, Nat.zero_le _⟩ (fun r_14 u_15 H locs hv hW hS => ?_)
        try dsimp only at hv
        refine lv_bipush (v := 47) hx hb dX7_product_22 kbp_47 ?_
        refine lv_icmp_eq (tgt := 36) hx hb dX7_product_24 (by decide) (fun c_16 => ?_) (fun c_16 => ?_)
        · replace hv := hv.1 c_16
          exact h_j_X7_product_36 (fun m_at_' m_open_' m_steps' m_step' => l_X7_product_9 O_X7_one m_use_ m_s K n m_at_' m_open_' m_steps' m_step') ih m_at_ m_open_ m_steps m_step H locs ls hW hS (lv_sub hl [0] rfl) hv
        · replace hv := hv.2 c_16
          refine lv_aload_n hx hb dX7_product_27 rfl (lv_at hl 0 rfl) ?_
          refine q_callV (rest := []) (n := 0) C (c_X7_look l G b m_images m_at_ m_open_ m_steps m_use_ m_traced m_speaks m_isParted m_s _ hv) ml_X7_81 kb_X7_look rfl ⟨⟨rfl, rfl⟩, (by show 0 + 1 ≤ f + 1; omega), (by show 8 + (1 + 11) + 0 ≤ o + 23; omega)⟩ hW hS [0, 1] rfl rfl kc7 (q0 := 0) rfl hl.1 rfl (Nat.le_of_ble_eq_true rfl) dX7_product_28 ⟨Nat.zero_le _, Nat.zero_le _⟩ (fun r_17 u_18 H locs hv hW hS => ?_)
          try dsimp only at hv
          refine lv_bipush (v := 37) hx hb dX7_product_31 kbp_37 ?_
          refine lv_icmp_ne (tgt := 69) hx hb dX7_product_33 (by decide) (fun c_19 => ?_) (fun c_19 => ?_)
          · replace hv := hv.1 c_19
            refine lv_iconst (v := 1) hx hb dX7_product_69 kic_1 ?_
            exact ret (m_at_, m_open_, m_steps, m_step) (1 : Int32) H locs ls _ (bl_narrow (Or.inr rfl)) hW hS ⟨(Or.inr rfl), hv⟩ dX7_product_70
          · replace hv := hv.2 c_19
            exact h_j_X7_product_36 (fun m_at_' m_open_' m_steps' m_step' => l_X7_product_9 O_X7_one m_use_ m_s K n m_at_' m_open_' m_steps' m_step') ih m_at_ m_open_ m_steps m_step H locs ls hW hS (lv_sub hl [0] rfl) hv
  refine lv_aload_n hx hb dX7_product_0 rfl (lv_at hl 0 rfl) ?_
  refine q_callV (rest := []) (n := 0) C (hO_X7_one G b m_images m_at_ m_open_ m_steps m_use_ m_traced m_speaks m_isParted m_s m_step _ hv) ml_X7_98 kb_X7_one rfl ⟨⟨rfl, rfl⟩, (by show f + 1 ≤ f + 1; omega), (by show 8 + (4 + 11) + o ≤ o + 23; omega)⟩ hW hS [0, 1, 2] rfl rfl kc7 (q0 := 0) rfl hl.1 rfl (Nat.le_of_ble_eq_true rfl) dX7_product_1 ⟨Nat.zero_le _, Nat.zero_le _⟩ (fun r_1 u_2 H locs hv hW hS => ?_)
  obtain ⟨m_at__1, m_open__1, m_steps_1, m_step_1⟩ := u_2
  obtain ⟨hv_b_1, hv⟩ := hv
  try dsimp only at hv
  have hW : wo G A (wd_X7_7 G b m_images m_at__1 m_open__1 m_steps_1 m_use_ m_traced m_speaks m_isParted m_s m_step_1) H := hW
  refine lv_if_ne (tgt := 9) hx hb dX7_product_4 (by decide) (fun c_3 => ?_) (fun c_3 => ?_)
  · replace hv := hv.1 c_3
    obtain ⟨n_20, hv⟩ := hv
    exact h_l_X7_product_9 n_20 m_at__1 m_open__1 m_steps_1 m_step_1 H locs ls hW hS (lv_sub hl [0] rfl) hv
  · replace hv := hv.2 c_3
    refine lv_iconst (v := 0) hx hb dX7_product_7 kic_0 ?_
    exact ret (m_at__1, m_open__1, m_steps_1, m_step_1) (0 : Int32) H locs ls _ (bl_narrow (Or.inl rfl)) hW hS ⟨(Or.inl rfl), hv⟩ dX7_product_8
set_option maxHeartbeats 4000000 in
set_option maxRecDepth 100000 in
theorem c_X7_sum (l : Launch) (f o : Nat) (O_X7_one : Int32 → Int32 → Int32 → Int32 → (Nat → Int32) → (Nat → Int32) → (Int32 → Int32 → Int32 → Int32 → (Nat → Int32) → Prop) → Prop) (hO_X7_one : ∀ (G : Gt) (b : Nat → Nat) (m_images : Int32) (m_at_ : Int32) (m_open_ : Int32) (m_steps : Int32) (m_use_ : Int32) (m_traced : Int32) (m_speaks : Int32) (m_isParted : Int32) (m_s : Nat → Int32) (m_step : Nat → Int32) (K : Int32 → Int32 → Int32 → Int32 → (Nat → Int32) → Prop), O_X7_one m_at_ m_open_ m_steps m_use_ m_s m_step K → CI l G yX7_one (.code yX7_one cX7_one 4 (some .boolean) :: wsG) (rmm f o) [.ref (b 0)] (wd_X7_7 G b m_images m_at_ m_open_ m_steps m_use_ m_traced m_speaks m_isParted m_s m_step) (S := Int32 × Int32 × Int32 × (Nat → Int32)) (fun u => wd_X7_7 G b m_images u.1 u.2.1 u.2.2.1 m_use_ m_traced m_speaks m_isParted m_s u.2.2.2) (fun r u => (r = 0 ∨ r = 1) ∧ K r u.1 u.2.1 u.2.2.1 u.2.2.2)) (G : Gt) (b : Nat → Nat) (m_images : Int32) (m_at_ : Int32) (m_open_ : Int32) (m_steps : Int32) (m_use_ : Int32) (m_traced : Int32) (m_speaks : Int32) (m_isParted : Int32) (m_s : Nat → Int32) (m_step : Nat → Int32) (K : Int32 → Int32 → Int32 → Int32 → (Nat → Int32) → Prop) (hv : v_X7_sum O_X7_one m_at_ m_open_ m_steps m_use_ m_s m_step K) : CI l G yX7_sum (.code yX7_sum cX7_sum 2 (some .boolean) :: wsG) (rmm (f + 2) (o + 44)) [.ref (b 0)] (wd_X7_7 G b m_images m_at_ m_open_ m_steps m_use_ m_traced m_speaks m_isParted m_s m_step) (S := Int32 × Int32 × Int32 × (Nat → Int32)) (fun u => wd_X7_7 G b m_images u.1 u.2.1 u.2.2.1 m_use_ m_traced m_speaks m_isParted m_s u.2.2.2) (fun r u => (r = 0 ∨ r = 1) ∧ K r u.1 u.2.1 u.2.2.1 u.2.2.2) := by
  refine ci_intro (by decide) rfl (fun _ => rfl) (Nat.le_of_ble_eq_true rfl) ?_
  intro p e s m args below meth c A H ls Q C hW hS hl ret
  have hx := C.1.1
  have hb := C.1.2.1
  generalize hls : ([] : List Loc) = locs at hS ⊢
  have hl : lv_has ls 2 [(0, .ref (b 0))] := hl
  have h_j_X7_sum_27 : ∀ (B9 : Int32 → Int32 → Int32 → (Nat → Int32) → Prop) (hB9 : ∀ (m_at_ : Int32) (m_open_ : Int32) (m_steps : Int32) (m_step : Nat → Int32) (H : Heap) (locs : List Loc) (ls : Array Slot), wo G A (wd_X7_7 G b m_images m_at_ m_open_ m_steps m_use_ m_traced m_speaks m_isParted m_s m_step) H → va_S A s.heap H locs → lv_has ls 2 [(0, .ref (b 0))] → B9 m_at_ m_open_ m_steps m_step → W p l e (rmm (f + 2) (o + 44)) s m args below meth c H locs 0 0 Q (F0 m 9 ls [])), ∀ (m_at_ : Int32) (m_open_ : Int32) (m_steps : Int32) (m_step : Nat → Int32) (H : Heap) (locs : List Loc) (ls : Array Slot), wo G A (wd_X7_7 G b m_images m_at_ m_open_ m_steps m_use_ m_traced m_speaks m_isParted m_s m_step) H → va_S A s.heap H locs → lv_has ls 2 [(0, .ref (b 0))] → j_X7_sum_27 O_X7_one m_use_ m_s B9 K m_at_ m_open_ m_steps m_step → W p l e (rmm (f + 2) (o + 44)) s m args below meth c H locs 0 0 Q (F0 m 27 ls []) := by
    intro B9 hB9 m_at_ m_open_ m_steps m_step H locs ls hW hS hl hv
    refine lv_aload_n hx hb dX7_sum_27 rfl (lv_at hl 0 rfl) ?_
    refine q_callV (rest := []) (n := 0) C (c_X7_look l G b m_images m_at_ m_open_ m_steps m_use_ m_traced m_speaks m_isParted m_s _ hv) ml_X7_81 kb_X7_look rfl ⟨⟨rfl, rfl⟩, (by show 0 + 1 ≤ f + 2; omega), (by show 8 + (1 + 11) + 0 ≤ o + 44; omega)⟩ hW hS [0, 1] rfl rfl kc7 (q0 := 0) rfl hl.1 rfl (Nat.le_of_ble_eq_true rfl) dX7_sum_28 ⟨Nat.zero_le _, Nat.zero_le _⟩ (fun r_7 u_8 H locs hv hW hS => ?_)
    try dsimp only at hv
    refine lv_istore_n (lv' := [(1, .int r_7), (0, .ref (b 0))]) hx hb dX7_sum_31 rfl hl (by decide) rfl (fun ls hl => ?_)
    refine lv_aload_n hx hb dX7_sum_32 rfl (lv_at hl 1 rfl) ?_
    refine lv_dup hx hb dX7_sum_33 rfl ?_
    refine q_get C kc7 hW 0 rfl 5 (by decide) fl_X7_67 rfl rfl dX7_sum_34 ?_
    refine lv_iconst (v := 1) hx hb dX7_sum_37 kic_1 ?_
    refine lv_iadd hx hb dX7_sum_38 ?_
    refine q_put C kc7 hW hS 0 rfl 5 (by decide) fl_X7_67 rfl rfl rfl rfl (Nat.le_of_ble_eq_true rfl) dX7_sum_39 (fun H locs hW hS => ?_)
    have hW : wo G A (wd_X7_7 G b m_images (m_at_ + (1 : Int32)) m_open_ m_steps m_use_ m_traced m_speaks m_isParted m_s m_step) H := hW
    refine lv_aload_n hx hb dX7_sum_42 rfl (lv_at hl 1 rfl) ?_
    refine q_callV (rest := []) (n := 0) C (c_X7_product l f o O_X7_one hO_X7_one G b m_images (m_at_ + (1 : Int32)) m_open_ m_steps m_use_ m_traced m_speaks m_isParted m_s m_step _ hv) ml_X7_95 kb_X7_product rfl ⟨⟨rfl, rfl⟩, (by show f + 1 + 1 ≤ f + 2; omega), (by show 8 + (2 + 11) + (o + 23) ≤ o + 44; omega)⟩ hW hS [0, 1, 2] rfl rfl kc7 (q0 := 0) rfl hl.1 rfl (Nat.le_of_ble_eq_true rfl) dX7_sum_43 ⟨Nat.zero_le _, Nat.zero_le _⟩ (fun r_9 u_10 H locs hv hW hS => ?_)
    obtain ⟨m_at__9, m_open__9, m_steps_9, m_step_9⟩ := u_10
    obtain ⟨hv_b_9, hv⟩ := hv
    try dsimp only at hv
    have hW : wo G A (wd_X7_7 G b m_images m_at__9 m_open__9 m_steps_9 m_use_ m_traced m_speaks m_isParted m_s m_step_9) H := hW
    refine lv_if_ne (tgt := 51) hx hb dX7_sum_46 (by decide) (fun c_11 => ?_) (fun c_11 => ?_)
    · replace hv := hv.1 c_11
      refine lv_aload_n hx hb dX7_sum_51 rfl (lv_at hl 1 rfl) ?_
      refine lv_iconst (v := 3) hx hb dX7_sum_52 kic_3 ?_
      refine lv_iload_n hx hb dX7_sum_53 rfl (lv_at hl 0 rfl) ?_
      refine q_callVv (rest := []) (n := 2) C (c_X7_step1 l G b m_images m_at__9 m_open__9 m_steps_9 m_use_ m_traced m_speaks m_isParted m_step_9 (3 : Int32) r_7 _ hv) ml_X7_85 kb_X7_step1 rfl ⟨⟨rfl, rfl⟩, (by show 0 + 1 ≤ f + 2; omega), (by show 8 + (3 + 11) + 0 ≤ o + 44; omega)⟩ hW hS [0, 2] rfl rfl kc7 (q0 := 0) rfl hl.1 rfl (Nat.le_of_ble_eq_true rfl) dX7_sum_54 ⟨Nat.zero_le _, Nat.zero_le _⟩ (fun u_13 H locs hv hW hS => ?_)
      obtain ⟨m_steps_12, m_step_12⟩ := u_13
      try dsimp only at hv
      have hW : wo G A (wd_X7_7 G b m_images m_at__9 m_open__9 m_steps_12 m_use_ m_traced m_speaks m_isParted m_s m_step_12) H := hW
      refine lv_goto (tgt := 9) hx hb dX7_sum_57 (by decide) ?_
      exact hB9 m_at__9 m_open__9 m_steps_12 m_step_12 H locs ls hW hS (lv_sub hl [1] rfl) hv
    · replace hv := hv.2 c_11
      refine lv_iconst (v := 0) hx hb dX7_sum_49 kic_0 ?_
      exact ret (m_at__9, m_open__9, m_steps_9, m_step_9) (0 : Int32) H locs ls _ (bl_narrow (Or.inl rfl)) hW hS ⟨(Or.inl rfl), hv⟩ dX7_sum_50
  have h_l_X7_sum_9 : ∀ (n : Nat), ∀ (m_at_ : Int32) (m_open_ : Int32) (m_steps : Int32) (m_step : Nat → Int32) (H : Heap) (locs : List Loc) (ls : Array Slot), wo G A (wd_X7_7 G b m_images m_at_ m_open_ m_steps m_use_ m_traced m_speaks m_isParted m_s m_step) H → va_S A s.heap H locs → lv_has ls 2 [(0, .ref (b 0))] → l_X7_sum_9 O_X7_one m_use_ m_s K n m_at_ m_open_ m_steps m_step → W p l e (rmm (f + 2) (o + 44)) s m args below meth c H locs 0 0 Q (F0 m 9 ls []) := by
    intro n
    induction n with
    | zero =>
      intro m_at_ m_open_ m_steps m_step H locs ls hW hS hl hv
      exact False.elim hv
    | succ n ih =>
      intro m_at_ m_open_ m_steps m_step H locs ls hW hS hl hv
      refine lv_aload_n hx hb dX7_sum_9 rfl (lv_at hl 0 rfl) ?_
      refine q_callV (rest := []) (n := 0) C (c_X7_look l G b m_images m_at_ m_open_ m_steps m_use_ m_traced m_speaks m_isParted m_s _ hv) ml_X7_81 kb_X7_look rfl ⟨⟨rfl, rfl⟩, (by show 0 + 1 ≤ f + 2; omega), (by show 8 + (1 + 11) + 0 ≤ o + 44; omega)⟩ hW hS [0, 1] rfl rfl kc7 (q0 := 0) rfl hl.1 rfl (Nat.le_of_ble_eq_true rfl) dX7_sum_10 ⟨Nat.zero_le _, Nat.zero_le _⟩ (fun r_4 u_5 H locs hv hW hS => ?_)
      try dsimp only at hv
      refine lv_bipush (v := 43) hx hb dX7_sum_13 kbp_43 ?_
      refine lv_icmp_eq (tgt := 27) hx hb dX7_sum_15 (by decide) (fun c_6 => ?_) (fun c_6 => ?_)
      · replace hv := hv.1 c_6
        exact h_j_X7_sum_27 (fun m_at_' m_open_' m_steps' m_step' => l_X7_sum_9 O_X7_one m_use_ m_s K n m_at_' m_open_' m_steps' m_step') ih m_at_ m_open_ m_steps m_step H locs ls hW hS (lv_sub hl [0] rfl) hv
      · replace hv := hv.2 c_6
        refine lv_aload_n hx hb dX7_sum_18 rfl (lv_at hl 0 rfl) ?_
        refine q_callV (rest := []) (n := 0) C (c_X7_look l G b m_images m_at_ m_open_ m_steps m_use_ m_traced m_speaks m_isParted m_s _ hv) ml_X7_81 kb_X7_look rfl ⟨⟨rfl, rfl⟩, (by show 0 + 1 ≤ f + 2; omega), (by show 8 + (1 + 11) + 0 ≤ o + 44; omega)⟩ hW hS [0, 1] rfl rfl kc7 (q0 := 0) rfl hl.1 rfl (Nat.le_of_ble_eq_true rfl) dX7_sum_19 ⟨Nat.zero_le _, Nat.zero_le _⟩ (fun r_14 u_15 H locs hv hW hS => ?_)
        try dsimp only at hv
        refine lv_bipush (v := 45) hx hb dX7_sum_22 kbp_45 ?_
        refine lv_icmp_ne (tgt := 60) hx hb dX7_sum_24 (by decide) (fun c_16 => ?_) (fun c_16 => ?_)
        · replace hv := hv.1 c_16
          refine lv_iconst (v := 1) hx hb dX7_sum_60 kic_1 ?_
          exact ret (m_at_, m_open_, m_steps, m_step) (1 : Int32) H locs ls _ (bl_narrow (Or.inr rfl)) hW hS ⟨(Or.inr rfl), hv⟩ dX7_sum_61
        · replace hv := hv.2 c_16
          exact h_j_X7_sum_27 (fun m_at_' m_open_' m_steps' m_step' => l_X7_sum_9 O_X7_one m_use_ m_s K n m_at_' m_open_' m_steps' m_step') ih m_at_ m_open_ m_steps m_step H locs ls hW hS (lv_sub hl [0] rfl) hv
  refine lv_aload_n hx hb dX7_sum_0 rfl (lv_at hl 0 rfl) ?_
  refine q_callV (rest := []) (n := 0) C (c_X7_product l f o O_X7_one hO_X7_one G b m_images m_at_ m_open_ m_steps m_use_ m_traced m_speaks m_isParted m_s m_step _ hv) ml_X7_95 kb_X7_product rfl ⟨⟨rfl, rfl⟩, (by show f + 1 + 1 ≤ f + 2; omega), (by show 8 + (2 + 11) + (o + 23) ≤ o + 44; omega)⟩ hW hS [0, 1, 2] rfl rfl kc7 (q0 := 0) rfl hl.1 rfl (Nat.le_of_ble_eq_true rfl) dX7_sum_1 ⟨Nat.zero_le _, Nat.zero_le _⟩ (fun r_1 u_2 H locs hv hW hS => ?_)
  obtain ⟨m_at__1, m_open__1, m_steps_1, m_step_1⟩ := u_2
  obtain ⟨hv_b_1, hv⟩ := hv
  try dsimp only at hv
  have hW : wo G A (wd_X7_7 G b m_images m_at__1 m_open__1 m_steps_1 m_use_ m_traced m_speaks m_isParted m_s m_step_1) H := hW
  refine lv_if_ne (tgt := 9) hx hb dX7_sum_4 (by decide) (fun c_3 => ?_) (fun c_3 => ?_)
  · replace hv := hv.1 c_3
    obtain ⟨n_17, hv⟩ := hv
    exact h_l_X7_sum_9 n_17 m_at__1 m_open__1 m_steps_1 m_step_1 H locs ls hW hS (lv_sub hl [0] rfl) hv
  · replace hv := hv.2 c_3
    refine lv_iconst (v := 0) hx hb dX7_sum_7 kic_0 ?_
    exact ret (m_at__1, m_open__1, m_steps_1, m_step_1) (0 : Int32) H locs ls _ (bl_narrow (Or.inl rfl)) hW hS ⟨(Or.inl rfl), hv⟩ dX7_sum_8
