set_option maxHeartbeats 4000000 in
set_option maxRecDepth 100000 in
theorem c_X2_write (l : Launch) (G : Gt) (b : Nat → Nat) (bits : Int32) (size : Int32) (numbers : Nat → Int32) (p1 : Int32) (p2 : Int32) (K : (Nat → Int32) → Prop) (hv : v_X2_write p1 p2 bits size numbers K) : CV l G yX2_write (.code yX2_write cX2_write 3 none :: wsG) (rmm 0 0) [.ref (b 0), .int p1, .int p2] (wd_X2_1 G b bits size numbers) (S := (Nat → Int32)) (fun u => wd_X2_1 G b bits size u) (fun u => K u) := by
  refine cv_intro (by decide) rfl (fun _ => rfl) (Nat.le_of_ble_eq_true rfl) ?_
  intro p e s m args below meth c A H ls Q C hW hS hl ret
  have hx := C.1.1
  have hb := C.1.2.1
  generalize hls : ([] : List Loc) = locs at hS ⊢
  have hl : lv_has ls 3 [(0, .ref (b 0)), (1, .int p1), (2, .int p2)] := hl
  have h_j_X2_write_40 : ∀ (t1 : Int32) (t2 : Int32) (numbers : Nat → Int32) (H : Heap) (locs : List Loc) (ls : Array Slot), wo G A (wd_X2_1 G b bits size numbers) H → va_S A s.heap H locs → lv_has ls 3 [] → j_X2_write_40 p1 p2 bits size K t1 t2 numbers → W p l e (rmm 0 0) s m args below meth c H locs 0 0 Q (F0 m 40 ls [.int t2, .int t1, .ref (b 1)]) := by
    intro t1 t2 numbers H locs ls hW hS hl hv
    obtain ⟨h_4, hv⟩ := hv
    refine q_iast C hW hS 1 rfl h_4 dX2_write_40 (fun H locs hW hS => ?_)
    have hW : wo G A (wd_X2_1 G b bits size (upd numbers t1.toNatClampNeg t2)) H := hW
    exact ret ((upd numbers t1.toNatClampNeg t2)) H locs ls _ hW hS hv dX2_write_41
  refine lv_iload_n hx hb dX2_write_0 rfl (lv_at hl 1 rfl) ?_
  refine lv_if_lt (tgt := 41) hx hb dX2_write_1 (by decide) (fun c_1 => ?_) (fun c_1 => ?_)
  · replace hv := hv.1 c_1
    exact ret (numbers) H locs ls _ hW hS hv dX2_write_41
  · replace hv := hv.2 c_1
    refine lv_iload_n hx hb dX2_write_4 rfl (lv_at hl 1 rfl) ?_
    refine lv_aload_n hx hb dX2_write_5 rfl (lv_at hl 0 rfl) ?_
    refine q_get C kc2 hW 0 rfl 1 (by decide) fl_X2_28 rfl rfl dX2_write_6 ?_
    refine lv_icmp_ge (tgt := 41) hx hb dX2_write_9 (by decide) (fun c_2 => ?_) (fun c_2 => ?_)
    · replace hv := hv.1 c_2
      exact ret (numbers) H locs ls _ hW hS hv dX2_write_41
    · replace hv := hv.2 c_2
      refine lv_aload_n hx hb dX2_write_12 rfl (lv_at hl 0 rfl) ?_
      refine q_get C kc2 hW 0 rfl 2 (by decide) fl_X2_9 rfl rfl dX2_write_13 ?_
      refine lv_iload_n hx hb dX2_write_16 rfl (lv_at hl 1 rfl) ?_
      refine lv_aload_n hx hb dX2_write_17 rfl (lv_at hl 0 rfl) ?_
      refine q_get C kc2 hW 0 rfl 0 (by decide) fl_X2_15 rfl rfl dX2_write_18 ?_
      refine lv_bipush (v := 32) hx hb dX2_write_21 kbp_32 ?_
      refine lv_icmp_ne (tgt := 30) hx hb dX2_write_23 (by decide) (fun c_3 => ?_) (fun c_3 => ?_)
      · replace hv := hv.1 c_3
        refine lv_iload_n hx hb dX2_write_30 rfl (lv_at hl 2 rfl) ?_
        refine lv_iconst (v := 1) hx hb dX2_write_31 kic_1 ?_
        refine lv_aload_n hx hb dX2_write_32 rfl (lv_at hl 0 rfl) ?_
        refine q_get C kc2 hW 0 rfl 0 (by decide) fl_X2_15 rfl rfl dX2_write_33 ?_
        refine lv_ishl hx hb dX2_write_36 ?_
        refine lv_iconst (v := 1) hx hb dX2_write_37 kic_1 ?_
        refine lv_isub hx hb dX2_write_38 ?_
        refine lv_iand hx hb dX2_write_39 ?_
        exact h_j_X2_write_40 p1 (p2 &&& (((1 : Int32) <<< (bits &&& 31)) - (1 : Int32))) numbers H locs ls hW hS (lv_sub hl [] rfl) hv
      · replace hv := hv.2 c_3
        refine lv_iload_n hx hb dX2_write_26 rfl (lv_at hl 2 rfl) ?_
        refine lv_goto (tgt := 40) hx hb dX2_write_27 (by decide) ?_
        exact h_j_X2_write_40 p1 p2 numbers H locs ls hW hS (lv_sub hl [] rfl) hv
set_option maxHeartbeats 4000000 in
set_option maxRecDepth 100000 in
theorem c_X2_holds (l : Launch) (G : Gt) (b : Nat → Nat) (bits : Int32) (size : Int32) (p1 : Int32) (p2 : Int32) (K : Int32 → Prop) (hv : v_X2_holds p1 p2 size K) : CI l G yX2_holds (.code yX2_holds cX2_holds 3 (some .boolean) :: wsG) (rmm 0 0) [.ref (b 0), .int p1, .int p2] (wd_X2_0 G b bits size) (S := Unit) (fun u => wd_X2_0 G b bits size) (fun r u => (r = 0 ∨ r = 1) ∧ K r) := by
  refine ci_intro (by decide) rfl (fun _ => rfl) (Nat.le_of_ble_eq_true rfl) ?_
  intro p e s m args below meth c A H ls Q C hW hS hl ret
  have hx := C.1.1
  have hb := C.1.2.1
  generalize hls : ([] : List Loc) = locs at hS ⊢
  have hl : lv_has ls 3 [(0, .ref (b 0)), (1, .int p1), (2, .int p2)] := hl
  refine lv_iload_n hx hb dX2_holds_0 rfl (lv_at hl 2 rfl) ?_
  refine lv_if_lt (tgt := 30) hx hb dX2_holds_1 (by decide) (fun c_1 => ?_) (fun c_1 => ?_)
  · replace hv := hv.1 c_1
    refine lv_iconst (v := 0) hx hb dX2_holds_30 kic_0 ?_
    exact ret () (0 : Int32) H locs ls _ (bl_narrow (Or.inl rfl)) hW hS ⟨(Or.inl rfl), hv⟩ dX2_holds_31
  · replace hv := hv.2 c_1
    refine lv_iload_n hx hb dX2_holds_4 rfl (lv_at hl 1 rfl) ?_
    refine lv_if_lt (tgt := 30) hx hb dX2_holds_5 (by decide) (fun c_2 => ?_) (fun c_2 => ?_)
    · replace hv := hv.1 c_2
      refine lv_iconst (v := 0) hx hb dX2_holds_30 kic_0 ?_
      exact ret () (0 : Int32) H locs ls _ (bl_narrow (Or.inl rfl)) hW hS ⟨(Or.inl rfl), hv⟩ dX2_holds_31
    · replace hv := hv.2 c_2
      refine lv_iload_n hx hb dX2_holds_8 rfl (lv_at hl 2 rfl) ?_
      refine lv_aload_n hx hb dX2_holds_9 rfl (lv_at hl 0 rfl) ?_
      refine q_get C kc2 hW 0 rfl 1 (by decide) fl_X2_28 rfl rfl dX2_holds_10 ?_
      refine lv_icmp_gt (tgt := 30) hx hb dX2_holds_13 (by decide) (fun c_3 => ?_) (fun c_3 => ?_)
      · replace hv := hv.1 c_3
        refine lv_iconst (v := 0) hx hb dX2_holds_30 kic_0 ?_
        exact ret () (0 : Int32) H locs ls _ (bl_narrow (Or.inl rfl)) hW hS ⟨(Or.inl rfl), hv⟩ dX2_holds_31
      · replace hv := hv.2 c_3
        refine lv_iload_n hx hb dX2_holds_16 rfl (lv_at hl 1 rfl) ?_
        refine lv_aload_n hx hb dX2_holds_17 rfl (lv_at hl 0 rfl) ?_
        refine q_get C kc2 hW 0 rfl 1 (by decide) fl_X2_28 rfl rfl dX2_holds_18 ?_
        refine lv_iload_n hx hb dX2_holds_21 rfl (lv_at hl 2 rfl) ?_
        refine lv_isub hx hb dX2_holds_22 ?_
        refine lv_icmp_gt (tgt := 30) hx hb dX2_holds_23 (by decide) (fun c_4 => ?_) (fun c_4 => ?_)
        · replace hv := hv.1 c_4
          refine lv_iconst (v := 0) hx hb dX2_holds_30 kic_0 ?_
          exact ret () (0 : Int32) H locs ls _ (bl_narrow (Or.inl rfl)) hW hS ⟨(Or.inl rfl), hv⟩ dX2_holds_31
        · replace hv := hv.2 c_4
          refine lv_iconst (v := 1) hx hb dX2_holds_26 kic_1 ?_
          refine lv_goto (tgt := 31) hx hb dX2_holds_27 (by decide) ?_
          exact ret () (1 : Int32) H locs ls _ (bl_narrow (Or.inr rfl)) hW hS ⟨(Or.inr rfl), hv⟩ dX2_holds_31
set_option maxHeartbeats 4000000 in
set_option maxRecDepth 100000 in
theorem c_X3_copy (l : Launch) (G : Gt) (b : Nat → Nat) (bc : Nat → Nat) (day : Int32) (near : Nat → Int32) (shows : Nat → Int32) (c_day : Int32) (c_near : Nat → Int32) (c_shows : Nat → Int32) (K : Int32 → (Nat → Int32) → (Nat → Int32) → Prop) (hv : v_X3_copy day near shows c_day c_near c_shows K) : CV l G yX3_copy (.code yX3_copy cX3_copy 2 none :: wsG) (rmm 1 60) [.ref (b 0), .ref (bc 0)] (wd_X3_0 G b bc day near shows c_day c_near c_shows) (S := Int32 × (Nat → Int32) × (Nat → Int32)) (fun u => wd_X3_0 G b bc u.1 u.2.1 u.2.2 c_day c_near c_shows) (fun u => K u.1 u.2.1 u.2.2) := by
  refine cv_intro (by decide) rfl (fun _ => rfl) (Nat.le_of_ble_eq_true rfl) ?_
  intro p e s m args below meth c A H ls Q C hW hS hl ret
  have hx := C.1.1
  have hb := C.1.2.1
  generalize hls : ([] : List Loc) = locs at hS ⊢
  have hl : lv_has ls 2 [(0, .ref (b 0)), (1, .ref (bc 0))] := hl
  refine lv_aload_n hx hb dX3_copy_0 rfl (lv_at hl 1 rfl) ?_
  refine q_get C kc3 hW 3 rfl 0 (by decide) fl_X3_9 rfl rfl dX3_copy_1 ?_
  refine lv_iconst (v := 0) hx hb dX3_copy_4 kic_0 ?_
  refine lv_aload_n hx hb dX3_copy_5 rfl (lv_at hl 0 rfl) ?_
  refine q_get C kc3 hW 0 rfl 0 (by decide) fl_X3_9 rfl rfl dX3_copy_6 ?_
  refine lv_iconst (v := 0) hx hb dX3_copy_9 kic_0 ?_
  refine lv_bipush (v := 8) hx hb dX3_copy_10 kbp_8 ?_
  obtain ⟨h_1, hv⟩ := hv
  obtain ⟨h_2, hv⟩ := hv
  obtain ⟨h_3, hv⟩ := hv
  obtain ⟨h_4, hv⟩ := hv
  obtain ⟨h_5, hv⟩ := hv
  refine va_copyi (D := G.1) (cl := GB_cl) (tys := tyG G) hx hb (C.1.2.2.1.trans hl.1.symm) C.1.2.2.2.1 (C.hts ml_X3_18) (C.hts nat_copy) (C.hts st_copy) (C.hts ini_javalangSystem) C.2.1 hW.1 hW.2 hS 4 1 0 0 rfl rfl rfl rfl rfl h_1 h_2 h_3 h_4 h_5 (fun _ _ => rfl) (Nat.le_of_ble_eq_true rfl) (Nat.le_of_ble_eq_true rfl) dX3_copy_12 (fun H locs hP hD hS => ?_)
  have hW : wo G A (wd_X3_0 G b bc day (va_cpy c_near near (0 : Int32).toNatClampNeg (0 : Int32).toNatClampNeg (8 : Int32).toNatClampNeg) shows c_day c_near c_shows) H := ⟨hP, hD⟩
  refine lv_aload_n hx hb dX3_copy_15 rfl (lv_at hl 1 rfl) ?_
  refine q_get C kc3 hW 3 rfl 1 (by decide) fl_X3_15 rfl rfl dX3_copy_16 ?_
  refine lv_iconst (v := 0) hx hb dX3_copy_19 kic_0 ?_
  refine lv_aload_n hx hb dX3_copy_20 rfl (lv_at hl 0 rfl) ?_
  refine q_get C kc3 hW 0 rfl 1 (by decide) fl_X3_15 rfl rfl dX3_copy_21 ?_
  refine lv_iconst (v := 0) hx hb dX3_copy_24 kic_0 ?_
  refine lv_bipush (v := 8) hx hb dX3_copy_25 kbp_8 ?_
  obtain ⟨h_6, hv⟩ := hv
  obtain ⟨h_7, hv⟩ := hv
  obtain ⟨h_8, hv⟩ := hv
  obtain ⟨h_9, hv⟩ := hv
  obtain ⟨h_10, hv⟩ := hv
  refine va_copyi (D := G.1) (cl := GB_cl) (tys := tyG G) hx hb (C.1.2.2.1.trans hl.1.symm) C.1.2.2.2.1 (C.hts ml_X3_18) (C.hts nat_copy) (C.hts st_copy) (C.hts ini_javalangSystem) C.2.1 hW.1 hW.2 hS 5 2 0 0 rfl rfl rfl rfl rfl h_6 h_7 h_8 h_9 h_10 (fun _ _ => rfl) (Nat.le_of_ble_eq_true rfl) (Nat.le_of_ble_eq_true rfl) dX3_copy_27 (fun H locs hP hD hS => ?_)
  have hW : wo G A (wd_X3_0 G b bc day (va_cpy c_near near (0 : Int32).toNatClampNeg (0 : Int32).toNatClampNeg (8 : Int32).toNatClampNeg) (va_cpy c_shows shows (0 : Int32).toNatClampNeg (0 : Int32).toNatClampNeg (8 : Int32).toNatClampNeg) c_day c_near c_shows) H := ⟨hP, hD⟩
  refine lv_aload_n hx hb dX3_copy_30 rfl (lv_at hl 0 rfl) ?_
  refine lv_aload_n hx hb dX3_copy_31 rfl (lv_at hl 1 rfl) ?_
  refine q_get C kc3 hW 3 rfl 2 (by decide) fl_X3_24 rfl rfl dX3_copy_32 ?_
  refine q_put C kc3 hW hS 0 rfl 2 (by decide) fl_X3_24 rfl rfl rfl rfl (Nat.le_of_ble_eq_true rfl) dX3_copy_35 (fun H locs hW hS => ?_)
  have hW : wo G A (wd_X3_0 G b bc c_day (va_cpy c_near near (0 : Int32).toNatClampNeg (0 : Int32).toNatClampNeg (8 : Int32).toNatClampNeg) (va_cpy c_shows shows (0 : Int32).toNatClampNeg (0 : Int32).toNatClampNeg (8 : Int32).toNatClampNeg) c_day c_near c_shows) H := hW
  exact ret (c_day, (va_cpy c_near near (0 : Int32).toNatClampNeg (0 : Int32).toNatClampNeg (8 : Int32).toNatClampNeg), (va_cpy c_shows shows (0 : Int32).toNatClampNeg (0 : Int32).toNatClampNeg (8 : Int32).toNatClampNeg)) H locs ls _ hW hS hv dX3_copy_38
set_option maxHeartbeats 4000000 in
set_option maxRecDepth 100000 in
theorem c_X4_copy (l : Launch) (G : Gt) (b : Nat → Nat) (bc : Nat → Nat) (people : Int32) (taped : Int32) (waiting : Int32) (z : Int32) (kind : Nat → Int32) (em : Nat → Int32) (called : Nat → Int32) (day : Int32) (near : Nat → Int32) (shows : Nat → Int32) (tmost : Int32) (tsize : Int32) (tsteps : Nat → Int32) (gmost : Int32) (gsize : Int32) (gsteps : Nat → Int32) (tape : Nat → Int32) (waits : Nat → Int32) (c_people : Int32) (c_taped : Int32) (c_waiting : Int32) (c_z : Int32) (c_kind : Nat → Int32) (c_em : Nat → Int32) (c_called : Nat → Int32) (c_day : Int32) (c_near : Nat → Int32) (c_shows : Nat → Int32) (c_tmost : Int32) (c_tsize : Int32) (c_tsteps : Nat → Int32) (c_gmost : Int32) (c_gsize : Int32) (c_gsteps : Nat → Int32) (c_tape : Nat → Int32) (c_waits : Nat → Int32) (K : Int32 → Int32 → Int32 → Int32 → (Nat → Int32) → (Nat → Int32) → (Nat → Int32) → Int32 → (Nat → Int32) → (Nat → Int32) → Int32 → (Nat → Int32) → Int32 → (Nat → Int32) → (Nat → Int32) → (Nat → Int32) → Prop) (hv : v_X4_copy people taped waiting z kind em called day near shows tsize tsteps gsize gsteps tape waits c_people c_taped c_waiting c_z c_kind c_em c_called c_day c_near c_shows c_tsize c_tsteps c_gsize c_gsteps c_tape c_waits K) : CV l G yX4_copy (.code yX4_copy cX4_copy 2 none :: wsG) (rmm 2 82) [.ref (b 0), .ref (bc 0)] (wd_X4_0 G b bc people taped waiting z kind em called day near shows tmost tsize tsteps gmost gsize gsteps tape waits c_people c_taped c_waiting c_z c_kind c_em c_called c_day c_near c_shows c_tmost c_tsize c_tsteps c_gmost c_gsize c_gsteps c_tape c_waits) (S := Int32 × Int32 × Int32 × Int32 × (Nat → Int32) × (Nat → Int32) × (Nat → Int32) × Int32 × (Nat → Int32) × (Nat → Int32) × Int32 × (Nat → Int32) × Int32 × (Nat → Int32) × (Nat → Int32) × (Nat → Int32)) (fun u => wd_X4_0 G b bc u.1 u.2.1 u.2.2.1 u.2.2.2.1 u.2.2.2.2.1 u.2.2.2.2.2.1 u.2.2.2.2.2.2.1 u.2.2.2.2.2.2.2.1 u.2.2.2.2.2.2.2.2.1 u.2.2.2.2.2.2.2.2.2.1 tmost u.2.2.2.2.2.2.2.2.2.2.1 u.2.2.2.2.2.2.2.2.2.2.2.1 gmost u.2.2.2.2.2.2.2.2.2.2.2.2.1 u.2.2.2.2.2.2.2.2.2.2.2.2.2.1 u.2.2.2.2.2.2.2.2.2.2.2.2.2.2.1 u.2.2.2.2.2.2.2.2.2.2.2.2.2.2.2 c_people c_taped c_waiting c_z c_kind c_em c_called c_day c_near c_shows c_tmost c_tsize c_tsteps c_gmost c_gsize c_gsteps c_tape c_waits) (fun u => K u.1 u.2.1 u.2.2.1 u.2.2.2.1 u.2.2.2.2.1 u.2.2.2.2.2.1 u.2.2.2.2.2.2.1 u.2.2.2.2.2.2.2.1 u.2.2.2.2.2.2.2.2.1 u.2.2.2.2.2.2.2.2.2.1 u.2.2.2.2.2.2.2.2.2.2.1 u.2.2.2.2.2.2.2.2.2.2.2.1 u.2.2.2.2.2.2.2.2.2.2.2.2.1 u.2.2.2.2.2.2.2.2.2.2.2.2.2.1 u.2.2.2.2.2.2.2.2.2.2.2.2.2.2.1 u.2.2.2.2.2.2.2.2.2.2.2.2.2.2.2) := by
  refine cv_intro (by decide) rfl (fun _ => rfl) (Nat.le_of_ble_eq_true rfl) ?_
  intro p e s m args below meth c A H ls Q C hW hS hl ret
  have hx := C.1.1
  have hb := C.1.2.1
  generalize hls : ([] : List Loc) = locs at hS ⊢
  have hl : lv_has ls 2 [(0, .ref (b 0)), (1, .ref (bc 0))] := hl
  refine lv_aload_n hx hb dX4_copy_0 rfl (lv_at hl 0 rfl) ?_
  refine lv_aload_n hx hb dX4_copy_1 rfl (lv_at hl 1 rfl) ?_
  refine q_get C kc4 hW 13 rfl 0 (by decide) fl_X4_51 rfl rfl dX4_copy_2 ?_
  refine q_put C kc4 hW hS 0 rfl 0 (by decide) fl_X4_51 rfl rfl rfl rfl (Nat.le_of_ble_eq_true rfl) dX4_copy_5 (fun H locs hW hS => ?_)
  have hW : wo G A (wd_X4_0 G b bc c_people taped waiting z kind em called day near shows tmost tsize tsteps gmost gsize gsteps tape waits c_people c_taped c_waiting c_z c_kind c_em c_called c_day c_near c_shows c_tmost c_tsize c_tsteps c_gmost c_gsize c_gsteps c_tape c_waits) H := hW
  refine lv_aload_n hx hb dX4_copy_8 rfl (lv_at hl 1 rfl) ?_
  refine q_get C kc4 hW 13 rfl 1 (by decide) fl_X4_9 rfl rfl dX4_copy_9 ?_
  refine lv_iconst (v := 0) hx hb dX4_copy_12 kic_0 ?_
  refine lv_aload_n hx hb dX4_copy_13 rfl (lv_at hl 0 rfl) ?_
  refine q_get C kc4 hW 0 rfl 1 (by decide) fl_X4_9 rfl rfl dX4_copy_14 ?_
  refine lv_iconst (v := 0) hx hb dX4_copy_17 kic_0 ?_
  refine lv_bipush (v := 8) hx hb dX4_copy_18 kbp_8 ?_
  obtain ⟨h_1, hv⟩ := hv
  obtain ⟨h_2, hv⟩ := hv
  obtain ⟨h_3, hv⟩ := hv
  obtain ⟨h_4, hv⟩ := hv
  obtain ⟨h_5, hv⟩ := hv
  refine va_copyi (D := G.1) (cl := GB_cl) (tys := tyG G) hx hb (C.1.2.2.1.trans hl.1.symm) C.1.2.2.2.1 (C.hts ml_X4_54) (C.hts nat_copy) (C.hts st_copy) (C.hts ini_javalangSystem) C.2.1 hW.1 hW.2 hS 14 1 0 0 rfl rfl rfl rfl rfl h_1 h_2 h_3 h_4 h_5 (fun _ _ => rfl) (Nat.le_of_ble_eq_true rfl) (Nat.le_of_ble_eq_true rfl) dX4_copy_20 (fun H locs hP hD hS => ?_)
  have hW : wo G A (wd_X4_0 G b bc c_people taped waiting z (va_cpy c_kind kind (0 : Int32).toNatClampNeg (0 : Int32).toNatClampNeg (8 : Int32).toNatClampNeg) em called day near shows tmost tsize tsteps gmost gsize gsteps tape waits c_people c_taped c_waiting c_z c_kind c_em c_called c_day c_near c_shows c_tmost c_tsize c_tsteps c_gmost c_gsize c_gsteps c_tape c_waits) H := ⟨hP, hD⟩
  refine lv_aload_n hx hb dX4_copy_23 rfl (lv_at hl 1 rfl) ?_
  refine q_get C kc4 hW 13 rfl 2 (by decide) fl_X4_15 rfl rfl dX4_copy_24 ?_
  refine lv_iconst (v := 0) hx hb dX4_copy_27 kic_0 ?_
  refine lv_aload_n hx hb dX4_copy_28 rfl (lv_at hl 0 rfl) ?_
  refine q_get C kc4 hW 0 rfl 2 (by decide) fl_X4_15 rfl rfl dX4_copy_29 ?_
  refine lv_iconst (v := 0) hx hb dX4_copy_32 kic_0 ?_
  refine lv_bipush (v := 8) hx hb dX4_copy_33 kbp_8 ?_
  obtain ⟨h_6, hv⟩ := hv
  obtain ⟨h_7, hv⟩ := hv
  obtain ⟨h_8, hv⟩ := hv
  obtain ⟨h_9, hv⟩ := hv
  obtain ⟨h_10, hv⟩ := hv
  refine va_copyi (D := G.1) (cl := GB_cl) (tys := tyG G) hx hb (C.1.2.2.1.trans hl.1.symm) C.1.2.2.2.1 (C.hts ml_X4_54) (C.hts nat_copy) (C.hts st_copy) (C.hts ini_javalangSystem) C.2.1 hW.1 hW.2 hS 15 2 0 0 rfl rfl rfl rfl rfl h_6 h_7 h_8 h_9 h_10 (fun _ _ => rfl) (Nat.le_of_ble_eq_true rfl) (Nat.le_of_ble_eq_true rfl) dX4_copy_35 (fun H locs hP hD hS => ?_)
  have hW : wo G A (wd_X4_0 G b bc c_people taped waiting z (va_cpy c_kind kind (0 : Int32).toNatClampNeg (0 : Int32).toNatClampNeg (8 : Int32).toNatClampNeg) (va_cpy c_em em (0 : Int32).toNatClampNeg (0 : Int32).toNatClampNeg (8 : Int32).toNatClampNeg) called day near shows tmost tsize tsteps gmost gsize gsteps tape waits c_people c_taped c_waiting c_z c_kind c_em c_called c_day c_near c_shows c_tmost c_tsize c_tsteps c_gmost c_gsize c_gsteps c_tape c_waits) H := ⟨hP, hD⟩
  refine lv_aload_n hx hb dX4_copy_38 rfl (lv_at hl 1 rfl) ?_
  refine q_get C kc4 hW 13 rfl 3 (by decide) fl_X4_18 rfl rfl dX4_copy_39 ?_
  refine lv_iconst (v := 0) hx hb dX4_copy_42 kic_0 ?_
  refine lv_aload_n hx hb dX4_copy_43 rfl (lv_at hl 0 rfl) ?_
  refine q_get C kc4 hW 0 rfl 3 (by decide) fl_X4_18 rfl rfl dX4_copy_44 ?_
  refine lv_iconst (v := 0) hx hb dX4_copy_47 kic_0 ?_
  refine lv_bipush (v := 8) hx hb dX4_copy_48 kbp_8 ?_
  obtain ⟨h_11, hv⟩ := hv
  obtain ⟨h_12, hv⟩ := hv
  obtain ⟨h_13, hv⟩ := hv
  obtain ⟨h_14, hv⟩ := hv
  obtain ⟨h_15, hv⟩ := hv
  refine va_copyi (D := G.1) (cl := GB_cl) (tys := tyG G) hx hb (C.1.2.2.1.trans hl.1.symm) C.1.2.2.2.1 (C.hts ml_X4_54) (C.hts nat_copy) (C.hts st_copy) (C.hts ini_javalangSystem) C.2.1 hW.1 hW.2 hS 16 3 0 0 rfl rfl rfl rfl rfl h_11 h_12 h_13 h_14 h_15 (fun _ _ => rfl) (Nat.le_of_ble_eq_true rfl) (Nat.le_of_ble_eq_true rfl) dX4_copy_50 (fun H locs hP hD hS => ?_)
  have hW : wo G A (wd_X4_0 G b bc c_people taped waiting z (va_cpy c_kind kind (0 : Int32).toNatClampNeg (0 : Int32).toNatClampNeg (8 : Int32).toNatClampNeg) (va_cpy c_em em (0 : Int32).toNatClampNeg (0 : Int32).toNatClampNeg (8 : Int32).toNatClampNeg) (va_cpy c_called called (0 : Int32).toNatClampNeg (0 : Int32).toNatClampNeg (8 : Int32).toNatClampNeg) day near shows tmost tsize tsteps gmost gsize gsteps tape waits c_people c_taped c_waiting c_z c_kind c_em c_called c_day c_near c_shows c_tmost c_tsize c_tsteps c_gmost c_gsize c_gsteps c_tape c_waits) H := ⟨hP, hD⟩
  refine lv_aload_n hx hb dX4_copy_53 rfl (lv_at hl 0 rfl) ?_
  refine q_get C kc4 hW 0 rfl 4 (by decide) fl_X4_24 rfl rfl dX4_copy_54 ?_
  refine lv_aload_n hx hb dX4_copy_57 rfl (lv_at hl 1 rfl) ?_
  refine q_get C kc4 hW 13 rfl 4 (by decide) fl_X4_24 rfl rfl dX4_copy_58 ?_
  refine q_callNv (rest := []) (n := 1) C (c_X3_copy l G (fun k => b (k + 4)) (fun k => bc (k + 4)) day near shows c_day c_near c_shows _ hv) nm_X4_60 kb_X3_copy rfl ⟨⟨rfl, rfl⟩, (Nat.le_of_ble_eq_true rfl), (Nat.le_of_ble_eq_true rfl)⟩ hW hS [4, 5, 6, 17, 18, 19] rfl rfl kc3 (q0 := 4) rfl hl.1 rfl (Nat.le_of_ble_eq_true rfl) dX4_copy_61 ⟨Nat.zero_le _, Nat.zero_le _⟩ (fun u_17 H locs hv hW hS => ?_)
  obtain ⟨day_16, near_16, shows_16⟩ := u_17
  try dsimp only at hv
  have hW : wo G A (wd_X4_0 G b bc c_people taped waiting z (va_cpy c_kind kind (0 : Int32).toNatClampNeg (0 : Int32).toNatClampNeg (8 : Int32).toNatClampNeg) (va_cpy c_em em (0 : Int32).toNatClampNeg (0 : Int32).toNatClampNeg (8 : Int32).toNatClampNeg) (va_cpy c_called called (0 : Int32).toNatClampNeg (0 : Int32).toNatClampNeg (8 : Int32).toNatClampNeg) day_16 near_16 shows_16 tmost tsize tsteps gmost gsize gsteps tape waits c_people c_taped c_waiting c_z c_kind c_em c_called c_day c_near c_shows c_tmost c_tsize c_tsteps c_gmost c_gsize c_gsteps c_tape c_waits) H := hW
  refine lv_aload_n hx hb dX4_copy_64 rfl (lv_at hl 0 rfl) ?_
  refine q_get C kc4 hW 0 rfl 5 (by decide) fl_X4_33 rfl rfl dX4_copy_65 ?_
  refine lv_aload_n hx hb dX4_copy_68 rfl (lv_at hl 1 rfl) ?_
  refine q_get C kc4 hW 13 rfl 5 (by decide) fl_X4_33 rfl rfl dX4_copy_69 ?_
  refine q_getN C kc0 hW 20 rfl 1 (by decide) nf_X4_64 rfl rfl dX4_copy_72 ?_
  refine lv_aload_n hx hb dX4_copy_75 rfl (lv_at hl 1 rfl) ?_
  refine q_get C kc4 hW 13 rfl 5 (by decide) fl_X4_33 rfl rfl dX4_copy_76 ?_
  refine q_getN C kc0 hW 20 rfl 2 (by decide) nf_X4_67 rfl rfl dX4_copy_79 ?_
  refine q_callNv (rest := []) (n := 2) C (c_X0_copy l G (fun k => b (k + 7)) (bc 8) tmost tsize tsteps c_tsteps c_tsize _ hv) nm_X4_70 kb_X0_copy rfl ⟨⟨rfl, rfl⟩, (Nat.le_of_ble_eq_true rfl), (Nat.le_of_ble_eq_true rfl)⟩ hW hS [7, 8, 21] rfl rfl kc0 (q0 := 7) rfl hl.1 rfl (Nat.le_of_ble_eq_true rfl) dX4_copy_82 ⟨Nat.zero_le _, Nat.zero_le _⟩ (fun u_19 H locs hv hW hS => ?_)
  obtain ⟨tsize_18, tsteps_18⟩ := u_19
  try dsimp only at hv
  have hW : wo G A (wd_X4_0 G b bc c_people taped waiting z (va_cpy c_kind kind (0 : Int32).toNatClampNeg (0 : Int32).toNatClampNeg (8 : Int32).toNatClampNeg) (va_cpy c_em em (0 : Int32).toNatClampNeg (0 : Int32).toNatClampNeg (8 : Int32).toNatClampNeg) (va_cpy c_called called (0 : Int32).toNatClampNeg (0 : Int32).toNatClampNeg (8 : Int32).toNatClampNeg) day_16 near_16 shows_16 tmost tsize_18 tsteps_18 gmost gsize gsteps tape waits c_people c_taped c_waiting c_z c_kind c_em c_called c_day c_near c_shows c_tmost c_tsize c_tsteps c_gmost c_gsize c_gsteps c_tape c_waits) H := hW
  refine lv_aload_n hx hb dX4_copy_85 rfl (lv_at hl 0 rfl) ?_
  refine q_get C kc4 hW 0 rfl 6 (by decide) fl_X4_37 rfl rfl dX4_copy_86 ?_
  refine lv_aload_n hx hb dX4_copy_89 rfl (lv_at hl 1 rfl) ?_
  refine q_get C kc4 hW 13 rfl 6 (by decide) fl_X4_37 rfl rfl dX4_copy_90 ?_
  refine q_getN C kc0 hW 22 rfl 1 (by decide) nf_X4_64 rfl rfl dX4_copy_93 ?_
  refine lv_aload_n hx hb dX4_copy_96 rfl (lv_at hl 1 rfl) ?_
  refine q_get C kc4 hW 13 rfl 6 (by decide) fl_X4_37 rfl rfl dX4_copy_97 ?_
  refine q_getN C kc0 hW 22 rfl 2 (by decide) nf_X4_67 rfl rfl dX4_copy_100 ?_
  refine q_callNv (rest := []) (n := 2) C (c_X0_copy l G (fun k => b (k + 10)) (bc 11) gmost gsize gsteps c_gsteps c_gsize _ hv) nm_X4_70 kb_X0_copy rfl ⟨⟨rfl, rfl⟩, (Nat.le_of_ble_eq_true rfl), (Nat.le_of_ble_eq_true rfl)⟩ hW hS [9, 10, 23] rfl rfl kc0 (q0 := 9) rfl hl.1 rfl (Nat.le_of_ble_eq_true rfl) dX4_copy_103 ⟨Nat.zero_le _, Nat.zero_le _⟩ (fun u_21 H locs hv hW hS => ?_)
  obtain ⟨gsize_20, gsteps_20⟩ := u_21
  try dsimp only at hv
  have hW : wo G A (wd_X4_0 G b bc c_people taped waiting z (va_cpy c_kind kind (0 : Int32).toNatClampNeg (0 : Int32).toNatClampNeg (8 : Int32).toNatClampNeg) (va_cpy c_em em (0 : Int32).toNatClampNeg (0 : Int32).toNatClampNeg (8 : Int32).toNatClampNeg) (va_cpy c_called called (0 : Int32).toNatClampNeg (0 : Int32).toNatClampNeg (8 : Int32).toNatClampNeg) day_16 near_16 shows_16 tmost tsize_18 tsteps_18 gmost gsize_20 gsteps_20 tape waits c_people c_taped c_waiting c_z c_kind c_em c_called c_day c_near c_shows c_tmost c_tsize c_tsteps c_gmost c_gsize c_gsteps c_tape c_waits) H := hW
  refine lv_aload_n hx hb dX4_copy_106 rfl (lv_at hl 1 rfl) ?_
  refine q_get C kc4 hW 13 rfl 7 (by decide) fl_X4_40 rfl rfl dX4_copy_107 ?_
  refine lv_iconst (v := 0) hx hb dX4_copy_110 kic_0 ?_
  refine lv_aload_n hx hb dX4_copy_111 rfl (lv_at hl 0 rfl) ?_
  refine q_get C kc4 hW 0 rfl 7 (by decide) fl_X4_40 rfl rfl dX4_copy_112 ?_
  refine lv_iconst (v := 0) hx hb dX4_copy_115 kic_0 ?_
  refine lv_bipush (v := 60) hx hb dX4_copy_116 kbp_60 ?_
  obtain ⟨h_22, hv⟩ := hv
  obtain ⟨h_23, hv⟩ := hv
  obtain ⟨h_24, hv⟩ := hv
  obtain ⟨h_25, hv⟩ := hv
  obtain ⟨h_26, hv⟩ := hv
  obtain ⟨h_27, hv⟩ := hv
  refine va_copyi (D := G.1) (cl := GB_cl) (tys := tyG G) hx hb (C.1.2.2.1.trans hl.1.symm) C.1.2.2.2.1 (C.hts ml_X4_54) (C.hts nat_copy) (C.hts st_copy) (C.hts ini_javalangSystem) C.2.1 hW.1 hW.2 hS 24 11 1 1 rfl rfl rfl rfl rfl h_22 h_23 h_24 h_25 h_26 h_27 (Nat.le_of_ble_eq_true rfl) (Nat.le_of_ble_eq_true rfl) dX4_copy_118 (fun H locs hP hD hS => ?_)
  have hW : wo G A (wd_X4_0 G b bc c_people taped waiting z (va_cpy c_kind kind (0 : Int32).toNatClampNeg (0 : Int32).toNatClampNeg (8 : Int32).toNatClampNeg) (va_cpy c_em em (0 : Int32).toNatClampNeg (0 : Int32).toNatClampNeg (8 : Int32).toNatClampNeg) (va_cpy c_called called (0 : Int32).toNatClampNeg (0 : Int32).toNatClampNeg (8 : Int32).toNatClampNeg) day_16 near_16 shows_16 tmost tsize_18 tsteps_18 gmost gsize_20 gsteps_20 (va_cpy c_tape tape (0 : Int32).toNatClampNeg (0 : Int32).toNatClampNeg (60 : Int32).toNatClampNeg) waits c_people c_taped c_waiting c_z c_kind c_em c_called c_day c_near c_shows c_tmost c_tsize c_tsteps c_gmost c_gsize c_gsteps c_tape c_waits) H := ⟨hP, hD⟩
  refine lv_aload_n hx hb dX4_copy_121 rfl (lv_at hl 0 rfl) ?_
  refine lv_aload_n hx hb dX4_copy_122 rfl (lv_at hl 1 rfl) ?_
  refine q_get C kc4 hW 13 rfl 8 (by decide) fl_X4_73 rfl rfl dX4_copy_123 ?_
  refine q_put C kc4 hW hS 0 rfl 8 (by decide) fl_X4_73 rfl rfl rfl rfl (Nat.le_of_ble_eq_true rfl) dX4_copy_126 (fun H locs hW hS => ?_)
  have hW : wo G A (wd_X4_0 G b bc c_people c_taped waiting z (va_cpy c_kind kind (0 : Int32).toNatClampNeg (0 : Int32).toNatClampNeg (8 : Int32).toNatClampNeg) (va_cpy c_em em (0 : Int32).toNatClampNeg (0 : Int32).toNatClampNeg (8 : Int32).toNatClampNeg) (va_cpy c_called called (0 : Int32).toNatClampNeg (0 : Int32).toNatClampNeg (8 : Int32).toNatClampNeg) day_16 near_16 shows_16 tmost tsize_18 tsteps_18 gmost gsize_20 gsteps_20 (va_cpy c_tape tape (0 : Int32).toNatClampNeg (0 : Int32).toNatClampNeg (60 : Int32).toNatClampNeg) waits c_people c_taped c_waiting c_z c_kind c_em c_called c_day c_near c_shows c_tmost c_tsize c_tsteps c_gmost c_gsize c_gsteps c_tape c_waits) H := hW
  refine lv_aload_n hx hb dX4_copy_129 rfl (lv_at hl 1 rfl) ?_
  refine q_get C kc4 hW 13 rfl 9 (by decide) fl_X4_44 rfl rfl dX4_copy_130 ?_
  refine lv_iconst (v := 0) hx hb dX4_copy_133 kic_0 ?_
  refine lv_aload_n hx hb dX4_copy_134 rfl (lv_at hl 0 rfl) ?_
  refine q_get C kc4 hW 0 rfl 9 (by decide) fl_X4_44 rfl rfl dX4_copy_135 ?_
  refine lv_iconst (v := 0) hx hb dX4_copy_138 kic_0 ?_
  refine lv_bipush (v := 24) hx hb dX4_copy_139 kbp_24 ?_
  obtain ⟨h_28, hv⟩ := hv
  obtain ⟨h_29, hv⟩ := hv
  obtain ⟨h_30, hv⟩ := hv
  obtain ⟨h_31, hv⟩ := hv
  obtain ⟨h_32, hv⟩ := hv
  refine va_copyi (D := G.1) (cl := GB_cl) (tys := tyG G) hx hb (C.1.2.2.1.trans hl.1.symm) C.1.2.2.2.1 (C.hts ml_X4_54) (C.hts nat_copy) (C.hts st_copy) (C.hts ini_javalangSystem) C.2.1 hW.1 hW.2 hS 25 12 0 0 rfl rfl rfl rfl rfl h_28 h_29 h_30 h_31 h_32 (fun _ _ => rfl) (Nat.le_of_ble_eq_true rfl) (Nat.le_of_ble_eq_true rfl) dX4_copy_141 (fun H locs hP hD hS => ?_)
  have hW : wo G A (wd_X4_0 G b bc c_people c_taped waiting z (va_cpy c_kind kind (0 : Int32).toNatClampNeg (0 : Int32).toNatClampNeg (8 : Int32).toNatClampNeg) (va_cpy c_em em (0 : Int32).toNatClampNeg (0 : Int32).toNatClampNeg (8 : Int32).toNatClampNeg) (va_cpy c_called called (0 : Int32).toNatClampNeg (0 : Int32).toNatClampNeg (8 : Int32).toNatClampNeg) day_16 near_16 shows_16 tmost tsize_18 tsteps_18 gmost gsize_20 gsteps_20 (va_cpy c_tape tape (0 : Int32).toNatClampNeg (0 : Int32).toNatClampNeg (60 : Int32).toNatClampNeg) (va_cpy c_waits waits (0 : Int32).toNatClampNeg (0 : Int32).toNatClampNeg (24 : Int32).toNatClampNeg) c_people c_taped c_waiting c_z c_kind c_em c_called c_day c_near c_shows c_tmost c_tsize c_tsteps c_gmost c_gsize c_gsteps c_tape c_waits) H := ⟨hP, hD⟩
  refine lv_aload_n hx hb dX4_copy_144 rfl (lv_at hl 0 rfl) ?_
  refine lv_aload_n hx hb dX4_copy_145 rfl (lv_at hl 1 rfl) ?_
  refine q_get C kc4 hW 13 rfl 10 (by decide) fl_X4_76 rfl rfl dX4_copy_146 ?_
  refine q_put C kc4 hW hS 0 rfl 10 (by decide) fl_X4_76 rfl rfl rfl rfl (Nat.le_of_ble_eq_true rfl) dX4_copy_149 (fun H locs hW hS => ?_)
  have hW : wo G A (wd_X4_0 G b bc c_people c_taped c_waiting z (va_cpy c_kind kind (0 : Int32).toNatClampNeg (0 : Int32).toNatClampNeg (8 : Int32).toNatClampNeg) (va_cpy c_em em (0 : Int32).toNatClampNeg (0 : Int32).toNatClampNeg (8 : Int32).toNatClampNeg) (va_cpy c_called called (0 : Int32).toNatClampNeg (0 : Int32).toNatClampNeg (8 : Int32).toNatClampNeg) day_16 near_16 shows_16 tmost tsize_18 tsteps_18 gmost gsize_20 gsteps_20 (va_cpy c_tape tape (0 : Int32).toNatClampNeg (0 : Int32).toNatClampNeg (60 : Int32).toNatClampNeg) (va_cpy c_waits waits (0 : Int32).toNatClampNeg (0 : Int32).toNatClampNeg (24 : Int32).toNatClampNeg) c_people c_taped c_waiting c_z c_kind c_em c_called c_day c_near c_shows c_tmost c_tsize c_tsteps c_gmost c_gsize c_gsteps c_tape c_waits) H := hW
  refine lv_aload_n hx hb dX4_copy_152 rfl (lv_at hl 0 rfl) ?_
  refine lv_aload_n hx hb dX4_copy_153 rfl (lv_at hl 1 rfl) ?_
  refine q_get C kc4 hW 13 rfl 11 (by decide) fl_X4_47 rfl rfl dX4_copy_154 ?_
  refine q_put C kc4 hW hS 0 rfl 11 (by decide) fl_X4_47 rfl rfl rfl rfl (Nat.le_of_ble_eq_true rfl) dX4_copy_157 (fun H locs hW hS => ?_)
  have hW : wo G A (wd_X4_0 G b bc c_people c_taped c_waiting c_z (va_cpy c_kind kind (0 : Int32).toNatClampNeg (0 : Int32).toNatClampNeg (8 : Int32).toNatClampNeg) (va_cpy c_em em (0 : Int32).toNatClampNeg (0 : Int32).toNatClampNeg (8 : Int32).toNatClampNeg) (va_cpy c_called called (0 : Int32).toNatClampNeg (0 : Int32).toNatClampNeg (8 : Int32).toNatClampNeg) day_16 near_16 shows_16 tmost tsize_18 tsteps_18 gmost gsize_20 gsteps_20 (va_cpy c_tape tape (0 : Int32).toNatClampNeg (0 : Int32).toNatClampNeg (60 : Int32).toNatClampNeg) (va_cpy c_waits waits (0 : Int32).toNatClampNeg (0 : Int32).toNatClampNeg (24 : Int32).toNatClampNeg) c_people c_taped c_waiting c_z c_kind c_em c_called c_day c_near c_shows c_tmost c_tsize c_tsteps c_gmost c_gsize c_gsteps c_tape c_waits) H := hW
  exact ret (c_people, c_taped, c_waiting, c_z, (va_cpy c_kind kind (0 : Int32).toNatClampNeg (0 : Int32).toNatClampNeg (8 : Int32).toNatClampNeg), (va_cpy c_em em (0 : Int32).toNatClampNeg (0 : Int32).toNatClampNeg (8 : Int32).toNatClampNeg), (va_cpy c_called called (0 : Int32).toNatClampNeg (0 : Int32).toNatClampNeg (8 : Int32).toNatClampNeg), day_16, near_16, shows_16, tsize_18, tsteps_18, gsize_20, gsteps_20, (va_cpy c_tape tape (0 : Int32).toNatClampNeg (0 : Int32).toNatClampNeg (60 : Int32).toNatClampNeg), (va_cpy c_waits waits (0 : Int32).toNatClampNeg (0 : Int32).toNatClampNeg (24 : Int32).toNatClampNeg)) H locs ls _ hW hS hv dX4_copy_160
set_option maxHeartbeats 4000000 in
set_option maxRecDepth 100000 in
theorem c_X4_has (l : Launch) (G : Gt) (b : Nat → Nat) (people : Int32) (taped : Int32) (waiting : Int32) (z : Int32) (p1 : Int32) (K : Int32 → Prop) (hv : v_X4_has p1 people K) : CI l G yX4_has (.code yX4_has cX4_has 2 (some .boolean) :: wsG) (rmm 0 0) [.ref (b 0), .int p1] (wd_X4_1 G b people taped waiting z) (S := Unit) (fun u => wd_X4_1 G b people taped waiting z) (fun r u => (r = 0 ∨ r = 1) ∧ K r) := by
  refine ci_intro (by decide) rfl (fun _ => rfl) (Nat.le_of_ble_eq_true rfl) ?_
  intro p e s m args below meth c A H ls Q C hW hS hl ret
  have hx := C.1.1
  have hb := C.1.2.1
  generalize hls : ([] : List Loc) = locs at hS ⊢
  have hl : lv_has ls 2 [(0, .ref (b 0)), (1, .int p1)] := hl
  refine lv_iload_n hx hb dX4_has_0 rfl (lv_at hl 1 rfl) ?_
  refine lv_if_lt (tgt := 16) hx hb dX4_has_1 (by decide) (fun c_1 => ?_) (fun c_1 => ?_)
  · replace hv := hv.1 c_1
    refine lv_iconst (v := 0) hx hb dX4_has_16 kic_0 ?_
    exact ret () (0 : Int32) H locs ls _ (bl_narrow (Or.inl rfl)) hW hS ⟨(Or.inl rfl), hv⟩ dX4_has_17
  · replace hv := hv.2 c_1
    refine lv_iload_n hx hb dX4_has_4 rfl (lv_at hl 1 rfl) ?_
    refine lv_aload_n hx hb dX4_has_5 rfl (lv_at hl 0 rfl) ?_
    refine q_get C kc4 hW 0 rfl 0 (by decide) fl_X4_51 rfl rfl dX4_has_6 ?_
    refine lv_icmp_ge (tgt := 16) hx hb dX4_has_9 (by decide) (fun c_2 => ?_) (fun c_2 => ?_)
    · replace hv := hv.1 c_2
      refine lv_iconst (v := 0) hx hb dX4_has_16 kic_0 ?_
      exact ret () (0 : Int32) H locs ls _ (bl_narrow (Or.inl rfl)) hW hS ⟨(Or.inl rfl), hv⟩ dX4_has_17
    · replace hv := hv.2 c_2
      refine lv_iconst (v := 1) hx hb dX4_has_12 kic_1 ?_
      refine lv_goto (tgt := 17) hx hb dX4_has_13 (by decide) ?_
      exact ret () (1 : Int32) H locs ls _ (bl_narrow (Or.inr rfl)) hW hS ⟨(Or.inr rfl), hv⟩ dX4_has_17
set_option maxHeartbeats 4000000 in
set_option maxRecDepth 100000 in
theorem c_X4_join (l : Launch) (G : Gt) (b : Nat → Nat) (people : Int32) (taped : Int32) (waiting : Int32) (z : Int32) (kind : Nat → Int32) (em : Nat → Int32) (called : Nat → Int32) (day : Int32) (near : Nat → Int32) (shows : Nat → Int32) (p1 : Int32) (p2 : Int32) (p3 : Int32) (K : Int32 → Int32 → (Nat → Int32) → (Nat → Int32) → (Nat → Int32) → (Nat → Int32) → (Nat → Int32) → Prop) (hv : v_X4_join p1 p2 p3 people kind em called near shows K) : CI l G yX4_join (.code yX4_join cX4_join 5 (some .int) :: wsG) (rmm 0 0) [.ref (b 0), .int p1, .int p2, .int p3] (wd_X4_2 G b people taped waiting z kind em called day near shows) (S := Int32 × (Nat → Int32) × (Nat → Int32) × (Nat → Int32) × (Nat → Int32) × (Nat → Int32)) (fun u => wd_X4_2 G b u.1 taped waiting z u.2.1 u.2.2.1 u.2.2.2.1 day u.2.2.2.2.1 u.2.2.2.2.2) (fun r u => K r u.1 u.2.1 u.2.2.1 u.2.2.2.1 u.2.2.2.2.1 u.2.2.2.2.2) := by
  refine ci_intro (by decide) rfl (fun _ => rfl) (Nat.le_of_ble_eq_true rfl) ?_
  intro p e s m args below meth c A H ls Q C hW hS hl ret
  have hx := C.1.1
  have hb := C.1.2.1
  generalize hls : ([] : List Loc) = locs at hS ⊢
  have hl : lv_has ls 5 [(0, .ref (b 0)), (1, .int p1), (2, .int p2), (3, .int p3)] := hl
  refine lv_aload_n hx hb dX4_join_0 rfl (lv_at hl 0 rfl) ?_
  refine q_get C kc4 hW 0 rfl 0 (by decide) fl_X4_51 rfl rfl dX4_join_1 ?_
  refine lv_istore (lv' := [(4, .int people), (0, .ref (b 0)), (1, .int p1), (2, .int p2), (3, .int p3)]) hx hb dX4_join_4 hl (by decide) rfl (fun ls hl => ?_)
  refine lv_iload hx hb dX4_join_6 (lv_at hl 0 rfl) ?_
  refine lv_bipush (v := 8) hx hb dX4_join_8 kbp_8 ?_
  refine lv_icmp_lt (tgt := 16) hx hb dX4_join_10 (by decide) (fun c_1 => ?_) (fun c_1 => ?_)
  · replace hv := hv.1 c_1
    refine lv_aload_n hx hb dX4_join_16 rfl (lv_at hl 1 rfl) ?_
    refine q_get C kc4 hW 0 rfl 1 (by decide) fl_X4_9 rfl rfl dX4_join_17 ?_
    refine lv_iload hx hb dX4_join_20 (lv_at hl 0 rfl) ?_
    refine lv_iload_n hx hb dX4_join_22 rfl (lv_at hl 2 rfl) ?_
    refine lv_bipush (v := 10) hx hb dX4_join_23 kbp_10 ?_
    obtain ⟨h_2, hv⟩ := hv
    refine lv_idiv hx hb dX4_join_25 h_2 ?_
    obtain ⟨h_3, hv⟩ := hv
    refine q_iast C hW hS 1 rfl h_3 dX4_join_26 (fun H locs hW hS => ?_)
    have hW : wo G A (wd_X4_2 G b people taped waiting z (upd kind people.toNatClampNeg (p1 / (10 : Int32))) em called day near shows) H := hW
    refine lv_aload_n hx hb dX4_join_27 rfl (lv_at hl 1 rfl) ?_
    refine q_get C kc4 hW 0 rfl 2 (by decide) fl_X4_15 rfl rfl dX4_join_28 ?_
    refine lv_iload hx hb dX4_join_31 (lv_at hl 0 rfl) ?_
    refine lv_iload_n hx hb dX4_join_33 rfl (lv_at hl 2 rfl) ?_
    refine lv_bipush (v := 10) hx hb dX4_join_34 kbp_10 ?_
    obtain ⟨h_4, hv⟩ := hv
    refine lv_irem hx hb dX4_join_36 h_4 ?_
    obtain ⟨h_5, hv⟩ := hv
    refine q_iast C hW hS 2 rfl h_5 dX4_join_37 (fun H locs hW hS => ?_)
    have hW : wo G A (wd_X4_2 G b people taped waiting z (upd kind people.toNatClampNeg (p1 / (10 : Int32))) (upd em people.toNatClampNeg (p1 - p1 / (10 : Int32) * (10 : Int32))) called day near shows) H := hW
    refine lv_aload_n hx hb dX4_join_38 rfl (lv_at hl 1 rfl) ?_
    refine q_get C kc4 hW 0 rfl 3 (by decide) fl_X4_18 rfl rfl dX4_join_39 ?_
    refine lv_iload hx hb dX4_join_42 (lv_at hl 0 rfl) ?_
    refine lv_iconst (v := 0) hx hb dX4_join_44 kic_0 ?_
    obtain ⟨h_6, hv⟩ := hv
    refine q_iast C hW hS 3 rfl h_6 dX4_join_45 (fun H locs hW hS => ?_)
    have hW : wo G A (wd_X4_2 G b people taped waiting z (upd kind people.toNatClampNeg (p1 / (10 : Int32))) (upd em people.toNatClampNeg (p1 - p1 / (10 : Int32) * (10 : Int32))) (upd called people.toNatClampNeg (0 : Int32)) day near shows) H := hW
    refine lv_aload_n hx hb dX4_join_46 rfl (lv_at hl 1 rfl) ?_
    refine q_get C kc4 hW 0 rfl 4 (by decide) fl_X4_24 rfl rfl dX4_join_47 ?_
    refine q_getN C kc3 hW 4 rfl 0 (by decide) nf_X4_79 rfl rfl dX4_join_50 ?_
    refine lv_iload hx hb dX4_join_53 (lv_at hl 0 rfl) ?_
    refine lv_iload_n hx hb dX4_join_55 rfl (lv_at hl 3 rfl) ?_
    obtain ⟨h_7, hv⟩ := hv
    refine q_iast C hW hS 5 rfl h_7 dX4_join_56 (fun H locs hW hS => ?_)
    have hW : wo G A (wd_X4_2 G b people taped waiting z (upd kind people.toNatClampNeg (p1 / (10 : Int32))) (upd em people.toNatClampNeg (p1 - p1 / (10 : Int32) * (10 : Int32))) (upd called people.toNatClampNeg (0 : Int32)) day (upd near people.toNatClampNeg p2) shows) H := hW
    refine lv_aload_n hx hb dX4_join_57 rfl (lv_at hl 1 rfl) ?_
    refine q_get C kc4 hW 0 rfl 4 (by decide) fl_X4_24 rfl rfl dX4_join_58 ?_
    refine q_getN C kc3 hW 4 rfl 1 (by decide) nf_X4_82 rfl rfl dX4_join_61 ?_
    refine lv_iload hx hb dX4_join_64 (lv_at hl 0 rfl) ?_
    refine lv_iload_n hx hb dX4_join_66 rfl (lv_at hl 4 rfl) ?_
    obtain ⟨h_8, hv⟩ := hv
    refine q_iast C hW hS 6 rfl h_8 dX4_join_67 (fun H locs hW hS => ?_)
    have hW : wo G A (wd_X4_2 G b people taped waiting z (upd kind people.toNatClampNeg (p1 / (10 : Int32))) (upd em people.toNatClampNeg (p1 - p1 / (10 : Int32) * (10 : Int32))) (upd called people.toNatClampNeg (0 : Int32)) day (upd near people.toNatClampNeg p2) (upd shows people.toNatClampNeg p3)) H := hW
    refine lv_aload_n hx hb dX4_join_68 rfl (lv_at hl 1 rfl) ?_
    refine lv_dup hx hb dX4_join_69 rfl ?_
    refine q_get C kc4 hW 0 rfl 0 (by decide) fl_X4_51 rfl rfl dX4_join_70 ?_
    refine lv_iconst (v := 1) hx hb dX4_join_73 kic_1 ?_
    refine lv_iadd hx hb dX4_join_74 ?_
    refine q_put C kc4 hW hS 0 rfl 0 (by decide) fl_X4_51 rfl rfl rfl rfl (Nat.le_of_ble_eq_true rfl) dX4_join_75 (fun H locs hW hS => ?_)
    have hW : wo G A (wd_X4_2 G b (people + (1 : Int32)) taped waiting z (upd kind people.toNatClampNeg (p1 / (10 : Int32))) (upd em people.toNatClampNeg (p1 - p1 / (10 : Int32) * (10 : Int32))) (upd called people.toNatClampNeg (0 : Int32)) day (upd near people.toNatClampNeg p2) (upd shows people.toNatClampNeg p3)) H := hW
    refine lv_iload hx hb dX4_join_78 (lv_at hl 0 rfl) ?_
    exact ret ((people + (1 : Int32)), (upd kind people.toNatClampNeg (p1 / (10 : Int32))), (upd em people.toNatClampNeg (p1 - p1 / (10 : Int32) * (10 : Int32))), (upd called people.toNatClampNeg (0 : Int32)), (upd near people.toNatClampNeg p2), (upd shows people.toNatClampNeg p3)) people H locs ls _ rfl hW hS hv dX4_join_80
  · replace hv := hv.2 c_1
    refine lv_iload hx hb dX4_join_13 (lv_at hl 0 rfl) ?_
    exact ret (people, kind, em, called, near, shows) people H locs ls _ rfl hW hS hv dX4_join_15
set_option maxHeartbeats 4000000 in
set_option maxRecDepth 100000 in
theorem c_X4_meet (l : Launch) (G : Gt) (b : Nat → Nat) (people : Int32) (taped : Int32) (waiting : Int32) (z : Int32) (called : Nat → Int32) (day : Int32) (near : Nat → Int32) (p1 : Int32) (p2 : Int32) (K : Int32 → (Nat → Int32) → (Nat → Int32) → Prop) (hv : v_X4_meet p1 p2 called near K) : CI l G yX4_meet (.code yX4_meet cX4_meet 4 (some .int) :: wsG) (rmm 1 21) [.ref (b 0), .int p1, .int p2] (wd_X4_3 G b people taped waiting z called day near) (S := (Nat → Int32) × (Nat → Int32)) (fun u => wd_X4_3 G b people taped waiting z u.1 day u.2) (fun r u => K r u.1 u.2) := by
  refine ci_intro (by decide) rfl (fun _ => rfl) (Nat.le_of_ble_eq_true rfl) ?_
  intro p e s m args below meth c A H ls Q C hW hS hl ret
  have hx := C.1.1
  have hb := C.1.2.1
  generalize hls : ([] : List Loc) = locs at hS ⊢
  have hl : lv_has ls 4 [(0, .ref (b 0)), (1, .int p1), (2, .int p2)] := hl
  refine lv_aload_n hx hb dX4_meet_0 rfl (lv_at hl 0 rfl) ?_
  refine q_get C kc4 hW 0 rfl 4 (by decide) fl_X4_24 rfl rfl dX4_meet_1 ?_
  refine q_getN C kc3 hW 2 rfl 0 (by decide) nf_X4_79 rfl rfl dX4_meet_4 ?_
  refine lv_iload_n hx hb dX4_meet_7 rfl (lv_at hl 1 rfl) ?_
  obtain ⟨h_1, hv⟩ := hv
  refine q_iald C hW 3 rfl h_1 dX4_meet_8 ?_
  refine lv_aload_n hx hb dX4_meet_9 rfl (lv_at hl 0 rfl) ?_
  refine q_get C kc4 hW 0 rfl 4 (by decide) fl_X4_24 rfl rfl dX4_meet_10 ?_
  refine q_getN C kc3 hW 2 rfl 0 (by decide) nf_X4_79 rfl rfl dX4_meet_13 ?_
  refine lv_iload_n hx hb dX4_meet_16 rfl (lv_at hl 2 rfl) ?_
  obtain ⟨h_2, hv⟩ := hv
  refine q_iald C hW 3 rfl h_2 dX4_meet_17 ?_
  refine va_mmax hx hb (C.1.2.2.1.trans hl.1.symm) C.1.2.2.2.1 (C.hts ml_X4_85) (C.hts st_mmax) (C.hts ini_javalangMath) (C.hts cd_mmax) (Nat.le_of_ble_eq_true rfl) (Nat.le_of_ble_eq_true rfl) (Nat.zero_le _) (Nat.zero_le _) dX4_meet_18 ?_
  refine lv_istore_n (lv' := [(3, .int (if (near p1.toNatClampNeg) < (near p2.toNatClampNeg) then (near p2.toNatClampNeg) else (near p1.toNatClampNeg))), (0, .ref (b 0)), (1, .int p1), (2, .int p2)]) hx hb dX4_meet_21 rfl hl (by decide) rfl (fun ls hl => ?_)
  refine lv_aload_n hx hb dX4_meet_22 rfl (lv_at hl 1 rfl) ?_
  refine q_get C kc4 hW 0 rfl 4 (by decide) fl_X4_24 rfl rfl dX4_meet_23 ?_
  refine q_getN C kc3 hW 2 rfl 0 (by decide) nf_X4_79 rfl rfl dX4_meet_26 ?_
  refine lv_iload_n hx hb dX4_meet_29 rfl (lv_at hl 2 rfl) ?_
  refine lv_iload_n hx hb dX4_meet_30 rfl (lv_at hl 0 rfl) ?_
  obtain ⟨h_3, hv⟩ := hv
  refine q_iast C hW hS 3 rfl h_3 dX4_meet_31 (fun H locs hW hS => ?_)
  have hW : wo G A (wd_X4_3 G b people taped waiting z called day (upd near p1.toNatClampNeg (if (near p1.toNatClampNeg) < (near p2.toNatClampNeg) then (near p2.toNatClampNeg) else (near p1.toNatClampNeg)))) H := hW
  refine lv_aload_n hx hb dX4_meet_32 rfl (lv_at hl 1 rfl) ?_
  refine q_get C kc4 hW 0 rfl 4 (by decide) fl_X4_24 rfl rfl dX4_meet_33 ?_
  refine q_getN C kc3 hW 2 rfl 0 (by decide) nf_X4_79 rfl rfl dX4_meet_36 ?_
  refine lv_iload_n hx hb dX4_meet_39 rfl (lv_at hl 3 rfl) ?_
  refine lv_iload_n hx hb dX4_meet_40 rfl (lv_at hl 0 rfl) ?_
  obtain ⟨h_4, hv⟩ := hv
  refine q_iast C hW hS 3 rfl h_4 dX4_meet_41 (fun H locs hW hS => ?_)
  have hW : wo G A (wd_X4_3 G b people taped waiting z called day (upd (upd near p1.toNatClampNeg (if (near p1.toNatClampNeg) < (near p2.toNatClampNeg) then (near p2.toNatClampNeg) else (near p1.toNatClampNeg))) p2.toNatClampNeg (if (near p1.toNatClampNeg) < (near p2.toNatClampNeg) then (near p2.toNatClampNeg) else (near p1.toNatClampNeg)))) H := hW
  refine lv_aload_n hx hb dX4_meet_42 rfl (lv_at hl 1 rfl) ?_
  refine q_get C kc4 hW 0 rfl 3 (by decide) fl_X4_18 rfl rfl dX4_meet_43 ?_
  refine lv_iload_n hx hb dX4_meet_46 rfl (lv_at hl 2 rfl) ?_
  refine lv_dup2_11 hx hb dX4_meet_47 rfl rfl ?_
  obtain ⟨h_5, hv⟩ := hv
  refine q_iald C hW 1 rfl h_5 dX4_meet_48 ?_
  refine lv_iconst (v := 1) hx hb dX4_meet_49 kic_1 ?_
  refine lv_iload_n hx hb dX4_meet_50 rfl (lv_at hl 3 rfl) ?_
  refine lv_ishl hx hb dX4_meet_51 ?_
  refine lv_ior hx hb dX4_meet_52 ?_
  obtain ⟨h_6, hv⟩ := hv
  refine q_iast C hW hS 1 rfl h_6 dX4_meet_53 (fun H locs hW hS => ?_)
  have hW : wo G A (wd_X4_3 G b people taped waiting z (upd called p1.toNatClampNeg ((called p1.toNatClampNeg) ||| ((1 : Int32) <<< (p2 &&& 31)))) day (upd (upd near p1.toNatClampNeg (if (near p1.toNatClampNeg) < (near p2.toNatClampNeg) then (near p2.toNatClampNeg) else (near p1.toNatClampNeg))) p2.toNatClampNeg (if (near p1.toNatClampNeg) < (near p2.toNatClampNeg) then (near p2.toNatClampNeg) else (near p1.toNatClampNeg)))) H := hW
  refine lv_iload_n hx hb dX4_meet_54 rfl (lv_at hl 0 rfl) ?_
  exact ret ((upd called p1.toNatClampNeg ((called p1.toNatClampNeg) ||| ((1 : Int32) <<< (p2 &&& 31)))), (upd (upd near p1.toNatClampNeg (if (near p1.toNatClampNeg) < (near p2.toNatClampNeg) then (near p2.toNatClampNeg) else (near p1.toNatClampNeg))) p2.toNatClampNeg (if (near p1.toNatClampNeg) < (near p2.toNatClampNeg) then (near p2.toNatClampNeg) else (near p1.toNatClampNeg)))) (if (near p1.toNatClampNeg) < (near p2.toNatClampNeg) then (near p2.toNatClampNeg) else (near p1.toNatClampNeg)) H locs ls _ rfl hW hS hv dX4_meet_55
set_option maxHeartbeats 4000000 in
set_option maxRecDepth 100000 in
theorem c_X4_record (l : Launch) (G : Gt) (b : Nat → Nat) (people : Int32) (taped : Int32) (waiting : Int32) (z : Int32) (tape : Nat → Int32) (p1 : Int64) (p2 : Int32) (K : Int32 → Int32 → (Nat → Int32) → Prop) (hv : v_X4_record p1 p2 taped tape K) : CI l G yX4_record (.code yX4_record cX4_record 5 (some .int) :: wsG) (rmm 0 0) [.ref (b 0), .long p1, .int p2] (wd_X4_4 G b people taped waiting z tape) (S := Int32 × (Nat → Int32)) (fun u => wd_X4_4 G b people u.1 waiting z u.2) (fun r u => K r u.1 u.2) := by
  refine ci_intro (by decide) rfl (fun _ => rfl) (Nat.le_of_ble_eq_true rfl) ?_
  intro p e s m args below meth c A H ls Q C hW hS hl ret
  have hx := C.1.1
  have hb := C.1.2.1
  generalize hls : ([] : List Loc) = locs at hS ⊢
  have hl : lv_has ls 5 [(0, .ref (b 0)), (1, .long p1), (3, .int p2)] := hl
  have h_l_X4_record_3 : ∀ (n : Nat), ∀ (x4 : Int32) (taped : Int32) (tape : Nat → Int32) (H : Heap) (locs : List Loc) (ls : Array Slot), wo G A (wd_X4_4 G b people taped waiting z tape) H → va_S A s.heap H locs → lv_has ls 5 [(0, .ref (b 0)), (1, .long p1), (3, .int p2), (4, .int x4)] → l_X4_record_3 p1 p2 K n x4 taped tape → W p l e (rmm 0 0) s m args below meth c H locs 0 0 Q (F0 m 3 ls []) := by
    intro n
    induction n with
    | zero =>
      intro x4 taped tape H locs ls hW hS hl hv
      exact False.elim hv
    | succ n ih =>
      intro x4 taped tape H locs ls hW hS hl hv
      refine lv_iload hx hb dX4_record_3 (lv_at hl 3 rfl) ?_
      refine lv_iload_n hx hb dX4_record_5 rfl (lv_at hl 2 rfl) ?_
      refine lv_icmp_ge (tgt := 52) hx hb dX4_record_6 (by decide) (fun c_1 => ?_) (fun c_1 => ?_)
      · replace hv := hv.1 c_1
        refine lv_aload_n hx hb dX4_record_52 rfl (lv_at hl 0 rfl) ?_
        refine q_get C kc4 hW 0 rfl 8 (by decide) fl_X4_73 rfl rfl dX4_record_53 ?_
        exact ret (taped, tape) taped H locs ls _ rfl hW hS hv dX4_record_56
      · replace hv := hv.2 c_1
        refine lv_aload_n hx hb dX4_record_9 rfl (lv_at hl 0 rfl) ?_
        refine q_get C kc4 hW 0 rfl 8 (by decide) fl_X4_73 rfl rfl dX4_record_10 ?_
        refine lv_bipush (v := 60) hx hb dX4_record_13 kbp_60 ?_
        refine lv_icmp_ge (tgt := 52) hx hb dX4_record_15 (by decide) (fun c_2 => ?_) (fun c_2 => ?_)
        · replace hv := hv.1 c_2
          refine lv_aload_n hx hb dX4_record_52 rfl (lv_at hl 0 rfl) ?_
          refine q_get C kc4 hW 0 rfl 8 (by decide) fl_X4_73 rfl rfl dX4_record_53 ?_
          exact ret (taped, tape) taped H locs ls _ rfl hW hS hv dX4_record_56
        · replace hv := hv.2 c_2
          refine lv_aload_n hx hb dX4_record_18 rfl (lv_at hl 0 rfl) ?_
          refine q_get C kc4 hW 0 rfl 7 (by decide) fl_X4_40 rfl rfl dX4_record_19 ?_
          refine lv_aload_n hx hb dX4_record_22 rfl (lv_at hl 0 rfl) ?_
          refine q_get C kc4 hW 0 rfl 8 (by decide) fl_X4_73 rfl rfl dX4_record_23 ?_
          refine lv_lload_n hx hb dX4_record_26 rfl (lv_at hl 1 rfl) ?_
          refine lv_bipush (v := 8) hx hb dX4_record_27 kbp_8 ?_
          refine lv_iload hx hb dX4_record_29 (lv_at hl 3 rfl) ?_
          refine lv_imul hx hb dX4_record_31 ?_
          refine lv_lushr hx hb dX4_record_32 rfl ?_
          refine lv_l2i hx hb dX4_record_33 rfl ?_
          refine lv_i2b hx hb dX4_record_34 rfl ?_
          obtain ⟨h_3, hv⟩ := hv
          refine q_bast C hW hS 1 rfl h_3 dX4_record_35 (fun H locs hW hS => ?_)
          have hW : wo G A (wd_X4_4 G b people taped waiting z (upd tape taped.toNatClampNeg (vp_nar .byte ((((p1.toUInt64 >>> (((8 : Int32) * x4).toInt64.toUInt64 &&& Int64.toUInt64 63)).toInt64).toInt32).toInt8.toInt32)))) H := hW
          refine lv_aload_n hx hb dX4_record_36 rfl (lv_at hl 0 rfl) ?_
          refine lv_dup hx hb dX4_record_37 rfl ?_
          refine q_get C kc4 hW 0 rfl 8 (by decide) fl_X4_73 rfl rfl dX4_record_38 ?_
          refine lv_iconst (v := 1) hx hb dX4_record_41 kic_1 ?_
          refine lv_iadd hx hb dX4_record_42 ?_
          refine q_put C kc4 hW hS 0 rfl 8 (by decide) fl_X4_73 rfl rfl rfl rfl (Nat.le_of_ble_eq_true rfl) dX4_record_43 (fun H locs hW hS => ?_)
          have hW : wo G A (wd_X4_4 G b people (taped + (1 : Int32)) waiting z (upd tape taped.toNatClampNeg (vp_nar .byte ((((p1.toUInt64 >>> (((8 : Int32) * x4).toInt64.toUInt64 &&& Int64.toUInt64 63)).toInt64).toInt32).toInt8.toInt32)))) H := hW
          refine lv_iinc (v := (x4 + 1)) (lv' := [(4, .int (x4 + 1)), (0, .ref (b 0)), (1, .long p1), (3, .int p2)]) hx hb dX4_record_46 hl (k := 3) rfl rfl (by decide) rfl (fun ls hl => ?_)
          refine lv_goto (tgt := 3) hx hb dX4_record_49 (by decide) ?_
          exact ih (x4 + 1) (taped + (1 : Int32)) (upd tape taped.toNatClampNeg (vp_nar .byte ((((p1.toUInt64 >>> (((8 : Int32) * x4).toInt64.toUInt64 &&& Int64.toUInt64 63)).toInt64).toInt32).toInt8.toInt32))) H locs ls hW hS (lv_sub hl [1, 2, 3, 0] rfl) hv
  refine lv_iconst (v := 0) hx hb dX4_record_0 kic_0 ?_
  refine lv_istore (lv' := [(4, .int (0 : Int32)), (0, .ref (b 0)), (1, .long p1), (3, .int p2)]) hx hb dX4_record_1 hl (by decide) rfl (fun ls hl => ?_)
  obtain ⟨n_4, hv⟩ := hv
  exact h_l_X4_record_3 n_4 (0 : Int32) taped tape H locs ls hW hS (lv_sub hl [1, 2, 3, 0] rfl) hv
set_option maxHeartbeats 4000000 in
set_option maxRecDepth 100000 in
theorem c_X4_draw (l : Launch) (G : Gt) (b : Nat → Nat) (people : Int32) (taped : Int32) (waiting : Int32) (z : Int32) (K : Int32 → Int32 → Prop) (hv : v_X4_draw z K) : CI l G yX4_draw (.code yX4_draw cX4_draw 1 (some .int) :: wsG) (rmm 0 0) [.ref (b 0)] (wd_X4_1 G b people taped waiting z) (S := Int32) (fun u => wd_X4_1 G b people taped waiting u) (fun r u => K r u) := by
  refine ci_intro (by decide) rfl (fun _ => rfl) (Nat.le_of_ble_eq_true rfl) ?_
  intro p e s m args below meth c A H ls Q C hW hS hl ret
  have hx := C.1.1
  have hb := C.1.2.1
  generalize hls : ([] : List Loc) = locs at hS ⊢
  have hl : lv_has ls 1 [(0, .ref (b 0))] := hl
  refine lv_aload_n hx hb dX4_draw_0 rfl (lv_at hl 0 rfl) ?_
  refine lv_aload_n hx hb dX4_draw_1 rfl (lv_at hl 0 rfl) ?_
  refine q_get C kc4 hW 0 rfl 11 (by decide) fl_X4_47 rfl rfl dX4_draw_2 ?_
  refine lv_ldc (v := 1103515245) hx hb C.1.2.2.2.1 (C.hts kc_X4_91) dX4_draw_5 ?_
  refine lv_imul hx hb dX4_draw_7 ?_
  refine lv_sipush (v := 12345) hx hb dX4_draw_8 ksp_12345 ?_
  refine lv_iadd hx hb dX4_draw_11 ?_
  refine q_put C kc4 hW hS 0 rfl 11 (by decide) fl_X4_47 rfl rfl rfl rfl (Nat.le_of_ble_eq_true rfl) dX4_draw_12 (fun H locs hW hS => ?_)
  have hW : wo G A (wd_X4_1 G b people taped waiting ((z * (1103515245 : Int32)) + (12345 : Int32))) H := hW
  refine lv_aload_n hx hb dX4_draw_15 rfl (lv_at hl 0 rfl) ?_
  refine q_get C kc4 hW 0 rfl 11 (by decide) fl_X4_47 rfl rfl dX4_draw_16 ?_
  refine lv_bipush (v := 8) hx hb dX4_draw_19 kbp_8 ?_
  refine lv_iushr hx hb dX4_draw_21 rfl ?_
  exact ret (((z * (1103515245 : Int32)) + (12345 : Int32))) ((((z * (1103515245 : Int32)) + (12345 : Int32)).toUInt32 >>> ((8 : Int32).toUInt32 &&& Int32.toUInt32 31)).toInt32) H locs ls _ rfl hW hS hv dX4_draw_22
set_option maxHeartbeats 4000000 in
set_option maxRecDepth 100000 in
theorem c_X4_drawMoves (l : Launch) (G : Gt) (b : Nat → Nat) (people : Int32) (taped : Int32) (waiting : Int32) (z : Int32) (called : Nat → Int32) (day : Int32) (near : Nat → Int32) (shows : Nat → Int32) (K : Int32 → (Nat → Int32) → (Nat → Int32) → (Nat → Int32) → Prop) (hv : v_X4_drawMoves people z called near shows K) : CV l G yX4_drawMoves (.code yX4_drawMoves cX4_drawMoves 4 none :: wsG) (rmm 2 44) [.ref (b 0)] (wd_X4_5 G b people taped waiting z called day near shows) (S := Int32 × (Nat → Int32) × (Nat → Int32) × (Nat → Int32)) (fun u => wd_X4_5 G b people taped waiting u.1 u.2.1 day u.2.2.1 u.2.2.2) (fun u => K u.1 u.2.1 u.2.2.1 u.2.2.2) := by
  refine cv_intro (by decide) rfl (fun _ => rfl) (Nat.le_of_ble_eq_true rfl) ?_
  intro p e s m args below meth c A H ls Q C hW hS hl ret
  have hx := C.1.1
  have hb := C.1.2.1
  generalize hls : ([] : List Loc) = locs at hS ⊢
  have hl : lv_has ls 4 [(0, .ref (b 0))] := hl
  refine lv_aload_n hx hb dX4_drawMoves_0 rfl (lv_at hl 0 rfl) ?_
  refine q_get C kc4 hW 0 rfl 0 (by decide) fl_X4_51 rfl rfl dX4_drawMoves_1 ?_
  refine lv_iconst (v := 2) hx hb dX4_drawMoves_4 kic_2 ?_
  refine lv_icmp_ge (tgt := 9) hx hb dX4_drawMoves_5 (by decide) (fun c_1 => ?_) (fun c_1 => ?_)
  · replace hv := hv.1 c_1
    refine lv_aload_n hx hb dX4_drawMoves_9 rfl (lv_at hl 0 rfl) ?_
    refine q_callV (rest := []) (n := 0) C (c_X4_draw l G b people taped waiting z _ hv) ml_X4_92 kb_X4_draw rfl ⟨⟨rfl, rfl⟩, (Nat.le_of_ble_eq_true rfl), (Nat.le_of_ble_eq_true rfl)⟩ hW hS [0] rfl rfl kc4 (q0 := 0) rfl hl.1 rfl (Nat.le_of_ble_eq_true rfl) dX4_drawMoves_10 ⟨Nat.zero_le _, Nat.zero_le _⟩ (fun r_2 u_3 H locs hv hW hS => ?_)
    obtain ⟨z_2, rfl⟩ : ∃ z, z = u_3 := ⟨_, rfl⟩
    try dsimp only at hv
    have hW : wo G A (wd_X4_5 G b people taped waiting z_2 called day near shows) H := hW
    refine lv_aload_n hx hb dX4_drawMoves_13 rfl (lv_at hl 0 rfl) ?_
    refine q_get C kc4 hW 0 rfl 0 (by decide) fl_X4_51 rfl rfl dX4_drawMoves_14 ?_
    obtain ⟨h_4, hv⟩ := hv
    refine lv_irem hx hb dX4_drawMoves_17 h_4 ?_
    refine lv_istore_n (lv' := [(1, .int (r_2 - r_2 / people * people)), (0, .ref (b 0))]) hx hb dX4_drawMoves_18 rfl hl (by decide) rfl (fun ls hl => ?_)
    refine lv_aload_n hx hb dX4_drawMoves_19 rfl (lv_at hl 1 rfl) ?_
    refine q_get C kc4 hW 0 rfl 4 (by decide) fl_X4_24 rfl rfl dX4_drawMoves_20 ?_
    refine q_getN C kc3 hW 2 rfl 1 (by decide) nf_X4_82 rfl rfl dX4_drawMoves_23 ?_
    refine lv_iload_n hx hb dX4_drawMoves_26 rfl (lv_at hl 0 rfl) ?_
    refine lv_aload_n hx hb dX4_drawMoves_27 rfl (lv_at hl 1 rfl) ?_
    refine q_callV (rest := [.int (r_2 - r_2 / people * people), .ref (b 6)]) (n := 0) C (c_X4_draw l G b people taped waiting z_2 _ hv) ml_X4_92 kb_X4_draw rfl ⟨⟨rfl, rfl⟩, (Nat.le_of_ble_eq_true rfl), (Nat.le_of_ble_eq_true rfl)⟩ hW hS [0] rfl rfl kc4 (q0 := 0) rfl hl.1 rfl (Nat.le_of_ble_eq_true rfl) dX4_drawMoves_28 ⟨Nat.zero_le _, Nat.zero_le _⟩ (fun r_5 u_6 H locs hv hW hS => ?_)
    obtain ⟨z_5, rfl⟩ : ∃ z, z = u_6 := ⟨_, rfl⟩
    try dsimp only at hv
    have hW : wo G A (wd_X4_5 G b people taped waiting z_5 called day near shows) H := hW
    refine lv_bipush (v := 10) hx hb dX4_drawMoves_31 kbp_10 ?_
    obtain ⟨h_7, hv⟩ := hv
    refine lv_irem hx hb dX4_drawMoves_33 h_7 ?_
    obtain ⟨h_8, hv⟩ := hv
    refine q_iast C hW hS 4 rfl h_8 dX4_drawMoves_34 (fun H locs hW hS => ?_)
    have hW : wo G A (wd_X4_5 G b people taped waiting z_5 called day near (upd shows (r_2 - r_2 / people * people).toNatClampNeg (r_5 - r_5 / (10 : Int32) * (10 : Int32)))) H := hW
    refine lv_aload_n hx hb dX4_drawMoves_35 rfl (lv_at hl 1 rfl) ?_
    refine q_callV (rest := []) (n := 0) C (c_X4_draw l G b people taped waiting z_5 _ hv) ml_X4_92 kb_X4_draw rfl ⟨⟨rfl, rfl⟩, (Nat.le_of_ble_eq_true rfl), (Nat.le_of_ble_eq_true rfl)⟩ hW hS [0] rfl rfl kc4 (q0 := 0) rfl hl.1 rfl (Nat.le_of_ble_eq_true rfl) dX4_drawMoves_36 ⟨Nat.zero_le _, Nat.zero_le _⟩ (fun r_9 u_10 H locs hv hW hS => ?_)
    obtain ⟨z_9, rfl⟩ : ∃ z, z = u_10 := ⟨_, rfl⟩
    try dsimp only at hv
    have hW : wo G A (wd_X4_5 G b people taped waiting z_9 called day near (upd shows (r_2 - r_2 / people * people).toNatClampNeg (r_5 - r_5 / (10 : Int32) * (10 : Int32)))) H := hW
    refine lv_aload_n hx hb dX4_drawMoves_39 rfl (lv_at hl 1 rfl) ?_
    refine q_get C kc4 hW 0 rfl 0 (by decide) fl_X4_51 rfl rfl dX4_drawMoves_40 ?_
    obtain ⟨h_11, hv⟩ := hv
    refine lv_irem hx hb dX4_drawMoves_43 h_11 ?_
    refine lv_istore_n (lv' := [(2, .int (r_9 - r_9 / people * people)), (1, .int (r_2 - r_2 / people * people)), (0, .ref (b 0))]) hx hb dX4_drawMoves_44 rfl hl (by decide) rfl (fun ls hl => ?_)
    refine lv_aload_n hx hb dX4_drawMoves_45 rfl (lv_at hl 2 rfl) ?_
    refine q_callV (rest := []) (n := 0) C (c_X4_draw l G b people taped waiting z_9 _ hv) ml_X4_92 kb_X4_draw rfl ⟨⟨rfl, rfl⟩, (Nat.le_of_ble_eq_true rfl), (Nat.le_of_ble_eq_true rfl)⟩ hW hS [0] rfl rfl kc4 (q0 := 0) rfl hl.1 rfl (Nat.le_of_ble_eq_true rfl) dX4_drawMoves_46 ⟨Nat.zero_le _, Nat.zero_le _⟩ (fun r_12 u_13 H locs hv hW hS => ?_)
    obtain ⟨z_12, rfl⟩ : ∃ z, z = u_13 := ⟨_, rfl⟩
    try dsimp only at hv
    have hW : wo G A (wd_X4_5 G b people taped waiting z_12 called day near (upd shows (r_2 - r_2 / people * people).toNatClampNeg (r_5 - r_5 / (10 : Int32) * (10 : Int32)))) H := hW
    refine lv_aload_n hx hb dX4_drawMoves_49 rfl (lv_at hl 2 rfl) ?_
    refine q_get C kc4 hW 0 rfl 0 (by decide) fl_X4_51 rfl rfl dX4_drawMoves_50 ?_
    obtain ⟨h_14, hv⟩ := hv
    refine lv_irem hx hb dX4_drawMoves_53 h_14 ?_
    refine lv_istore_n (lv' := [(3, .int (r_12 - r_12 / people * people)), (2, .int (r_9 - r_9 / people * people)), (1, .int (r_2 - r_2 / people * people)), (0, .ref (b 0))]) hx hb dX4_drawMoves_54 rfl hl (by decide) rfl (fun ls hl => ?_)
    refine lv_iload_n hx hb dX4_drawMoves_55 rfl (lv_at hl 1 rfl) ?_
    refine lv_iload_n hx hb dX4_drawMoves_56 rfl (lv_at hl 0 rfl) ?_
    refine lv_icmp_eq (tgt := 67) hx hb dX4_drawMoves_57 (by decide) (fun c_15 => ?_) (fun c_15 => ?_)
    · replace hv := hv.1 c_15
      exact ret (z_12, called, near, (upd shows (r_2 - r_2 / people * people).toNatClampNeg (r_5 - r_5 / (10 : Int32) * (10 : Int32)))) H locs ls _ hW hS hv dX4_drawMoves_67
    · replace hv := hv.2 c_15
      refine lv_aload_n hx hb dX4_drawMoves_60 rfl (lv_at hl 3 rfl) ?_
      refine lv_iload_n hx hb dX4_drawMoves_61 rfl (lv_at hl 1 rfl) ?_
      refine lv_iload_n hx hb dX4_drawMoves_62 rfl (lv_at hl 0 rfl) ?_
      refine q_callV (rest := []) (n := 2) C (c_X4_meet l G b people taped waiting z_12 called day near (r_9 - r_9 / people * people) (r_12 - r_12 / people * people) _ hv) ml_X4_96 kb_X4_meet rfl ⟨⟨rfl, rfl⟩, (Nat.le_of_ble_eq_true rfl), (Nat.le_of_ble_eq_true rfl)⟩ hW hS [0, 1, 2, 3] rfl rfl kc4 (q0 := 0) rfl hl.1 rfl (Nat.le_of_ble_eq_true rfl) dX4_drawMoves_63 ⟨Nat.zero_le _, Nat.zero_le _⟩ (fun r_16 u_17 H locs hv hW hS => ?_)
      obtain ⟨called_16, near_16⟩ := u_17
      try dsimp only at hv
      have hW : wo G A (wd_X4_5 G b people taped waiting z_12 called_16 day near_16 (upd shows (r_2 - r_2 / people * people).toNatClampNeg (r_5 - r_5 / (10 : Int32) * (10 : Int32)))) H := hW
      refine lv_pop hx hb dX4_drawMoves_66 rfl ?_
      exact ret (z_12, called_16, near_16, (upd shows (r_2 - r_2 / people * people).toNatClampNeg (r_5 - r_5 / (10 : Int32) * (10 : Int32)))) H locs ls _ hW hS hv dX4_drawMoves_67
  · replace hv := hv.2 c_1
    exact ret (z, called, near, shows) H locs ls _ hW hS hv dX4_drawMoves_8
set_option maxHeartbeats 4000000 in
set_option maxRecDepth 100000 in
theorem c_X4_readsOf (l : Launch) (G : Gt) (p1 : Int32) (p2 : Int32) (p3 : Int32) (p4 : Int32) (p5 : Int32) (K : Int32 → Prop) (hv : v_X4_readsOf p1 p2 p3 p4 p5 K) : CI l G yX4_readsOf (.code yX4_readsOf cX4_readsOf 6 (some .int) :: wsG) (rmm 0 0) [.int p1, .int p2, .int p3, .int p4, .int p5] [] (S := Unit) (fun _ => []) (fun r u => K r) := by
  refine ci_intro (by decide) rfl (fun _ => rfl) (Nat.le_of_ble_eq_true rfl) ?_
  intro p e s m args below meth c A H ls Q C hW hS hl ret
  have hx := C.1.1
  have hb := C.1.2.1
  generalize hls : ([] : List Loc) = locs at hS ⊢
  have hl : lv_has ls 6 [(0, .int p1), (1, .int p2), (2, .int p3), (3, .int p4), (4, .int p5)] := hl
  refine lv_bipush (v := 10) hx hb dX4_readsOf_0 kbp_10 ?_
  refine lv_iload_n hx hb dX4_readsOf_2 rfl (lv_at hl 3 rfl) ?_
  refine lv_imul hx hb dX4_readsOf_3 ?_
  refine lv_istore (lv' := [(5, .int ((10 : Int32) * p4)), (0, .int p1), (1, .int p2), (2, .int p3), (3, .int p4), (4, .int p5)]) hx hb dX4_readsOf_4 hl (by decide) rfl (fun ls hl => ?_)
  refine lv_iload_n hx hb dX4_readsOf_6 rfl (lv_at hl 1 rfl) ?_
  by_cases c_1_0 : p1 = 1
  · replace hv := hv.1 c_1_0
    refine lv_tableIn (tgt := 44) hx hb dX4_readsOf_7 (by rw [c_1_0]; decide) (by rw [c_1_0]; decide) (by rw [c_1_0]; rfl) (by decide) ?_
    refine lv_iload hx hb dX4_readsOf_44 (lv_at hl 0 rfl) ?_
    refine lv_iconst (v := 5) hx hb dX4_readsOf_46 kic_5 ?_
    refine lv_iadd hx hb dX4_readsOf_47 ?_
    refine lv_iload_n hx hb dX4_readsOf_48 rfl (lv_at hl 2 rfl) ?_
    refine lv_iadd hx hb dX4_readsOf_49 ?_
    exact ret () ((((10 : Int32) * p4) + (5 : Int32)) + p2) H locs ls _ rfl hW hS hv dX4_readsOf_50
  · replace hv := hv.2 c_1_0
    by_cases c_1_1 : p1 = 2
    · replace hv := hv.1 c_1_1
      refine lv_tableIn (tgt := 51) hx hb dX4_readsOf_7 (by rw [c_1_1]; decide) (by rw [c_1_1]; decide) (by rw [c_1_1]; rfl) (by decide) ?_
      refine lv_iload hx hb dX4_readsOf_51 (lv_at hl 0 rfl) ?_
      refine lv_iload_n hx hb dX4_readsOf_53 rfl (lv_at hl 3 rfl) ?_
      refine lv_iadd hx hb dX4_readsOf_54 ?_
      refine lv_iconst (v := 2) hx hb dX4_readsOf_55 kic_2 ?_
      obtain ⟨h_2, hv⟩ := hv
      refine lv_idiv hx hb dX4_readsOf_56 h_2 ?_
      exact ret () ((((10 : Int32) * p4) + p3) / (2 : Int32)) H locs ls _ rfl hW hS hv dX4_readsOf_57
    · replace hv := hv.2 c_1_1
      by_cases c_1_2 : p1 = 3
      · replace hv := hv.1 c_1_2
        refine lv_tableIn (tgt := 58) hx hb dX4_readsOf_7 (by rw [c_1_2]; decide) (by rw [c_1_2]; decide) (by rw [c_1_2]; rfl) (by decide) ?_
        refine lv_bipush (v := 99) hx hb dX4_readsOf_58 kbp_99 ?_
        refine lv_iload hx hb dX4_readsOf_60 (lv_at hl 0 rfl) ?_
        refine lv_isub hx hb dX4_readsOf_62 ?_
        exact ret () ((99 : Int32) - ((10 : Int32) * p4)) H locs ls _ rfl hW hS hv dX4_readsOf_63
      · replace hv := hv.2 c_1_2
        by_cases c_1_3 : p1 = 4
        · replace hv := hv.1 c_1_3
          refine lv_tableIn (tgt := 64) hx hb dX4_readsOf_7 (by rw [c_1_3]; decide) (by rw [c_1_3]; decide) (by rw [c_1_3]; rfl) (by decide) ?_
          refine lv_iload hx hb dX4_readsOf_64 (lv_at hl 0 rfl) ?_
          refine lv_iconst (v := 5) hx hb dX4_readsOf_66 kic_5 ?_
          refine lv_iadd hx hb dX4_readsOf_67 ?_
          refine lv_iload_n hx hb dX4_readsOf_68 rfl (lv_at hl 2 rfl) ?_
          refine lv_iadd hx hb dX4_readsOf_69 ?_
          refine lv_iload hx hb dX4_readsOf_70 (lv_at hl 5 rfl) ?_
          refine lv_bipush (v := 7) hx hb dX4_readsOf_72 kbp_7 ?_
          obtain ⟨h_3, hv⟩ := hv
          refine lv_irem hx hb dX4_readsOf_74 h_3 ?_
          refine lv_iadd hx hb dX4_readsOf_75 ?_
          exact ret () (((((10 : Int32) * p4) + (5 : Int32)) + p2) + (p5 - p5 / (7 : Int32) * (7 : Int32))) H locs ls _ rfl hW hS hv dX4_readsOf_76
        · replace hv := hv.2 c_1_3
          by_cases c_1_4 : p1 = 5
          · replace hv := hv.1 c_1_4
            refine lv_tableIn (tgt := 77) hx hb dX4_readsOf_7 (by rw [c_1_4]; decide) (by rw [c_1_4]; decide) (by rw [c_1_4]; rfl) (by decide) ?_
            refine lv_bipush (v := 11) hx hb dX4_readsOf_77 kbp_11 ?_
            refine lv_iload_n hx hb dX4_readsOf_79 rfl (lv_at hl 2 rfl) ?_
            refine lv_imul hx hb dX4_readsOf_80 ?_
            exact ret () ((11 : Int32) * p2) H locs ls _ rfl hW hS hv dX4_readsOf_81
          · replace hv := hv.2 c_1_4
            by_cases c_1_5 : p1 = 6
            · replace hv := hv.1 c_1_5
              refine lv_tableIn (tgt := 82) hx hb dX4_readsOf_7 (by rw [c_1_5]; decide) (by rw [c_1_5]; decide) (by rw [c_1_5]; rfl) (by decide) ?_
              refine lv_iload_n hx hb dX4_readsOf_82 rfl (lv_at hl 4 rfl) ?_
              refine lv_if_ne (tgt := 93) hx hb dX4_readsOf_83 (by decide) (fun c_4 => ?_) (fun c_4 => ?_)
              · replace hv := hv.1 c_4
                refine lv_iload hx hb dX4_readsOf_93 (lv_at hl 0 rfl) ?_
                exact ret () ((10 : Int32) * p4) H locs ls _ rfl hW hS hv dX4_readsOf_95
              · replace hv := hv.2 c_4
                refine lv_bipush (v := 90) hx hb dX4_readsOf_86 kbp_90 ?_
                refine lv_iload_n hx hb dX4_readsOf_88 rfl (lv_at hl 2 rfl) ?_
                refine lv_isub hx hb dX4_readsOf_89 ?_
                refine lv_goto (tgt := 95) hx hb dX4_readsOf_90 (by decide) ?_
                exact ret () ((90 : Int32) - p2) H locs ls _ rfl hW hS hv dX4_readsOf_95
            · replace hv := hv.2 c_1_5
              refine sw_row (tgt := 96) hx hb dX4_readsOf_7 rfl (lt_s (lt_s (lt_s (lt_s (lt_s (lt_s lt_0 (Or.inr (lv_neT c_1_0 rfl))) (Or.inr (lv_neT c_1_1 rfl))) (Or.inr (lv_neT c_1_2 rfl))) (Or.inr (lv_neT c_1_3 rfl))) (Or.inr (lv_neT c_1_4 rfl))) (Or.inr (lv_neT c_1_5 rfl))) (by decide) ?_
              refine lv_iload hx hb dX4_readsOf_96 (lv_at hl 0 rfl) ?_
              exact ret () ((10 : Int32) * p4) H locs ls _ rfl hW hS hv dX4_readsOf_98
set_option maxHeartbeats 4000000 in
set_option maxRecDepth 100000 in
theorem c_X4_takenBy (l : Launch) (G : Gt) (b : Nat → Nat) (people : Int32) (taped : Int32) (waiting : Int32) (z : Int32) (kind : Nat → Int32) (em : Nat → Int32) (tmost : Int32) (tsize : Int32) (tsteps : Nat → Int32) (tstack : Nat → Int32) (p1 : Int32) (p2 : Int32) (p3 : Int32) (p4 : Int32) (K : Int32 → (Nat → Int32) → Prop) (hv : v_X4_takenBy p1 p2 p3 p4 kind em tmost tsize tsteps tstack K) : CI l G yX4_takenBy (.code yX4_takenBy cX4_takenBy 5 (some .int) :: wsG) (rmm 2 49) [.ref (b 0), .int p1, .int p2, .int p3, .int p4] (wd_X4_6 G b people taped waiting z kind em tmost tsize tsteps tstack) (S := (Nat → Int32)) (fun u => wd_X4_6 G b people taped waiting z kind em tmost tsize tsteps u) (fun r u => K r u) := by
  refine ci_intro (by decide) rfl (fun _ => rfl) (Nat.le_of_ble_eq_true rfl) ?_
  intro p e s m args below meth c A H ls Q C hW hS hl ret
  have hx := C.1.1
  have hb := C.1.2.1
  generalize hls : ([] : List Loc) = locs at hS ⊢
  have hl : lv_has ls 5 [(0, .ref (b 0)), (1, .int p1), (2, .int p2), (3, .int p3), (4, .int p4)] := hl
  refine lv_aload_n hx hb dX4_takenBy_0 rfl (lv_at hl 0 rfl) ?_
  refine q_get C kc4 hW 0 rfl 5 (by decide) fl_X4_33 rfl rfl dX4_takenBy_1 ?_
  refine lv_aload_n hx hb dX4_takenBy_4 rfl (lv_at hl 0 rfl) ?_
  refine q_get C kc4 hW 0 rfl 1 (by decide) fl_X4_9 rfl rfl dX4_takenBy_5 ?_
  refine lv_iload_n hx hb dX4_takenBy_8 rfl (lv_at hl 1 rfl) ?_
  obtain ⟨h_1, hv⟩ := hv
  refine q_iald C hW 1 rfl h_1 dX4_takenBy_9 ?_
  refine lv_aload_n hx hb dX4_takenBy_10 rfl (lv_at hl 0 rfl) ?_
  refine q_get C kc4 hW 0 rfl 2 (by decide) fl_X4_15 rfl rfl dX4_takenBy_11 ?_
  refine lv_iload_n hx hb dX4_takenBy_14 rfl (lv_at hl 1 rfl) ?_
  obtain ⟨h_2, hv⟩ := hv
  refine q_iald C hW 2 rfl h_2 dX4_takenBy_15 ?_
  refine lv_iload_n hx hb dX4_takenBy_16 rfl (lv_at hl 2 rfl) ?_
  refine lv_iload_n hx hb dX4_takenBy_17 rfl (lv_at hl 3 rfl) ?_
  refine lv_iload hx hb dX4_takenBy_18 (lv_at hl 4 rfl) ?_
  refine q_callS (rest := [.ref (b 7)]) (n := 5) C (c_X4_readsOf l G (kind p1.toNatClampNeg) (em p1.toNatClampNeg) p2 p3 p4 _ hv) ml_X4_99 kb_X4_readsOf rfl ⟨⟨rfl, rfl⟩, (Nat.le_of_ble_eq_true rfl), (Nat.le_of_ble_eq_true rfl)⟩ hW hS hl.1 rfl (Nat.le_of_ble_eq_true rfl) dX4_takenBy_20 ⟨Nat.zero_le _, Nat.zero_le _⟩ (fun r_3 u_4 H locs hv hW hS => ?_)
  try dsimp only at hv
  refine lv_iload_n hx hb dX4_takenBy_23 rfl (lv_at hl 2 rfl) ?_
  refine lv_iload_n hx hb dX4_takenBy_24 rfl (lv_at hl 3 rfl) ?_
  refine q_callN (rest := []) (n := 3) C (c_X0_gives l G (fun k => b (k + 7)) tmost tsize tsteps tstack r_3 p2 p3 _ hv) nm_X4_103 kb_X0_gives rfl ⟨⟨rfl, rfl⟩, (Nat.le_of_ble_eq_true rfl), (Nat.le_of_ble_eq_true rfl)⟩ hW hS [3, 4, 5] rfl rfl kc0 (q0 := 3) rfl hl.1 rfl (Nat.le_of_ble_eq_true rfl) dX4_takenBy_25 ⟨Nat.zero_le _, Nat.zero_le _⟩ (fun r_5 u_6 H locs hv hW hS => ?_)
  obtain ⟨tstack_5, rfl⟩ : ∃ z, z = u_6 := ⟨_, rfl⟩
  try dsimp only at hv
  have hW : wo G A (wd_X4_6 G b people taped waiting z kind em tmost tsize tsteps tstack_5) H := hW
  exact ret (tstack_5) r_5 H locs ls _ rfl hW hS hv dX4_takenBy_28
set_option maxHeartbeats 4000000 in
set_option maxRecDepth 100000 in
theorem c_X4_tellsOf (l : Launch) (G : Gt) (p1 : Int32) (p2 : Int32) (p3 : Int32) (p4 : Int32) (K : Int32 → Prop) (hv : v_X4_tellsOf p1 p2 p3 p4 K) : CI l G yX4_tellsOf (.code yX4_tellsOf cX4_tellsOf 5 (some .int) :: wsG) (rmm 0 0) [.int p1, .int p2, .int p3, .int p4] [] (S := Unit) (fun _ => []) (fun r u => K r) := by
  refine ci_intro (by decide) rfl (fun _ => rfl) (Nat.le_of_ble_eq_true rfl) ?_
  intro p e s m args below meth c A H ls Q C hW hS hl ret
  have hx := C.1.1
  have hb := C.1.2.1
  generalize hls : ([] : List Loc) = locs at hS ⊢
  have hl : lv_has ls 5 [(0, .int p1), (1, .int p2), (2, .int p3), (3, .int p4)] := hl
  have h_j_X4_tellsOf_12 : ∀ (t0 : Int32) (t1 : Int32) (H : Heap) (locs : List Loc) (ls : Array Slot), t1 = 0 ∨ t1 = 1 → wo G A (wd_J1_0 G) H → va_S A s.heap H locs → lv_has ls 5 [(0, .int p1), (1, .int p2), (2, .int p3), (3, .int p4)] → j_X4_tellsOf_12 p1 p2 p3 p4 K t0 t1 → W p l e (rmm 0 0) s m args below meth c H locs 0 0 Q (F0 m 12 ls [.int t1, .int t0]) := by
    intro t0 t1 H locs ls hz_t1 hW hS hl hv
    refine lv_iadd hx hb dX4_tellsOf_12 ?_
    refine lv_istore (lv' := [(4, .int (t0 + t1)), (0, .int p1), (1, .int p2), (2, .int p3), (3, .int p4)]) hx hb dX4_tellsOf_13 hl (by decide) rfl (fun ls hl => ?_)
    refine lv_iload_n hx hb dX4_tellsOf_15 rfl (lv_at hl 1 rfl) ?_
    by_cases c_2_0 : p1 = 1
    · replace hv := hv.1 c_2_0
      refine lv_tableIn (tgt := 56) hx hb dX4_tellsOf_16 (by rw [c_2_0]; decide) (by rw [c_2_0]; decide) (by rw [c_2_0]; rfl) (by decide) ?_
      refine lv_iload hx hb dX4_tellsOf_56 (lv_at hl 0 rfl) ?_
      exact ret () (t0 + t1) H locs ls _ rfl hW hS hv dX4_tellsOf_58
    · replace hv := hv.2 c_2_0
      by_cases c_2_1 : p1 = 2
      · replace hv := hv.1 c_2_1
        refine lv_tableIn (tgt := 59) hx hb dX4_tellsOf_16 (by rw [c_2_1]; decide) (by rw [c_2_1]; decide) (by rw [c_2_1]; rfl) (by decide) ?_
        refine lv_iload_n hx hb dX4_tellsOf_59 rfl (lv_at hl 3 rfl) ?_
        refine lv_iconst (v := 1) hx hb dX4_tellsOf_60 kic_1 ?_
        refine lv_isub hx hb dX4_tellsOf_61 ?_
        exact ret () (p3 - (1 : Int32)) H locs ls _ rfl hW hS hv dX4_tellsOf_62
      · replace hv := hv.2 c_2_1
        by_cases c_2_2 : p1 = 4
        · replace hv := hv.1 c_2_2
          refine lv_tableIn (tgt := 63) hx hb dX4_tellsOf_16 (by rw [c_2_2]; decide) (by rw [c_2_2]; decide) (by rw [c_2_2]; rfl) (by decide) ?_
          refine lv_iload hx hb dX4_tellsOf_63 (lv_at hl 0 rfl) ?_
          refine lv_iload_n hx hb dX4_tellsOf_65 rfl (lv_at hl 4 rfl) ?_
          refine lv_iconst (v := 3) hx hb dX4_tellsOf_66 kic_3 ?_
          obtain ⟨h_3, hv⟩ := hv
          refine lv_irem hx hb dX4_tellsOf_67 h_3 ?_
          refine lv_if_ne (tgt := 75) hx hb dX4_tellsOf_68 (by decide) (fun c_4 => ?_) (fun c_4 => ?_)
          · replace hv := hv.1 c_4
            refine lv_iconst (v := 0) hx hb dX4_tellsOf_75 kic_0 ?_
            refine lv_iadd hx hb dX4_tellsOf_76 ?_
            exact ret () ((t0 + t1) + (0 : Int32)) H locs ls _ rfl hW hS hv dX4_tellsOf_77
          · replace hv := hv.2 c_4
            refine lv_iconst (v := 1) hx hb dX4_tellsOf_71 kic_1 ?_
            refine lv_goto (tgt := 76) hx hb dX4_tellsOf_72 (by decide) ?_
            refine lv_iadd hx hb dX4_tellsOf_76 ?_
            exact ret () ((t0 + t1) + (1 : Int32)) H locs ls _ rfl hW hS hv dX4_tellsOf_77
        · replace hv := hv.2 c_2_2
          by_cases c_2_3 : p1 = 5
          · replace hv := hv.1 c_2_3
            refine lv_tableIn (tgt := 78) hx hb dX4_tellsOf_16 (by rw [c_2_3]; decide) (by rw [c_2_3]; decide) (by rw [c_2_3]; rfl) (by decide) ?_
            refine lv_iload_n hx hb dX4_tellsOf_78 rfl (lv_at hl 2 rfl) ?_
            refine lv_bipush (v := 10) hx hb dX4_tellsOf_79 kbp_10 ?_
            obtain ⟨h_5, hv⟩ := hv
            refine lv_idiv hx hb dX4_tellsOf_81 h_5 ?_
            exact ret () (p2 / (10 : Int32)) H locs ls _ rfl hW hS hv dX4_tellsOf_82
          · replace hv := hv.2 c_2_3
            by_cases c_2_4 : p1 = 6
            · replace hv := hv.1 c_2_4
              refine lv_tableIn (tgt := 83) hx hb dX4_tellsOf_16 (by rw [c_2_4]; decide) (by rw [c_2_4]; decide) (by rw [c_2_4]; rfl) (by decide) ?_
              refine lv_iconst (v := 0) hx hb dX4_tellsOf_83 kic_0 ?_
              exact ret () (0 : Int32) H locs ls _ rfl hW hS hv dX4_tellsOf_84
            · replace hv := hv.2 c_2_4
              refine sw_row (tgt := 85) hx hb dX4_tellsOf_16 rfl (lt_s (lt_s (lt_s (lt_s (lt_s (lt_s lt_0 (Or.inr (lv_neT c_2_0 rfl))) (Or.inr (lv_neT c_2_1 rfl))) (Or.inl rfl)) (Or.inr (lv_neT c_2_2 rfl))) (Or.inr (lv_neT c_2_3 rfl))) (Or.inr (lv_neT c_2_4 rfl))) (by decide) ?_
              refine lv_iload_n hx hb dX4_tellsOf_85 rfl (lv_at hl 3 rfl) ?_
              exact ret () p3 H locs ls _ rfl hW hS hv dX4_tellsOf_86
  refine lv_iload_n hx hb dX4_tellsOf_0 rfl (lv_at hl 2 rfl) ?_
  refine lv_iload_n hx hb dX4_tellsOf_1 rfl (lv_at hl 1 rfl) ?_
  refine lv_bipush (v := 50) hx hb dX4_tellsOf_2 kbp_50 ?_
  refine lv_icmp_le (tgt := 11) hx hb dX4_tellsOf_4 (by decide) (fun c_1 => ?_) (fun c_1 => ?_)
  · replace hv := hv.1 c_1
    refine lv_iconst (v := 0) hx hb dX4_tellsOf_11 kic_0 ?_
    exact h_j_X4_tellsOf_12 p3 (0 : Int32) H locs ls (Or.inl rfl) hW hS (lv_sub hl [0, 1, 2, 3] rfl) hv
  · replace hv := hv.2 c_1
    refine lv_iconst (v := 1) hx hb dX4_tellsOf_7 kic_1 ?_
    refine lv_goto (tgt := 12) hx hb dX4_tellsOf_8 (by decide) ?_
    exact h_j_X4_tellsOf_12 p3 (1 : Int32) H locs ls (Or.inr rfl) hW hS (lv_sub hl [0, 1, 2, 3] rfl) hv
set_option maxHeartbeats 4000000 in
set_option maxRecDepth 100000 in
theorem c_X4_signOf (l : Launch) (G : Gt) (b : Nat → Nat) (bc : Nat → Nat) (people : Int32) (taped : Int32) (waiting : Int32) (z : Int32) (kind : Nat → Int32) (gmost : Int32) (gsize : Int32) (gsteps : Nat → Int32) (gstack : Nat → Int32) (c_day : Int32) (c_near : Nat → Int32) (c_shows : Nat → Int32) (p1 : Int32) (K : Int32 → (Nat → Int32) → Prop) (hv : v_X4_signOf p1 kind gmost gsize gsteps gstack c_day c_near c_shows K) : CI l G yX4_signOf (.code yX4_signOf cX4_signOf 4 (some .int) :: wsG) (rmm 2 49) [.ref (b 0), .int p1, .ref (bc 0)] (wd_X4_7 G b bc people taped waiting z kind gmost gsize gsteps gstack c_day c_near c_shows) (S := (Nat → Int32)) (fun u => wd_X4_7 G b bc people taped waiting z kind gmost gsize gsteps u c_day c_near c_shows) (fun r u => K r u) := by
  refine ci_intro (by decide) rfl (fun _ => rfl) (Nat.le_of_ble_eq_true rfl) ?_
  intro p e s m args below meth c A H ls Q C hW hS hl ret
  have hx := C.1.1
  have hb := C.1.2.1
  generalize hls : ([] : List Loc) = locs at hS ⊢
  have hl : lv_has ls 4 [(0, .ref (b 0)), (1, .int p1), (2, .ref (bc 0))] := hl
  refine lv_aload_n hx hb dX4_signOf_0 rfl (lv_at hl 0 rfl) ?_
  refine q_get C kc4 hW 0 rfl 1 (by decide) fl_X4_9 rfl rfl dX4_signOf_1 ?_
  refine lv_iload_n hx hb dX4_signOf_4 rfl (lv_at hl 1 rfl) ?_
  obtain ⟨h_1, hv⟩ := hv
  refine q_iald C hW 1 rfl h_1 dX4_signOf_5 ?_
  refine lv_aload_n hx hb dX4_signOf_6 rfl (lv_at hl 2 rfl) ?_
  refine q_getN C kc3 hW 5 rfl 0 (by decide) nf_X4_79 rfl rfl dX4_signOf_7 ?_
  refine lv_iload_n hx hb dX4_signOf_10 rfl (lv_at hl 1 rfl) ?_
  obtain ⟨h_2, hv⟩ := hv
  refine q_iald C hW 6 rfl h_2 dX4_signOf_11 ?_
  refine lv_aload_n hx hb dX4_signOf_12 rfl (lv_at hl 2 rfl) ?_
  refine q_getN C kc3 hW 5 rfl 1 (by decide) nf_X4_82 rfl rfl dX4_signOf_13 ?_
  refine lv_iload_n hx hb dX4_signOf_16 rfl (lv_at hl 1 rfl) ?_
  obtain ⟨h_3, hv⟩ := hv
  refine q_iald C hW 7 rfl h_3 dX4_signOf_17 ?_
  refine lv_aload_n hx hb dX4_signOf_18 rfl (lv_at hl 2 rfl) ?_
  refine q_getN C kc3 hW 5 rfl 2 (by decide) nf_X4_107 rfl rfl dX4_signOf_19 ?_
  refine q_callS (rest := []) (n := 4) C (c_X4_tellsOf l G (kind p1.toNatClampNeg) (c_near p1.toNatClampNeg) (c_shows p1.toNatClampNeg) c_day _ hv) ml_X4_110 kb_X4_tellsOf rfl ⟨⟨rfl, rfl⟩, (Nat.le_of_ble_eq_true rfl), (Nat.le_of_ble_eq_true rfl)⟩ hW hS hl.1 rfl (Nat.le_of_ble_eq_true rfl) dX4_signOf_22 ⟨Nat.zero_le _, Nat.zero_le _⟩ (fun r_4 u_5 H locs hv hW hS => ?_)
  try dsimp only at hv
  refine lv_istore_n (lv' := [(3, .int r_4), (0, .ref (b 0)), (1, .int p1), (2, .ref (bc 0))]) hx hb dX4_signOf_25 rfl hl (by decide) rfl (fun ls hl => ?_)
  refine lv_aload_n hx hb dX4_signOf_26 rfl (lv_at hl 1 rfl) ?_
  refine q_get C kc4 hW 0 rfl 6 (by decide) fl_X4_37 rfl rfl dX4_signOf_27 ?_
  refine lv_iload_n hx hb dX4_signOf_30 rfl (lv_at hl 0 rfl) ?_
  refine lv_aload_n hx hb dX4_signOf_31 rfl (lv_at hl 3 rfl) ?_
  refine q_getN C kc3 hW 5 rfl 0 (by decide) nf_X4_79 rfl rfl dX4_signOf_32 ?_
  refine lv_iload_n hx hb dX4_signOf_35 rfl (lv_at hl 2 rfl) ?_
  obtain ⟨h_6, hv⟩ := hv
  refine q_iald C hW 6 rfl h_6 dX4_signOf_36 ?_
  refine lv_aload_n hx hb dX4_signOf_37 rfl (lv_at hl 3 rfl) ?_
  refine q_getN C kc3 hW 5 rfl 2 (by decide) nf_X4_107 rfl rfl dX4_signOf_38 ?_
  refine lv_bipush (v := 7) hx hb dX4_signOf_41 kbp_7 ?_
  obtain ⟨h_7, hv⟩ := hv
  refine lv_irem hx hb dX4_signOf_43 h_7 ?_
  refine q_callN (rest := []) (n := 3) C (c_X0_gives l G (fun k => b (k + 10)) gmost gsize gsteps gstack r_4 (c_near p1.toNatClampNeg) (c_day - c_day / (7 : Int32) * (7 : Int32)) _ hv) nm_X4_103 kb_X0_gives rfl ⟨⟨rfl, rfl⟩, (Nat.le_of_ble_eq_true rfl), (Nat.le_of_ble_eq_true rfl)⟩ hW hS [2, 3, 4] rfl rfl kc0 (q0 := 2) rfl hl.1 rfl (Nat.le_of_ble_eq_true rfl) dX4_signOf_44 ⟨Nat.zero_le _, Nat.zero_le _⟩ (fun r_8 u_9 H locs hv hW hS => ?_)
  obtain ⟨gstack_8, rfl⟩ : ∃ z, z = u_9 := ⟨_, rfl⟩
  try dsimp only at hv
  have hW : wo G A (wd_X4_7 G b bc people taped waiting z kind gmost gsize gsteps gstack_8 c_day c_near c_shows) H := hW
  exact ret (gstack_8) r_8 H locs ls _ rfl hW hS hv dX4_signOf_47
set_option maxHeartbeats 4000000 in
set_option maxRecDepth 100000 in
theorem c_X4_nearAfter (l : Launch) (G : Gt) (b : Nat → Nat) (bc : Nat → Nat) (people : Int32) (taped : Int32) (waiting : Int32) (z : Int32) (kind : Nat → Int32) (em : Nat → Int32) (tmost : Int32) (tsize : Int32) (tsteps : Nat → Int32) (tstack : Nat → Int32) (c_day : Int32) (c_near : Nat → Int32) (c_shows : Nat → Int32) (p1 : Int32) (K : Int32 → (Nat → Int32) → Prop) (hv : v_X4_nearAfter p1 people kind em tmost tsize tsteps tstack c_day c_near c_shows K) : CI l G yX4_nearAfter (.code yX4_nearAfter cX4_nearAfter 5 (some .int) :: wsG) (rmm 3 73) [.ref (b 0), .int p1, .ref (bc 0)] (wd_X4_8 G b bc people taped waiting z kind em tmost tsize tsteps tstack c_day c_near c_shows) (S := (Nat → Int32)) (fun u => wd_X4_8 G b bc people taped waiting z kind em tmost tsize tsteps u c_day c_near c_shows) (fun r u => K r u) := by
  refine ci_intro (by decide) rfl (fun _ => rfl) (Nat.le_of_ble_eq_true rfl) ?_
  intro p e s m args below meth c A H ls Q C hW hS hl ret
  have hx := C.1.1
  have hb := C.1.2.1
  generalize hls : ([] : List Loc) = locs at hS ⊢
  have hl : lv_has ls 5 [(0, .ref (b 0)), (1, .int p1), (2, .ref (bc 0))] := hl
  have h_j_X4_nearAfter_60 : ∀ (B20 : Int32 → Int32 → (Nat → Int32) → Prop) (hB20 : ∀ (x3 : Int32) (x4 : Int32) (tstack : Nat → Int32) (H : Heap) (locs : List Loc) (ls : Array Slot), wo G A (wd_X4_8 G b bc people taped waiting z kind em tmost tsize tsteps tstack c_day c_near c_shows) H → va_S A s.heap H locs → lv_has ls 5 [(0, .ref (b 0)), (1, .int p1), (2, .ref (bc 0)), (3, .int x3), (4, .int x4)] → B20 x3 x4 tstack → W p l e (rmm 3 73) s m args below meth c H locs 0 0 Q (F0 m 20 ls [])), ∀ (x3 : Int32) (x4 : Int32) (tstack : Nat → Int32) (H : Heap) (locs : List Loc) (ls : Array Slot), wo G A (wd_X4_8 G b bc people taped waiting z kind em tmost tsize tsteps tstack c_day c_near c_shows) H → va_S A s.heap H locs → lv_has ls 5 [(0, .ref (b 0)), (1, .int p1), (2, .ref (bc 0)), (3, .int x3), (4, .int x4)] → j_X4_nearAfter_60 p1 people kind em tmost tsize tsteps c_day c_near c_shows B20 K x3 x4 tstack → W p l e (rmm 3 73) s m args below meth c H locs 0 0 Q (F0 m 60 ls []) := by
    intro B20 hB20 x3 x4 tstack H locs ls hW hS hl hv
    refine lv_iinc (v := (x4 + 1)) (lv' := [(4, .int (x4 + 1)), (0, .ref (b 0)), (1, .int p1), (2, .ref (bc 0)), (3, .int x3)]) hx hb dX4_nearAfter_60 hl (k := 4) rfl rfl (by decide) rfl (fun ls hl => ?_)
    refine lv_goto (tgt := 20) hx hb dX4_nearAfter_63 (by decide) ?_
    exact hB20 x3 (x4 + 1) tstack H locs ls hW hS (lv_sub hl [1, 2, 3, 4, 0] rfl) hv
  have h_l_X4_nearAfter_20 : ∀ (n : Nat), ∀ (x3 : Int32) (x4 : Int32) (tstack : Nat → Int32) (H : Heap) (locs : List Loc) (ls : Array Slot), wo G A (wd_X4_8 G b bc people taped waiting z kind em tmost tsize tsteps tstack c_day c_near c_shows) H → va_S A s.heap H locs → lv_has ls 5 [(0, .ref (b 0)), (1, .int p1), (2, .ref (bc 0)), (3, .int x3), (4, .int x4)] → l_X4_nearAfter_20 p1 people kind em tmost tsize tsteps c_day c_near c_shows K n x3 x4 tstack → W p l e (rmm 3 73) s m args below meth c H locs 0 0 Q (F0 m 20 ls []) := by
    intro n
    induction n with
    | zero =>
      intro x3 x4 tstack H locs ls hW hS hl hv
      exact False.elim hv
    | succ n ih =>
      intro x3 x4 tstack H locs ls hW hS hl hv
      refine lv_iload hx hb dX4_nearAfter_20 (lv_at hl 4 rfl) ?_
      refine lv_aload_n hx hb dX4_nearAfter_22 rfl (lv_at hl 0 rfl) ?_
      refine q_get C kc4 hW 0 rfl 0 (by decide) fl_X4_51 rfl rfl dX4_nearAfter_23 ?_
      refine lv_icmp_ge (tgt := 66) hx hb dX4_nearAfter_26 (by decide) (fun c_2 => ?_) (fun c_2 => ?_)
      · replace hv := hv.1 c_2
        refine lv_iload_n hx hb dX4_nearAfter_66 rfl (lv_at hl 3 rfl) ?_
        refine lv_aload_n hx hb dX4_nearAfter_67 rfl (lv_at hl 0 rfl) ?_
        refine q_get C kc4 hW 0 rfl 0 (by decide) fl_X4_51 rfl rfl dX4_nearAfter_68 ?_
        refine lv_iconst (v := 1) hx hb dX4_nearAfter_71 kic_1 ?_
        refine lv_isub hx hb dX4_nearAfter_72 ?_
        obtain ⟨h_3, hv⟩ := hv
        refine lv_idiv hx hb dX4_nearAfter_73 h_3 ?_
        exact ret (tstack) (x3 / (people - (1 : Int32))) H locs ls _ rfl hW hS hv dX4_nearAfter_74
      · replace hv := hv.2 c_2
        refine lv_iload hx hb dX4_nearAfter_29 (lv_at hl 4 rfl) ?_
        refine lv_iload_n hx hb dX4_nearAfter_31 rfl (lv_at hl 1 rfl) ?_
        refine lv_icmp_eq (tgt := 60) hx hb dX4_nearAfter_32 (by decide) (fun c_4 => ?_) (fun c_4 => ?_)
        · replace hv := hv.1 c_4
          exact h_j_X4_nearAfter_60 (fun x3' x4' tstack' => l_X4_nearAfter_20 p1 people kind em tmost tsize tsteps c_day c_near c_shows K n x3' x4' tstack') ih x3 x4 tstack H locs ls hW hS (lv_sub hl [0, 1, 2, 3, 4] rfl) hv
        · replace hv := hv.2 c_4
          refine lv_iload_n hx hb dX4_nearAfter_35 rfl (lv_at hl 3 rfl) ?_
          refine lv_aload_n hx hb dX4_nearAfter_36 rfl (lv_at hl 0 rfl) ?_
          refine lv_iload hx hb dX4_nearAfter_37 (lv_at hl 4 rfl) ?_
          refine lv_aload_n hx hb dX4_nearAfter_39 rfl (lv_at hl 2 rfl) ?_
          refine q_getN C kc3 hW 6 rfl 0 (by decide) nf_X4_79 rfl rfl dX4_nearAfter_40 ?_
          refine lv_iload_n hx hb dX4_nearAfter_43 rfl (lv_at hl 1 rfl) ?_
          obtain ⟨h_5, hv⟩ := hv
          refine q_iald C hW 7 rfl h_5 dX4_nearAfter_44 ?_
          refine lv_aload_n hx hb dX4_nearAfter_45 rfl (lv_at hl 2 rfl) ?_
          refine q_getN C kc3 hW 6 rfl 1 (by decide) nf_X4_82 rfl rfl dX4_nearAfter_46 ?_
          refine lv_iload_n hx hb dX4_nearAfter_49 rfl (lv_at hl 1 rfl) ?_
          obtain ⟨h_6, hv⟩ := hv
          refine q_iald C hW 8 rfl h_6 dX4_nearAfter_50 ?_
          refine lv_aload_n hx hb dX4_nearAfter_51 rfl (lv_at hl 2 rfl) ?_
          refine q_getN C kc3 hW 6 rfl 2 (by decide) nf_X4_107 rfl rfl dX4_nearAfter_52 ?_
          refine q_callV (rest := [.int x3]) (n := 4) C (c_X4_takenBy l G b people taped waiting z kind em tmost tsize tsteps tstack x4 (c_near p1.toNatClampNeg) (c_shows p1.toNatClampNeg) c_day _ hv) ml_X4_114 kb_X4_takenBy rfl ⟨⟨rfl, rfl⟩, (Nat.le_of_ble_eq_true rfl), (Nat.le_of_ble_eq_true rfl)⟩ hW hS [0, 1, 2, 3, 4, 5] rfl rfl kc4 (q0 := 0) rfl hl.1 rfl (Nat.le_of_ble_eq_true rfl) dX4_nearAfter_55 ⟨Nat.zero_le _, Nat.zero_le _⟩ (fun r_7 u_8 H locs hv hW hS => ?_)
          obtain ⟨tstack_7, rfl⟩ : ∃ z, z = u_8 := ⟨_, rfl⟩
          try dsimp only at hv
          have hW : wo G A (wd_X4_8 G b bc people taped waiting z kind em tmost tsize tsteps tstack_7 c_day c_near c_shows) H := hW
          refine lv_iadd hx hb dX4_nearAfter_58 ?_
          refine lv_istore_n (lv' := [(3, .int (x3 + r_7)), (0, .ref (b 0)), (1, .int p1), (2, .ref (bc 0)), (4, .int x4)]) hx hb dX4_nearAfter_59 rfl hl (by decide) rfl (fun ls hl => ?_)
          exact h_j_X4_nearAfter_60 (fun x3' x4' tstack' => l_X4_nearAfter_20 p1 people kind em tmost tsize tsteps c_day c_near c_shows K n x3' x4' tstack') ih (x3 + r_7) x4 tstack_7 H locs ls hW hS (lv_sub hl [1, 2, 3, 0, 4] rfl) hv
  refine lv_aload_n hx hb dX4_nearAfter_0 rfl (lv_at hl 0 rfl) ?_
  refine q_get C kc4 hW 0 rfl 0 (by decide) fl_X4_51 rfl rfl dX4_nearAfter_1 ?_
  refine lv_iconst (v := 2) hx hb dX4_nearAfter_4 kic_2 ?_
  refine lv_icmp_ge (tgt := 15) hx hb dX4_nearAfter_5 (by decide) (fun c_1 => ?_) (fun c_1 => ?_)
  · replace hv := hv.1 c_1
    refine lv_iconst (v := 0) hx hb dX4_nearAfter_15 kic_0 ?_
    refine lv_istore_n (lv' := [(3, .int (0 : Int32)), (0, .ref (b 0)), (1, .int p1), (2, .ref (bc 0))]) hx hb dX4_nearAfter_16 rfl hl (by decide) rfl (fun ls hl => ?_)
    refine lv_iconst (v := 0) hx hb dX4_nearAfter_17 kic_0 ?_
    refine lv_istore (lv' := [(4, .int (0 : Int32)), (3, .int (0 : Int32)), (0, .ref (b 0)), (1, .int p1), (2, .ref (bc 0))]) hx hb dX4_nearAfter_18 hl (by decide) rfl (fun ls hl => ?_)
    obtain ⟨n_9, hv⟩ := hv
    exact h_l_X4_nearAfter_20 n_9 (0 : Int32) (0 : Int32) tstack H locs ls hW hS (lv_sub hl [2, 3, 4, 1, 0] rfl) hv
  · replace hv := hv.2 c_1
    refine lv_aload_n hx hb dX4_nearAfter_8 rfl (lv_at hl 2 rfl) ?_
    refine q_getN C kc3 hW 6 rfl 0 (by decide) nf_X4_79 rfl rfl dX4_nearAfter_9 ?_
    refine lv_iload_n hx hb dX4_nearAfter_12 rfl (lv_at hl 1 rfl) ?_
    obtain ⟨h_10, hv⟩ := hv
    refine q_iald C hW 7 rfl h_10 dX4_nearAfter_13 ?_
    exact ret (tstack) (c_near p1.toNatClampNeg) H locs ls _ rfl hW hS hv dX4_nearAfter_14
set_option maxHeartbeats 4000000 in
set_option maxRecDepth 100000 in
theorem c_X4_pass (l : Launch) (G : Gt) (b : Nat → Nat) (bc : Nat → Nat) (people : Int32) (taped : Int32) (waiting : Int32) (z : Int32) (kind : Nat → Int32) (em : Nat → Int32) (tmost : Int32) (tsize : Int32) (tsteps : Nat → Int32) (tstack : Nat → Int32) (gmost : Int32) (gsize : Int32) (gsteps : Nat → Int32) (gstack : Nat → Int32) (c_day : Int32) (c_near : Nat → Int32) (c_shows : Nat → Int32) (K : Int32 → (Nat → Int32) → (Nat → Int32) → Int32 → (Nat → Int32) → (Nat → Int32) → Prop) (hv : v_X4_pass people kind em tmost tsize tsteps tstack gmost gsize gsteps gstack c_day c_near c_shows K) : CI l G yX4_pass (.code yX4_pass cX4_pass 6 (some .boolean) :: wsG) (rmm 4 97) [.ref (b 0), .ref (bc 0)] (wd_X4_9 G b bc people taped waiting z kind em tmost tsize tsteps tstack gmost gsize gsteps gstack c_day c_near c_shows) (S := (Nat → Int32) × (Nat → Int32) × Int32 × (Nat → Int32) × (Nat → Int32)) (fun u => wd_X4_9 G b bc people taped waiting z kind em tmost tsize tsteps u.1 gmost gsize gsteps u.2.1 u.2.2.1 u.2.2.2.1 u.2.2.2.2) (fun r u => (r = 0 ∨ r = 1) ∧ K r u.1 u.2.1 u.2.2.1 u.2.2.2.1 u.2.2.2.2) := by
  refine ci_intro (by decide) rfl (fun _ => rfl) (Nat.le_of_ble_eq_true rfl) ?_
  intro p e s m args below meth c A H ls Q C hW hS hl ret
  have hx := C.1.1
  have hb := C.1.2.1
  generalize hls : ([] : List Loc) = locs at hS ⊢
  have hl : lv_has ls 6 [(0, .ref (b 0)), (1, .ref (bc 0))] := hl
  have h_j_X4_pass_56 : ∀ (B4 : Int32 → Int32 → (Nat → Int32) → (Nat → Int32) → Int32 → (Nat → Int32) → (Nat → Int32) → Prop) (hB4 : ∀ (x2 : Int32) (x3 : Int32) (tstack : Nat → Int32) (gstack : Nat → Int32) (c_day : Int32) (c_near : Nat → Int32) (c_shows : Nat → Int32) (H : Heap) (locs : List Loc) (ls : Array Slot), x2 = 0 ∨ x2 = 1 → wo G A (wd_X4_9 G b bc people taped waiting z kind em tmost tsize tsteps tstack gmost gsize gsteps gstack c_day c_near c_shows) H → va_S A s.heap H locs → lv_has ls 6 [(0, .ref (b 0)), (1, .ref (bc 0)), (2, .int x2), (3, .int x3)] → B4 x2 x3 tstack gstack c_day c_near c_shows → W p l e (rmm 4 97) s m args below meth c H locs 0 0 Q (F0 m 4 ls [])), ∀ (x3 : Int32) (x4 : Int32) (x5 : Int32) (t0 : Int32) (t1 : Int32) (tstack : Nat → Int32) (gstack : Nat → Int32) (c_day : Int32) (c_near : Nat → Int32) (c_shows : Nat → Int32) (H : Heap) (locs : List Loc) (ls : Array Slot), t0 = 0 ∨ t0 = 1 → t1 = 0 ∨ t1 = 1 → wo G A (wd_X4_9 G b bc people taped waiting z kind em tmost tsize tsteps tstack gmost gsize gsteps gstack c_day c_near c_shows) H → va_S A s.heap H locs → lv_has ls 6 [(0, .ref (b 0)), (1, .ref (bc 0)), (3, .int x3), (4, .int x4), (5, .int x5)] → j_X4_pass_56 people kind em tmost tsize tsteps gmost gsize gsteps B4 K x3 x4 x5 t0 t1 tstack gstack c_day c_near c_shows → W p l e (rmm 4 97) s m args below meth c H locs 0 0 Q (F0 m 56 ls [.int t1, .int t0]) := by
    intro B4 hB4 x3 x4 x5 t0 t1 tstack gstack c_day c_near c_shows H locs ls hz_t0 hz_t1 hW hS hl hv
    refine lv_ior hx hb dX4_pass_56 ?_
    refine lv_istore_n (lv' := [(2, .int (t0 ||| t1)), (0, .ref (b 0)), (1, .ref (bc 0)), (3, .int x3), (4, .int x4), (5, .int x5)]) hx hb dX4_pass_57 rfl hl (by decide) rfl (fun ls hl => ?_)
    refine lv_aload_n hx hb dX4_pass_58 rfl (lv_at hl 2 rfl) ?_
    refine q_getN C kc3 hW 9 rfl 0 (by decide) nf_X4_79 rfl rfl dX4_pass_59 ?_
    refine lv_iload_n hx hb dX4_pass_62 rfl (lv_at hl 3 rfl) ?_
    refine lv_iload hx hb dX4_pass_63 (lv_at hl 4 rfl) ?_
    obtain ⟨h_8, hv⟩ := hv
    refine q_iast C hW hS 10 rfl h_8 dX4_pass_65 (fun H locs hW hS => ?_)
    have hW : wo G A (wd_X4_9 G b bc people taped waiting z kind em tmost tsize tsteps tstack gmost gsize gsteps gstack c_day (upd c_near x3.toNatClampNeg x4) c_shows) H := hW
    refine lv_aload_n hx hb dX4_pass_66 rfl (lv_at hl 2 rfl) ?_
    refine q_getN C kc3 hW 9 rfl 1 (by decide) nf_X4_82 rfl rfl dX4_pass_67 ?_
    refine lv_iload_n hx hb dX4_pass_70 rfl (lv_at hl 3 rfl) ?_
    refine lv_iload hx hb dX4_pass_71 (lv_at hl 5 rfl) ?_
    obtain ⟨h_9, hv⟩ := hv
    refine q_iast C hW hS 11 rfl h_9 dX4_pass_73 (fun H locs hW hS => ?_)
    have hW : wo G A (wd_X4_9 G b bc people taped waiting z kind em tmost tsize tsteps tstack gmost gsize gsteps gstack c_day (upd c_near x3.toNatClampNeg x4) (upd c_shows x3.toNatClampNeg x5)) H := hW
    refine lv_iinc (v := (x3 + 1)) (lv' := [(3, .int (x3 + 1)), (2, .int (t0 ||| t1)), (0, .ref (b 0)), (1, .ref (bc 0)), (4, .int x4), (5, .int x5)]) hx hb dX4_pass_74 hl (k := 3) rfl rfl (by decide) rfl (fun ls hl => ?_)
    refine lv_goto (tgt := 4) hx hb dX4_pass_77 (by decide) ?_
    exact hB4 (t0 ||| t1) (x3 + 1) tstack gstack c_day (upd c_near x3.toNatClampNeg x4) (upd c_shows x3.toNatClampNeg x5) H locs ls (bl_or hz_t0 hz_t1) hW hS (lv_sub hl [2, 3, 1, 0] rfl) hv
  have h_j_X4_pass_51 : ∀ (B4 : Int32 → Int32 → (Nat → Int32) → (Nat → Int32) → Int32 → (Nat → Int32) → (Nat → Int32) → Prop) (hB4 : ∀ (x2 : Int32) (x3 : Int32) (tstack : Nat → Int32) (gstack : Nat → Int32) (c_day : Int32) (c_near : Nat → Int32) (c_shows : Nat → Int32) (H : Heap) (locs : List Loc) (ls : Array Slot), x2 = 0 ∨ x2 = 1 → wo G A (wd_X4_9 G b bc people taped waiting z kind em tmost tsize tsteps tstack gmost gsize gsteps gstack c_day c_near c_shows) H → va_S A s.heap H locs → lv_has ls 6 [(0, .ref (b 0)), (1, .ref (bc 0)), (2, .int x2), (3, .int x3)] → B4 x2 x3 tstack gstack c_day c_near c_shows → W p l e (rmm 4 97) s m args below meth c H locs 0 0 Q (F0 m 4 ls [])), ∀ (x3 : Int32) (x4 : Int32) (x5 : Int32) (t0 : Int32) (tstack : Nat → Int32) (gstack : Nat → Int32) (c_day : Int32) (c_near : Nat → Int32) (c_shows : Nat → Int32) (H : Heap) (locs : List Loc) (ls : Array Slot), t0 = 0 ∨ t0 = 1 → wo G A (wd_X4_9 G b bc people taped waiting z kind em tmost tsize tsteps tstack gmost gsize gsteps gstack c_day c_near c_shows) H → va_S A s.heap H locs → lv_has ls 6 [(0, .ref (b 0)), (1, .ref (bc 0)), (3, .int x3), (4, .int x4), (5, .int x5)] → j_X4_pass_51 people kind em tmost tsize tsteps gmost gsize gsteps B4 K x3 x4 x5 t0 tstack gstack c_day c_near c_shows → W p l e (rmm 4 97) s m args below meth c H locs 0 0 Q (F0 m 51 ls [.int t0]) := by
    intro B4 hB4 x3 x4 x5 t0 tstack gstack c_day c_near c_shows H locs ls hz_t0 hW hS hl hv
    refine lv_iconst (v := 1) hx hb dX4_pass_51 kic_1 ?_
    refine lv_goto (tgt := 56) hx hb dX4_pass_52 (by decide) ?_
    exact h_j_X4_pass_56 B4 hB4 x3 x4 x5 t0 (1 : Int32) tstack gstack c_day c_near c_shows H locs ls hz_t0 (Or.inr rfl) hW hS (lv_sub hl [0, 1, 2, 3, 4] rfl) hv
  have h_l_X4_pass_4 : ∀ (n : Nat), ∀ (x2 : Int32) (x3 : Int32) (tstack : Nat → Int32) (gstack : Nat → Int32) (c_day : Int32) (c_near : Nat → Int32) (c_shows : Nat → Int32) (H : Heap) (locs : List Loc) (ls : Array Slot), x2 = 0 ∨ x2 = 1 → wo G A (wd_X4_9 G b bc people taped waiting z kind em tmost tsize tsteps tstack gmost gsize gsteps gstack c_day c_near c_shows) H → va_S A s.heap H locs → lv_has ls 6 [(0, .ref (b 0)), (1, .ref (bc 0)), (2, .int x2), (3, .int x3)] → l_X4_pass_4 people kind em tmost tsize tsteps gmost gsize gsteps K n x2 x3 tstack gstack c_day c_near c_shows → W p l e (rmm 4 97) s m args below meth c H locs 0 0 Q (F0 m 4 ls []) := by
    intro n
    induction n with
    | zero =>
      intro x2 x3 tstack gstack c_day c_near c_shows H locs ls hz_x2 hW hS hl hv
      exact False.elim hv
    | succ n ih =>
      intro x2 x3 tstack gstack c_day c_near c_shows H locs ls hz_x2 hW hS hl hv
      refine lv_iload_n hx hb dX4_pass_4 rfl (lv_at hl 3 rfl) ?_
      refine lv_aload_n hx hb dX4_pass_5 rfl (lv_at hl 0 rfl) ?_
      refine q_get C kc4 hW 0 rfl 0 (by decide) fl_X4_51 rfl rfl dX4_pass_6 ?_
      refine lv_icmp_ge (tgt := 80) hx hb dX4_pass_9 (by decide) (fun c_1 => ?_) (fun c_1 => ?_)
      · replace hv := hv.1 c_1
        refine lv_aload_n hx hb dX4_pass_80 rfl (lv_at hl 1 rfl) ?_
        refine lv_dup hx hb dX4_pass_81 rfl ?_
        refine q_getN C kc3 hW 9 rfl 2 (by decide) nf_X4_107 rfl rfl dX4_pass_82 ?_
        refine lv_iconst (v := 1) hx hb dX4_pass_85 kic_1 ?_
        refine lv_iadd hx hb dX4_pass_86 ?_
        refine q_putN C kc3 hW hS 9 rfl 2 (by decide) nf_X4_107 rfl rfl rfl rfl (Nat.le_of_ble_eq_true rfl) dX4_pass_87 (fun H locs hW hS => ?_)
        have hW : wo G A (wd_X4_9 G b bc people taped waiting z kind em tmost tsize tsteps tstack gmost gsize gsteps gstack (c_day + (1 : Int32)) c_near c_shows) H := hW
        refine lv_iload_n hx hb dX4_pass_90 rfl (lv_at hl 2 rfl) ?_
        exact ret (tstack, gstack, (c_day + (1 : Int32)), c_near, c_shows) x2 H locs ls _ (bl_narrow hz_x2) hW hS ⟨hz_x2, hv⟩ dX4_pass_91
      · replace hv := hv.2 c_1
        refine lv_aload_n hx hb dX4_pass_12 rfl (lv_at hl 0 rfl) ?_
        refine lv_iload_n hx hb dX4_pass_13 rfl (lv_at hl 3 rfl) ?_
        refine lv_aload_n hx hb dX4_pass_14 rfl (lv_at hl 1 rfl) ?_
        refine q_callV (rest := []) (n := 2) C (c_X4_nearAfter l G b bc people taped waiting z kind em tmost tsize tsteps tstack c_day c_near c_shows x3 _ hv) ml_X4_117 kb_X4_nearAfter rfl ⟨⟨rfl, rfl⟩, (Nat.le_of_ble_eq_true rfl), (Nat.le_of_ble_eq_true rfl)⟩ hW hS [0, 1, 2, 3, 4, 5, 9, 10, 11] rfl rfl kc4 (q0 := 0) rfl hl.1 rfl (Nat.le_of_ble_eq_true rfl) dX4_pass_15 ⟨Nat.zero_le _, Nat.zero_le _⟩ (fun r_2 u_3 H locs hv hW hS => ?_)
        obtain ⟨tstack_2, rfl⟩ : ∃ z, z = u_3 := ⟨_, rfl⟩
        try dsimp only at hv
        have hW : wo G A (wd_X4_9 G b bc people taped waiting z kind em tmost tsize tsteps tstack_2 gmost gsize gsteps gstack c_day c_near c_shows) H := hW
        refine lv_istore (lv' := [(4, .int r_2), (0, .ref (b 0)), (1, .ref (bc 0)), (2, .int x2), (3, .int x3)]) hx hb dX4_pass_18 hl (by decide) rfl (fun ls hl => ?_)
        refine lv_aload_n hx hb dX4_pass_20 rfl (lv_at hl 1 rfl) ?_
        refine lv_iload_n hx hb dX4_pass_21 rfl (lv_at hl 4 rfl) ?_
        refine lv_aload_n hx hb dX4_pass_22 rfl (lv_at hl 2 rfl) ?_
        refine q_callV (rest := []) (n := 2) C (c_X4_signOf l G b bc people taped waiting z kind gmost gsize gsteps gstack c_day c_near c_shows x3 _ hv) ml_X4_121 kb_X4_signOf rfl ⟨⟨rfl, rfl⟩, (Nat.le_of_ble_eq_true rfl), (Nat.le_of_ble_eq_true rfl)⟩ hW hS [0, 1, 6, 7, 8, 9, 10, 11] rfl rfl kc4 (q0 := 0) rfl hl.1 rfl (Nat.le_of_ble_eq_true rfl) dX4_pass_23 ⟨Nat.zero_le _, Nat.zero_le _⟩ (fun r_4 u_5 H locs hv hW hS => ?_)
        obtain ⟨gstack_4, rfl⟩ : ∃ z, z = u_5 := ⟨_, rfl⟩
        try dsimp only at hv
        have hW : wo G A (wd_X4_9 G b bc people taped waiting z kind em tmost tsize tsteps tstack_2 gmost gsize gsteps gstack_4 c_day c_near c_shows) H := hW
        refine lv_istore (lv' := [(5, .int r_4), (4, .int r_2), (0, .ref (b 0)), (1, .ref (bc 0)), (2, .int x2), (3, .int x3)]) hx hb dX4_pass_26 hl (by decide) rfl (fun ls hl => ?_)
        refine lv_iload_n hx hb dX4_pass_28 rfl (lv_at hl 4 rfl) ?_
        refine lv_iload hx hb dX4_pass_29 (lv_at hl 1 rfl) ?_
        refine lv_aload_n hx hb dX4_pass_31 rfl (lv_at hl 3 rfl) ?_
        refine q_getN C kc3 hW 9 rfl 0 (by decide) nf_X4_79 rfl rfl dX4_pass_32 ?_
        refine lv_iload_n hx hb dX4_pass_35 rfl (lv_at hl 5 rfl) ?_
        obtain ⟨h_6, hv⟩ := hv
        refine q_iald C hW 10 rfl h_6 dX4_pass_36 ?_
        refine lv_icmp_ne (tgt := 51) hx hb dX4_pass_37 (by decide) (fun c_7 => ?_) (fun c_7 => ?_)
        · replace hv := hv.1 c_7
          exact h_j_X4_pass_51 (fun x2' x3' tstack' gstack' c_day' c_near' c_shows' => l_X4_pass_4 people kind em tmost tsize tsteps gmost gsize gsteps K n x2' x3' tstack' gstack' c_day' c_near' c_shows') ih x3 r_2 r_4 x2 tstack_2 gstack_4 c_day c_near c_shows H locs ls hz_x2 hW hS (lv_sub hl [2, 3, 5, 1, 0] rfl) hv
        · replace hv := hv.2 c_7
          refine lv_iload hx hb dX4_pass_40 (lv_at hl 0 rfl) ?_
          refine lv_aload_n hx hb dX4_pass_42 rfl (lv_at hl 3 rfl) ?_
          refine q_getN C kc3 hW 9 rfl 1 (by decide) nf_X4_82 rfl rfl dX4_pass_43 ?_
          refine lv_iload_n hx hb dX4_pass_46 rfl (lv_at hl 5 rfl) ?_
          obtain ⟨h_10, hv⟩ := hv
          refine q_iald C hW 11 rfl h_10 dX4_pass_47 ?_
          refine lv_icmp_eq (tgt := 55) hx hb dX4_pass_48 (by decide) (fun c_11 => ?_) (fun c_11 => ?_)
          · replace hv := hv.1 c_11
            refine lv_iconst (v := 0) hx hb dX4_pass_55 kic_0 ?_
            exact h_j_X4_pass_56 (fun x2' x3' tstack' gstack' c_day' c_near' c_shows' => l_X4_pass_4 people kind em tmost tsize tsteps gmost gsize gsteps K n x2' x3' tstack' gstack' c_day' c_near' c_shows') ih x3 r_2 r_4 x2 (0 : Int32) tstack_2 gstack_4 c_day c_near c_shows H locs ls hz_x2 (Or.inl rfl) hW hS (lv_sub hl [2, 3, 5, 1, 0] rfl) hv
          · replace hv := hv.2 c_11
            exact h_j_X4_pass_51 (fun x2' x3' tstack' gstack' c_day' c_near' c_shows' => l_X4_pass_4 people kind em tmost tsize tsteps gmost gsize gsteps K n x2' x3' tstack' gstack' c_day' c_near' c_shows') ih x3 r_2 r_4 x2 tstack_2 gstack_4 c_day c_near c_shows H locs ls hz_x2 hW hS (lv_sub hl [2, 3, 5, 1, 0] rfl) hv
  refine lv_iconst (v := 0) hx hb dX4_pass_0 kic_0 ?_
  refine lv_istore_n (lv' := [(2, .int (0 : Int32)), (0, .ref (b 0)), (1, .ref (bc 0))]) hx hb dX4_pass_1 rfl hl (by decide) rfl (fun ls hl => ?_)
  refine lv_iconst (v := 0) hx hb dX4_pass_2 kic_0 ?_
  refine lv_istore_n (lv' := [(3, .int (0 : Int32)), (2, .int (0 : Int32)), (0, .ref (b 0)), (1, .ref (bc 0))]) hx hb dX4_pass_3 rfl hl (by decide) rfl (fun ls hl => ?_)
  obtain ⟨n_12, hv⟩ := hv
  exact h_l_X4_pass_4 n_12 (0 : Int32) (0 : Int32) tstack gstack c_day c_near c_shows H locs ls (Or.inl rfl) hW hS (lv_sub hl [2, 3, 1, 0] rfl) hv
set_option maxHeartbeats 4000000 in
set_option maxRecDepth 100000 in
theorem c_X4_nearestIn (l : Launch) (G : Gt) (b : Nat → Nat) (bc : Nat → Nat) (people : Int32) (taped : Int32) (waiting : Int32) (z : Int32) (c_day : Int32) (c_near : Nat → Int32) (K : Int32 → Prop) (hv : v_X4_nearestIn people c_near K) : CI l G yX4_nearestIn (.code yX4_nearestIn cX4_nearestIn 4 (some .int) :: wsG) (rmm 0 0) [.ref (b 0), .ref (bc 0)] (wd_X4_10 G b bc people taped waiting z c_day c_near) (S := Unit) (fun u => wd_X4_10 G b bc people taped waiting z c_day c_near) (fun r u => K r) := by
  refine ci_intro (by decide) rfl (fun _ => rfl) (Nat.le_of_ble_eq_true rfl) ?_
  intro p e s m args below meth c A H ls Q C hW hS hl ret
  have hx := C.1.1
  have hb := C.1.2.1
  generalize hls : ([] : List Loc) = locs at hS ⊢
  have hl : lv_has ls 4 [(0, .ref (b 0)), (1, .ref (bc 0))] := hl
  have h_j_X4_nearestIn_33 : ∀ (B4 : Int32 → Int32 → Prop) (hB4 : ∀ (x2 : Int32) (x3 : Int32) (H : Heap) (locs : List Loc) (ls : Array Slot), wo G A (wd_X4_10 G b bc people taped waiting z c_day c_near) H → va_S A s.heap H locs → lv_has ls 4 [(0, .ref (b 0)), (1, .ref (bc 0)), (2, .int x2), (3, .int x3)] → B4 x2 x3 → W p l e (rmm 0 0) s m args below meth c H locs 0 0 Q (F0 m 4 ls [])), ∀ (x2 : Int32) (x3 : Int32) (H : Heap) (locs : List Loc) (ls : Array Slot), wo G A (wd_X4_10 G b bc people taped waiting z c_day c_near) H → va_S A s.heap H locs → lv_has ls 4 [(0, .ref (b 0)), (1, .ref (bc 0)), (2, .int x2), (3, .int x3)] → j_X4_nearestIn_33 people c_near B4 K x2 x3 → W p l e (rmm 0 0) s m args below meth c H locs 0 0 Q (F0 m 33 ls []) := by
    intro B4 hB4 x2 x3 H locs ls hW hS hl hv
    refine lv_iinc (v := (x3 + 1)) (lv' := [(3, .int (x3 + 1)), (0, .ref (b 0)), (1, .ref (bc 0)), (2, .int x2)]) hx hb dX4_nearestIn_33 hl (k := 3) rfl rfl (by decide) rfl (fun ls hl => ?_)
    refine lv_goto (tgt := 4) hx hb dX4_nearestIn_36 (by decide) ?_
    exact hB4 x2 (x3 + 1) H locs ls hW hS (lv_sub hl [1, 2, 3, 0] rfl) hv
  have h_j_X4_nearestIn_31 : ∀ (B4 : Int32 → Int32 → Prop) (hB4 : ∀ (x2 : Int32) (x3 : Int32) (H : Heap) (locs : List Loc) (ls : Array Slot), wo G A (wd_X4_10 G b bc people taped waiting z c_day c_near) H → va_S A s.heap H locs → lv_has ls 4 [(0, .ref (b 0)), (1, .ref (bc 0)), (2, .int x2), (3, .int x3)] → B4 x2 x3 → W p l e (rmm 0 0) s m args below meth c H locs 0 0 Q (F0 m 4 ls [])), ∀ (x3 : Int32) (H : Heap) (locs : List Loc) (ls : Array Slot), wo G A (wd_X4_10 G b bc people taped waiting z c_day c_near) H → va_S A s.heap H locs → lv_has ls 4 [(0, .ref (b 0)), (1, .ref (bc 0)), (3, .int x3)] → j_X4_nearestIn_31 people c_near B4 K x3 → W p l e (rmm 0 0) s m args below meth c H locs 0 0 Q (F0 m 31 ls []) := by
    intro B4 hB4 x3 H locs ls hW hS hl hv
    refine lv_iload_n hx hb dX4_nearestIn_31 rfl (lv_at hl 2 rfl) ?_
    refine lv_istore_n (lv' := [(2, .int x3), (0, .ref (b 0)), (1, .ref (bc 0)), (3, .int x3)]) hx hb dX4_nearestIn_32 rfl hl (by decide) rfl (fun ls hl => ?_)
    exact h_j_X4_nearestIn_33 B4 hB4 x3 x3 H locs ls hW hS (lv_sub hl [1, 2, 0, 3] rfl) hv
  have h_l_X4_nearestIn_4 : ∀ (n : Nat), ∀ (x2 : Int32) (x3 : Int32) (H : Heap) (locs : List Loc) (ls : Array Slot), wo G A (wd_X4_10 G b bc people taped waiting z c_day c_near) H → va_S A s.heap H locs → lv_has ls 4 [(0, .ref (b 0)), (1, .ref (bc 0)), (2, .int x2), (3, .int x3)] → l_X4_nearestIn_4 people c_near K n x2 x3 → W p l e (rmm 0 0) s m args below meth c H locs 0 0 Q (F0 m 4 ls []) := by
    intro n
    induction n with
    | zero =>
      intro x2 x3 H locs ls hW hS hl hv
      exact False.elim hv
    | succ n ih =>
      intro x2 x3 H locs ls hW hS hl hv
      refine lv_iload_n hx hb dX4_nearestIn_4 rfl (lv_at hl 3 rfl) ?_
      refine lv_aload_n hx hb dX4_nearestIn_5 rfl (lv_at hl 0 rfl) ?_
      refine q_get C kc4 hW 0 rfl 0 (by decide) fl_X4_51 rfl rfl dX4_nearestIn_6 ?_
      refine lv_icmp_ge (tgt := 39) hx hb dX4_nearestIn_9 (by decide) (fun c_1 => ?_) (fun c_1 => ?_)
      · replace hv := hv.1 c_1
        refine lv_iload_n hx hb dX4_nearestIn_39 rfl (lv_at hl 2 rfl) ?_
        exact ret () x2 H locs ls _ rfl hW hS hv dX4_nearestIn_40
      · replace hv := hv.2 c_1
        refine lv_iload_n hx hb dX4_nearestIn_12 rfl (lv_at hl 2 rfl) ?_
        refine lv_if_lt (tgt := 31) hx hb dX4_nearestIn_13 (by decide) (fun c_2 => ?_) (fun c_2 => ?_)
        · replace hv := hv.1 c_2
          exact h_j_X4_nearestIn_31 (fun x2' x3' => l_X4_nearestIn_4 people c_near K n x2' x3') ih x3 H locs ls hW hS (lv_sub hl [0, 1, 3] rfl) hv
        · replace hv := hv.2 c_2
          refine lv_aload_n hx hb dX4_nearestIn_16 rfl (lv_at hl 1 rfl) ?_
          refine q_getN C kc3 hW 1 rfl 0 (by decide) nf_X4_79 rfl rfl dX4_nearestIn_17 ?_
          refine lv_iload_n hx hb dX4_nearestIn_20 rfl (lv_at hl 3 rfl) ?_
          obtain ⟨h_3, hv⟩ := hv
          refine q_iald C hW 2 rfl h_3 dX4_nearestIn_21 ?_
          refine lv_aload_n hx hb dX4_nearestIn_22 rfl (lv_at hl 1 rfl) ?_
          refine q_getN C kc3 hW 1 rfl 0 (by decide) nf_X4_79 rfl rfl dX4_nearestIn_23 ?_
          refine lv_iload_n hx hb dX4_nearestIn_26 rfl (lv_at hl 2 rfl) ?_
          obtain ⟨h_4, hv⟩ := hv
          refine q_iald C hW 2 rfl h_4 dX4_nearestIn_27 ?_
          refine lv_icmp_le (tgt := 33) hx hb dX4_nearestIn_28 (by decide) (fun c_5 => ?_) (fun c_5 => ?_)
          · replace hv := hv.1 c_5
            exact h_j_X4_nearestIn_33 (fun x2' x3' => l_X4_nearestIn_4 people c_near K n x2' x3') ih x2 x3 H locs ls hW hS (lv_sub hl [0, 1, 2, 3] rfl) hv
          · replace hv := hv.2 c_5
            exact h_j_X4_nearestIn_31 (fun x2' x3' => l_X4_nearestIn_4 people c_near K n x2' x3') ih x3 H locs ls hW hS (lv_sub hl [0, 1, 3] rfl) hv
  refine lv_iconst (v := (-1)) hx hb dX4_nearestIn_0 kic_m1 ?_
  refine lv_istore_n (lv' := [(2, .int (-1 : Int32)), (0, .ref (b 0)), (1, .ref (bc 0))]) hx hb dX4_nearestIn_1 rfl hl (by decide) rfl (fun ls hl => ?_)
  refine lv_iconst (v := 0) hx hb dX4_nearestIn_2 kic_0 ?_
  refine lv_istore_n (lv' := [(3, .int (0 : Int32)), (2, .int (-1 : Int32)), (0, .ref (b 0)), (1, .ref (bc 0))]) hx hb dX4_nearestIn_3 rfl hl (by decide) rfl (fun ls hl => ?_)
  obtain ⟨n_6, hv⟩ := hv
  exact h_l_X4_nearestIn_4 n_6 (-1 : Int32) (0 : Int32) H locs ls hW hS (lv_sub hl [2, 3, 1, 0] rfl) hv
set_option maxHeartbeats 4000000 in
set_option maxRecDepth 100000 in
theorem c_X4_countNearer (l : Launch) (G : Gt) (b : Nat → Nat) (people : Int32) (taped : Int32) (waiting : Int32) (z : Int32) (day : Int32) (near : Nat → Int32) (p1 : Int32) (K : Int32 → Prop) (hv : v_X4_countNearer p1 people near K) : CI l G yX4_countNearer (.code yX4_countNearer cX4_countNearer 4 (some .int) :: wsG) (rmm 0 0) [.ref (b 0), .int p1] (wd_X4_11 G b people taped waiting z day near) (S := Unit) (fun u => wd_X4_11 G b people taped waiting z day near) (fun r u => K r) := by
  refine ci_intro (by decide) rfl (fun _ => rfl) (Nat.le_of_ble_eq_true rfl) ?_
  intro p e s m args below meth c A H ls Q C hW hS hl ret
  have hx := C.1.1
  have hb := C.1.2.1
  generalize hls : ([] : List Loc) = locs at hS ⊢
  have hl : lv_has ls 4 [(0, .ref (b 0)), (1, .int p1)] := hl
  have h_j_X4_countNearer_36 : ∀ (B4 : Int32 → Int32 → Prop) (hB4 : ∀ (x2 : Int32) (x3 : Int32) (H : Heap) (locs : List Loc) (ls : Array Slot), wo G A (wd_X4_11 G b people taped waiting z day near) H → va_S A s.heap H locs → lv_has ls 4 [(0, .ref (b 0)), (1, .int p1), (2, .int x2), (3, .int x3)] → B4 x2 x3 → W p l e (rmm 0 0) s m args below meth c H locs 0 0 Q (F0 m 4 ls [])), ∀ (x2 : Int32) (x3 : Int32) (H : Heap) (locs : List Loc) (ls : Array Slot), wo G A (wd_X4_11 G b people taped waiting z day near) H → va_S A s.heap H locs → lv_has ls 4 [(0, .ref (b 0)), (1, .int p1), (2, .int x2), (3, .int x3)] → j_X4_countNearer_36 p1 people near B4 K x2 x3 → W p l e (rmm 0 0) s m args below meth c H locs 0 0 Q (F0 m 36 ls []) := by
    intro B4 hB4 x2 x3 H locs ls hW hS hl hv
    refine lv_iinc (v := (x3 + 1)) (lv' := [(3, .int (x3 + 1)), (0, .ref (b 0)), (1, .int p1), (2, .int x2)]) hx hb dX4_countNearer_36 hl (k := 3) rfl rfl (by decide) rfl (fun ls hl => ?_)
    refine lv_goto (tgt := 4) hx hb dX4_countNearer_39 (by decide) ?_
    exact hB4 x2 (x3 + 1) H locs ls hW hS (lv_sub hl [1, 2, 3, 0] rfl) hv
  have h_l_X4_countNearer_4 : ∀ (n : Nat), ∀ (x2 : Int32) (x3 : Int32) (H : Heap) (locs : List Loc) (ls : Array Slot), wo G A (wd_X4_11 G b people taped waiting z day near) H → va_S A s.heap H locs → lv_has ls 4 [(0, .ref (b 0)), (1, .int p1), (2, .int x2), (3, .int x3)] → l_X4_countNearer_4 p1 people near K n x2 x3 → W p l e (rmm 0 0) s m args below meth c H locs 0 0 Q (F0 m 4 ls []) := by
    intro n
    induction n with
    | zero =>
      intro x2 x3 H locs ls hW hS hl hv
      exact False.elim hv
    | succ n ih =>
      intro x2 x3 H locs ls hW hS hl hv
      refine lv_iload_n hx hb dX4_countNearer_4 rfl (lv_at hl 3 rfl) ?_
      refine lv_aload_n hx hb dX4_countNearer_5 rfl (lv_at hl 0 rfl) ?_
      refine q_get C kc4 hW 0 rfl 0 (by decide) fl_X4_51 rfl rfl dX4_countNearer_6 ?_
      refine lv_icmp_ge (tgt := 42) hx hb dX4_countNearer_9 (by decide) (fun c_1 => ?_) (fun c_1 => ?_)
      · replace hv := hv.1 c_1
        refine lv_iload_n hx hb dX4_countNearer_42 rfl (lv_at hl 2 rfl) ?_
        exact ret () x2 H locs ls _ rfl hW hS hv dX4_countNearer_43
      · replace hv := hv.2 c_1
        refine lv_aload_n hx hb dX4_countNearer_12 rfl (lv_at hl 0 rfl) ?_
        refine q_get C kc4 hW 0 rfl 4 (by decide) fl_X4_24 rfl rfl dX4_countNearer_13 ?_
        refine q_getN C kc3 hW 1 rfl 0 (by decide) nf_X4_79 rfl rfl dX4_countNearer_16 ?_
        refine lv_iload_n hx hb dX4_countNearer_19 rfl (lv_at hl 3 rfl) ?_
        obtain ⟨h_2, hv⟩ := hv
        refine q_iald C hW 2 rfl h_2 dX4_countNearer_20 ?_
        refine lv_aload_n hx hb dX4_countNearer_21 rfl (lv_at hl 0 rfl) ?_
        refine q_get C kc4 hW 0 rfl 4 (by decide) fl_X4_24 rfl rfl dX4_countNearer_22 ?_
        refine q_getN C kc3 hW 1 rfl 0 (by decide) nf_X4_79 rfl rfl dX4_countNearer_25 ?_
        refine lv_iload_n hx hb dX4_countNearer_28 rfl (lv_at hl 1 rfl) ?_
        obtain ⟨h_3, hv⟩ := hv
        refine q_iald C hW 2 rfl h_3 dX4_countNearer_29 ?_
        refine lv_icmp_le (tgt := 36) hx hb dX4_countNearer_30 (by decide) (fun c_4 => ?_) (fun c_4 => ?_)
        · replace hv := hv.1 c_4
          exact h_j_X4_countNearer_36 (fun x2' x3' => l_X4_countNearer_4 p1 people near K n x2' x3') ih x2 x3 H locs ls hW hS (lv_sub hl [0, 1, 2, 3] rfl) hv
        · replace hv := hv.2 c_4
          refine lv_iinc (v := (x2 + 1)) (lv' := [(2, .int (x2 + 1)), (0, .ref (b 0)), (1, .int p1), (3, .int x3)]) hx hb dX4_countNearer_33 hl (k := 2) rfl rfl (by decide) rfl (fun ls hl => ?_)
          exact h_j_X4_countNearer_36 (fun x2' x3' => l_X4_countNearer_4 p1 people near K n x2' x3') ih (x2 + 1) x3 H locs ls hW hS (lv_sub hl [1, 2, 0, 3] rfl) hv
  refine lv_iconst (v := 0) hx hb dX4_countNearer_0 kic_0 ?_
  refine lv_istore_n (lv' := [(2, .int (0 : Int32)), (0, .ref (b 0)), (1, .int p1)]) hx hb dX4_countNearer_1 rfl hl (by decide) rfl (fun ls hl => ?_)
  refine lv_iconst (v := 0) hx hb dX4_countNearer_2 kic_0 ?_
  refine lv_istore_n (lv' := [(3, .int (0 : Int32)), (2, .int (0 : Int32)), (0, .ref (b 0)), (1, .int p1)]) hx hb dX4_countNearer_3 rfl hl (by decide) rfl (fun ls hl => ?_)
  obtain ⟨n_5, hv⟩ := hv
  exact h_l_X4_countNearer_4 n_5 (0 : Int32) (0 : Int32) H locs ls hW hS (lv_sub hl [2, 3, 1, 0] rfl) hv
set_option maxHeartbeats 4000000 in
set_option maxRecDepth 100000 in
theorem c_X4_countTakenNearer (l : Launch) (G : Gt) (b : Nat → Nat) (people : Int32) (taped : Int32) (waiting : Int32) (z : Int32) (kind : Nat → Int32) (em : Nat → Int32) (day : Int32) (near : Nat → Int32) (shows : Nat → Int32) (tmost : Int32) (tsize : Int32) (tsteps : Nat → Int32) (tstack : Nat → Int32) (p1 : Int32) (K : Int32 → (Nat → Int32) → Prop) (hv : v_X4_countTakenNearer p1 people kind em day near shows tmost tsize tsteps tstack K) : CI l G yX4_countTakenNearer (.code yX4_countTakenNearer cX4_countTakenNearer 4 (some .int) :: wsG) (rmm 3 73) [.ref (b 0), .int p1] (wd_X4_12 G b people taped waiting z kind em day near shows tmost tsize tsteps tstack) (S := (Nat → Int32)) (fun u => wd_X4_12 G b people taped waiting z kind em day near shows tmost tsize tsteps u) (fun r u => K r u) := by
  refine ci_intro (by decide) rfl (fun _ => rfl) (Nat.le_of_ble_eq_true rfl) ?_
  intro p e s m args below meth c A H ls Q C hW hS hl ret
  have hx := C.1.1
  have hb := C.1.2.1
  generalize hls : ([] : List Loc) = locs at hS ⊢
  have hl : lv_has ls 4 [(0, .ref (b 0)), (1, .int p1)] := hl
  have h_j_X4_countTakenNearer_62 : ∀ (B4 : Int32 → Int32 → (Nat → Int32) → Prop) (hB4 : ∀ (x2 : Int32) (x3 : Int32) (tstack : Nat → Int32) (H : Heap) (locs : List Loc) (ls : Array Slot), wo G A (wd_X4_12 G b people taped waiting z kind em day near shows tmost tsize tsteps tstack) H → va_S A s.heap H locs → lv_has ls 4 [(0, .ref (b 0)), (1, .int p1), (2, .int x2), (3, .int x3)] → B4 x2 x3 tstack → W p l e (rmm 3 73) s m args below meth c H locs 0 0 Q (F0 m 4 ls [])), ∀ (x2 : Int32) (x3 : Int32) (tstack : Nat → Int32) (H : Heap) (locs : List Loc) (ls : Array Slot), wo G A (wd_X4_12 G b people taped waiting z kind em day near shows tmost tsize tsteps tstack) H → va_S A s.heap H locs → lv_has ls 4 [(0, .ref (b 0)), (1, .int p1), (2, .int x2), (3, .int x3)] → j_X4_countTakenNearer_62 p1 people kind em day near shows tmost tsize tsteps B4 K x2 x3 tstack → W p l e (rmm 3 73) s m args below meth c H locs 0 0 Q (F0 m 62 ls []) := by
    intro B4 hB4 x2 x3 tstack H locs ls hW hS hl hv
    refine lv_iinc (v := (x3 + 1)) (lv' := [(3, .int (x3 + 1)), (0, .ref (b 0)), (1, .int p1), (2, .int x2)]) hx hb dX4_countTakenNearer_62 hl (k := 3) rfl rfl (by decide) rfl (fun ls hl => ?_)
    refine lv_goto (tgt := 4) hx hb dX4_countTakenNearer_65 (by decide) ?_
    exact hB4 x2 (x3 + 1) tstack H locs ls hW hS (lv_sub hl [1, 2, 3, 0] rfl) hv
  have h_l_X4_countTakenNearer_4 : ∀ (n : Nat), ∀ (x2 : Int32) (x3 : Int32) (tstack : Nat → Int32) (H : Heap) (locs : List Loc) (ls : Array Slot), wo G A (wd_X4_12 G b people taped waiting z kind em day near shows tmost tsize tsteps tstack) H → va_S A s.heap H locs → lv_has ls 4 [(0, .ref (b 0)), (1, .int p1), (2, .int x2), (3, .int x3)] → l_X4_countTakenNearer_4 p1 people kind em day near shows tmost tsize tsteps K n x2 x3 tstack → W p l e (rmm 3 73) s m args below meth c H locs 0 0 Q (F0 m 4 ls []) := by
    intro n
    induction n with
    | zero =>
      intro x2 x3 tstack H locs ls hW hS hl hv
      exact False.elim hv
    | succ n ih =>
      intro x2 x3 tstack H locs ls hW hS hl hv
      refine lv_iload_n hx hb dX4_countTakenNearer_4 rfl (lv_at hl 3 rfl) ?_
      refine lv_aload_n hx hb dX4_countTakenNearer_5 rfl (lv_at hl 0 rfl) ?_
      refine q_get C kc4 hW 0 rfl 0 (by decide) fl_X4_51 rfl rfl dX4_countTakenNearer_6 ?_
      refine lv_icmp_ge (tgt := 68) hx hb dX4_countTakenNearer_9 (by decide) (fun c_1 => ?_) (fun c_1 => ?_)
      · replace hv := hv.1 c_1
        refine lv_iload_n hx hb dX4_countTakenNearer_68 rfl (lv_at hl 2 rfl) ?_
        exact ret (tstack) x2 H locs ls _ rfl hW hS hv dX4_countTakenNearer_69
      · replace hv := hv.2 c_1
        refine lv_iload_n hx hb dX4_countTakenNearer_12 rfl (lv_at hl 3 rfl) ?_
        refine lv_iload_n hx hb dX4_countTakenNearer_13 rfl (lv_at hl 1 rfl) ?_
        refine lv_icmp_eq (tgt := 62) hx hb dX4_countTakenNearer_14 (by decide) (fun c_2 => ?_) (fun c_2 => ?_)
        · replace hv := hv.1 c_2
          exact h_j_X4_countTakenNearer_62 (fun x2' x3' tstack' => l_X4_countTakenNearer_4 p1 people kind em day near shows tmost tsize tsteps K n x2' x3' tstack') ih x2 x3 tstack H locs ls hW hS (lv_sub hl [0, 1, 2, 3] rfl) hv
        · replace hv := hv.2 c_2
          refine lv_aload_n hx hb dX4_countTakenNearer_17 rfl (lv_at hl 0 rfl) ?_
          refine lv_iload_n hx hb dX4_countTakenNearer_18 rfl (lv_at hl 3 rfl) ?_
          refine lv_aload_n hx hb dX4_countTakenNearer_19 rfl (lv_at hl 0 rfl) ?_
          refine q_get C kc4 hW 0 rfl 4 (by decide) fl_X4_24 rfl rfl dX4_countTakenNearer_20 ?_
          refine q_getN C kc3 hW 3 rfl 0 (by decide) nf_X4_79 rfl rfl dX4_countTakenNearer_23 ?_
          refine lv_iload_n hx hb dX4_countTakenNearer_26 rfl (lv_at hl 1 rfl) ?_
          obtain ⟨h_3, hv⟩ := hv
          refine q_iald C hW 4 rfl h_3 dX4_countTakenNearer_27 ?_
          refine lv_aload_n hx hb dX4_countTakenNearer_28 rfl (lv_at hl 0 rfl) ?_
          refine q_get C kc4 hW 0 rfl 4 (by decide) fl_X4_24 rfl rfl dX4_countTakenNearer_29 ?_
          refine q_getN C kc3 hW 3 rfl 1 (by decide) nf_X4_82 rfl rfl dX4_countTakenNearer_32 ?_
          refine lv_iload_n hx hb dX4_countTakenNearer_35 rfl (lv_at hl 1 rfl) ?_
          obtain ⟨h_4, hv⟩ := hv
          refine q_iald C hW 5 rfl h_4 dX4_countTakenNearer_36 ?_
          refine lv_aload_n hx hb dX4_countTakenNearer_37 rfl (lv_at hl 0 rfl) ?_
          refine q_get C kc4 hW 0 rfl 4 (by decide) fl_X4_24 rfl rfl dX4_countTakenNearer_38 ?_
          refine q_getN C kc3 hW 3 rfl 2 (by decide) nf_X4_107 rfl rfl dX4_countTakenNearer_41 ?_
          refine q_callV (rest := []) (n := 4) C (c_X4_takenBy l G b people taped waiting z kind em tmost tsize tsteps tstack x3 (near p1.toNatClampNeg) (shows p1.toNatClampNeg) day _ hv) ml_X4_114 kb_X4_takenBy rfl ⟨⟨rfl, rfl⟩, (Nat.le_of_ble_eq_true rfl), (Nat.le_of_ble_eq_true rfl)⟩ hW hS [0, 1, 2, 6, 7, 8] rfl rfl kc4 (q0 := 0) rfl hl.1 rfl (Nat.le_of_ble_eq_true rfl) dX4_countTakenNearer_44 ⟨Nat.zero_le _, Nat.zero_le _⟩ (fun r_5 u_6 H locs hv hW hS => ?_)
          obtain ⟨tstack_5, rfl⟩ : ∃ z, z = u_6 := ⟨_, rfl⟩
          try dsimp only at hv
          have hW : wo G A (wd_X4_12 G b people taped waiting z kind em day near shows tmost tsize tsteps tstack_5) H := hW
          refine lv_aload_n hx hb dX4_countTakenNearer_47 rfl (lv_at hl 0 rfl) ?_
          refine q_get C kc4 hW 0 rfl 4 (by decide) fl_X4_24 rfl rfl dX4_countTakenNearer_48 ?_
          refine q_getN C kc3 hW 3 rfl 0 (by decide) nf_X4_79 rfl rfl dX4_countTakenNearer_51 ?_
          refine lv_iload_n hx hb dX4_countTakenNearer_54 rfl (lv_at hl 1 rfl) ?_
          obtain ⟨h_7, hv⟩ := hv
          refine q_iald C hW 4 rfl h_7 dX4_countTakenNearer_55 ?_
          refine lv_icmp_le (tgt := 62) hx hb dX4_countTakenNearer_56 (by decide) (fun c_8 => ?_) (fun c_8 => ?_)
          · replace hv := hv.1 c_8
            exact h_j_X4_countTakenNearer_62 (fun x2' x3' tstack' => l_X4_countTakenNearer_4 p1 people kind em day near shows tmost tsize tsteps K n x2' x3' tstack') ih x2 x3 tstack_5 H locs ls hW hS (lv_sub hl [0, 1, 2, 3] rfl) hv
          · replace hv := hv.2 c_8
            refine lv_iinc (v := (x2 + 1)) (lv' := [(2, .int (x2 + 1)), (0, .ref (b 0)), (1, .int p1), (3, .int x3)]) hx hb dX4_countTakenNearer_59 hl (k := 2) rfl rfl (by decide) rfl (fun ls hl => ?_)
            exact h_j_X4_countTakenNearer_62 (fun x2' x3' tstack' => l_X4_countTakenNearer_4 p1 people kind em day near shows tmost tsize tsteps K n x2' x3' tstack') ih (x2 + 1) x3 tstack_5 H locs ls hW hS (lv_sub hl [1, 2, 0, 3] rfl) hv
  refine lv_iconst (v := 0) hx hb dX4_countTakenNearer_0 kic_0 ?_
  refine lv_istore_n (lv' := [(2, .int (0 : Int32)), (0, .ref (b 0)), (1, .int p1)]) hx hb dX4_countTakenNearer_1 rfl hl (by decide) rfl (fun ls hl => ?_)
  refine lv_iconst (v := 0) hx hb dX4_countTakenNearer_2 kic_0 ?_
  refine lv_istore_n (lv' := [(3, .int (0 : Int32)), (2, .int (0 : Int32)), (0, .ref (b 0)), (1, .int p1)]) hx hb dX4_countTakenNearer_3 rfl hl (by decide) rfl (fun ls hl => ?_)
  obtain ⟨n_9, hv⟩ := hv
  exact h_l_X4_countTakenNearer_4 n_9 (0 : Int32) (0 : Int32) tstack H locs ls hW hS (lv_sub hl [2, 3, 1, 0] rfl) hv
set_option maxHeartbeats 4000000 in
set_option maxRecDepth 100000 in
theorem c_X4_comeToFrom (l : Launch) (G : Gt) (b : Nat → Nat) (people : Int32) (taped : Int32) (waiting : Int32) (z : Int32) (called : Nat → Int32) (p1 : Int32) (K : Int32 → Prop) (hv : v_X4_comeToFrom p1 people called K) : CI l G yX4_comeToFrom (.code yX4_comeToFrom cX4_comeToFrom 5 (some .int) :: wsG) (rmm 0 0) [.ref (b 0), .int p1] (wd_X4_13 G b people taped waiting z called) (S := Unit) (fun u => wd_X4_13 G b people taped waiting z called) (fun r u => K r) := by
  refine ci_intro (by decide) rfl (fun _ => rfl) (Nat.le_of_ble_eq_true rfl) ?_
  intro p e s m args below meth c A H ls Q C hW hS hl ret
  have hx := C.1.1
  have hb := C.1.2.1
  generalize hls : ([] : List Loc) = locs at hS ⊢
  have hl : lv_has ls 5 [(0, .ref (b 0)), (1, .int p1)] := hl
  have h_j_X4_comeToFrom_45 : ∀ (B6 : Int32 → Int32 → Prop) (hB6 : ∀ (x2 : Int32) (x3 : Int32) (H : Heap) (locs : List Loc) (ls : Array Slot), wo G A (wd_X4_13 G b people taped waiting z called) H → va_S A s.heap H locs → lv_has ls 5 [(0, .ref (b 0)), (2, .int x2), (3, .int x3)] → B6 x2 x3 → W p l e (rmm 0 0) s m args below meth c H locs 0 0 Q (F0 m 6 ls [])) (B17 : Int32 → Int32 → Int32 → Prop) (hB17 : ∀ (x2 : Int32) (x3 : Int32) (x4 : Int32) (H : Heap) (locs : List Loc) (ls : Array Slot), wo G A (wd_X4_13 G b people taped waiting z called) H → va_S A s.heap H locs → lv_has ls 5 [(0, .ref (b 0)), (2, .int x2), (3, .int x3), (4, .int x4)] → B17 x2 x3 x4 → W p l e (rmm 0 0) s m args below meth c H locs 0 0 Q (F0 m 17 ls [])), ∀ (x2 : Int32) (x3 : Int32) (x4 : Int32) (H : Heap) (locs : List Loc) (ls : Array Slot), wo G A (wd_X4_13 G b people taped waiting z called) H → va_S A s.heap H locs → lv_has ls 5 [(0, .ref (b 0)), (2, .int x2), (3, .int x3), (4, .int x4)] → j_X4_comeToFrom_45 p1 people called B6 B17 K x2 x3 x4 → W p l e (rmm 0 0) s m args below meth c H locs 0 0 Q (F0 m 45 ls []) := by
    intro B6 hB6 B17 hB17 x2 x3 x4 H locs ls hW hS hl hv
    refine lv_iinc (v := (x4 + 1)) (lv' := [(4, .int (x4 + 1)), (0, .ref (b 0)), (2, .int x2), (3, .int x3)]) hx hb dX4_comeToFrom_45 hl (k := 3) rfl rfl (by decide) rfl (fun ls hl => ?_)
    refine lv_goto (tgt := 17) hx hb dX4_comeToFrom_48 (by decide) ?_
    exact hB17 x2 x3 (x4 + 1) H locs ls hW hS (lv_sub hl [1, 2, 3, 0] rfl) hv
  have h_l_X4_comeToFrom_17 : ∀ (B6 : Int32 → Int32 → Prop) (hB6 : ∀ (x2 : Int32) (x3 : Int32) (H : Heap) (locs : List Loc) (ls : Array Slot), wo G A (wd_X4_13 G b people taped waiting z called) H → va_S A s.heap H locs → lv_has ls 5 [(0, .ref (b 0)), (2, .int x2), (3, .int x3)] → B6 x2 x3 → W p l e (rmm 0 0) s m args below meth c H locs 0 0 Q (F0 m 6 ls [])) (n : Nat), ∀ (x2 : Int32) (x3 : Int32) (x4 : Int32) (H : Heap) (locs : List Loc) (ls : Array Slot), wo G A (wd_X4_13 G b people taped waiting z called) H → va_S A s.heap H locs → lv_has ls 5 [(0, .ref (b 0)), (2, .int x2), (3, .int x3), (4, .int x4)] → l_X4_comeToFrom_17 p1 people called B6 K n x2 x3 x4 → W p l e (rmm 0 0) s m args below meth c H locs 0 0 Q (F0 m 17 ls []) := by
    intro B6 hB6 n
    induction n with
    | zero =>
      intro x2 x3 x4 H locs ls hW hS hl hv
      exact False.elim hv
    | succ n ih =>
      intro x2 x3 x4 H locs ls hW hS hl hv
      refine lv_iload hx hb dX4_comeToFrom_17 (lv_at hl 3 rfl) ?_
      refine lv_aload_n hx hb dX4_comeToFrom_19 rfl (lv_at hl 0 rfl) ?_
      refine q_get C kc4 hW 0 rfl 0 (by decide) fl_X4_51 rfl rfl dX4_comeToFrom_20 ?_
      refine lv_icmp_ge (tgt := 51) hx hb dX4_comeToFrom_23 (by decide) (fun c_2 => ?_) (fun c_2 => ?_)
      · replace hv := hv.1 c_2
        refine lv_iinc (v := (x3 + 1)) (lv' := [(3, .int (x3 + 1)), (0, .ref (b 0)), (2, .int x2), (4, .int x4)]) hx hb dX4_comeToFrom_51 hl (k := 2) rfl rfl (by decide) rfl (fun ls hl => ?_)
        refine lv_goto (tgt := 6) hx hb dX4_comeToFrom_54 (by decide) ?_
        exact hB6 x2 (x3 + 1) H locs ls hW hS (lv_sub hl [1, 2, 0] rfl) hv
      · replace hv := hv.2 c_2
        refine lv_iload_n hx hb dX4_comeToFrom_26 rfl (lv_at hl 1 rfl) ?_
        refine lv_iload hx hb dX4_comeToFrom_27 (lv_at hl 3 rfl) ?_
        refine lv_ishr hx hb dX4_comeToFrom_29 ?_
        refine lv_iconst (v := 1) hx hb dX4_comeToFrom_30 kic_1 ?_
        refine lv_iand hx hb dX4_comeToFrom_31 ?_
        refine lv_if_eq (tgt := 45) hx hb dX4_comeToFrom_32 (by decide) (fun c_3 => ?_) (fun c_3 => ?_)
        · replace hv := hv.1 c_3
          exact h_j_X4_comeToFrom_45 B6 hB6 (fun x2' x3' x4' => l_X4_comeToFrom_17 p1 people called B6 K n x2' x3' x4') ih x2 x3 x4 H locs ls hW hS (lv_sub hl [0, 1, 2, 3] rfl) hv
        · replace hv := hv.2 c_3
          refine lv_iload_n hx hb dX4_comeToFrom_35 rfl (lv_at hl 1 rfl) ?_
          refine lv_aload_n hx hb dX4_comeToFrom_36 rfl (lv_at hl 0 rfl) ?_
          refine q_get C kc4 hW 0 rfl 3 (by decide) fl_X4_18 rfl rfl dX4_comeToFrom_37 ?_
          refine lv_iload hx hb dX4_comeToFrom_40 (lv_at hl 3 rfl) ?_
          obtain ⟨h_4, hv⟩ := hv
          refine q_iald C hW 1 rfl h_4 dX4_comeToFrom_42 ?_
          refine lv_ior hx hb dX4_comeToFrom_43 ?_
          refine lv_istore_n (lv' := [(2, .int (x2 ||| (called x4.toNatClampNeg))), (0, .ref (b 0)), (3, .int x3), (4, .int x4)]) hx hb dX4_comeToFrom_44 rfl hl (by decide) rfl (fun ls hl => ?_)
          exact h_j_X4_comeToFrom_45 B6 hB6 (fun x2' x3' x4' => l_X4_comeToFrom_17 p1 people called B6 K n x2' x3' x4') ih (x2 ||| (called x4.toNatClampNeg)) x3 x4 H locs ls hW hS (lv_sub hl [1, 0, 2, 3] rfl) hv
  have h_l_X4_comeToFrom_6 : ∀ (n : Nat), ∀ (x2 : Int32) (x3 : Int32) (H : Heap) (locs : List Loc) (ls : Array Slot), wo G A (wd_X4_13 G b people taped waiting z called) H → va_S A s.heap H locs → lv_has ls 5 [(0, .ref (b 0)), (2, .int x2), (3, .int x3)] → l_X4_comeToFrom_6 p1 people called K n x2 x3 → W p l e (rmm 0 0) s m args below meth c H locs 0 0 Q (F0 m 6 ls []) := by
    intro n
    induction n with
    | zero =>
      intro x2 x3 H locs ls hW hS hl hv
      exact False.elim hv
    | succ n ih =>
      intro x2 x3 H locs ls hW hS hl hv
      refine lv_iload_n hx hb dX4_comeToFrom_6 rfl (lv_at hl 2 rfl) ?_
      refine lv_aload_n hx hb dX4_comeToFrom_7 rfl (lv_at hl 0 rfl) ?_
      refine q_get C kc4 hW 0 rfl 0 (by decide) fl_X4_51 rfl rfl dX4_comeToFrom_8 ?_
      refine lv_icmp_ge (tgt := 57) hx hb dX4_comeToFrom_11 (by decide) (fun c_1 => ?_) (fun c_1 => ?_)
      · replace hv := hv.1 c_1
        refine lv_iload_n hx hb dX4_comeToFrom_57 rfl (lv_at hl 1 rfl) ?_
        exact ret () x2 H locs ls _ rfl hW hS hv dX4_comeToFrom_58
      · replace hv := hv.2 c_1
        refine lv_iconst (v := 0) hx hb dX4_comeToFrom_14 kic_0 ?_
        refine lv_istore (lv' := [(4, .int (0 : Int32)), (0, .ref (b 0)), (2, .int x2), (3, .int x3)]) hx hb dX4_comeToFrom_15 hl (by decide) rfl (fun ls hl => ?_)
        obtain ⟨n_5, hv⟩ := hv
        exact h_l_X4_comeToFrom_17 (fun x2' x3' => l_X4_comeToFrom_6 p1 people called K n x2' x3') ih n_5 x2 x3 (0 : Int32) H locs ls hW hS (lv_sub hl [1, 2, 3, 0] rfl) hv
  refine lv_iconst (v := 1) hx hb dX4_comeToFrom_0 kic_1 ?_
  refine lv_iload_n hx hb dX4_comeToFrom_1 rfl (lv_at hl 1 rfl) ?_
  refine lv_ishl hx hb dX4_comeToFrom_2 ?_
  refine lv_istore_n (lv' := [(2, .int ((1 : Int32) <<< (p1 &&& 31))), (0, .ref (b 0)), (1, .int p1)]) hx hb dX4_comeToFrom_3 rfl hl (by decide) rfl (fun ls hl => ?_)
  refine lv_iconst (v := 0) hx hb dX4_comeToFrom_4 kic_0 ?_
  refine lv_istore_n (lv' := [(3, .int (0 : Int32)), (2, .int ((1 : Int32) <<< (p1 &&& 31))), (0, .ref (b 0)), (1, .int p1)]) hx hb dX4_comeToFrom_5 rfl hl (by decide) rfl (fun ls hl => ?_)
  obtain ⟨n_6, hv⟩ := hv
  exact h_l_X4_comeToFrom_6 n_6 ((1 : Int32) <<< (p1 &&& 31)) (0 : Int32) H locs ls hW hS (lv_sub hl [2, 1, 0] rfl) hv
set_option maxHeartbeats 4000000 in
set_option maxRecDepth 100000 in
theorem c_X6_isWithin (l : Launch) (G : Gt) (p1 : Int32) (p2 : Int32) (K : Int32 → Prop) (hv : v_X6_isWithin p1 p2 K) : CI l G yX6_isWithin (.code yX6_isWithin cX6_isWithin 2 (some .boolean) :: wsG) (rmm 0 0) [.int p1, .int p2] [] (S := Unit) (fun _ => []) (fun r u => (r = 0 ∨ r = 1) ∧ K r) := by
  refine ci_intro (by decide) rfl (fun _ => rfl) (Nat.le_of_ble_eq_true rfl) ?_
  intro p e s m args below meth c A H ls Q C hW hS hl ret
  have hx := C.1.1
  have hb := C.1.2.1
  generalize hls : ([] : List Loc) = locs at hS ⊢
  have hl : lv_has ls 2 [(0, .int p1), (1, .int p2)] := hl
  refine lv_iload_n hx hb dX6_isWithin_0 rfl (lv_at hl 0 rfl) ?_
  refine lv_if_lt (tgt := 13) hx hb dX6_isWithin_1 (by decide) (fun c_1 => ?_) (fun c_1 => ?_)
  · replace hv := hv.1 c_1
    refine lv_iconst (v := 0) hx hb dX6_isWithin_13 kic_0 ?_
    exact ret () (0 : Int32) H locs ls _ (bl_narrow (Or.inl rfl)) hW hS ⟨(Or.inl rfl), hv⟩ dX6_isWithin_14
  · replace hv := hv.2 c_1
    refine lv_iload_n hx hb dX6_isWithin_4 rfl (lv_at hl 0 rfl) ?_
    refine lv_iload_n hx hb dX6_isWithin_5 rfl (lv_at hl 1 rfl) ?_
    refine lv_icmp_gt (tgt := 13) hx hb dX6_isWithin_6 (by decide) (fun c_2 => ?_) (fun c_2 => ?_)
    · replace hv := hv.1 c_2
      refine lv_iconst (v := 0) hx hb dX6_isWithin_13 kic_0 ?_
      exact ret () (0 : Int32) H locs ls _ (bl_narrow (Or.inl rfl)) hW hS ⟨(Or.inl rfl), hv⟩ dX6_isWithin_14
    · replace hv := hv.2 c_2
      refine lv_iconst (v := 1) hx hb dX6_isWithin_9 kic_1 ?_
      refine lv_goto (tgt := 14) hx hb dX6_isWithin_10 (by decide) ?_
      exact ret () (1 : Int32) H locs ls _ (bl_narrow (Or.inr rfl)) hW hS ⟨(Or.inr rfl), hv⟩ dX6_isWithin_14
set_option maxHeartbeats 4000000 in
set_option maxRecDepth 100000 in
theorem c_X5_part (l : Launch) (G : Gt) (b : Nat → Nat) (traced : Int32) (parted : Int32) (yk : Int32) (ykind : Int32) (ym : Int32) (p1 : Int32) (K : Int32 → Int32 → Prop) (hv : v_X5_part p1 parted yk ym K) : CI l G yX5_part (.code yX5_part cX5_part 3 (some .int) :: wsG) (rmm 0 0) [.ref (b 0), .int p1] (wd_X5_0 G b traced parted yk ykind ym) (S := Int32) (fun u => wd_X5_0 G b traced u yk ykind ym) (fun r u => K r u) := by
  refine ci_intro (by decide) rfl (fun _ => rfl) (Nat.le_of_ble_eq_true rfl) ?_
  intro p e s m args below meth c A H ls Q C hW hS hl ret
  have hx := C.1.1
  have hb := C.1.2.1
  generalize hls : ([] : List Loc) = locs at hS ⊢
  have hl : lv_has ls 3 [(0, .ref (b 0)), (1, .int p1)] := hl
  refine lv_aload_n hx hb dX5_part_0 rfl (lv_at hl 0 rfl) ?_
  refine q_get C kc5 hW 0 rfl 5 (by decide) fl_X5_22 rfl rfl dX5_part_1 ?_
  refine lv_aload_n hx hb dX5_part_4 rfl (lv_at hl 0 rfl) ?_
  refine q_get C kc5 hW 0 rfl 3 (by decide) fl_X5_15 rfl rfl dX5_part_5 ?_
  refine lv_isub hx hb dX5_part_8 ?_
  refine lv_istore_n (lv' := [(2, .int (ym - yk)), (0, .ref (b 0)), (1, .int p1)]) hx hb dX5_part_9 rfl hl (by decide) rfl (fun ls hl => ?_)
  refine lv_iload_n hx hb dX5_part_10 rfl (lv_at hl 0 rfl) ?_
  refine lv_if_ne (tgt := 21) hx hb dX5_part_11 (by decide) (fun c_1 => ?_) (fun c_1 => ?_)
  · replace hv := hv.1 c_1
    refine lv_iload_n hx hb dX5_part_21 rfl (lv_at hl 2 rfl) ?_
    refine lv_iload_n hx hb dX5_part_22 rfl (lv_at hl 0 rfl) ?_
    obtain ⟨h_2, hv⟩ := hv
    refine lv_idiv hx hb dX5_part_23 h_2 ?_
    exact ret (parted) (p1 / (ym - yk)) H locs ls _ rfl hW hS hv dX5_part_24
  · replace hv := hv.2 c_1
    refine lv_aload_n hx hb dX5_part_14 rfl (lv_at hl 1 rfl) ?_
    refine lv_iconst (v := 1) hx hb dX5_part_15 kic_1 ?_
    refine q_put C kc5 hW hS 0 rfl 2 (by decide) fl_X5_28 rfl rfl (bl_narrow (Or.inr rfl)) (bl_fits (Or.inr rfl)) (Nat.le_of_ble_eq_true rfl) dX5_part_16 (fun H locs hW hS => ?_)
    have hW : wo G A (wd_X5_0 G b traced (1 : Int32) yk ykind ym) H := hW
    refine lv_iconst (v := 0) hx hb dX5_part_19 kic_0 ?_
    exact ret ((1 : Int32)) (0 : Int32) H locs ls _ rfl hW hS hv dX5_part_20
set_option maxHeartbeats 4000000 in
set_option maxRecDepth 100000 in
theorem c_X5_partAndStir (l : Launch) (f o : Nat) (O_X5_speak : Int32 → Int32 → Int32 → Int32 → Int32 → Int32 → Int32 → Int32 → Int32 → (Nat → Int32) → (Int32 → Int32 → Int32 → (Nat → Int32) → Prop) → Prop) (hO_X5_speak : ∀ (G : Gt) (b : Nat → Nat) (traced : Int32) (parted : Int32) (yk : Int32) (ykind : Int32) (ym : Int32) (trace : Nat → Int32) (p1 : Int32) (p2 : Int32) (p3 : Int32) (p4 : Int32) (K : Int32 → Int32 → Int32 → (Nat → Int32) → Prop), O_X5_speak p1 p2 p3 p4 traced parted yk ykind ym trace K → CI l G yX5_speak (.code yX5_speak cX5_speak 7 (some .int) :: wsG) (rmm f o) [.ref (b 0), .int p1, .int p2, .int p3, .int p4] (wd_X5_1 G b traced parted yk ykind ym trace) (S := Int32 × Int32 × (Nat → Int32)) (fun u => wd_X5_1 G b u.1 u.2.1 yk ykind ym u.2.2) (fun r u => K r u.1 u.2.1 u.2.2)) (G : Gt) (b : Nat → Nat) (traced : Int32) (parted : Int32) (yk : Int32) (ykind : Int32) (ym : Int32) (trace : Nat → Int32) (p1 : Int32) (p2 : Int32) (p3 : Int32) (K : Int32 → Int32 → Int32 → (Nat → Int32) → Prop) (hv : v_X5_partAndStir O_X5_speak p1 p2 p3 traced parted yk ykind ym trace K) : CI l G yX5_partAndStir (.code yX5_partAndStir cX5_partAndStir 5 (some .int) :: wsG) (rmm (f + 1) (o + 26)) [.ref (b 0), .int p1, .int p2, .int p3] (wd_X5_1 G b traced parted yk ykind ym trace) (S := Int32 × Int32 × (Nat → Int32)) (fun u => wd_X5_1 G b u.1 u.2.1 yk ykind ym u.2.2) (fun r u => K r u.1 u.2.1 u.2.2) := by
  refine ci_intro (by decide) rfl (fun _ => rfl) (Nat.le_of_ble_eq_true rfl) ?_
  intro p e s m args below meth c A H ls Q C hW hS hl ret
  have hx := C.1.1
  have hb := C.1.2.1
  generalize hls : ([] : List Loc) = locs at hS ⊢
  have hl : lv_has ls 5 [(0, .ref (b 0)), (1, .int p1), (2, .int p2), (3, .int p3)] := hl
  refine lv_aload_n hx hb dX5_partAndStir_0 rfl (lv_at hl 0 rfl) ?_
  refine lv_iload_n hx hb dX5_partAndStir_1 rfl (lv_at hl 1 rfl) ?_
  refine lv_iconst (v := 3) hx hb dX5_partAndStir_2 kic_3 ?_
  refine lv_iload_n hx hb dX5_partAndStir_3 rfl (lv_at hl 2 rfl) ?_
  refine lv_iload_n hx hb dX5_partAndStir_4 rfl (lv_at hl 3 rfl) ?_
  refine q_callV (rest := []) (n := 4) C (hO_X5_speak G b traced parted yk ykind ym trace p1 (3 : Int32) p2 p3 _ hv) ml_X5_32 kb_X5_speak rfl ⟨⟨rfl, rfl⟩, (by show f + 1 ≤ f + 1; omega), (by show 8 + (7 + 11) + o ≤ o + 26; omega)⟩ hW hS [0, 1] rfl rfl kc5 (q0 := 0) rfl hl.1 rfl (Nat.le_of_ble_eq_true rfl) dX5_partAndStir_5 ⟨Nat.zero_le _, Nat.zero_le _⟩ (fun r_1 u_2 H locs hv hW hS => ?_)
  obtain ⟨traced_1, parted_1, trace_1⟩ := u_2
  try dsimp only at hv
  have hW : wo G A (wd_X5_1 G b traced_1 parted_1 yk ykind ym trace_1) H := hW
  refine lv_istore (lv' := [(4, .int r_1), (0, .ref (b 0)), (1, .int p1), (2, .int p2), (3, .int p3)]) hx hb dX5_partAndStir_8 hl (by decide) rfl (fun ls hl => ?_)
  refine lv_aload_n hx hb dX5_partAndStir_10 rfl (lv_at hl 1 rfl) ?_
  refine q_get C kc5 hW 0 rfl 2 (by decide) fl_X5_28 rfl rfl dX5_partAndStir_11 ?_
  refine lv_if_eq (tgt := 21) hx hb dX5_partAndStir_14 (by decide) (fun c_3 => ?_) (fun c_3 => ?_)
  · replace hv := hv.1 c_3
    refine lv_iload hx hb dX5_partAndStir_21 (lv_at hl 0 rfl) ?_
    refine lv_aload_n hx hb dX5_partAndStir_23 rfl (lv_at hl 1 rfl) ?_
    refine lv_aload_n hx hb dX5_partAndStir_24 rfl (lv_at hl 1 rfl) ?_
    refine q_get C kc5 hW 0 rfl 4 (by decide) fl_X5_19 rfl rfl dX5_partAndStir_25 ?_
    refine lv_iconst (v := 1) hx hb dX5_partAndStir_28 kic_1 ?_
    refine lv_iconst (v := 1) hx hb dX5_partAndStir_29 kic_1 ?_
    refine lv_iload_n hx hb dX5_partAndStir_30 rfl (lv_at hl 4 rfl) ?_
    refine q_callV (rest := [.int r_1]) (n := 4) C (hO_X5_speak G b traced_1 parted_1 yk ykind ym trace_1 ykind (1 : Int32) (1 : Int32) p3 _ hv) ml_X5_32 kb_X5_speak rfl ⟨⟨rfl, rfl⟩, (by show f + 1 ≤ f + 1; omega), (by show 8 + (7 + 11) + o ≤ o + 26; omega)⟩ hW hS [0, 1] rfl rfl kc5 (q0 := 0) rfl hl.1 rfl (Nat.le_of_ble_eq_true rfl) dX5_partAndStir_31 ⟨Nat.zero_le _, Nat.zero_le _⟩ (fun r_4 u_5 H locs hv hW hS => ?_)
    obtain ⟨traced_4, parted_4, trace_4⟩ := u_5
    try dsimp only at hv
    have hW : wo G A (wd_X5_1 G b traced_4 parted_4 yk ykind ym trace_4) H := hW
    refine lv_iadd hx hb dX5_partAndStir_34 ?_
    exact ret (traced_4, parted_4, trace_4) (r_1 + r_4) H locs ls _ rfl hW hS hv dX5_partAndStir_35
  · replace hv := hv.2 c_3
    refine lv_iconst (v := 0) hx hb dX5_partAndStir_17 kic_0 ?_
    refine lv_goto (tgt := 35) hx hb dX5_partAndStir_18 (by decide) ?_
    exact ret (traced_1, parted_1, trace_1) (0 : Int32) H locs ls _ rfl hW hS hv dX5_partAndStir_35
set_option maxHeartbeats 4000000 in
set_option maxRecDepth 100000 in
theorem c_X5_workOut (l : Launch) (f o : Nat) (O_X5_speak : Int32 → Int32 → Int32 → Int32 → Int32 → Int32 → Int32 → Int32 → Int32 → (Nat → Int32) → (Int32 → Int32 → Int32 → (Nat → Int32) → Prop) → Prop) (hO_X5_speak : ∀ (G : Gt) (b : Nat → Nat) (traced : Int32) (parted : Int32) (yk : Int32) (ykind : Int32) (ym : Int32) (trace : Nat → Int32) (p1 : Int32) (p2 : Int32) (p3 : Int32) (p4 : Int32) (K : Int32 → Int32 → Int32 → (Nat → Int32) → Prop), O_X5_speak p1 p2 p3 p4 traced parted yk ykind ym trace K → CI l G yX5_speak (.code yX5_speak cX5_speak 7 (some .int) :: wsG) (rmm f o) [.ref (b 0), .int p1, .int p2, .int p3, .int p4] (wd_X5_1 G b traced parted yk ykind ym trace) (S := Int32 × Int32 × (Nat → Int32)) (fun u => wd_X5_1 G b u.1 u.2.1 yk ykind ym u.2.2) (fun r u => K r u.1 u.2.1 u.2.2)) (G : Gt) (b : Nat → Nat) (traced : Int32) (parted : Int32) (yk : Int32) (ykind : Int32) (ym : Int32) (trace : Nat → Int32) (p1 : Int32) (p2 : Int32) (p3 : Int32) (p4 : Int32) (K : Int32 → Int32 → Int32 → (Nat → Int32) → Prop) (hv : v_X5_workOut O_X5_speak p1 p2 p3 p4 traced parted yk ykind ym trace K) : CI l G yX5_workOut (.code yX5_workOut cX5_workOut 5 (some .int) :: wsG) (rmm (f + 2) (o + 50)) [.ref (b 0), .int p1, .int p2, .int p3, .int p4] (wd_X5_1 G b traced parted yk ykind ym trace) (S := Int32 × Int32 × (Nat → Int32)) (fun u => wd_X5_1 G b u.1 u.2.1 yk ykind ym u.2.2) (fun r u => K r u.1 u.2.1 u.2.2) := by
  refine ci_intro (by decide) rfl (fun _ => rfl) (Nat.le_of_ble_eq_true rfl) ?_
  intro p e s m args below meth c A H ls Q C hW hS hl ret
  have hx := C.1.1
  have hb := C.1.2.1
  generalize hls : ([] : List Loc) = locs at hS ⊢
  have hl : lv_has ls 5 [(0, .ref (b 0)), (1, .int p1), (2, .int p2), (3, .int p3), (4, .int p4)] := hl
  refine lv_iload_n hx hb dX5_workOut_0 rfl (lv_at hl 1 rfl) ?_
  by_cases c_1_0 : p1 = 10
  · replace hv := hv.1 c_1_0
    refine lv_lookup (off := 115) (tgt := 116) hx hb dX5_workOut_1 (by decide) (by rw [c_1_0] <;> rfl) (by decide) ?_
    refine lv_iload_n hx hb dX5_workOut_116 rfl (lv_at hl 3 rfl) ?_
    refine lv_aload_n hx hb dX5_workOut_117 rfl (lv_at hl 0 rfl) ?_
    refine q_get C kc5 hW 0 rfl 3 (by decide) fl_X5_15 rfl rfl dX5_workOut_118 ?_
    refine lv_iadd hx hb dX5_workOut_121 ?_
    exact ret (traced, parted, trace) (p3 + yk) H locs ls _ rfl hW hS hv dX5_workOut_122
  · replace hv := hv.2 c_1_0
    by_cases c_1_1 : p1 = 11
    · replace hv := hv.1 c_1_1
      refine lv_lookup (off := 122) (tgt := 123) hx hb dX5_workOut_1 (by decide) (by rw [c_1_1] <;> rfl) (by decide) ?_
      refine lv_aload_n hx hb dX5_workOut_123 rfl (lv_at hl 0 rfl) ?_
      refine lv_aload_n hx hb dX5_workOut_124 rfl (lv_at hl 0 rfl) ?_
      refine q_get C kc5 hW 0 rfl 4 (by decide) fl_X5_19 rfl rfl dX5_workOut_125 ?_
      refine lv_iconst (v := 0) hx hb dX5_workOut_128 kic_0 ?_
      refine lv_iload_n hx hb dX5_workOut_129 rfl (lv_at hl 3 rfl) ?_
      refine lv_iload hx hb dX5_workOut_130 (lv_at hl 4 rfl) ?_
      refine q_callV (rest := []) (n := 4) C (hO_X5_speak G b traced parted yk ykind ym trace ykind (0 : Int32) p3 p4 _ hv) ml_X5_32 kb_X5_speak rfl ⟨⟨rfl, rfl⟩, (by show f + 1 ≤ f + 2; omega), (by show 8 + (7 + 11) + o ≤ o + 50; omega)⟩ hW hS [0, 1] rfl rfl kc5 (q0 := 0) rfl hl.1 rfl (Nat.le_of_ble_eq_true rfl) dX5_workOut_132 ⟨Nat.zero_le _, Nat.zero_le _⟩ (fun r_2 u_3 H locs hv hW hS => ?_)
      obtain ⟨traced_2, parted_2, trace_2⟩ := u_3
      try dsimp only at hv
      have hW : wo G A (wd_X5_1 G b traced_2 parted_2 yk ykind ym trace_2) H := hW
      refine lv_iconst (v := 2) hx hb dX5_workOut_135 kic_2 ?_
      refine lv_imul hx hb dX5_workOut_136 ?_
      exact ret (traced_2, parted_2, trace_2) (r_2 * (2 : Int32)) H locs ls _ rfl hW hS hv dX5_workOut_137
    · replace hv := hv.2 c_1_1
      by_cases c_1_2 : p1 = 12
      · replace hv := hv.1 c_1_2
        refine lv_lookup (off := 137) (tgt := 138) hx hb dX5_workOut_1 (by decide) (by rw [c_1_2] <;> rfl) (by decide) ?_
        refine lv_aload_n hx hb dX5_workOut_138 rfl (lv_at hl 0 rfl) ?_
        refine lv_aload_n hx hb dX5_workOut_139 rfl (lv_at hl 0 rfl) ?_
        refine q_get C kc5 hW 0 rfl 4 (by decide) fl_X5_19 rfl rfl dX5_workOut_140 ?_
        refine lv_iconst (v := 1) hx hb dX5_workOut_143 kic_1 ?_
        refine lv_iload_n hx hb dX5_workOut_144 rfl (lv_at hl 3 rfl) ?_
        refine lv_iload hx hb dX5_workOut_145 (lv_at hl 4 rfl) ?_
        refine q_callV (rest := []) (n := 4) C (hO_X5_speak G b traced parted yk ykind ym trace ykind (1 : Int32) p3 p4 _ hv) ml_X5_32 kb_X5_speak rfl ⟨⟨rfl, rfl⟩, (by show f + 1 ≤ f + 2; omega), (by show 8 + (7 + 11) + o ≤ o + 50; omega)⟩ hW hS [0, 1] rfl rfl kc5 (q0 := 0) rfl hl.1 rfl (Nat.le_of_ble_eq_true rfl) dX5_workOut_147 ⟨Nat.zero_le _, Nat.zero_le _⟩ (fun r_4 u_5 H locs hv hW hS => ?_)
        obtain ⟨traced_4, parted_4, trace_4⟩ := u_5
        try dsimp only at hv
        have hW : wo G A (wd_X5_1 G b traced_4 parted_4 yk ykind ym trace_4) H := hW
        refine lv_aload_n hx hb dX5_workOut_150 rfl (lv_at hl 0 rfl) ?_
        refine q_get C kc5 hW 0 rfl 5 (by decide) fl_X5_22 rfl rfl dX5_workOut_151 ?_
        refine lv_isub hx hb dX5_workOut_154 ?_
        exact ret (traced_4, parted_4, trace_4) (r_4 - ym) H locs ls _ rfl hW hS hv dX5_workOut_155
      · replace hv := hv.2 c_1_2
        by_cases c_1_3 : p1 = 13
        · replace hv := hv.1 c_1_3
          refine lv_lookup (off := 155) (tgt := 156) hx hb dX5_workOut_1 (by decide) (by rw [c_1_3] <;> rfl) (by decide) ?_
          refine lv_aload_n hx hb dX5_workOut_156 rfl (lv_at hl 0 rfl) ?_
          refine lv_iload_n hx hb dX5_workOut_157 rfl (lv_at hl 3 rfl) ?_
          refine q_callV (rest := []) (n := 1) C (c_X5_part l G b traced parted yk ykind ym p3 _ hv) ml_X5_49 kb_X5_part rfl ⟨⟨rfl, rfl⟩, (by show 0 + 1 ≤ f + 2; omega), (by show 8 + (3 + 11) + 0 ≤ o + 50; omega)⟩ hW hS [0] rfl rfl kc5 (q0 := 0) rfl hl.1 rfl (Nat.le_of_ble_eq_true rfl) dX5_workOut_158 ⟨Nat.zero_le _, Nat.zero_le _⟩ (fun r_6 u_7 H locs hv hW hS => ?_)
          obtain ⟨parted_6, rfl⟩ : ∃ z, z = u_7 := ⟨_, rfl⟩
          try dsimp only at hv
          have hW : wo G A (wd_X5_1 G b traced parted_6 yk ykind ym trace) H := hW
          exact ret (traced, parted_6, trace) r_6 H locs ls _ rfl hW hS hv dX5_workOut_161
        · replace hv := hv.2 c_1_3
          by_cases c_1_4 : p1 = 20
          · replace hv := hv.1 c_1_4
            refine lv_lookup (off := 161) (tgt := 162) hx hb dX5_workOut_1 (by decide) (by rw [c_1_4] <;> rfl) (by decide) ?_
            refine lv_aload_n hx hb dX5_workOut_162 rfl (lv_at hl 0 rfl) ?_
            refine lv_iload_n hx hb dX5_workOut_163 rfl (lv_at hl 2 rfl) ?_
            refine lv_iconst (v := 0) hx hb dX5_workOut_164 kic_0 ?_
            refine lv_iload_n hx hb dX5_workOut_165 rfl (lv_at hl 3 rfl) ?_
            refine lv_iload hx hb dX5_workOut_166 (lv_at hl 4 rfl) ?_
            refine q_callV (rest := []) (n := 4) C (hO_X5_speak G b traced parted yk ykind ym trace p2 (0 : Int32) p3 p4 _ hv) ml_X5_32 kb_X5_speak rfl ⟨⟨rfl, rfl⟩, (by show f + 1 ≤ f + 2; omega), (by show 8 + (7 + 11) + o ≤ o + 50; omega)⟩ hW hS [0, 1] rfl rfl kc5 (q0 := 0) rfl hl.1 rfl (Nat.le_of_ble_eq_true rfl) dX5_workOut_168 ⟨Nat.zero_le _, Nat.zero_le _⟩ (fun r_8 u_9 H locs hv hW hS => ?_)
            obtain ⟨traced_8, parted_8, trace_8⟩ := u_9
            try dsimp only at hv
            have hW : wo G A (wd_X5_1 G b traced_8 parted_8 yk ykind ym trace_8) H := hW
            refine lv_iconst (v := 4) hx hb dX5_workOut_171 kic_4 ?_
            refine lv_isub hx hb dX5_workOut_172 ?_
            exact ret (traced_8, parted_8, trace_8) (r_8 - (4 : Int32)) H locs ls _ rfl hW hS hv dX5_workOut_173
          · replace hv := hv.2 c_1_4
            by_cases c_1_5 : p1 = 21
            · replace hv := hv.1 c_1_5
              refine lv_lookup (off := 173) (tgt := 174) hx hb dX5_workOut_1 (by decide) (by rw [c_1_5] <;> rfl) (by decide) ?_
              refine lv_aload_n hx hb dX5_workOut_174 rfl (lv_at hl 0 rfl) ?_
              refine lv_iload_n hx hb dX5_workOut_175 rfl (lv_at hl 2 rfl) ?_
              refine lv_iload_n hx hb dX5_workOut_176 rfl (lv_at hl 3 rfl) ?_
              refine lv_iload hx hb dX5_workOut_177 (lv_at hl 4 rfl) ?_
              refine q_callV (rest := []) (n := 3) C (c_X5_partAndStir l f o O_X5_speak hO_X5_speak G b traced parted yk ykind ym trace p2 p3 p4 _ hv) ml_X5_53 kb_X5_partAndStir rfl ⟨⟨rfl, rfl⟩, (by show f + 1 + 1 ≤ f + 2; omega), (by show 8 + (5 + 11) + (o + 26) ≤ o + 50; omega)⟩ hW hS [0, 1] rfl rfl kc5 (q0 := 0) rfl hl.1 rfl (Nat.le_of_ble_eq_true rfl) dX5_workOut_179 ⟨Nat.zero_le _, Nat.zero_le _⟩ (fun r_10 u_11 H locs hv hW hS => ?_)
              obtain ⟨traced_10, parted_10, trace_10⟩ := u_11
              try dsimp only at hv
              have hW : wo G A (wd_X5_1 G b traced_10 parted_10 yk ykind ym trace_10) H := hW
              exact ret (traced_10, parted_10, trace_10) r_10 H locs ls _ rfl hW hS hv dX5_workOut_182
            · replace hv := hv.2 c_1_5
              by_cases c_1_6 : p1 = 30
              · replace hv := hv.1 c_1_6
                refine lv_lookup (off := 182) (tgt := 183) hx hb dX5_workOut_1 (by decide) (by rw [c_1_6] <;> rfl) (by decide) ?_
                refine lv_iconst (v := 0) hx hb dX5_workOut_183 kic_0 ?_
                refine lv_aload_n hx hb dX5_workOut_184 rfl (lv_at hl 0 rfl) ?_
                refine lv_iload_n hx hb dX5_workOut_185 rfl (lv_at hl 2 rfl) ?_
                refine lv_iconst (v := 1) hx hb dX5_workOut_186 kic_1 ?_
                refine lv_iload_n hx hb dX5_workOut_187 rfl (lv_at hl 3 rfl) ?_
                refine lv_iload hx hb dX5_workOut_188 (lv_at hl 4 rfl) ?_
                refine q_callV (rest := [.int (0 : Int32)]) (n := 4) C (hO_X5_speak G b traced parted yk ykind ym trace p2 (1 : Int32) p3 p4 _ hv) ml_X5_32 kb_X5_speak rfl ⟨⟨rfl, rfl⟩, (by show f + 1 ≤ f + 2; omega), (by show 8 + (7 + 11) + o ≤ o + 50; omega)⟩ hW hS [0, 1] rfl rfl kc5 (q0 := 0) rfl hl.1 rfl (Nat.le_of_ble_eq_true rfl) dX5_workOut_190 ⟨Nat.zero_le _, Nat.zero_le _⟩ (fun r_12 u_13 H locs hv hW hS => ?_)
                obtain ⟨traced_12, parted_12, trace_12⟩ := u_13
                try dsimp only at hv
                have hW : wo G A (wd_X5_1 G b traced_12 parted_12 yk ykind ym trace_12) H := hW
                refine lv_isub hx hb dX5_workOut_193 ?_
                exact ret (traced_12, parted_12, trace_12) ((0 : Int32) - r_12) H locs ls _ rfl hW hS hv dX5_workOut_194
              · replace hv := hv.2 c_1_6
                by_cases c_1_7 : p1 = 40
                · replace hv := hv.1 c_1_7
                  refine lv_lookup (off := 194) (tgt := 195) hx hb dX5_workOut_1 (by decide) (by rw [c_1_7] <;> rfl) (by decide) ?_
                  refine lv_aload_n hx hb dX5_workOut_195 rfl (lv_at hl 0 rfl) ?_
                  refine lv_iload_n hx hb dX5_workOut_196 rfl (lv_at hl 2 rfl) ?_
                  refine lv_iconst (v := 2) hx hb dX5_workOut_197 kic_2 ?_
                  refine lv_iload_n hx hb dX5_workOut_198 rfl (lv_at hl 3 rfl) ?_
                  refine lv_iconst (v := 2) hx hb dX5_workOut_199 kic_2 ?_
                  obtain ⟨h_14, hv⟩ := hv
                  refine lv_idiv hx hb dX5_workOut_200 h_14 ?_
                  refine lv_iload hx hb dX5_workOut_201 (lv_at hl 4 rfl) ?_
                  refine q_callV (rest := []) (n := 4) C (hO_X5_speak G b traced parted yk ykind ym trace p2 (2 : Int32) (p3 / (2 : Int32)) p4 _ hv) ml_X5_32 kb_X5_speak rfl ⟨⟨rfl, rfl⟩, (by show f + 1 ≤ f + 2; omega), (by show 8 + (7 + 11) + o ≤ o + 50; omega)⟩ hW hS [0, 1] rfl rfl kc5 (q0 := 0) rfl hl.1 rfl (Nat.le_of_ble_eq_true rfl) dX5_workOut_203 ⟨Nat.zero_le _, Nat.zero_le _⟩ (fun r_15 u_16 H locs hv hW hS => ?_)
                  obtain ⟨traced_15, parted_15, trace_15⟩ := u_16
                  try dsimp only at hv
                  have hW : wo G A (wd_X5_1 G b traced_15 parted_15 yk ykind ym trace_15) H := hW
                  exact ret (traced_15, parted_15, trace_15) r_15 H locs ls _ rfl hW hS hv dX5_workOut_206
                · replace hv := hv.2 c_1_7
                  by_cases c_1_8 : p1 = 50
                  · replace hv := hv.1 c_1_8
                    refine lv_lookup (off := 206) (tgt := 207) hx hb dX5_workOut_1 (by decide) (by rw [c_1_8] <;> rfl) (by decide) ?_
                    refine lv_aload_n hx hb dX5_workOut_207 rfl (lv_at hl 0 rfl) ?_
                    refine lv_iload_n hx hb dX5_workOut_208 rfl (lv_at hl 2 rfl) ?_
                    refine lv_iconst (v := 0) hx hb dX5_workOut_209 kic_0 ?_
                    refine lv_iload_n hx hb dX5_workOut_210 rfl (lv_at hl 3 rfl) ?_
                    refine lv_iload hx hb dX5_workOut_211 (lv_at hl 4 rfl) ?_
                    refine q_callV (rest := []) (n := 4) C (hO_X5_speak G b traced parted yk ykind ym trace p2 (0 : Int32) p3 p4 _ hv) ml_X5_32 kb_X5_speak rfl ⟨⟨rfl, rfl⟩, (by show f + 1 ≤ f + 2; omega), (by show 8 + (7 + 11) + o ≤ o + 50; omega)⟩ hW hS [0, 1] rfl rfl kc5 (q0 := 0) rfl hl.1 rfl (Nat.le_of_ble_eq_true rfl) dX5_workOut_213 ⟨Nat.zero_le _, Nat.zero_le _⟩ (fun r_17 u_18 H locs hv hW hS => ?_)
                    obtain ⟨traced_17, parted_17, trace_17⟩ := u_18
                    try dsimp only at hv
                    have hW : wo G A (wd_X5_1 G b traced_17 parted_17 yk ykind ym trace_17) H := hW
                    refine lv_iconst (v := 3) hx hb dX5_workOut_216 kic_3 ?_
                    refine lv_imul hx hb dX5_workOut_217 ?_
                    exact ret (traced_17, parted_17, trace_17) (r_17 * (3 : Int32)) H locs ls _ rfl hW hS hv dX5_workOut_218
                  · replace hv := hv.2 c_1_8
                    by_cases c_1_9 : p1 = 51
                    · replace hv := hv.1 c_1_9
                      refine lv_lookup (off := 218) (tgt := 219) hx hb dX5_workOut_1 (by decide) (by rw [c_1_9] <;> rfl) (by decide) ?_
                      refine lv_aload_n hx hb dX5_workOut_219 rfl (lv_at hl 0 rfl) ?_
                      refine lv_iload_n hx hb dX5_workOut_220 rfl (lv_at hl 2 rfl) ?_
                      refine lv_iconst (v := 2) hx hb dX5_workOut_221 kic_2 ?_
                      refine lv_iload_n hx hb dX5_workOut_222 rfl (lv_at hl 3 rfl) ?_
                      refine lv_iload hx hb dX5_workOut_223 (lv_at hl 4 rfl) ?_
                      refine q_callV (rest := []) (n := 4) C (hO_X5_speak G b traced parted yk ykind ym trace p2 (2 : Int32) p3 p4 _ hv) ml_X5_32 kb_X5_speak rfl ⟨⟨rfl, rfl⟩, (by show f + 1 ≤ f + 2; omega), (by show 8 + (7 + 11) + o ≤ o + 50; omega)⟩ hW hS [0, 1] rfl rfl kc5 (q0 := 0) rfl hl.1 rfl (Nat.le_of_ble_eq_true rfl) dX5_workOut_225 ⟨Nat.zero_le _, Nat.zero_le _⟩ (fun r_19 u_20 H locs hv hW hS => ?_)
                      obtain ⟨traced_19, parted_19, trace_19⟩ := u_20
                      try dsimp only at hv
                      have hW : wo G A (wd_X5_1 G b traced_19 parted_19 yk ykind ym trace_19) H := hW
                      refine lv_aload_n hx hb dX5_workOut_228 rfl (lv_at hl 0 rfl) ?_
                      refine q_get C kc5 hW 0 rfl 3 (by decide) fl_X5_15 rfl rfl dX5_workOut_229 ?_
                      refine lv_ixor hx hb dX5_workOut_232 ?_
                      exact ret (traced_19, parted_19, trace_19) (r_19 ^^^ yk) H locs ls _ rfl hW hS hv dX5_workOut_233
                    · replace hv := hv.2 c_1_9
                      by_cases c_1_10 : p1 = 60
                      · replace hv := hv.1 c_1_10
                        refine lv_lookup (off := 233) (tgt := 234) hx hb dX5_workOut_1 (by decide) (by rw [c_1_10] <;> rfl) (by decide) ?_
                        refine lv_aload_n hx hb dX5_workOut_234 rfl (lv_at hl 0 rfl) ?_
                        refine lv_iload_n hx hb dX5_workOut_235 rfl (lv_at hl 2 rfl) ?_
                        refine lv_iconst (v := 1) hx hb dX5_workOut_236 kic_1 ?_
                        refine lv_iload_n hx hb dX5_workOut_237 rfl (lv_at hl 3 rfl) ?_
                        refine lv_iconst (v := 1) hx hb dX5_workOut_238 kic_1 ?_
                        refine lv_iadd hx hb dX5_workOut_239 ?_
                        refine lv_iload hx hb dX5_workOut_240 (lv_at hl 4 rfl) ?_
                        refine q_callV (rest := []) (n := 4) C (hO_X5_speak G b traced parted yk ykind ym trace p2 (1 : Int32) (p3 + (1 : Int32)) p4 _ hv) ml_X5_32 kb_X5_speak rfl ⟨⟨rfl, rfl⟩, (by show f + 1 ≤ f + 2; omega), (by show 8 + (7 + 11) + o ≤ o + 50; omega)⟩ hW hS [0, 1] rfl rfl kc5 (q0 := 0) rfl hl.1 rfl (Nat.le_of_ble_eq_true rfl) dX5_workOut_242 ⟨Nat.zero_le _, Nat.zero_le _⟩ (fun r_21 u_22 H locs hv hW hS => ?_)
                        obtain ⟨traced_21, parted_21, trace_21⟩ := u_22
                        try dsimp only at hv
                        have hW : wo G A (wd_X5_1 G b traced_21 parted_21 yk ykind ym trace_21) H := hW
                        exact ret (traced_21, parted_21, trace_21) r_21 H locs ls _ rfl hW hS hv dX5_workOut_245
                      · replace hv := hv.2 c_1_10
                        by_cases c_1_11 : p1 = 70
                        · replace hv := hv.1 c_1_11
                          refine lv_lookup (off := 245) (tgt := 246) hx hb dX5_workOut_1 (by decide) (by rw [c_1_11] <;> rfl) (by decide) ?_
                          refine lv_bipush (v := 9) hx hb dX5_workOut_246 kbp_9 ?_
                          exact ret (traced, parted, trace) (9 : Int32) H locs ls _ rfl hW hS hv dX5_workOut_248
                        · replace hv := hv.2 c_1_11
                          by_cases c_1_12 : p1 = 71
                          · replace hv := hv.1 c_1_12
                            refine lv_lookup (off := 248) (tgt := 249) hx hb dX5_workOut_1 (by decide) (by rw [c_1_12] <;> rfl) (by decide) ?_
                            refine lv_aload_n hx hb dX5_workOut_249 rfl (lv_at hl 0 rfl) ?_
                            refine lv_iload_n hx hb dX5_workOut_250 rfl (lv_at hl 2 rfl) ?_
                            refine lv_iconst (v := 1) hx hb dX5_workOut_251 kic_1 ?_
                            refine lv_iload_n hx hb dX5_workOut_252 rfl (lv_at hl 3 rfl) ?_
                            refine lv_iload hx hb dX5_workOut_253 (lv_at hl 4 rfl) ?_
                            refine q_callV (rest := []) (n := 4) C (hO_X5_speak G b traced parted yk ykind ym trace p2 (1 : Int32) p3 p4 _ hv) ml_X5_32 kb_X5_speak rfl ⟨⟨rfl, rfl⟩, (by show f + 1 ≤ f + 2; omega), (by show 8 + (7 + 11) + o ≤ o + 50; omega)⟩ hW hS [0, 1] rfl rfl kc5 (q0 := 0) rfl hl.1 rfl (Nat.le_of_ble_eq_true rfl) dX5_workOut_255 ⟨Nat.zero_le _, Nat.zero_le _⟩ (fun r_23 u_24 H locs hv hW hS => ?_)
                            obtain ⟨traced_23, parted_23, trace_23⟩ := u_24
                            try dsimp only at hv
                            have hW : wo G A (wd_X5_1 G b traced_23 parted_23 yk ykind ym trace_23) H := hW
                            refine lv_aload_n hx hb dX5_workOut_258 rfl (lv_at hl 0 rfl) ?_
                            refine q_get C kc5 hW 0 rfl 5 (by decide) fl_X5_22 rfl rfl dX5_workOut_259 ?_
                            refine lv_iadd hx hb dX5_workOut_262 ?_
                            exact ret (traced_23, parted_23, trace_23) (r_23 + ym) H locs ls _ rfl hW hS hv dX5_workOut_263
                          · replace hv := hv.2 c_1_12
                            refine lv_lookup (off := 263) (tgt := 264) hx hb dX5_workOut_1 (by decide) ((lv_osw c_1_0 rfl).trans ((lv_osw c_1_1 rfl).trans ((lv_osw c_1_2 rfl).trans ((lv_osw c_1_3 rfl).trans ((lv_osw c_1_4 rfl).trans ((lv_osw c_1_5 rfl).trans ((lv_osw c_1_6 rfl).trans ((lv_osw c_1_7 rfl).trans ((lv_osw c_1_8 rfl).trans ((lv_osw c_1_9 rfl).trans ((lv_osw c_1_10 rfl).trans ((lv_osw c_1_11 rfl).trans ((lv_osw c_1_12 rfl).trans rfl))))))))))))) (by decide) ?_
                            refine lv_iconst (v := 0) hx hb dX5_workOut_264 kic_0 ?_
                            exact ret (traced, parted, trace) (0 : Int32) H locs ls _ rfl hW hS hv dX5_workOut_265
