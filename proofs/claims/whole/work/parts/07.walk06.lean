set_option maxHeartbeats 4000000 in
set_option maxRecDepth 100000 in
theorem c_X7_image (l : Launch) (G : Gt) (b : Nat → Nat) (m_images : Int32) (m_at_ : Int32) (m_open_ : Int32) (m_steps : Int32) (m_use_ : Int32) (m_traced : Int32) (m_speaks : Int32) (m_isParted : Int32) (m_s : Nat → Int32) (m_kept : Nat → Int32) (K : Int32 → Int32 → (Nat → Int32) → Prop) (hv : v_X7_image m_images m_s m_kept K) : CI l G yX7_image (.code yX7_image cX7_image 1 (some .int) :: wsG) (rmm 1 22) [.ref (b 0)] (wd_X7_28 G b m_images m_at_ m_open_ m_steps m_use_ m_traced m_speaks m_isParted m_s m_kept) (S := Int32 × (Nat → Int32)) (fun u => wd_X7_28 G b u.1 m_at_ m_open_ m_steps m_use_ m_traced m_speaks m_isParted m_s u.2) (fun r u => K r u.1 u.2) := by
  refine ci_intro (by decide) rfl (fun _ => rfl) (Nat.le_of_ble_eq_true rfl) ?_
  intro p e s m args below meth c A H ls Q C hW hS hl ret
  have hx := C.1.1
  have hb := C.1.2.1
  generalize hls : ([] : List Loc) = locs at hS ⊢
  have hl : lv_has ls 1 [(0, .ref (b 0))] := hl
  refine lv_aload_n hx hb dX7_image_0 rfl (lv_at hl 0 rfl) ?_
  refine q_get C kc7 hW 0 rfl 0 (by decide) fl_X7_7 rfl rfl dX7_image_1 ?_
  refine lv_aload_n hx hb dX7_image_4 rfl (lv_at hl 0 rfl) ?_
  refine q_get C kc7 hW 0 rfl 1 (by decide) fl_X7_13 rfl rfl dX7_image_5 ?_
  refine q_callSCv (rest := []) (n := 2) C (c_X7_copyAll l G (b 1) (b 2) m_s m_kept _ hv) ml_X7_253 kb_X7_copyAll rfl ⟨⟨rfl, rfl⟩, (Nat.le_of_ble_eq_true rfl), (Nat.le_of_ble_eq_true rfl)⟩ hW hS [1, 2] rfl rfl hl.1 rfl (Nat.le_of_ble_eq_true rfl) dX7_image_8 ⟨Nat.zero_le _, Nat.zero_le _⟩ (fun u_2 H locs hv hW hS => ?_)
  obtain ⟨m_kept_1, rfl⟩ : ∃ z, z = u_2 := ⟨_, rfl⟩
  try dsimp only at hv
  have hW : wo G A (wd_X7_28 G b m_images m_at_ m_open_ m_steps m_use_ m_traced m_speaks m_isParted m_s m_kept_1) H := hW
  refine lv_aload_n hx hb dX7_image_11 rfl (lv_at hl 0 rfl) ?_
  refine lv_dup hx hb dX7_image_12 rfl ?_
  refine q_get C kc7 hW 0 rfl 3 (by decide) fl_X7_257 rfl rfl dX7_image_13 ?_
  refine lv_iconst (v := 1) hx hb dX7_image_16 kic_1 ?_
  refine lv_iadd hx hb dX7_image_17 ?_
  refine q_put C kc7 hW hS 0 rfl 3 (by decide) fl_X7_257 rfl rfl rfl rfl (Nat.le_of_ble_eq_true rfl) dX7_image_18 (fun H locs hW hS => ?_)
  have hW : wo G A (wd_X7_28 G b (m_images + (1 : Int32)) m_at_ m_open_ m_steps m_use_ m_traced m_speaks m_isParted m_s m_kept_1) H := hW
  refine lv_aload_n hx hb dX7_image_21 rfl (lv_at hl 0 rfl) ?_
  refine q_get C kc7 hW 0 rfl 3 (by decide) fl_X7_257 rfl rfl dX7_image_22 ?_
  exact ret ((m_images + (1 : Int32)), m_kept_1) (m_images + (1 : Int32)) H locs ls _ rfl hW hS hv dX7_image_25
set_option maxHeartbeats 4000000 in
set_option maxRecDepth 100000 in
theorem c_X7_restore (l : Launch) (G : Gt) (b : Nat → Nat) (m_images : Int32) (m_at_ : Int32) (m_open_ : Int32) (m_steps : Int32) (m_use_ : Int32) (m_traced : Int32) (m_speaks : Int32) (m_isParted : Int32) (m_s : Nat → Int32) (m_kept : Nat → Int32) (m_errors : Nat → Int32) (K : Int32 → (Nat → Int32) → (Nat → Int32) → Prop) (hv : v_X7_restore m_images m_s m_kept m_errors K) : CI l G yX7_restore (.code yX7_restore cX7_restore 1 (some .int) :: wsG) (rmm 1 22) [.ref (b 0)] (wd_X7_29 G b m_images m_at_ m_open_ m_steps m_use_ m_traced m_speaks m_isParted m_s m_kept m_errors) (S := (Nat → Int32) × (Nat → Int32)) (fun u => wd_X7_29 G b m_images m_at_ m_open_ m_steps m_use_ m_traced m_speaks m_isParted u.1 m_kept u.2) (fun r u => K r u.1 u.2) := by
  refine ci_intro (by decide) rfl (fun _ => rfl) (Nat.le_of_ble_eq_true rfl) ?_
  intro p e s m args below meth c A H ls Q C hW hS hl ret
  have hx := C.1.1
  have hb := C.1.2.1
  generalize hls : ([] : List Loc) = locs at hS ⊢
  have hl : lv_has ls 1 [(0, .ref (b 0))] := hl
  refine lv_aload_n hx hb dX7_restore_0 rfl (lv_at hl 0 rfl) ?_
  refine q_get C kc7 hW 0 rfl 3 (by decide) fl_X7_257 rfl rfl dX7_restore_1 ?_
  refine lv_if_ne (tgt := 13) hx hb dX7_restore_4 (by decide) (fun c_1 => ?_) (fun c_1 => ?_)
  · replace hv := hv.1 c_1
    refine lv_aload_n hx hb dX7_restore_13 rfl (lv_at hl 0 rfl) ?_
    refine q_get C kc7 hW 0 rfl 1 (by decide) fl_X7_13 rfl rfl dX7_restore_14 ?_
    refine lv_aload_n hx hb dX7_restore_17 rfl (lv_at hl 0 rfl) ?_
    refine q_get C kc7 hW 0 rfl 0 (by decide) fl_X7_7 rfl rfl dX7_restore_18 ?_
    refine q_callSCv (rest := []) (n := 2) C (c_X7_copyAll l G (b 2) (b 1) m_kept m_s _ hv) ml_X7_253 kb_X7_copyAll rfl ⟨⟨rfl, rfl⟩, (Nat.le_of_ble_eq_true rfl), (Nat.le_of_ble_eq_true rfl)⟩ hW hS [2, 1] rfl rfl hl.1 rfl (Nat.le_of_ble_eq_true rfl) dX7_restore_21 ⟨Nat.zero_le _, Nat.zero_le _⟩ (fun u_3 H locs hv hW hS => ?_)
    obtain ⟨m_s_2, rfl⟩ : ∃ z, z = u_3 := ⟨_, rfl⟩
    try dsimp only at hv
    have hW : wo G A (wd_X7_29 G b m_images m_at_ m_open_ m_steps m_use_ m_traced m_speaks m_isParted m_s_2 m_kept m_errors) H := hW
    refine lv_aload_n hx hb dX7_restore_24 rfl (lv_at hl 0 rfl) ?_
    refine q_get C kc7 hW 0 rfl 0 (by decide) fl_X7_7 rfl rfl dX7_restore_25 ?_
    refine lv_iconst (v := 0) hx hb dX7_restore_28 kic_0 ?_
    obtain ⟨h_4, hv⟩ := hv
    refine q_iald C hW 1 rfl h_4 dX7_restore_29 ?_
    exact ret (m_s_2, m_errors) (m_s_2 (0 : Int32).toNatClampNeg) H locs ls _ rfl hW hS hv dX7_restore_30
  · replace hv := hv.2 c_1
    refine lv_aload_n hx hb dX7_restore_7 rfl (lv_at hl 0 rfl) ?_
    refine lv_iconst (v := 2) hx hb dX7_restore_8 kic_2 ?_
    refine q_callV (rest := []) (n := 1) C (c_X7_error l G b m_images m_at_ m_open_ m_steps m_use_ m_traced m_speaks m_isParted m_errors (2 : Int32) _ hv) ml_X7_61 kb_X7_error rfl ⟨⟨rfl, rfl⟩, (Nat.le_of_ble_eq_true rfl), (Nat.le_of_ble_eq_true rfl)⟩ hW hS [0, 3] rfl rfl kc7 (q0 := 0) rfl hl.1 rfl (Nat.le_of_ble_eq_true rfl) dX7_restore_9 ⟨Nat.zero_le _, Nat.zero_le _⟩ (fun r_5 u_6 H locs hv hW hS => ?_)
    obtain ⟨m_errors_5, rfl⟩ : ∃ z, z = u_6 := ⟨_, rfl⟩
    try dsimp only at hv
    have hW : wo G A (wd_X7_29 G b m_images m_at_ m_open_ m_steps m_use_ m_traced m_speaks m_isParted m_s m_kept m_errors_5) H := hW
    exact ret (m_s, m_errors_5) r_5 H locs ls _ rfl hW hS hv dX7_restore_12
set_option maxHeartbeats 4000000 in
set_option maxRecDepth 100000 in
theorem c_X7_tell (l : Launch) (G : Gt) (b : Nat → Nat) (m_images : Int32) (m_at_ : Int32) (m_open_ : Int32) (m_steps : Int32) (m_use_ : Int32) (m_traced : Int32) (m_speaks : Int32) (m_isParted : Int32) (m_s : Nat → Int32) (m_errors : Nat → Int32) (p1 : Int32) (K : Int32 → (Nat → Int32) → (Nat → Int32) → Prop) (hv : v_X7_tell p1 m_s m_errors K) : CI l G yX7_tell (.code yX7_tell cX7_tell 2 (some .int) :: wsG) (rmm 1 21) [.ref (b 0), .int p1] (wd_X7_4 G b m_images m_at_ m_open_ m_steps m_use_ m_traced m_speaks m_isParted m_s m_errors) (S := (Nat → Int32) × (Nat → Int32)) (fun u => wd_X7_4 G b m_images m_at_ m_open_ m_steps m_use_ m_traced m_speaks m_isParted u.1 u.2) (fun r u => K r u.1 u.2) := by
  refine ci_intro (by decide) rfl (fun _ => rfl) (Nat.le_of_ble_eq_true rfl) ?_
  intro p e s m args below meth c A H ls Q C hW hS hl ret
  have hx := C.1.1
  have hb := C.1.2.1
  generalize hls : ([] : List Loc) = locs at hS ⊢
  have hl : lv_has ls 2 [(0, .ref (b 0)), (1, .int p1)] := hl
  refine lv_aload_n hx hb dX7_tell_0 rfl (lv_at hl 0 rfl) ?_
  refine q_get C kc7 hW 0 rfl 0 (by decide) fl_X7_7 rfl rfl dX7_tell_1 ?_
  refine lv_iconst (v := 3) hx hb dX7_tell_4 kic_3 ?_
  obtain ⟨h_1, hv⟩ := hv
  refine q_iald C hW 1 rfl h_1 dX7_tell_5 ?_
  refine lv_bipush (v := 24) hx hb dX7_tell_6 kbp_24 ?_
  refine lv_icmp_ne (tgt := 17) hx hb dX7_tell_8 (by decide) (fun c_2 => ?_) (fun c_2 => ?_)
  · replace hv := hv.1 c_2
    refine lv_aload_n hx hb dX7_tell_17 rfl (lv_at hl 0 rfl) ?_
    refine q_get C kc7 hW 0 rfl 0 (by decide) fl_X7_7 rfl rfl dX7_tell_18 ?_
    refine lv_sipush (v := 358) hx hb dX7_tell_21 ksp_358 ?_
    refine lv_aload_n hx hb dX7_tell_24 rfl (lv_at hl 0 rfl) ?_
    refine q_get C kc7 hW 0 rfl 0 (by decide) fl_X7_7 rfl rfl dX7_tell_25 ?_
    refine lv_iconst (v := 3) hx hb dX7_tell_28 kic_3 ?_
    obtain ⟨h_3, hv⟩ := hv
    refine q_iald C hW 1 rfl h_3 dX7_tell_29 ?_
    refine lv_iadd hx hb dX7_tell_30 ?_
    refine lv_iload_n hx hb dX7_tell_31 rfl (lv_at hl 1 rfl) ?_
    obtain ⟨h_4, hv⟩ := hv
    refine q_iast C hW hS 1 rfl h_4 dX7_tell_32 (fun H locs hW hS => ?_)
    have hW : wo G A (wd_X7_4 G b m_images m_at_ m_open_ m_steps m_use_ m_traced m_speaks m_isParted (upd m_s ((358 : Int32) + (m_s (3 : Int32).toNatClampNeg)).toNatClampNeg p1) m_errors) H := hW
    refine lv_aload_n hx hb dX7_tell_33 rfl (lv_at hl 0 rfl) ?_
    refine q_get C kc7 hW 0 rfl 0 (by decide) fl_X7_7 rfl rfl dX7_tell_34 ?_
    refine lv_iconst (v := 3) hx hb dX7_tell_37 kic_3 ?_
    refine lv_dup2_11 hx hb dX7_tell_38 rfl rfl ?_
    obtain ⟨h_5, hv⟩ := hv
    refine q_iald C hW 1 rfl h_5 dX7_tell_39 ?_
    refine lv_iconst (v := 1) hx hb dX7_tell_40 kic_1 ?_
    refine lv_iadd hx hb dX7_tell_41 ?_
    obtain ⟨h_6, hv⟩ := hv
    refine q_iast C hW hS 1 rfl h_6 dX7_tell_42 (fun H locs hW hS => ?_)
    have hW : wo G A (wd_X7_4 G b m_images m_at_ m_open_ m_steps m_use_ m_traced m_speaks m_isParted (upd (upd m_s ((358 : Int32) + (m_s (3 : Int32).toNatClampNeg)).toNatClampNeg p1) (3 : Int32).toNatClampNeg (((upd m_s ((358 : Int32) + (m_s (3 : Int32).toNatClampNeg)).toNatClampNeg p1) (3 : Int32).toNatClampNeg) + (1 : Int32))) m_errors) H := hW
    refine lv_aload_n hx hb dX7_tell_43 rfl (lv_at hl 0 rfl) ?_
    refine q_get C kc7 hW 0 rfl 0 (by decide) fl_X7_7 rfl rfl dX7_tell_44 ?_
    refine lv_iconst (v := 3) hx hb dX7_tell_47 kic_3 ?_
    obtain ⟨h_7, hv⟩ := hv
    refine q_iald C hW 1 rfl h_7 dX7_tell_48 ?_
    exact ret ((upd (upd m_s ((358 : Int32) + (m_s (3 : Int32).toNatClampNeg)).toNatClampNeg p1) (3 : Int32).toNatClampNeg (((upd m_s ((358 : Int32) + (m_s (3 : Int32).toNatClampNeg)).toNatClampNeg p1) (3 : Int32).toNatClampNeg) + (1 : Int32))), m_errors) ((upd (upd m_s ((358 : Int32) + (m_s (3 : Int32).toNatClampNeg)).toNatClampNeg p1) (3 : Int32).toNatClampNeg (((upd m_s ((358 : Int32) + (m_s (3 : Int32).toNatClampNeg)).toNatClampNeg p1) (3 : Int32).toNatClampNeg) + (1 : Int32))) (3 : Int32).toNatClampNeg) H locs ls _ rfl hW hS hv dX7_tell_49
  · replace hv := hv.2 c_2
    refine lv_aload_n hx hb dX7_tell_11 rfl (lv_at hl 0 rfl) ?_
    refine lv_iconst (v := 4) hx hb dX7_tell_12 kic_4 ?_
    refine q_callV (rest := []) (n := 1) C (c_X7_error l G b m_images m_at_ m_open_ m_steps m_use_ m_traced m_speaks m_isParted m_errors (4 : Int32) _ hv) ml_X7_61 kb_X7_error rfl ⟨⟨rfl, rfl⟩, (Nat.le_of_ble_eq_true rfl), (Nat.le_of_ble_eq_true rfl)⟩ hW hS [0, 2] rfl rfl kc7 (q0 := 0) rfl hl.1 rfl (Nat.le_of_ble_eq_true rfl) dX7_tell_13 ⟨Nat.zero_le _, Nat.zero_le _⟩ (fun r_8 u_9 H locs hv hW hS => ?_)
    obtain ⟨m_errors_8, rfl⟩ : ∃ z, z = u_9 := ⟨_, rfl⟩
    try dsimp only at hv
    have hW : wo G A (wd_X7_4 G b m_images m_at_ m_open_ m_steps m_use_ m_traced m_speaks m_isParted m_s m_errors_8) H := hW
    exact ret (m_s, m_errors_8) r_8 H locs ls _ rfl hW hS hv dX7_tell_16
set_option maxHeartbeats 4000000 in
set_option maxRecDepth 100000 in
theorem c_X7_check (l : Launch) (G : Gt) (b : Nat → Nat) (m_images : Int32) (m_at_ : Int32) (m_open_ : Int32) (m_steps : Int32) (m_use_ : Int32) (m_traced : Int32) (m_speaks : Int32) (m_isParted : Int32) (m_s : Nat → Int32) (K : Int32 → (Nat → Int32) → Prop) (hv : v_X7_check m_s K) : CI l G yX7_check (.code yX7_check cX7_check 3 (some .int) :: wsG) (rmm 2 43) [.ref (b 0)] (wd_X7_3 G b m_images m_at_ m_open_ m_steps m_use_ m_traced m_speaks m_isParted m_s) (S := (Nat → Int32)) (fun u => wd_X7_3 G b m_images m_at_ m_open_ m_steps m_use_ m_traced m_speaks m_isParted u) (fun r u => K r u) := by
  refine ci_intro (by decide) rfl (fun _ => rfl) (Nat.le_of_ble_eq_true rfl) ?_
  intro p e s m args below meth c A H ls Q C hW hS hl ret
  have hx := C.1.1
  have hb := C.1.2.1
  generalize hls : ([] : List Loc) = locs at hS ⊢
  have hl : lv_has ls 3 [(0, .ref (b 0))] := hl
  have h_l_X7_check_16 : ∀ (n : Nat), ∀ (x1 : Int32) (x2 : Int32) (m_s : Nat → Int32) (H : Heap) (locs : List Loc) (ls : Array Slot), wo G A (wd_X7_3 G b m_images m_at_ m_open_ m_steps m_use_ m_traced m_speaks m_isParted m_s) H → va_S A s.heap H locs → lv_has ls 3 [(0, .ref (b 0)), (1, .int x1), (2, .int x2)] → l_X7_check_16 K n x1 x2 m_s → W p l e (rmm 2 43) s m args below meth c H locs 0 0 Q (F0 m 16 ls []) := by
    intro n
    induction n with
    | zero =>
      intro x1 x2 m_s H locs ls hW hS hl hv
      exact False.elim hv
    | succ n ih =>
      intro x1 x2 m_s H locs ls hW hS hl hv
      refine lv_iload_n hx hb dX7_check_16 rfl (lv_at hl 2 rfl) ?_
      refine lv_iload_n hx hb dX7_check_17 rfl (lv_at hl 1 rfl) ?_
      refine lv_icmp_ge (tgt := 58) hx hb dX7_check_18 (by decide) (fun c_3 => ?_) (fun c_3 => ?_)
      · replace hv := hv.1 c_3
        refine lv_iconst (v := 0) hx hb dX7_check_58 kic_0 ?_
        exact ret (m_s) (0 : Int32) H locs ls _ rfl hW hS hv dX7_check_59
      · replace hv := hv.2 c_3
        refine lv_aload_n hx hb dX7_check_21 rfl (lv_at hl 0 rfl) ?_
        refine lv_iload_n hx hb dX7_check_22 rfl (lv_at hl 2 rfl) ?_
        refine q_callV (rest := []) (n := 1) C (c_X7_isPerson l G b m_images m_at_ m_open_ m_steps m_use_ m_traced m_speaks m_isParted m_s x2 _ hv) ml_X7_57 kb_X7_isPerson rfl ⟨⟨rfl, rfl⟩, (Nat.le_of_ble_eq_true rfl), (Nat.le_of_ble_eq_true rfl)⟩ hW hS [0, 1] rfl rfl kc7 (q0 := 0) rfl hl.1 rfl (Nat.le_of_ble_eq_true rfl) dX7_check_23 ⟨Nat.zero_le _, Nat.zero_le _⟩ (fun r_4 u_5 H locs hv hW hS => ?_)
        obtain ⟨hv_b_4, hv⟩ := hv
        try dsimp only at hv
        refine lv_if_eq (tgt := 48) hx hb dX7_check_26 (by decide) (fun c_6 => ?_) (fun c_6 => ?_)
        · replace hv := hv.1 c_6
          refine lv_iconst (v := 1) hx hb dX7_check_48 kic_1 ?_
          refine lv_iload_n hx hb dX7_check_49 rfl (lv_at hl 2 rfl) ?_
          refine lv_iadd hx hb dX7_check_50 ?_
          exact ret (m_s) ((1 : Int32) + x2) H locs ls _ rfl hW hS hv dX7_check_51
        · replace hv := hv.2 c_6
          refine lv_aload_n hx hb dX7_check_29 rfl (lv_at hl 0 rfl) ?_
          refine q_get C kc7 hW 0 rfl 0 (by decide) fl_X7_7 rfl rfl dX7_check_30 ?_
          refine lv_sipush (v := 358) hx hb dX7_check_33 ksp_358 ?_
          refine lv_iload_n hx hb dX7_check_36 rfl (lv_at hl 2 rfl) ?_
          refine lv_iadd hx hb dX7_check_37 ?_
          obtain ⟨h_7, hv⟩ := hv
          refine q_iald C hW 1 rfl h_7 dX7_check_38 ?_
          refine lv_aload_n hx hb dX7_check_39 rfl (lv_at hl 0 rfl) ?_
          refine lv_iload_n hx hb dX7_check_40 rfl (lv_at hl 2 rfl) ?_
          refine lv_iconst (v := 2) hx hb dX7_check_41 kic_2 ?_
          refine q_callV (rest := [.int (m_s ((358 : Int32) + x2).toNatClampNeg)]) (n := 2) C (c_X7_its l G b m_images m_at_ m_open_ m_steps m_use_ m_traced m_speaks m_isParted m_s x2 (2 : Int32) _ hv) ml_X7_120 kb_X7_its rfl ⟨⟨rfl, rfl⟩, (Nat.le_of_ble_eq_true rfl), (Nat.le_of_ble_eq_true rfl)⟩ hW hS [0, 1] rfl rfl kc7 (q0 := 0) rfl hl.1 rfl (Nat.le_of_ble_eq_true rfl) dX7_check_42 ⟨Nat.zero_le _, Nat.zero_le _⟩ (fun r_8 u_9 H locs hv hW hS => ?_)
          try dsimp only at hv
          refine lv_icmp_eq (tgt := 52) hx hb dX7_check_45 (by decide) (fun c_10 => ?_) (fun c_10 => ?_)
          · replace hv := hv.1 c_10
            refine lv_iinc (v := (x2 + 1)) (lv' := [(2, .int (x2 + 1)), (0, .ref (b 0)), (1, .int x1)]) hx hb dX7_check_52 hl (k := 2) rfl rfl (by decide) rfl (fun ls hl => ?_)
            refine lv_goto (tgt := 16) hx hb dX7_check_55 (by decide) ?_
            exact ih x1 (x2 + 1) m_s H locs ls hW hS (lv_sub hl [1, 2, 0] rfl) hv
          · replace hv := hv.2 c_10
            refine lv_iconst (v := 1) hx hb dX7_check_48 kic_1 ?_
            refine lv_iload_n hx hb dX7_check_49 rfl (lv_at hl 2 rfl) ?_
            refine lv_iadd hx hb dX7_check_50 ?_
            exact ret (m_s) ((1 : Int32) + x2) H locs ls _ rfl hW hS hv dX7_check_51
  refine lv_aload_n hx hb dX7_check_0 rfl (lv_at hl 0 rfl) ?_
  refine q_get C kc7 hW 0 rfl 0 (by decide) fl_X7_7 rfl rfl dX7_check_1 ?_
  refine lv_iconst (v := 3) hx hb dX7_check_4 kic_3 ?_
  obtain ⟨h_1, hv⟩ := hv
  refine q_iald C hW 1 rfl h_1 dX7_check_5 ?_
  refine lv_istore_n (lv' := [(1, .int (m_s (3 : Int32).toNatClampNeg)), (0, .ref (b 0))]) hx hb dX7_check_6 rfl hl (by decide) rfl (fun ls hl => ?_)
  refine lv_aload_n hx hb dX7_check_7 rfl (lv_at hl 1 rfl) ?_
  refine q_get C kc7 hW 0 rfl 0 (by decide) fl_X7_7 rfl rfl dX7_check_8 ?_
  refine lv_iconst (v := 3) hx hb dX7_check_11 kic_3 ?_
  refine lv_iconst (v := 0) hx hb dX7_check_12 kic_0 ?_
  obtain ⟨h_2, hv⟩ := hv
  refine q_iast C hW hS 1 rfl h_2 dX7_check_13 (fun H locs hW hS => ?_)
  have hW : wo G A (wd_X7_3 G b m_images m_at_ m_open_ m_steps m_use_ m_traced m_speaks m_isParted (upd m_s (3 : Int32).toNatClampNeg (0 : Int32))) H := hW
  refine lv_iconst (v := 0) hx hb dX7_check_14 kic_0 ?_
  refine lv_istore_n (lv' := [(2, .int (0 : Int32)), (1, .int (m_s (3 : Int32).toNatClampNeg)), (0, .ref (b 0))]) hx hb dX7_check_15 rfl hl (by decide) rfl (fun ls hl => ?_)
  obtain ⟨n_11, hv⟩ := hv
  exact h_l_X7_check_16 n_11 (m_s (3 : Int32).toNatClampNeg) (0 : Int32) (upd m_s (3 : Int32).toNatClampNeg (0 : Int32)) H locs ls hW hS (lv_sub hl [2, 1, 0] rfl) hv
set_option maxHeartbeats 4000000 in
set_option maxRecDepth 100000 in
theorem c_X7_count (l : Launch) (G : Gt) (b : Nat → Nat) (m_images : Int32) (m_at_ : Int32) (m_open_ : Int32) (m_steps : Int32) (m_use_ : Int32) (m_traced : Int32) (m_speaks : Int32) (m_isParted : Int32) (m_s : Nat → Int32) (m_errors : Nat → Int32) (p1 : Int32) (K : Int32 → (Nat → Int32) → Prop) (hv : v_X7_count p1 m_traced m_s m_errors K) : CI l G yX7_count (.code yX7_count cX7_count 2 (some .int) :: wsG) (rmm 2 44) [.ref (b 0), .int p1] (wd_X7_4 G b m_images m_at_ m_open_ m_steps m_use_ m_traced m_speaks m_isParted m_s m_errors) (S := (Nat → Int32)) (fun u => wd_X7_4 G b m_images m_at_ m_open_ m_steps m_use_ m_traced m_speaks m_isParted m_s u) (fun r u => K r u) := by
  refine ci_intro (by decide) rfl (fun _ => rfl) (Nat.le_of_ble_eq_true rfl) ?_
  intro p e s m args below meth c A H ls Q C hW hS hl ret
  have hx := C.1.1
  have hb := C.1.2.1
  generalize hls : ([] : List Loc) = locs at hS ⊢
  have hl : lv_has ls 2 [(0, .ref (b 0)), (1, .int p1)] := hl
  refine lv_iload_n hx hb dX7_count_0 rfl (lv_at hl 1 rfl) ?_
  by_cases c_1_0 : p1 = 0
  · replace hv := hv.1 c_1_0
    refine lv_tableIn (tgt := 44) hx hb dX7_count_1 (by rw [c_1_0]; decide) (by rw [c_1_0]; decide) (by rw [c_1_0]; rfl) (by decide) ?_
    refine lv_aload_n hx hb dX7_count_44 rfl (lv_at hl 0 rfl) ?_
    refine q_get C kc7 hW 0 rfl 0 (by decide) fl_X7_7 rfl rfl dX7_count_45 ?_
    refine lv_iconst (v := 4) hx hb dX7_count_48 kic_4 ?_
    obtain ⟨h_2, hv⟩ := hv
    refine q_iald C hW 1 rfl h_2 dX7_count_49 ?_
    exact ret (m_errors) (m_s (4 : Int32).toNatClampNeg) H locs ls _ rfl hW hS hv dX7_count_50
  · replace hv := hv.2 c_1_0
    by_cases c_1_1 : p1 = 1
    · replace hv := hv.1 c_1_1
      refine lv_tableIn (tgt := 51) hx hb dX7_count_1 (by rw [c_1_1]; decide) (by rw [c_1_1]; decide) (by rw [c_1_1]; rfl) (by decide) ?_
      refine lv_aload_n hx hb dX7_count_51 rfl (lv_at hl 0 rfl) ?_
      refine q_get C kc7 hW 0 rfl 0 (by decide) fl_X7_7 rfl rfl dX7_count_52 ?_
      refine lv_iconst (v := 0) hx hb dX7_count_55 kic_0 ?_
      obtain ⟨h_3, hv⟩ := hv
      refine q_iald C hW 1 rfl h_3 dX7_count_56 ?_
      exact ret (m_errors) (m_s (0 : Int32).toNatClampNeg) H locs ls _ rfl hW hS hv dX7_count_57
    · replace hv := hv.2 c_1_1
      by_cases c_1_2 : p1 = 2
      · replace hv := hv.1 c_1_2
        refine lv_tableIn (tgt := 58) hx hb dX7_count_1 (by rw [c_1_2]; decide) (by rw [c_1_2]; decide) (by rw [c_1_2]; rfl) (by decide) ?_
        refine lv_aload_n hx hb dX7_count_58 rfl (lv_at hl 0 rfl) ?_
        refine q_callV (rest := []) (n := 0) C (c_X7_nearestNow l G b m_images m_at_ m_open_ m_steps m_use_ m_traced m_speaks m_isParted m_s _ hv) ml_X7_188 kb_X7_nearestNow rfl ⟨⟨rfl, rfl⟩, (Nat.le_of_ble_eq_true rfl), (Nat.le_of_ble_eq_true rfl)⟩ hW hS [0, 1] rfl rfl kc7 (q0 := 0) rfl hl.1 rfl (Nat.le_of_ble_eq_true rfl) dX7_count_59 ⟨Nat.zero_le _, Nat.zero_le _⟩ (fun r_4 u_5 H locs hv hW hS => ?_)
        try dsimp only at hv
        exact ret (m_errors) r_4 H locs ls _ rfl hW hS hv dX7_count_62
      · replace hv := hv.2 c_1_2
        by_cases c_1_3 : p1 = 3
        · replace hv := hv.1 c_1_3
          refine lv_tableIn (tgt := 63) hx hb dX7_count_1 (by rw [c_1_3]; decide) (by rw [c_1_3]; decide) (by rw [c_1_3]; rfl) (by decide) ?_
          refine lv_aload_n hx hb dX7_count_63 rfl (lv_at hl 0 rfl) ?_
          refine q_get C kc7 hW 0 rfl 0 (by decide) fl_X7_7 rfl rfl dX7_count_64 ?_
          refine lv_iconst (v := 2) hx hb dX7_count_67 kic_2 ?_
          obtain ⟨h_6, hv⟩ := hv
          refine q_iald C hW 1 rfl h_6 dX7_count_68 ?_
          exact ret (m_errors) (m_s (2 : Int32).toNatClampNeg) H locs ls _ rfl hW hS hv dX7_count_69
        · replace hv := hv.2 c_1_3
          by_cases c_1_4 : p1 = 4
          · replace hv := hv.1 c_1_4
            refine lv_tableIn (tgt := 70) hx hb dX7_count_1 (by rw [c_1_4]; decide) (by rw [c_1_4]; decide) (by rw [c_1_4]; rfl) (by decide) ?_
            refine lv_aload_n hx hb dX7_count_70 rfl (lv_at hl 0 rfl) ?_
            refine q_get C kc7 hW 0 rfl 0 (by decide) fl_X7_7 rfl rfl dX7_count_71 ?_
            refine lv_iconst (v := 3) hx hb dX7_count_74 kic_3 ?_
            obtain ⟨h_7, hv⟩ := hv
            refine q_iald C hW 1 rfl h_7 dX7_count_75 ?_
            exact ret (m_errors) (m_s (3 : Int32).toNatClampNeg) H locs ls _ rfl hW hS hv dX7_count_76
          · replace hv := hv.2 c_1_4
            by_cases c_1_5 : p1 = 5
            · replace hv := hv.1 c_1_5
              refine lv_tableIn (tgt := 77) hx hb dX7_count_1 (by rw [c_1_5]; decide) (by rw [c_1_5]; decide) (by rw [c_1_5]; rfl) (by decide) ?_
              refine lv_aload_n hx hb dX7_count_77 rfl (lv_at hl 0 rfl) ?_
              refine q_get C kc7 hW 0 rfl 14 (by decide) fl_X7_219 rfl rfl dX7_count_78 ?_
              exact ret (m_errors) m_traced H locs ls _ rfl hW hS hv dX7_count_81
            · replace hv := hv.2 c_1_5
              by_cases c_1_6 : p1 = 6
              · replace hv := hv.1 c_1_6
                refine lv_tableIn (tgt := 82) hx hb dX7_count_1 (by rw [c_1_6]; decide) (by rw [c_1_6]; decide) (by rw [c_1_6]; rfl) (by decide) ?_
                refine lv_aload_n hx hb dX7_count_82 rfl (lv_at hl 0 rfl) ?_
                refine q_get C kc7 hW 0 rfl 0 (by decide) fl_X7_7 rfl rfl dX7_count_83 ?_
                refine lv_iconst (v := 1) hx hb dX7_count_86 kic_1 ?_
                obtain ⟨h_8, hv⟩ := hv
                refine q_iald C hW 1 rfl h_8 dX7_count_87 ?_
                exact ret (m_errors) (m_s (1 : Int32).toNatClampNeg) H locs ls _ rfl hW hS hv dX7_count_88
              · replace hv := hv.2 c_1_6
                refine sw_row (tgt := 89) hx hb dX7_count_1 rfl (lt_s (lt_s (lt_s (lt_s (lt_s (lt_s (lt_s lt_0 (Or.inr (lv_neT c_1_0 rfl))) (Or.inr (lv_neT c_1_1 rfl))) (Or.inr (lv_neT c_1_2 rfl))) (Or.inr (lv_neT c_1_3 rfl))) (Or.inr (lv_neT c_1_4 rfl))) (Or.inr (lv_neT c_1_5 rfl))) (Or.inr (lv_neT c_1_6 rfl))) (by decide) ?_
                refine lv_aload_n hx hb dX7_count_89 rfl (lv_at hl 0 rfl) ?_
                refine lv_iconst (v := 1) hx hb dX7_count_90 kic_1 ?_
                refine q_callV (rest := []) (n := 1) C (c_X7_error l G b m_images m_at_ m_open_ m_steps m_use_ m_traced m_speaks m_isParted m_errors (1 : Int32) _ hv) ml_X7_61 kb_X7_error rfl ⟨⟨rfl, rfl⟩, (Nat.le_of_ble_eq_true rfl), (Nat.le_of_ble_eq_true rfl)⟩ hW hS [0, 2] rfl rfl kc7 (q0 := 0) rfl hl.1 rfl (Nat.le_of_ble_eq_true rfl) dX7_count_91 ⟨Nat.zero_le _, Nat.zero_le _⟩ (fun r_9 u_10 H locs hv hW hS => ?_)
                obtain ⟨m_errors_9, rfl⟩ : ∃ z, z = u_10 := ⟨_, rfl⟩
                try dsimp only at hv
                have hW : wo G A (wd_X7_4 G b m_images m_at_ m_open_ m_steps m_use_ m_traced m_speaks m_isParted m_s m_errors_9) H := hW
                exact ret (m_errors_9) r_9 H locs ls _ rfl hW hS hv dX7_count_94
set_option maxHeartbeats 4000000 in
set_option maxRecDepth 100000 in
theorem c_X7_told (l : Launch) (G : Gt) (b : Nat → Nat) (m_images : Int32) (m_at_ : Int32) (m_open_ : Int32) (m_steps : Int32) (m_use_ : Int32) (m_traced : Int32) (m_speaks : Int32) (m_isParted : Int32) (m_errors : Nat → Int32) (p1 : Int32) (K : Int32 → (Nat → Int32) → Prop) (hv : v_X7_told p1 m_errors K) : CI l G yX7_told (.code yX7_told cX7_told 2 (some .int) :: wsG) (rmm 1 22) [.ref (b 0), .int p1] (wd_X7_0 G b m_images m_at_ m_open_ m_steps m_use_ m_traced m_speaks m_isParted m_errors) (S := (Nat → Int32)) (fun u => wd_X7_0 G b m_images m_at_ m_open_ m_steps m_use_ m_traced m_speaks m_isParted u) (fun r u => K r u) := by
  refine ci_intro (by decide) rfl (fun _ => rfl) (Nat.le_of_ble_eq_true rfl) ?_
  intro p e s m args below meth c A H ls Q C hW hS hl ret
  have hx := C.1.1
  have hb := C.1.2.1
  generalize hls : ([] : List Loc) = locs at hS ⊢
  have hl : lv_has ls 2 [(0, .ref (b 0)), (1, .int p1)] := hl
  refine lv_iload_n hx hb dX7_told_0 rfl (lv_at hl 1 rfl) ?_
  refine lv_iconst (v := 1) hx hb dX7_told_1 kic_1 ?_
  refine lv_bipush (v := 6) hx hb dX7_told_2 kbp_6 ?_
  refine q_callS (rest := []) (n := 3) C (c_X7_in l G p1 (1 : Int32) (6 : Int32) _ hv) ml_X7_53 kb_X7_in rfl ⟨⟨rfl, rfl⟩, (Nat.le_of_ble_eq_true rfl), (Nat.le_of_ble_eq_true rfl)⟩ hW hS hl.1 rfl (Nat.le_of_ble_eq_true rfl) dX7_told_4 ⟨Nat.zero_le _, Nat.zero_le _⟩ (fun r_1 u_2 H locs hv hW hS => ?_)
  obtain ⟨hv_b_1, hv⟩ := hv
  try dsimp only at hv
  refine lv_if_eq (tgt := 19) hx hb dX7_told_7 (by decide) (fun c_3 => ?_) (fun c_3 => ?_)
  · replace hv := hv.1 c_3
    refine lv_aload_n hx hb dX7_told_19 rfl (lv_at hl 0 rfl) ?_
    refine lv_iconst (v := 1) hx hb dX7_told_20 kic_1 ?_
    refine q_callV (rest := []) (n := 1) C (c_X7_error l G b m_images m_at_ m_open_ m_steps m_use_ m_traced m_speaks m_isParted m_errors (1 : Int32) _ hv) ml_X7_61 kb_X7_error rfl ⟨⟨rfl, rfl⟩, (Nat.le_of_ble_eq_true rfl), (Nat.le_of_ble_eq_true rfl)⟩ hW hS [0, 1] rfl rfl kc7 (q0 := 0) rfl hl.1 rfl (Nat.le_of_ble_eq_true rfl) dX7_told_21 ⟨Nat.zero_le _, Nat.zero_le _⟩ (fun r_4 u_5 H locs hv hW hS => ?_)
    obtain ⟨m_errors_4, rfl⟩ : ∃ z, z = u_5 := ⟨_, rfl⟩
    try dsimp only at hv
    have hW : wo G A (wd_X7_0 G b m_images m_at_ m_open_ m_steps m_use_ m_traced m_speaks m_isParted m_errors_4) H := hW
    exact ret (m_errors_4) r_4 H locs ls _ rfl hW hS hv dX7_told_24
  · replace hv := hv.2 c_3
    refine lv_aload_n hx hb dX7_told_10 rfl (lv_at hl 0 rfl) ?_
    refine q_get C kc7 hW 0 rfl 4 (by decide) fl_X7_19 rfl rfl dX7_told_11 ?_
    refine lv_iload_n hx hb dX7_told_14 rfl (lv_at hl 1 rfl) ?_
    obtain ⟨h_6, hv⟩ := hv
    refine q_iald C hW 1 rfl h_6 dX7_told_15 ?_
    refine lv_goto (tgt := 24) hx hb dX7_told_16 (by decide) ?_
    exact ret (m_errors) (m_errors p1.toNatClampNeg) H locs ls _ rfl hW hS hv dX7_told_24
