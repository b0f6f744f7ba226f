set_option maxHeartbeats 4000000 in
set_option maxRecDepth 100000 in
theorem c_X6_seed (l : Launch) (G : Gt) (b : Nat → Nat) (images : Int32) (n_people : Int32) (n_taped : Int32) (n_waiting : Int32) (n_z : Int32) (p1 : Int32) (K : Int32 → Int32 → Prop) (hv : v_X6_seed p1 n_z K) : CI l G yX6_seed (.code yX6_seed cX6_seed 3 (some .int) :: wsG) (rmm 0 0) [.ref (b 0), .int p1] (wd_X6_12 G b images n_people n_taped n_waiting n_z) (S := Int32) (fun u => wd_X6_12 G b images n_people n_taped n_waiting u) (fun r u => K r u) := by
  refine ci_intro (by decide) rfl (fun _ => rfl) (Nat.le_of_ble_eq_true rfl) ?_
  intro p e s m args below meth c A H ls Q C hW hS hl ret
  have hx := C.1.1
  have hb := C.1.2.1
  generalize hls : ([] : List Loc) = locs at hS ⊢
  have hl : lv_has ls 3 [(0, .ref (b 0)), (1, .int p1)] := hl
  refine lv_aload_n hx hb dX6_seed_0 rfl (lv_at hl 0 rfl) ?_
  refine q_get C kc6 hW 0 rfl 0 (by decide) fl_X6_10 rfl rfl dX6_seed_1 ?_
  refine q_getN C kc4 hW 1 rfl 11 (by decide) nf_X6_156 rfl rfl dX6_seed_4 ?_
  refine lv_istore_n (lv' := [(2, .int n_z), (0, .ref (b 0)), (1, .int p1)]) hx hb dX6_seed_7 rfl hl (by decide) rfl (fun ls hl => ?_)
  refine lv_aload_n hx hb dX6_seed_8 rfl (lv_at hl 1 rfl) ?_
  refine q_get C kc6 hW 0 rfl 0 (by decide) fl_X6_10 rfl rfl dX6_seed_9 ?_
  refine lv_iload_n hx hb dX6_seed_12 rfl (lv_at hl 2 rfl) ?_
  refine q_putN C kc4 hW hS 1 rfl 11 (by decide) nf_X6_156 rfl rfl rfl rfl (Nat.le_of_ble_eq_true rfl) dX6_seed_13 (fun H locs hW hS => ?_)
  have hW : wo G A (wd_X6_12 G b images n_people n_taped n_waiting p1) H := hW
  refine lv_iload_n hx hb dX6_seed_16 rfl (lv_at hl 0 rfl) ?_
  exact ret (p1) n_z H locs ls _ rfl hW hS hv dX6_seed_17
set_option maxHeartbeats 4000000 in
set_option maxRecDepth 100000 in
theorem c_X6_think (l : Launch) (G : Gt) (b : Nat → Nat) (images : Int32) (n_people : Int32) (n_taped : Int32) (n_waiting : Int32) (n_z : Int32) (n_kind : Nat → Int32) (n_em : Nat → Int32) (n_day : Int32) (n_near : Nat → Int32) (n_shows : Nat → Int32) (n_tmost : Int32) (n_tsize : Int32) (n_tsteps : Nat → Int32) (n_tstack : Nat → Int32) (n_gmost : Int32) (n_gsize : Int32) (n_gsteps : Nat → Int32) (n_gstack : Nat → Int32) (t_day : Int32) (t_near : Nat → Int32) (t_shows : Nat → Int32) (p1 : Int32) (K : (Nat → Int32) → (Nat → Int32) → Int32 → (Nat → Int32) → (Nat → Int32) → Prop) (hv : v_X6_think p1 n_people n_kind n_em n_day n_near n_shows n_tmost n_tsize n_tsteps n_tstack n_gmost n_gsize n_gsteps n_gstack t_day t_near t_shows K) : CV l G yX6_think (.code yX6_think cX6_think 3 none :: wsG) (rmm 5 122) [.ref (b 0), .int p1] (wd_X6_13 G b images n_people n_taped n_waiting n_z n_kind n_em n_day n_near n_shows n_tmost n_tsize n_tsteps n_tstack n_gmost n_gsize n_gsteps n_gstack t_day t_near t_shows) (S := (Nat → Int32) × (Nat → Int32) × Int32 × (Nat → Int32) × (Nat → Int32)) (fun u => wd_X6_13 G b images n_people n_taped n_waiting n_z n_kind n_em n_day n_near n_shows n_tmost n_tsize n_tsteps u.1 n_gmost n_gsize n_gsteps u.2.1 u.2.2.1 u.2.2.2.1 u.2.2.2.2) (fun u => K u.1 u.2.1 u.2.2.1 u.2.2.2.1 u.2.2.2.2) := by
  refine cv_intro (by decide) rfl (fun _ => rfl) (Nat.le_of_ble_eq_true rfl) ?_
  intro p e s m args below meth c A H ls Q C hW hS hl ret
  have hx := C.1.1
  have hb := C.1.2.1
  generalize hls : ([] : List Loc) = locs at hS ⊢
  have hl : lv_has ls 3 [(0, .ref (b 0)), (1, .int p1)] := hl
  have h_l_X6_think_16 : ∀ (n : Nat), ∀ (x2 : Int32) (n_tstack : Nat → Int32) (n_gstack : Nat → Int32) (t_day : Int32) (t_near : Nat → Int32) (t_shows : Nat → Int32) (H : Heap) (locs : List Loc) (ls : Array Slot), wo G A (wd_X6_13 G b images n_people n_taped n_waiting n_z n_kind n_em n_day n_near n_shows n_tmost n_tsize n_tsteps n_tstack n_gmost n_gsize n_gsteps n_gstack t_day t_near t_shows) H → va_S A s.heap H locs → lv_has ls 3 [(0, .ref (b 0)), (1, .int p1), (2, .int x2)] → l_X6_think_16 p1 n_people n_kind n_em n_day n_near n_shows n_tmost n_tsize n_tsteps n_gmost n_gsize n_gsteps K n x2 n_tstack n_gstack t_day t_near t_shows → W p l e (rmm 5 122) s m args below meth c H locs 0 0 Q (F0 m 16 ls []) := by
    intro n
    induction n with
    | zero =>
      intro x2 n_tstack n_gstack t_day t_near t_shows H locs ls hW hS hl hv
      exact False.elim hv
    | succ n ih =>
      intro x2 n_tstack n_gstack t_day t_near t_shows H locs ls hW hS hl hv
      refine lv_iload_n hx hb dX6_think_16 rfl (lv_at hl 2 rfl) ?_
      refine lv_iload_n hx hb dX6_think_17 rfl (lv_at hl 1 rfl) ?_
      refine lv_icmp_ge (tgt := 39) hx hb dX6_think_18 (by decide) (fun c_3 => ?_) (fun c_3 => ?_)
      · replace hv := hv.1 c_3
        exact ret (n_tstack, n_gstack, t_day, t_near, t_shows) H locs ls _ hW hS hv dX6_think_39
      · replace hv := hv.2 c_3
        refine lv_aload_n hx hb dX6_think_21 rfl (lv_at hl 0 rfl) ?_
        refine q_get C kc6 hW 0 rfl 0 (by decide) fl_X6_10 rfl rfl dX6_think_22 ?_
        refine lv_aload_n hx hb dX6_think_25 rfl (lv_at hl 0 rfl) ?_
        refine q_get C kc6 hW 0 rfl 3 (by decide) fl_X6_22 rfl rfl dX6_think_26 ?_
        refine q_callN (rest := []) (n := 1) C (c_X4_pass l G (fun k => b (k + 1)) (fun k => b (k + 31)) n_people n_taped n_waiting n_z n_kind n_em n_tmost n_tsize n_tsteps n_tstack n_gmost n_gsize n_gsteps n_gstack t_day t_near t_shows _ hv) nm_X6_145 kb_X4_pass rfl ⟨⟨rfl, rfl⟩, (Nat.le_of_ble_eq_true rfl), (Nat.le_of_ble_eq_true rfl)⟩ hW hS [1, 2, 3, 7, 8, 9, 10, 11, 12, 13, 14, 15] rfl rfl kc4 (q0 := 1) rfl hl.1 rfl (Nat.le_of_ble_eq_true rfl) dX6_think_29 ⟨Nat.zero_le _, Nat.zero_le _⟩ (fun r_4 u_5 H locs hv hW hS => ?_)
        obtain ⟨n_tstack_4, n_gstack_4, t_day_4, t_near_4, t_shows_4⟩ := u_5
        obtain ⟨hv_b_4, hv⟩ := hv
        try dsimp only at hv
        have hW : wo G A (wd_X6_13 G b images n_people n_taped n_waiting n_z n_kind n_em n_day n_near n_shows n_tmost n_tsize n_tsteps n_tstack_4 n_gmost n_gsize n_gsteps n_gstack_4 t_day_4 t_near_4 t_shows_4) H := hW
        refine lv_pop hx hb dX6_think_32 rfl ?_
        refine lv_iinc (v := (x2 + 1)) (lv' := [(2, .int (x2 + 1)), (0, .ref (b 0)), (1, .int p1)]) hx hb dX6_think_33 hl (k := 2) rfl rfl (by decide) rfl (fun ls hl => ?_)
        refine lv_goto (tgt := 16) hx hb dX6_think_36 (by decide) ?_
        exact ih (x2 + 1) n_tstack_4 n_gstack_4 t_day_4 t_near_4 t_shows_4 H locs ls hW hS (lv_sub hl [1, 2, 0] rfl) hv
  refine lv_aload_n hx hb dX6_think_0 rfl (lv_at hl 0 rfl) ?_
  refine q_get C kc6 hW 0 rfl 3 (by decide) fl_X6_22 rfl rfl dX6_think_1 ?_
  refine lv_aload_n hx hb dX6_think_4 rfl (lv_at hl 0 rfl) ?_
  refine q_get C kc6 hW 0 rfl 0 (by decide) fl_X6_10 rfl rfl dX6_think_5 ?_
  refine q_getN C kc4 hW 1 rfl 4 (by decide) nf_X6_85 rfl rfl dX6_think_8 ?_
  refine q_callNv (rest := []) (n := 1) C (c_X3_copy l G (fun k => b (k + 31)) (fun k => b (k + 5)) t_day t_near t_shows n_day n_near n_shows _ hv) nm_X6_260 kb_X3_copy rfl ⟨⟨rfl, rfl⟩, (Nat.le_of_ble_eq_true rfl), (Nat.le_of_ble_eq_true rfl)⟩ hW hS [13, 14, 15, 4, 5, 6] rfl rfl kc3 (q0 := 13) rfl hl.1 rfl (Nat.le_of_ble_eq_true rfl) dX6_think_11 ⟨Nat.zero_le _, Nat.zero_le _⟩ (fun u_2 H locs hv hW hS => ?_)
  obtain ⟨t_day_1, t_near_1, t_shows_1⟩ := u_2
  try dsimp only at hv
  have hW : wo G A (wd_X6_13 G b images n_people n_taped n_waiting n_z n_kind n_em n_day n_near n_shows n_tmost n_tsize n_tsteps n_tstack n_gmost n_gsize n_gsteps n_gstack t_day_1 t_near_1 t_shows_1) H := hW
  refine lv_iconst (v := 0) hx hb dX6_think_14 kic_0 ?_
  refine lv_istore_n (lv' := [(2, .int (0 : Int32)), (0, .ref (b 0)), (1, .int p1)]) hx hb dX6_think_15 rfl hl (by decide) rfl (fun ls hl => ?_)
  obtain ⟨n_6, hv⟩ := hv
  exact h_l_X6_think_16 n_6 (0 : Int32) n_tstack n_gstack t_day_1 t_near_1 t_shows_1 H locs ls hW hS (lv_sub hl [1, 2, 0] rfl) hv
set_option maxHeartbeats 4000000 in
set_option maxRecDepth 100000 in
theorem c_X6_nearest (l : Launch) (G : Gt) (b : Nat → Nat) (images : Int32) (n_people : Int32) (n_taped : Int32) (n_waiting : Int32) (n_z : Int32) (n_kind : Nat → Int32) (n_em : Nat → Int32) (n_day : Int32) (n_near : Nat → Int32) (n_shows : Nat → Int32) (n_tmost : Int32) (n_tsize : Int32) (n_tsteps : Nat → Int32) (n_tstack : Nat → Int32) (n_gmost : Int32) (n_gsize : Int32) (n_gsteps : Nat → Int32) (n_gstack : Nat → Int32) (t_day : Int32) (t_near : Nat → Int32) (t_shows : Nat → Int32) (errs : Nat → Int32) (p1 : Int32) (K : Int32 → (Nat → Int32) → (Nat → Int32) → Int32 → (Nat → Int32) → (Nat → Int32) → (Nat → Int32) → Prop) (hv : v_X6_nearest p1 n_people n_kind n_em n_day n_near n_shows n_tmost n_tsize n_tsteps n_tstack n_gmost n_gsize n_gsteps n_gstack t_day t_near t_shows errs K) : CI l G yX6_nearest (.code yX6_nearest cX6_nearest 2 (some .int) :: wsG) (rmm 6 144) [.ref (b 0), .int p1] (wd_X6_14 G b images n_people n_taped n_waiting n_z n_kind n_em n_day n_near n_shows n_tmost n_tsize n_tsteps n_tstack n_gmost n_gsize n_gsteps n_gstack t_day t_near t_shows errs) (S := (Nat → Int32) × (Nat → Int32) × Int32 × (Nat → Int32) × (Nat → Int32) × (Nat → Int32)) (fun u => wd_X6_14 G b images n_people n_taped n_waiting n_z n_kind n_em n_day n_near n_shows n_tmost n_tsize n_tsteps u.1 n_gmost n_gsize n_gsteps u.2.1 u.2.2.1 u.2.2.2.1 u.2.2.2.2.1 u.2.2.2.2.2) (fun r u => K r u.1 u.2.1 u.2.2.1 u.2.2.2.1 u.2.2.2.2.1 u.2.2.2.2.2) := by
  refine ci_intro (by decide) rfl (fun _ => rfl) (Nat.le_of_ble_eq_true rfl) ?_
  intro p e s m args below meth c A H ls Q C hW hS hl ret
  have hx := C.1.1
  have hb := C.1.2.1
  generalize hls : ([] : List Loc) = locs at hS ⊢
  have hl : lv_has ls 2 [(0, .ref (b 0)), (1, .int p1)] := hl
  refine lv_iload_n hx hb dX6_nearest_0 rfl (lv_at hl 1 rfl) ?_
  refine lv_bipush (v := 100) hx hb dX6_nearest_1 kbp_100 ?_
  refine q_callS (rest := []) (n := 2) C (c_X6_isWithin l G p1 (100 : Int32) _ hv) ml_X6_97 kb_X6_isWithin rfl ⟨⟨rfl, rfl⟩, (Nat.le_of_ble_eq_true rfl), (Nat.le_of_ble_eq_true rfl)⟩ hW hS hl.1 rfl (Nat.le_of_ble_eq_true rfl) dX6_nearest_3 ⟨Nat.zero_le _, Nat.zero_le _⟩ (fun r_1 u_2 H locs hv hW hS => ?_)
  obtain ⟨hv_b_1, hv⟩ := hv
  try dsimp only at hv
  refine lv_if_ne (tgt := 15) hx hb dX6_nearest_6 (by decide) (fun c_3 => ?_) (fun c_3 => ?_)
  · replace hv := hv.1 c_3
    refine lv_aload_n hx hb dX6_nearest_15 rfl (lv_at hl 0 rfl) ?_
    refine q_get C kc6 hW 0 rfl 0 (by decide) fl_X6_10 rfl rfl dX6_nearest_16 ?_
    refine q_getN C kc4 hW 1 rfl 0 (by decide) nf_X6_68 rfl rfl dX6_nearest_19 ?_
    refine lv_if_ne (tgt := 31) hx hb dX6_nearest_22 (by decide) (fun c_4 => ?_) (fun c_4 => ?_)
    · replace hv := hv.1 c_4
      refine lv_aload_n hx hb dX6_nearest_31 rfl (lv_at hl 0 rfl) ?_
      refine lv_iload_n hx hb dX6_nearest_32 rfl (lv_at hl 1 rfl) ?_
      refine q_callVv (rest := []) (n := 1) C (c_X6_think l G b images n_people n_taped n_waiting n_z n_kind n_em n_day n_near n_shows n_tmost n_tsize n_tsteps n_tstack n_gmost n_gsize n_gsteps n_gstack t_day t_near t_shows p1 _ hv) ml_X6_159 kb_X6_think rfl ⟨⟨rfl, rfl⟩, (Nat.le_of_ble_eq_true rfl), (Nat.le_of_ble_eq_true rfl)⟩ hW hS [0, 1, 2, 3, 4, 5, 6, 7, 8, 9, 10, 11, 12, 13, 14, 15] rfl rfl kc6 (q0 := 0) rfl hl.1 rfl (Nat.le_of_ble_eq_true rfl) dX6_nearest_33 ⟨Nat.zero_le _, Nat.zero_le _⟩ (fun u_6 H locs hv hW hS => ?_)
      obtain ⟨n_tstack_5, n_gstack_5, t_day_5, t_near_5, t_shows_5⟩ := u_6
      try dsimp only at hv
      have hW : wo G A (wd_X6_14 G b images n_people n_taped n_waiting n_z n_kind n_em n_day n_near n_shows n_tmost n_tsize n_tsteps n_tstack_5 n_gmost n_gsize n_gsteps n_gstack_5 t_day_5 t_near_5 t_shows_5 errs) H := hW
      refine lv_aload_n hx hb dX6_nearest_36 rfl (lv_at hl 0 rfl) ?_
      refine q_get C kc6 hW 0 rfl 0 (by decide) fl_X6_10 rfl rfl dX6_nearest_37 ?_
      refine lv_aload_n hx hb dX6_nearest_40 rfl (lv_at hl 0 rfl) ?_
      refine q_get C kc6 hW 0 rfl 3 (by decide) fl_X6_22 rfl rfl dX6_nearest_41 ?_
      refine q_callN (rest := []) (n := 1) C (c_X4_nearestIn l G (fun k => b (k + 1)) (fun k => b (k + 31)) n_people n_taped n_waiting n_z t_day_5 t_near_5 _ hv) nm_X6_152 kb_X4_nearestIn rfl ⟨⟨rfl, rfl⟩, (Nat.le_of_ble_eq_true rfl), (Nat.le_of_ble_eq_true rfl)⟩ hW hS [1, 13, 14] rfl rfl kc4 (q0 := 1) rfl hl.1 rfl (Nat.le_of_ble_eq_true rfl) dX6_nearest_44 ⟨Nat.zero_le _, Nat.zero_le _⟩ (fun r_7 u_8 H locs hv hW hS => ?_)
      try dsimp only at hv
      exact ret (n_tstack_5, n_gstack_5, t_day_5, t_near_5, t_shows_5, errs) r_7 H locs ls _ rfl hW hS hv dX6_nearest_47
    · replace hv := hv.2 c_4
      refine lv_aload_n hx hb dX6_nearest_25 rfl (lv_at hl 0 rfl) ?_
      refine lv_iconst (v := 3) hx hb dX6_nearest_26 kic_3 ?_
      refine q_callV (rest := []) (n := 1) C (c_X6_error l G b images errs (3 : Int32) _ hv) ml_X6_64 kb_X6_error rfl ⟨⟨rfl, rfl⟩, (Nat.le_of_ble_eq_true rfl), (Nat.le_of_ble_eq_true rfl)⟩ hW hS [0, 16] rfl rfl kc6 (q0 := 0) rfl hl.1 rfl (Nat.le_of_ble_eq_true rfl) dX6_nearest_27 ⟨Nat.zero_le _, Nat.zero_le _⟩ (fun r_9 u_10 H locs hv hW hS => ?_)
      obtain ⟨errs_9, rfl⟩ : ∃ z, z = u_10 := ⟨_, rfl⟩
      try dsimp only at hv
      have hW : wo G A (wd_X6_14 G b images n_people n_taped n_waiting n_z n_kind n_em n_day n_near n_shows n_tmost n_tsize n_tsteps n_tstack n_gmost n_gsize n_gsteps n_gstack t_day t_near t_shows errs_9) H := hW
      exact ret (n_tstack, n_gstack, t_day, t_near, t_shows, errs_9) r_9 H locs ls _ rfl hW hS hv dX6_nearest_30
  · replace hv := hv.2 c_3
    refine lv_aload_n hx hb dX6_nearest_9 rfl (lv_at hl 0 rfl) ?_
    refine lv_iconst (v := 1) hx hb dX6_nearest_10 kic_1 ?_
    refine q_callV (rest := []) (n := 1) C (c_X6_error l G b images errs (1 : Int32) _ hv) ml_X6_64 kb_X6_error rfl ⟨⟨rfl, rfl⟩, (Nat.le_of_ble_eq_true rfl), (Nat.le_of_ble_eq_true rfl)⟩ hW hS [0, 16] rfl rfl kc6 (q0 := 0) rfl hl.1 rfl (Nat.le_of_ble_eq_true rfl) dX6_nearest_11 ⟨Nat.zero_le _, Nat.zero_le _⟩ (fun r_11 u_12 H locs hv hW hS => ?_)
    obtain ⟨errs_11, rfl⟩ : ∃ z, z = u_12 := ⟨_, rfl⟩
    try dsimp only at hv
    have hW : wo G A (wd_X6_14 G b images n_people n_taped n_waiting n_z n_kind n_em n_day n_near n_shows n_tmost n_tsize n_tsteps n_tstack n_gmost n_gsize n_gsteps n_gstack t_day t_near t_shows errs_11) H := hW
    exact ret (n_tstack, n_gstack, t_day, t_near, t_shows, errs_11) r_11 H locs ls _ rfl hW hS hv dX6_nearest_14
set_option maxHeartbeats 4000000 in
set_option maxRecDepth 100000 in
theorem c_X6_then (l : Launch) (G : Gt) (b : Nat → Nat) (images : Int32) (n_people : Int32) (n_taped : Int32) (n_waiting : Int32) (n_z : Int32) (n_kind : Nat → Int32) (n_em : Nat → Int32) (n_day : Int32) (n_near : Nat → Int32) (n_shows : Nat → Int32) (n_tmost : Int32) (n_tsize : Int32) (n_tsteps : Nat → Int32) (n_tstack : Nat → Int32) (n_gmost : Int32) (n_gsize : Int32) (n_gsteps : Nat → Int32) (n_gstack : Nat → Int32) (t_day : Int32) (t_near : Nat → Int32) (t_shows : Nat → Int32) (errs : Nat → Int32) (p1 : Int32) (p2 : Int32) (p3 : Int32) (K : Int32 → (Nat → Int32) → (Nat → Int32) → Int32 → (Nat → Int32) → (Nat → Int32) → (Nat → Int32) → Prop) (hv : v_X6_then p1 p2 p3 n_people n_kind n_em n_day n_near n_shows n_tmost n_tsize n_tsteps n_tstack n_gmost n_gsize n_gsteps n_gstack t_day t_near t_shows errs K) : CI l G yX6_then (.code yX6_then cX6_then 4 (some .int) :: wsG) (rmm 6 144) [.ref (b 0), .int p1, .int p2, .int p3] (wd_X6_14 G b images n_people n_taped n_waiting n_z n_kind n_em n_day n_near n_shows n_tmost n_tsize n_tsteps n_tstack n_gmost n_gsize n_gsteps n_gstack t_day t_near t_shows errs) (S := (Nat → Int32) × (Nat → Int32) × Int32 × (Nat → Int32) × (Nat → Int32) × (Nat → Int32)) (fun u => wd_X6_14 G b images n_people n_taped n_waiting n_z n_kind n_em n_day n_near n_shows n_tmost n_tsize n_tsteps u.1 n_gmost n_gsize n_gsteps u.2.1 u.2.2.1 u.2.2.2.1 u.2.2.2.2.1 u.2.2.2.2.2) (fun r u => K r u.1 u.2.1 u.2.2.1 u.2.2.2.1 u.2.2.2.2.1 u.2.2.2.2.2) := by
  refine ci_intro (by decide) rfl (fun _ => rfl) (Nat.le_of_ble_eq_true rfl) ?_
  intro p e s m args below meth c A H ls Q C hW hS hl ret
  have hx := C.1.1
  have hb := C.1.2.1
  generalize hls : ([] : List Loc) = locs at hS ⊢
  have hl : lv_has ls 4 [(0, .ref (b 0)), (1, .int p1), (2, .int p2), (3, .int p3)] := hl
  have h_j_X6_then_28 : ∀ (n_tstack : Nat → Int32) (n_gstack : Nat → Int32) (t_day : Int32) (t_near : Nat → Int32) (t_shows : Nat → Int32) (errs : Nat → Int32) (H : Heap) (locs : List Loc) (ls : Array Slot), wo G A (wd_X6_14 G b images n_people n_taped n_waiting n_z n_kind n_em n_day n_near n_shows n_tmost n_tsize n_tsteps n_tstack n_gmost n_gsize n_gsteps n_gstack t_day t_near t_shows errs) H → va_S A s.heap H locs → lv_has ls 4 [(0, .ref (b 0))] → j_X6_then_28 p1 p2 p3 n_people n_kind n_em n_day n_near n_shows n_tmost n_tsize n_tsteps n_gmost n_gsize n_gsteps K n_tstack n_gstack t_day t_near t_shows errs → W p l e (rmm 6 144) s m args below meth c H locs 0 0 Q (F0 m 28 ls []) := by
    intro n_tstack n_gstack t_day t_near t_shows errs H locs ls hW hS hl hv
    refine lv_aload_n hx hb dX6_then_28 rfl (lv_at hl 0 rfl) ?_
    refine lv_iconst (v := 1) hx hb dX6_then_29 kic_1 ?_
    refine q_callV (rest := []) (n := 1) C (c_X6_error l G b images errs (1 : Int32) _ hv) ml_X6_64 kb_X6_error rfl ⟨⟨rfl, rfl⟩, (Nat.le_of_ble_eq_true rfl), (Nat.le_of_ble_eq_true rfl)⟩ hW hS [0, 16] rfl rfl kc6 (q0 := 0) rfl hl.1 rfl (Nat.le_of_ble_eq_true rfl) dX6_then_30 ⟨Nat.zero_le _, Nat.zero_le _⟩ (fun r_4 u_5 H locs hv hW hS => ?_)
    obtain ⟨errs_4, rfl⟩ : ∃ z, z = u_5 := ⟨_, rfl⟩
    try dsimp only at hv
    have hW : wo G A (wd_X6_14 G b images n_people n_taped n_waiting n_z n_kind n_em n_day n_near n_shows n_tmost n_tsize n_tsteps n_tstack n_gmost n_gsize n_gsteps n_gstack t_day t_near t_shows errs_4) H := hW
    exact ret (n_tstack, n_gstack, t_day, t_near, t_shows, errs_4) r_4 H locs ls _ rfl hW hS hv dX6_then_33
  refine lv_aload_n hx hb dX6_then_0 rfl (lv_at hl 0 rfl) ?_
  refine q_get C kc6 hW 0 rfl 0 (by decide) fl_X6_10 rfl rfl dX6_then_1 ?_
  refine lv_iload_n hx hb dX6_then_4 rfl (lv_at hl 1 rfl) ?_
  refine q_callN (rest := []) (n := 1) C (c_X4_has l G (fun k => b (k + 1)) n_people n_taped n_waiting n_z p1 _ hv) nm_X6_76 kb_X4_has rfl ⟨⟨rfl, rfl⟩, (Nat.le_of_ble_eq_true rfl), (Nat.le_of_ble_eq_true rfl)⟩ hW hS [1] rfl rfl kc4 (q0 := 1) rfl hl.1 rfl (Nat.le_of_ble_eq_true rfl) dX6_then_5 ⟨Nat.zero_le _, Nat.zero_le _⟩ (fun r_1 u_2 H locs hv hW hS => ?_)
  obtain ⟨hv_b_1, hv⟩ := hv
  try dsimp only at hv
  refine lv_if_eq (tgt := 28) hx hb dX6_then_8 (by decide) (fun c_3 => ?_) (fun c_3 => ?_)
  · replace hv := hv.1 c_3
    exact h_j_X6_then_28 n_tstack n_gstack t_day t_near t_shows errs H locs ls hW hS (lv_sub hl [0] rfl) hv
  · replace hv := hv.2 c_3
    refine lv_iload_n hx hb dX6_then_11 rfl (lv_at hl 2 rfl) ?_
    refine lv_bipush (v := 100) hx hb dX6_then_12 kbp_100 ?_
    refine q_callS (rest := []) (n := 2) C (c_X6_isWithin l G p2 (100 : Int32) _ hv) ml_X6_97 kb_X6_isWithin rfl ⟨⟨rfl, rfl⟩, (Nat.le_of_ble_eq_true rfl), (Nat.le_of_ble_eq_true rfl)⟩ hW hS hl.1 rfl (Nat.le_of_ble_eq_true rfl) dX6_then_14 ⟨Nat.zero_le _, Nat.zero_le _⟩ (fun r_6 u_7 H locs hv hW hS => ?_)
    obtain ⟨hv_b_6, hv⟩ := hv
    try dsimp only at hv
    refine lv_if_eq (tgt := 28) hx hb dX6_then_17 (by decide) (fun c_8 => ?_) (fun c_8 => ?_)
    · replace hv := hv.1 c_8
      exact h_j_X6_then_28 n_tstack n_gstack t_day t_near t_shows errs H locs ls hW hS (lv_sub hl [0] rfl) hv
    · replace hv := hv.2 c_8
      refine lv_iload_n hx hb dX6_then_20 rfl (lv_at hl 3 rfl) ?_
      refine lv_iconst (v := 1) hx hb dX6_then_21 kic_1 ?_
      refine q_callS (rest := []) (n := 2) C (c_X6_isWithin l G p3 (1 : Int32) _ hv) ml_X6_97 kb_X6_isWithin rfl ⟨⟨rfl, rfl⟩, (Nat.le_of_ble_eq_true rfl), (Nat.le_of_ble_eq_true rfl)⟩ hW hS hl.1 rfl (Nat.le_of_ble_eq_true rfl) dX6_then_22 ⟨Nat.zero_le _, Nat.zero_le _⟩ (fun r_9 u_10 H locs hv hW hS => ?_)
      obtain ⟨hv_b_9, hv⟩ := hv
      try dsimp only at hv
      refine lv_if_ne (tgt := 34) hx hb dX6_then_25 (by decide) (fun c_11 => ?_) (fun c_11 => ?_)
      · replace hv := hv.1 c_11
        refine lv_aload_n hx hb dX6_then_34 rfl (lv_at hl 0 rfl) ?_
        refine lv_iload_n hx hb dX6_then_35 rfl (lv_at hl 2 rfl) ?_
        refine q_callVv (rest := []) (n := 1) C (c_X6_think l G b images n_people n_taped n_waiting n_z n_kind n_em n_day n_near n_shows n_tmost n_tsize n_tsteps n_tstack n_gmost n_gsize n_gsteps n_gstack t_day t_near t_shows p2 _ hv) ml_X6_159 kb_X6_think rfl ⟨⟨rfl, rfl⟩, (Nat.le_of_ble_eq_true rfl), (Nat.le_of_ble_eq_true rfl)⟩ hW hS [0, 1, 2, 3, 4, 5, 6, 7, 8, 9, 10, 11, 12, 13, 14, 15] rfl rfl kc6 (q0 := 0) rfl hl.1 rfl (Nat.le_of_ble_eq_true rfl) dX6_then_36 ⟨Nat.zero_le _, Nat.zero_le _⟩ (fun u_13 H locs hv hW hS => ?_)
        obtain ⟨n_tstack_12, n_gstack_12, t_day_12, t_near_12, t_shows_12⟩ := u_13
        try dsimp only at hv
        have hW : wo G A (wd_X6_14 G b images n_people n_taped n_waiting n_z n_kind n_em n_day n_near n_shows n_tmost n_tsize n_tsteps n_tstack_12 n_gmost n_gsize n_gsteps n_gstack_12 t_day_12 t_near_12 t_shows_12 errs) H := hW
        refine lv_iload_n hx hb dX6_then_39 rfl (lv_at hl 3 rfl) ?_
        refine lv_if_ne (tgt := 55) hx hb dX6_then_40 (by decide) (fun c_14 => ?_) (fun c_14 => ?_)
        · replace hv := hv.1 c_14
          refine lv_aload_n hx hb dX6_then_55 rfl (lv_at hl 0 rfl) ?_
          refine q_get C kc6 hW 0 rfl 3 (by decide) fl_X6_22 rfl rfl dX6_then_56 ?_
          refine q_getN C kc3 hW 13 rfl 1 (by decide) nf_X6_91 rfl rfl dX6_then_59 ?_
          refine lv_iload_n hx hb dX6_then_62 rfl (lv_at hl 1 rfl) ?_
          obtain ⟨h_15, hv⟩ := hv
          refine q_iald C hW 15 rfl h_15 dX6_then_63 ?_
          exact ret (n_tstack_12, n_gstack_12, t_day_12, t_near_12, t_shows_12, errs) (t_shows_12 p1.toNatClampNeg) H locs ls _ rfl hW hS hv dX6_then_64
        · replace hv := hv.2 c_14
          refine lv_aload_n hx hb dX6_then_43 rfl (lv_at hl 0 rfl) ?_
          refine q_get C kc6 hW 0 rfl 3 (by decide) fl_X6_22 rfl rfl dX6_then_44 ?_
          refine q_getN C kc3 hW 13 rfl 0 (by decide) nf_X6_88 rfl rfl dX6_then_47 ?_
          refine lv_iload_n hx hb dX6_then_50 rfl (lv_at hl 1 rfl) ?_
          obtain ⟨h_16, hv⟩ := hv
          refine q_iald C hW 14 rfl h_16 dX6_then_51 ?_
          refine lv_goto (tgt := 64) hx hb dX6_then_52 (by decide) ?_
          exact ret (n_tstack_12, n_gstack_12, t_day_12, t_near_12, t_shows_12, errs) (t_near_12 p1.toNatClampNeg) H locs ls _ rfl hW hS hv dX6_then_64
      · replace hv := hv.2 c_11
        exact h_j_X6_then_28 n_tstack n_gstack t_day t_near t_shows errs H locs ls hW hS (lv_sub hl [0] rfl) hv
set_option maxHeartbeats 4000000 in
set_option maxRecDepth 100000 in
theorem c_X6_settles (l : Launch) (G : Gt) (b : Nat → Nat) (images : Int32) (n_people : Int32) (n_taped : Int32) (n_waiting : Int32) (n_z : Int32) (n_kind : Nat → Int32) (n_em : Nat → Int32) (n_day : Int32) (n_near : Nat → Int32) (n_shows : Nat → Int32) (n_tmost : Int32) (n_tsize : Int32) (n_tsteps : Nat → Int32) (n_tstack : Nat → Int32) (n_gmost : Int32) (n_gsize : Int32) (n_gsteps : Nat → Int32) (n_gstack : Nat → Int32) (t_day : Int32) (t_near : Nat → Int32) (t_shows : Nat → Int32) (errs : Nat → Int32) (K : Int32 → (Nat → Int32) → (Nat → Int32) → Int32 → (Nat → Int32) → (Nat → Int32) → (Nat → Int32) → Prop) (hv : v_X6_settles n_people n_kind n_em n_day n_near n_shows n_tmost n_tsize n_tsteps n_tstack n_gmost n_gsize n_gsteps n_gstack t_day t_near t_shows errs K) : CI l G yX6_settles (.code yX6_settles cX6_settles 2 (some .int) :: wsG) (rmm 6 144) [.ref (b 0)] (wd_X6_14 G b images n_people n_taped n_waiting n_z n_kind n_em n_day n_near n_shows n_tmost n_tsize n_tsteps n_tstack n_gmost n_gsize n_gsteps n_gstack t_day t_near t_shows errs) (S := (Nat → Int32) × (Nat → Int32) × Int32 × (Nat → Int32) × (Nat → Int32) × (Nat → Int32)) (fun u => wd_X6_14 G b images n_people n_taped n_waiting n_z n_kind n_em n_day n_near n_shows n_tmost n_tsize n_tsteps u.1 n_gmost n_gsize n_gsteps u.2.1 u.2.2.1 u.2.2.2.1 u.2.2.2.2.1 u.2.2.2.2.2) (fun r u => K r u.1 u.2.1 u.2.2.1 u.2.2.2.1 u.2.2.2.2.1 u.2.2.2.2.2) := by
  refine ci_intro (by decide) rfl (fun _ => rfl) (Nat.le_of_ble_eq_true rfl) ?_
  intro p e s m args below meth c A H ls Q C hW hS hl ret
  have hx := C.1.1
  have hb := C.1.2.1
  generalize hls : ([] : List Loc) = locs at hS ⊢
  have hl : lv_has ls 2 [(0, .ref (b 0))] := hl
  have h_l_X6_settles_7 : ∀ (n : Nat), ∀ (x1 : Int32) (n_tstack : Nat → Int32) (n_gstack : Nat → Int32) (t_day : Int32) (t_near : Nat → Int32) (t_shows : Nat → Int32) (errs : Nat → Int32) (H : Heap) (locs : List Loc) (ls : Array Slot), wo G A (wd_X6_14 G b images n_people n_taped n_waiting n_z n_kind n_em n_day n_near n_shows n_tmost n_tsize n_tsteps n_tstack n_gmost n_gsize n_gsteps n_gstack t_day t_near t_shows errs) H → va_S A s.heap H locs → lv_has ls 2 [(0, .ref (b 0)), (1, .int x1)] → l_X6_settles_7 n_people n_kind n_em n_day n_near n_shows n_tmost n_tsize n_tsteps n_gmost n_gsize n_gsteps K n x1 n_tstack n_gstack t_day t_near t_shows errs → W p l e (rmm 6 144) s m args below meth c H locs 0 0 Q (F0 m 7 ls []) := by
    intro n
    induction n with
    | zero =>
      intro x1 n_tstack n_gstack t_day t_near t_shows errs H locs ls hW hS hl hv
      exact False.elim hv
    | succ n ih =>
      intro x1 n_tstack n_gstack t_day t_near t_shows errs H locs ls hW hS hl hv
      refine lv_iload_n hx hb dX6_settles_7 rfl (lv_at hl 1 rfl) ?_
      refine lv_bipush (v := 100) hx hb dX6_settles_8 kbp_100 ?_
      refine lv_icmp_gt (tgt := 35) hx hb dX6_settles_10 (by decide) (fun c_3 => ?_) (fun c_3 => ?_)
      · replace hv := hv.1 c_3
        refine lv_aload_n hx hb dX6_settles_35 rfl (lv_at hl 0 rfl) ?_
        refine lv_iconst (v := 2) hx hb dX6_settles_36 kic_2 ?_
        refine q_callV (rest := []) (n := 1) C (c_X6_error l G b images errs (2 : Int32) _ hv) ml_X6_64 kb_X6_error rfl ⟨⟨rfl, rfl⟩, (Nat.le_of_ble_eq_true rfl), (Nat.le_of_ble_eq_true rfl)⟩ hW hS [0, 16] rfl rfl kc6 (q0 := 0) rfl hl.1 rfl (Nat.le_of_ble_eq_true rfl) dX6_settles_37 ⟨Nat.zero_le _, Nat.zero_le _⟩ (fun r_4 u_5 H locs hv hW hS => ?_)
        obtain ⟨errs_4, rfl⟩ : ∃ z, z = u_5 := ⟨_, rfl⟩
        try dsimp only at hv
        have hW : wo G A (wd_X6_14 G b images n_people n_taped n_waiting n_z n_kind n_em n_day n_near n_shows n_tmost n_tsize n_tsteps n_tstack n_gmost n_gsize n_gsteps n_gstack t_day t_near t_shows errs_4) H := hW
        exact ret (n_tstack, n_gstack, t_day, t_near, t_shows, errs_4) r_4 H locs ls _ rfl hW hS hv dX6_settles_40
      · replace hv := hv.2 c_3
        refine lv_aload_n hx hb dX6_settles_13 rfl (lv_at hl 0 rfl) ?_
        refine q_get C kc6 hW 0 rfl 0 (by decide) fl_X6_10 rfl rfl dX6_settles_14 ?_
        refine lv_aload_n hx hb dX6_settles_17 rfl (lv_at hl 0 rfl) ?_
        refine q_get C kc6 hW 0 rfl 3 (by decide) fl_X6_22 rfl rfl dX6_settles_18 ?_
        refine q_callN (rest := []) (n := 1) C (c_X4_pass l G (fun k => b (k + 1)) (fun k => b (k + 31)) n_people n_taped n_waiting n_z n_kind n_em n_tmost n_tsize n_tsteps n_tstack n_gmost n_gsize n_gsteps n_gstack t_day t_near t_shows _ hv) nm_X6_145 kb_X4_pass rfl ⟨⟨rfl, rfl⟩, (Nat.le_of_ble_eq_true rfl), (Nat.le_of_ble_eq_true rfl)⟩ hW hS [1, 2, 3, 7, 8, 9, 10, 11, 12, 13, 14, 15] rfl rfl kc4 (q0 := 1) rfl hl.1 rfl (Nat.le_of_ble_eq_true rfl) dX6_settles_21 ⟨Nat.zero_le _, Nat.zero_le _⟩ (fun r_6 u_7 H locs hv hW hS => ?_)
        obtain ⟨n_tstack_6, n_gstack_6, t_day_6, t_near_6, t_shows_6⟩ := u_7
        obtain ⟨hv_b_6, hv⟩ := hv
        try dsimp only at hv
        have hW : wo G A (wd_X6_14 G b images n_people n_taped n_waiting n_z n_kind n_em n_day n_near n_shows n_tmost n_tsize n_tsteps n_tstack_6 n_gmost n_gsize n_gsteps n_gstack_6 t_day_6 t_near_6 t_shows_6 errs) H := hW
        refine lv_if_ne (tgt := 29) hx hb dX6_settles_24 (by decide) (fun c_8 => ?_) (fun c_8 => ?_)
        · replace hv := hv.1 c_8
          refine lv_iinc (v := (x1 + 1)) (lv' := [(1, .int (x1 + 1)), (0, .ref (b 0))]) hx hb dX6_settles_29 hl (k := 1) rfl rfl (by decide) rfl (fun ls hl => ?_)
          refine lv_goto (tgt := 7) hx hb dX6_settles_32 (by decide) ?_
          exact ih (x1 + 1) n_tstack_6 n_gstack_6 t_day_6 t_near_6 t_shows_6 errs H locs ls hW hS (lv_sub hl [1, 0] rfl) hv
        · replace hv := hv.2 c_8
          refine lv_iload_n hx hb dX6_settles_27 rfl (lv_at hl 1 rfl) ?_
          exact ret (n_tstack_6, n_gstack_6, t_day_6, t_near_6, t_shows_6, errs) x1 H locs ls _ rfl hW hS hv dX6_settles_28
  refine lv_aload_n hx hb dX6_settles_0 rfl (lv_at hl 0 rfl) ?_
  refine lv_iconst (v := 0) hx hb dX6_settles_1 kic_0 ?_
  refine q_callVv (rest := []) (n := 1) C (c_X6_think l G b images n_people n_taped n_waiting n_z n_kind n_em n_day n_near n_shows n_tmost n_tsize n_tsteps n_tstack n_gmost n_gsize n_gsteps n_gstack t_day t_near t_shows (0 : Int32) _ hv) ml_X6_159 kb_X6_think rfl ⟨⟨rfl, rfl⟩, (Nat.le_of_ble_eq_true rfl), (Nat.le_of_ble_eq_true rfl)⟩ hW hS [0, 1, 2, 3, 4, 5, 6, 7, 8, 9, 10, 11, 12, 13, 14, 15] rfl rfl kc6 (q0 := 0) rfl hl.1 rfl (Nat.le_of_ble_eq_true rfl) dX6_settles_2 ⟨Nat.zero_le _, Nat.zero_le _⟩ (fun u_2 H locs hv hW hS => ?_)
  obtain ⟨n_tstack_1, n_gstack_1, t_day_1, t_near_1, t_shows_1⟩ := u_2
  try dsimp only at hv
  have hW : wo G A (wd_X6_14 G b images n_people n_taped n_waiting n_z n_kind n_em n_day n_near n_shows n_tmost n_tsize n_tsteps n_tstack_1 n_gmost n_gsize n_gsteps n_gstack_1 t_day_1 t_near_1 t_shows_1 errs) H := hW
  refine lv_iconst (v := 0) hx hb dX6_settles_5 kic_0 ?_
  refine lv_istore_n (lv' := [(1, .int (0 : Int32)), (0, .ref (b 0))]) hx hb dX6_settles_6 rfl hl (by decide) rfl (fun ls hl => ?_)
  obtain ⟨n_9, hv⟩ := hv
  exact h_l_X6_settles_7 n_9 (0 : Int32) n_tstack_1 n_gstack_1 t_day_1 t_near_1 t_shows_1 errs H locs ls hW hS (lv_sub hl [1, 0] rfl) hv
set_option maxHeartbeats 4000000 in
set_option maxRecDepth 100000 in
theorem c_X6_rank (l : Launch) (G : Gt) (b : Nat → Nat) (images : Int32) (n_people : Int32) (n_taped : Int32) (n_waiting : Int32) (n_z : Int32) (n_day : Int32) (n_near : Nat → Int32) (errs : Nat → Int32) (p1 : Int32) (K : Int32 → (Nat → Int32) → Prop) (hv : v_X6_rank p1 n_people n_near errs K) : CI l G yX6_rank (.code yX6_rank cX6_rank 2 (some .int) :: wsG) (rmm 1 23) [.ref (b 0), .int p1] (wd_X6_4 G b images n_people n_taped n_waiting n_z n_day n_near errs) (S := (Nat → Int32)) (fun u => wd_X6_4 G b images n_people n_taped n_waiting n_z n_day n_near u) (fun r u => K r u) := by
  refine ci_intro (by decide) rfl (fun _ => rfl) (Nat.le_of_ble_eq_true rfl) ?_
  intro p e s m args below meth c A H ls Q C hW hS hl ret
  have hx := C.1.1
  have hb := C.1.2.1
  generalize hls : ([] : List Loc) = locs at hS ⊢
  have hl : lv_has ls 2 [(0, .ref (b 0)), (1, .int p1)] := hl
  refine lv_aload_n hx hb dX6_rank_0 rfl (lv_at hl 0 rfl) ?_
  refine q_get C kc6 hW 0 rfl 0 (by decide) fl_X6_10 rfl rfl dX6_rank_1 ?_
  refine lv_iload_n hx hb dX6_rank_4 rfl (lv_at hl 1 rfl) ?_
  refine q_callN (rest := []) (n := 1) C (c_X4_has l G (fun k => b (k + 1)) n_people n_taped n_waiting n_z p1 _ hv) nm_X6_76 kb_X4_has rfl ⟨⟨rfl, rfl⟩, (Nat.le_of_ble_eq_true rfl), (Nat.le_of_ble_eq_true rfl)⟩ hW hS [1] rfl rfl kc4 (q0 := 1) rfl hl.1 rfl (Nat.le_of_ble_eq_true rfl) dX6_rank_5 ⟨Nat.zero_le _, Nat.zero_le _⟩ (fun r_1 u_2 H locs hv hW hS => ?_)
  obtain ⟨hv_b_1, hv⟩ := hv
  try dsimp only at hv
  refine lv_if_eq (tgt := 22) hx hb dX6_rank_8 (by decide) (fun c_3 => ?_) (fun c_3 => ?_)
  · replace hv := hv.1 c_3
    refine lv_aload_n hx hb dX6_rank_22 rfl (lv_at hl 0 rfl) ?_
    refine lv_iconst (v := 1) hx hb dX6_rank_23 kic_1 ?_
    refine q_callV (rest := []) (n := 1) C (c_X6_error l G b images errs (1 : Int32) _ hv) ml_X6_64 kb_X6_error rfl ⟨⟨rfl, rfl⟩, (Nat.le_of_ble_eq_true rfl), (Nat.le_of_ble_eq_true rfl)⟩ hW hS [0, 4] rfl rfl kc6 (q0 := 0) rfl hl.1 rfl (Nat.le_of_ble_eq_true rfl) dX6_rank_24 ⟨Nat.zero_le _, Nat.zero_le _⟩ (fun r_4 u_5 H locs hv hW hS => ?_)
    obtain ⟨errs_4, rfl⟩ : ∃ z, z = u_5 := ⟨_, rfl⟩
    try dsimp only at hv
    have hW : wo G A (wd_X6_4 G b images n_people n_taped n_waiting n_z n_day n_near errs_4) H := hW
    exact ret (errs_4) r_4 H locs ls _ rfl hW hS hv dX6_rank_27
  · replace hv := hv.2 c_3
    refine lv_aload_n hx hb dX6_rank_11 rfl (lv_at hl 0 rfl) ?_
    refine q_get C kc6 hW 0 rfl 0 (by decide) fl_X6_10 rfl rfl dX6_rank_12 ?_
    refine lv_iload_n hx hb dX6_rank_15 rfl (lv_at hl 1 rfl) ?_
    refine q_callN (rest := []) (n := 1) C (c_X4_countNearer l G (fun k => b (k + 1)) n_people n_taped n_waiting n_z n_day n_near p1 _ hv) nm_X6_163 kb_X4_countNearer rfl ⟨⟨rfl, rfl⟩, (Nat.le_of_ble_eq_true rfl), (Nat.le_of_ble_eq_true rfl)⟩ hW hS [1, 2, 3] rfl rfl kc4 (q0 := 1) rfl hl.1 rfl (Nat.le_of_ble_eq_true rfl) dX6_rank_16 ⟨Nat.zero_le _, Nat.zero_le _⟩ (fun r_6 u_7 H locs hv hW hS => ?_)
    try dsimp only at hv
    refine lv_goto (tgt := 27) hx hb dX6_rank_19 (by decide) ?_
    exact ret (errs) r_6 H locs ls _ rfl hW hS hv dX6_rank_27
set_option maxHeartbeats 4000000 in
set_option maxRecDepth 100000 in
theorem c_X6_thinkSigned (l : Launch) (G : Gt) (b : Nat → Nat) (images : Int32) (n_people : Int32) (n_taped : Int32) (n_waiting : Int32) (n_z : Int32) (n_kind : Nat → Int32) (n_em : Nat → Int32) (n_day : Int32) (n_near : Nat → Int32) (n_shows : Nat → Int32) (n_tmost : Int32) (n_tsize : Int32) (n_tsteps : Nat → Int32) (n_tstack : Nat → Int32) (n_gmost : Int32) (n_gsize : Int32) (n_gsteps : Nat → Int32) (n_gstack : Nat → Int32) (g_day : Int32) (g_near : Nat → Int32) (g_shows : Nat → Int32) (p1 : Int32) (p2 : Int32) (K : (Nat → Int32) → (Nat → Int32) → Int32 → (Nat → Int32) → (Nat → Int32) → Prop) (hv : v_X6_thinkSigned p1 p2 n_people n_kind n_em n_day n_near n_shows n_tmost n_tsize n_tsteps n_tstack n_gmost n_gsize n_gsteps n_gstack g_day g_near g_shows K) : CV l G yX6_thinkSigned (.code yX6_thinkSigned cX6_thinkSigned 4 none :: wsG) (rmm 5 122) [.ref (b 0), .int p1, .int p2] (wd_X6_15 G b images n_people n_taped n_waiting n_z n_kind n_em n_day n_near n_shows n_tmost n_tsize n_tsteps n_tstack n_gmost n_gsize n_gsteps n_gstack g_day g_near g_shows) (S := (Nat → Int32) × (Nat → Int32) × Int32 × (Nat → Int32) × (Nat → Int32)) (fun u => wd_X6_15 G b images n_people n_taped n_waiting n_z n_kind n_em n_day n_near n_shows n_tmost n_tsize n_tsteps u.1 n_gmost n_gsize n_gsteps u.2.1 u.2.2.1 u.2.2.2.1 u.2.2.2.2) (fun u => K u.1 u.2.1 u.2.2.1 u.2.2.2.1 u.2.2.2.2) := by
  refine cv_intro (by decide) rfl (fun _ => rfl) (Nat.le_of_ble_eq_true rfl) ?_
  intro p e s m args below meth c A H ls Q C hW hS hl ret
  have hx := C.1.1
  have hb := C.1.2.1
  generalize hls : ([] : List Loc) = locs at hS ⊢
  have hl : lv_has ls 4 [(0, .ref (b 0)), (1, .int p1), (2, .int p2)] := hl
  have h_l_X6_thinkSigned_45 : ∀ (n : Nat), ∀ (x3 : Int32) (n_tstack : Nat → Int32) (n_gstack : Nat → Int32) (g_day : Int32) (g_near : Nat → Int32) (g_shows : Nat → Int32) (H : Heap) (locs : List Loc) (ls : Array Slot), wo G A (wd_X6_15 G b images n_people n_taped n_waiting n_z n_kind n_em n_day n_near n_shows n_tmost n_tsize n_tsteps n_tstack n_gmost n_gsize n_gsteps n_gstack g_day g_near g_shows) H → va_S A s.heap H locs → lv_has ls 4 [(0, .ref (b 0)), (2, .int p2), (3, .int x3)] → l_X6_thinkSigned_45 p1 p2 n_people n_kind n_em n_day n_near n_shows n_tmost n_tsize n_tsteps n_gmost n_gsize n_gsteps K n x3 n_tstack n_gstack g_day g_near g_shows → W p l e (rmm 5 122) s m args below meth c H locs 0 0 Q (F0 m 45 ls []) := by
    intro n
    induction n with
    | zero =>
      intro x3 n_tstack n_gstack g_day g_near g_shows H locs ls hW hS hl hv
      exact False.elim hv
    | succ n ih =>
      intro x3 n_tstack n_gstack g_day g_near g_shows H locs ls hW hS hl hv
      refine lv_iload_n hx hb dX6_thinkSigned_45 rfl (lv_at hl 2 rfl) ?_
      refine lv_iload_n hx hb dX6_thinkSigned_46 rfl (lv_at hl 1 rfl) ?_
      refine lv_icmp_ge (tgt := 68) hx hb dX6_thinkSigned_47 (by decide) (fun c_4 => ?_) (fun c_4 => ?_)
      · replace hv := hv.1 c_4
        exact ret (n_tstack, n_gstack, g_day, g_near, g_shows) H locs ls _ hW hS hv dX6_thinkSigned_68
      · replace hv := hv.2 c_4
        refine lv_aload_n hx hb dX6_thinkSigned_50 rfl (lv_at hl 0 rfl) ?_
        refine q_get C kc6 hW 0 rfl 0 (by decide) fl_X6_10 rfl rfl dX6_thinkSigned_51 ?_
        refine lv_aload_n hx hb dX6_thinkSigned_54 rfl (lv_at hl 0 rfl) ?_
        refine q_get C kc6 hW 0 rfl 4 (by decide) fl_X6_26 rfl rfl dX6_thinkSigned_55 ?_
        refine q_callN (rest := []) (n := 1) C (c_X4_pass l G (fun k => b (k + 1)) (fun k => b (k + 34)) n_people n_taped n_waiting n_z n_kind n_em n_tmost n_tsize n_tsteps n_tstack n_gmost n_gsize n_gsteps n_gstack g_day g_near g_shows _ hv) nm_X6_145 kb_X4_pass rfl ⟨⟨rfl, rfl⟩, (Nat.le_of_ble_eq_true rfl), (Nat.le_of_ble_eq_true rfl)⟩ hW hS [1, 2, 3, 7, 8, 9, 10, 11, 12, 13, 14, 15] rfl rfl kc4 (q0 := 1) rfl hl.1 rfl (Nat.le_of_ble_eq_true rfl) dX6_thinkSigned_58 ⟨Nat.zero_le _, Nat.zero_le _⟩ (fun r_5 u_6 H locs hv hW hS => ?_)
        obtain ⟨n_tstack_5, n_gstack_5, g_day_5, g_near_5, g_shows_5⟩ := u_6
        obtain ⟨hv_b_5, hv⟩ := hv
        try dsimp only at hv
        have hW : wo G A (wd_X6_15 G b images n_people n_taped n_waiting n_z n_kind n_em n_day n_near n_shows n_tmost n_tsize n_tsteps n_tstack_5 n_gmost n_gsize n_gsteps n_gstack_5 g_day_5 g_near_5 g_shows_5) H := hW
        refine lv_pop hx hb dX6_thinkSigned_61 rfl ?_
        refine lv_iinc (v := (x3 + 1)) (lv' := [(3, .int (x3 + 1)), (0, .ref (b 0)), (2, .int p2)]) hx hb dX6_thinkSigned_62 hl (k := 2) rfl rfl (by decide) rfl (fun ls hl => ?_)
        refine lv_goto (tgt := 45) hx hb dX6_thinkSigned_65 (by decide) ?_
        exact ih (x3 + 1) n_tstack_5 n_gstack_5 g_day_5 g_near_5 g_shows_5 H locs ls hW hS (lv_sub hl [1, 2, 0] rfl) hv
  have h_l_X6_thinkSigned_16 : ∀ (n : Nat), ∀ (x3 : Int32) (n_tstack : Nat → Int32) (n_gstack : Nat → Int32) (g_day : Int32) (g_near : Nat → Int32) (g_shows : Nat → Int32) (H : Heap) (locs : List Loc) (ls : Array Slot), wo G A (wd_X6_15 G b images n_people n_taped n_waiting n_z n_kind n_em n_day n_near n_shows n_tmost n_tsize n_tsteps n_tstack n_gmost n_gsize n_gsteps n_gstack g_day g_near g_shows) H → va_S A s.heap H locs → lv_has ls 4 [(0, .ref (b 0)), (1, .int p1), (2, .int p2), (3, .int x3)] → l_X6_thinkSigned_16 p1 p2 n_people n_kind n_em n_day n_near n_shows n_tmost n_tsize n_tsteps n_gmost n_gsize n_gsteps K n x3 n_tstack n_gstack g_day g_near g_shows → W p l e (rmm 5 122) s m args below meth c H locs 0 0 Q (F0 m 16 ls []) := by
    intro n
    induction n with
    | zero =>
      intro x3 n_tstack n_gstack g_day g_near g_shows H locs ls hW hS hl hv
      exact False.elim hv
    | succ n ih =>
      intro x3 n_tstack n_gstack g_day g_near g_shows H locs ls hW hS hl hv
      refine lv_iload_n hx hb dX6_thinkSigned_16 rfl (lv_at hl 3 rfl) ?_
      refine lv_aload_n hx hb dX6_thinkSigned_17 rfl (lv_at hl 0 rfl) ?_
      refine q_get C kc6 hW 0 rfl 0 (by decide) fl_X6_10 rfl rfl dX6_thinkSigned_18 ?_
      refine q_getN C kc4 hW 1 rfl 0 (by decide) nf_X6_68 rfl rfl dX6_thinkSigned_21 ?_
      refine lv_icmp_ge (tgt := 43) hx hb dX6_thinkSigned_24 (by decide) (fun c_3 => ?_) (fun c_3 => ?_)
      · replace hv := hv.1 c_3
        refine lv_iconst (v := 0) hx hb dX6_thinkSigned_43 kic_0 ?_
        refine lv_istore_n (lv' := [(3, .int (0 : Int32)), (0, .ref (b 0)), (1, .int p1), (2, .int p2)]) hx hb dX6_thinkSigned_44 rfl hl (by decide) rfl (fun ls hl => ?_)
        obtain ⟨n_7, hv⟩ := hv
        exact h_l_X6_thinkSigned_45 n_7 (0 : Int32) n_tstack n_gstack g_day g_near g_shows H locs ls hW hS (lv_sub hl [1, 3, 0] rfl) hv
      · replace hv := hv.2 c_3
        refine lv_aload_n hx hb dX6_thinkSigned_27 rfl (lv_at hl 0 rfl) ?_
        refine q_get C kc6 hW 0 rfl 4 (by decide) fl_X6_26 rfl rfl dX6_thinkSigned_28 ?_
        refine q_getN C kc3 hW 13 rfl 1 (by decide) nf_X6_91 rfl rfl dX6_thinkSigned_31 ?_
        refine lv_iload_n hx hb dX6_thinkSigned_34 rfl (lv_at hl 3 rfl) ?_
        refine lv_iload_n hx hb dX6_thinkSigned_35 rfl (lv_at hl 1 rfl) ?_
        obtain ⟨h_8, hv⟩ := hv
        refine q_iast C hW hS 15 rfl h_8 dX6_thinkSigned_36 (fun H locs hW hS => ?_)
        have hW : wo G A (wd_X6_15 G b images n_people n_taped n_waiting n_z n_kind n_em n_day n_near n_shows n_tmost n_tsize n_tsteps n_tstack n_gmost n_gsize n_gsteps n_gstack g_day g_near (upd g_shows x3.toNatClampNeg p1)) H := hW
        refine lv_iinc (v := (x3 + 1)) (lv' := [(3, .int (x3 + 1)), (0, .ref (b 0)), (1, .int p1), (2, .int p2)]) hx hb dX6_thinkSigned_37 hl (k := 3) rfl rfl (by decide) rfl (fun ls hl => ?_)
        refine lv_goto (tgt := 16) hx hb dX6_thinkSigned_40 (by decide) ?_
        exact ih (x3 + 1) n_tstack n_gstack g_day g_near (upd g_shows x3.toNatClampNeg p1) H locs ls hW hS (lv_sub hl [1, 2, 3, 0] rfl) hv
  refine lv_aload_n hx hb dX6_thinkSigned_0 rfl (lv_at hl 0 rfl) ?_
  refine q_get C kc6 hW 0 rfl 4 (by decide) fl_X6_26 rfl rfl dX6_thinkSigned_1 ?_
  refine lv_aload_n hx hb dX6_thinkSigned_4 rfl (lv_at hl 0 rfl) ?_
  refine q_get C kc6 hW 0 rfl 0 (by decide) fl_X6_10 rfl rfl dX6_thinkSigned_5 ?_
  refine q_getN C kc4 hW 1 rfl 4 (by decide) nf_X6_85 rfl rfl dX6_thinkSigned_8 ?_
  refine q_callNv (rest := []) (n := 1) C (c_X3_copy l G (fun k => b (k + 34)) (fun k => b (k + 5)) g_day g_near g_shows n_day n_near n_shows _ hv) nm_X6_260 kb_X3_copy rfl ⟨⟨rfl, rfl⟩, (Nat.le_of_ble_eq_true rfl), (Nat.le_of_ble_eq_true rfl)⟩ hW hS [13, 14, 15, 4, 5, 6] rfl rfl kc3 (q0 := 13) rfl hl.1 rfl (Nat.le_of_ble_eq_true rfl) dX6_thinkSigned_11 ⟨Nat.zero_le _, Nat.zero_le _⟩ (fun u_2 H locs hv hW hS => ?_)
  obtain ⟨g_day_1, g_near_1, g_shows_1⟩ := u_2
  try dsimp only at hv
  have hW : wo G A (wd_X6_15 G b images n_people n_taped n_waiting n_z n_kind n_em n_day n_near n_shows n_tmost n_tsize n_tsteps n_tstack n_gmost n_gsize n_gsteps n_gstack g_day_1 g_near_1 g_shows_1) H := hW
  refine lv_iconst (v := 0) hx hb dX6_thinkSigned_14 kic_0 ?_
  refine lv_istore_n (lv' := [(3, .int (0 : Int32)), (0, .ref (b 0)), (1, .int p1), (2, .int p2)]) hx hb dX6_thinkSigned_15 rfl hl (by decide) rfl (fun ls hl => ?_)
  obtain ⟨n_9, hv⟩ := hv
  exact h_l_X6_thinkSigned_16 n_9 (0 : Int32) n_tstack n_gstack g_day_1 g_near_1 g_shows_1 H locs ls hW hS (lv_sub hl [1, 2, 3, 0] rfl) hv
set_option maxHeartbeats 4000000 in
set_option maxRecDepth 100000 in
theorem c_J6_bitCount_0f7a4 (l : Launch) (G : Gt) (p1 : Int32) (K : Int32 → Prop) (hv : v_J6_bitCount_0f7a4 p1 K) : CI l G yJ6_bitCount_0f7a4 (.code yJ6_bitCount_0f7a4 cJ6_bitCount_0f7a4 1 (some .int) :: wsG) (rmm 0 0) [.int p1] [] (S := Unit) (fun _ => []) (fun r u => K r) := by
  refine ci_intro (by decide) rfl (fun _ => rfl) (Nat.le_of_ble_eq_true rfl) ?_
  intro p e s m args below meth c A H ls Q C hW hS hl ret
  have hx := C.1.1
  have hb := C.1.2.1
  generalize hls : ([] : List Loc) = locs at hS ⊢
  have hl : lv_has ls 1 [(0, .int p1)] := hl
  refine lv_iload_n hx hb dJ6_bitCount_0f7a4_0 rfl (lv_at hl 0 rfl) ?_
  refine lv_iload_n hx hb dJ6_bitCount_0f7a4_1 rfl (lv_at hl 0 rfl) ?_
  refine lv_iconst (v := 1) hx hb dJ6_bitCount_0f7a4_2 kic_1 ?_
  refine lv_iushr hx hb dJ6_bitCount_0f7a4_3 rfl ?_
  refine lv_ldcw (v := 1431655765) hx hb C.1.2.2.2.1 (C.hts kc_J6_265) dJ6_bitCount_0f7a4_4 ?_
  refine lv_iand hx hb dJ6_bitCount_0f7a4_7 ?_
  refine lv_isub hx hb dJ6_bitCount_0f7a4_8 ?_
  refine lv_istore_n (lv' := [(0, .int (p1 - (((p1.toUInt32 >>> ((1 : Int32).toUInt32 &&& Int32.toUInt32 31)).toInt32) &&& (1431655765 : Int32))))]) hx hb dJ6_bitCount_0f7a4_9 rfl hl (by decide) rfl (fun ls hl => ?_)
  refine lv_iload_n hx hb dJ6_bitCount_0f7a4_10 rfl (lv_at hl 0 rfl) ?_
  refine lv_ldcw (v := 858993459) hx hb C.1.2.2.2.1 (C.hts kc_J6_266) dJ6_bitCount_0f7a4_11 ?_
  refine lv_iand hx hb dJ6_bitCount_0f7a4_14 ?_
  refine lv_iload_n hx hb dJ6_bitCount_0f7a4_15 rfl (lv_at hl 0 rfl) ?_
  refine lv_iconst (v := 2) hx hb dJ6_bitCount_0f7a4_16 kic_2 ?_
  refine lv_iushr hx hb dJ6_bitCount_0f7a4_17 rfl ?_
  refine lv_ldcw (v := 858993459) hx hb C.1.2.2.2.1 (C.hts kc_J6_266) dJ6_bitCount_0f7a4_18 ?_
  refine lv_iand hx hb dJ6_bitCount_0f7a4_21 ?_
  refine lv_iadd hx hb dJ6_bitCount_0f7a4_22 ?_
  refine lv_istore_n (lv' := [(0, .int (((p1 - (((p1.toUInt32 >>> ((1 : Int32).toUInt32 &&& Int32.toUInt32 31)).toInt32) &&& (1431655765 : Int32))) &&& (858993459 : Int32)) + ((((p1 - (((p1.toUInt32 >>> ((1 : Int32).toUInt32 &&& Int32.toUInt32 31)).toInt32) &&& (1431655765 : Int32))).toUInt32 >>> ((2 : Int32).toUInt32 &&& Int32.toUInt32 31)).toInt32) &&& (858993459 : Int32))))]) hx hb dJ6_bitCount_0f7a4_23 rfl hl (by decide) rfl (fun ls hl => ?_)
  refine lv_iload_n hx hb dJ6_bitCount_0f7a4_24 rfl (lv_at hl 0 rfl) ?_
  refine lv_iload_n hx hb dJ6_bitCount_0f7a4_25 rfl (lv_at hl 0 rfl) ?_
  refine lv_iconst (v := 4) hx hb dJ6_bitCount_0f7a4_26 kic_4 ?_
  refine lv_iushr hx hb dJ6_bitCount_0f7a4_27 rfl ?_
  refine lv_iadd hx hb dJ6_bitCount_0f7a4_28 ?_
  refine lv_ldcw (v := 252645135) hx hb C.1.2.2.2.1 (C.hts kc_J6_267) dJ6_bitCount_0f7a4_29 ?_
  refine lv_iand hx hb dJ6_bitCount_0f7a4_32 ?_
  refine lv_istore_n (lv' := [(0, .int (((((p1 - (((p1.toUInt32 >>> ((1 : Int32).toUInt32 &&& Int32.toUInt32 31)).toInt32) &&& (1431655765 : Int32))) &&& (858993459 : Int32)) + ((((p1 - (((p1.toUInt32 >>> ((1 : Int32).toUInt32 &&& Int32.toUInt32 31)).toInt32) &&& (1431655765 : Int32))).toUInt32 >>> ((2 : Int32).toUInt32 &&& Int32.toUInt32 31)).toInt32) &&& (858993459 : Int32))) + (((((p1 - (((p1.toUInt32 >>> ((1 : Int32).toUInt32 &&& Int32.toUInt32 31)).toInt32) &&& (1431655765 : Int32))) &&& (858993459 : Int32)) + ((((p1 - (((p1.toUInt32 >>> ((1 : Int32).toUInt32 &&& Int32.toUInt32 31)).toInt32) &&& (1431655765 : Int32))).toUInt32 >>> ((2 : Int32).toUInt32 &&& Int32.toUInt32 31)).toInt32) &&& (858993459 : Int32))).toUInt32 >>> ((4 : Int32).toUInt32 &&& Int32.toUInt32 31)).toInt32)) &&& (252645135 : Int32)))]) hx hb dJ6_bitCount_0f7a4_33 rfl hl (by decide) rfl (fun ls hl => ?_)
  refine lv_iload_n hx hb dJ6_bitCount_0f7a4_34 rfl (lv_at hl 0 rfl) ?_
  refine lv_iload_n hx hb dJ6_bitCount_0f7a4_35 rfl (lv_at hl 0 rfl) ?_
  refine lv_bipush (v := 8) hx hb dJ6_bitCount_0f7a4_36 kbp_8 ?_
  refine lv_iushr hx hb dJ6_bitCount_0f7a4_38 rfl ?_
  refine lv_iadd hx hb dJ6_bitCount_0f7a4_39 ?_
  refine lv_istore_n (lv' := [(0, .int ((((((p1 - (((p1.toUInt32 >>> ((1 : Int32).toUInt32 &&& Int32.toUInt32 31)).toInt32) &&& (1431655765 : Int32))) &&& (858993459 : Int32)) + ((((p1 - (((p1.toUInt32 >>> ((1 : Int32).toUInt32 &&& Int32.toUInt32 31)).toInt32) &&& (1431655765 : Int32))).toUInt32 >>> ((2 : Int32).toUInt32 &&& Int32.toUInt32 31)).toInt32) &&& (858993459 : Int32))) + (((((p1 - (((p1.toUInt32 >>> ((1 : Int32).toUInt32 &&& Int32.toUInt32 31)).toInt32) &&& (1431655765 : Int32))) &&& (858993459 : Int32)) + ((((p1 - (((p1.toUInt32 >>> ((1 : Int32).toUInt32 &&& Int32.toUInt32 31)).toInt32) &&& (1431655765 : Int32))).toUInt32 >>> ((2 : Int32).toUInt32 &&& Int32.toUInt32 31)).toInt32) &&& (858993459 : Int32))).toUInt32 >>> ((4 : Int32).toUInt32 &&& Int32.toUInt32 31)).toInt32)) &&& (252645135 : Int32)) + (((((((p1 - (((p1.toUInt32 >>> ((1 : Int32).toUInt32 &&& Int32.toUInt32 31)).toInt32) &&& (1431655765 : Int32))) &&& (858993459 : Int32)) + ((((p1 - (((p1.toUInt32 >>> ((1 : Int32).toUInt32 &&& Int32.toUInt32 31)).toInt32) &&& (1431655765 : Int32))).toUInt32 >>> ((2 : Int32).toUInt32 &&& Int32.toUInt32 31)).toInt32) &&& (858993459 : Int32))) + (((((p1 - (((p1.toUInt32 >>> ((1 : Int32).toUInt32 &&& Int32.toUInt32 31)).toInt32) &&& (1431655765 : Int32))) &&& (858993459 : Int32)) + ((((p1 - (((p1.toUInt32 >>> ((1 : Int32).toUInt32 &&& Int32.toUInt32 31)).toInt32) &&& (1431655765 : Int32))).toUInt32 >>> ((2 : Int32).toUInt32 &&& Int32.toUInt32 31)).toInt32) &&& (858993459 : Int32))).toUInt32 >>> ((4 : Int32).toUInt32 &&& Int32.toUInt32 31)).toInt32)) &&& (252645135 : Int32)).toUInt32 >>> ((8 : Int32).toUInt32 &&& Int32.toUInt32 31)).toInt32)))]) hx hb dJ6_bitCount_0f7a4_40 rfl hl (by decide) rfl (fun ls hl => ?_)
  refine lv_iload_n hx hb dJ6_bitCount_0f7a4_41 rfl (lv_at hl 0 rfl) ?_
  refine lv_iload_n hx hb dJ6_bitCount_0f7a4_42 rfl (lv_at hl 0 rfl) ?_
  refine lv_bipush (v := 16) hx hb dJ6_bitCount_0f7a4_43 kbp_16 ?_
  refine lv_iushr hx hb dJ6_bitCount_0f7a4_45 rfl ?_
  refine lv_iadd hx hb dJ6_bitCount_0f7a4_46 ?_
  refine lv_istore_n (lv' := [(0, .int (((((((p1 - (((p1.toUInt32 >>> ((1 : Int32).toUInt32 &&& Int32.toUInt32 31)).toInt32) &&& (1431655765 : Int32))) &&& (858993459 : Int32)) + ((((p1 - (((p1.toUInt32 >>> ((1 : Int32).toUInt32 &&& Int32.toUInt32 31)).toInt32) &&& (1431655765 : Int32))).toUInt32 >>> ((2 : Int32).toUInt32 &&& Int32.toUInt32 31)).toInt32) &&& (858993459 : Int32))) + (((((p1 - (((p1.toUInt32 >>> ((1 : Int32).toUInt32 &&& Int32.toUInt32 31)).toInt32) &&& (1431655765 : Int32))) &&& (858993459 : Int32)) + ((((p1 - (((p1.toUInt32 >>> ((1 : Int32).toUInt32 &&& Int32.toUInt32 31)).toInt32) &&& (1431655765 : Int32))).toUInt32 >>> ((2 : Int32).toUInt32 &&& Int32.toUInt32 31)).toInt32) &&& (858993459 : Int32))).toUInt32 >>> ((4 : Int32).toUInt32 &&& Int32.toUInt32 31)).toInt32)) &&& (252645135 : Int32)) + (((((((p1 - (((p1.toUInt32 >>> ((1 : Int32).toUInt32 &&& Int32.toUInt32 31)).toInt32) &&& (1431655765 : Int32))) &&& (858993459 : Int32)) + ((((p1 - (((p1.toUInt32 >>> ((1 : Int32).toUInt32 &&& Int32.toUInt32 31)).toInt32) &&& (1431655765 : Int32))).toUInt32 >>> ((2 : Int32).toUInt32 &&& Int32.toUInt32 31)).toInt32) &&& (858993459 : Int32))) + (((((p1 - (((p1.toUInt32 >>> ((1 : Int32).toUInt32 &&& Int32.toUInt32 31)).toInt32) &&& (1431655765 : Int32))) &&& (858993459 : Int32)) + ((((p1 - (((p1.toUInt32 >>> ((1 : Int32).toUInt32 &&& Int32.toUInt32 31)).toInt32) &&& (1431655765 : Int32))).toUInt32 >>> ((2 : Int32).toUInt32 &&& Int32.toUInt32 31)).toInt32) &&& (858993459 : Int32))).toUInt32 >>> ((4 : Int32).toUInt32 &&& Int32.toUInt32 31)).toInt32)) &&& (252645135 : Int32)).toUInt32 >>> ((8 : Int32).toUInt32 &&& Int32.toUInt32 31)).toInt32)) + ((((((((p1 - (((p1.toUInt32 >>> ((1 : Int32).toUInt32 &&& Int32.toUInt32 31)).toInt32) &&& (1431655765 : Int32))) &&& (858993459 : Int32)) + ((((p1 - (((p1.toUInt32 >>> ((1 : Int32).toUInt32 &&& Int32.toUInt32 31)).toInt32) &&& (1431655765 : Int32))).toUInt32 >>> ((2 : Int32).toUInt32 &&& Int32.toUInt32 31)).toInt32) &&& (858993459 : Int32))) + (((((p1 - (((p1.toUInt32 >>> ((1 : Int32).toUInt32 &&& Int32.toUInt32 31)).toInt32) &&& (1431655765 : Int32))) &&& (858993459 : Int32)) + ((((p1 - (((p1.toUInt32 >>> ((1 : Int32).toUInt32 &&& Int32.toUInt32 31)).toInt32) &&& (1431655765 : Int32))).toUInt32 >>> ((2 : Int32).toUInt32 &&& Int32.toUInt32 31)).toInt32) &&& (858993459 : Int32))).toUInt32 >>> ((4 : Int32).toUInt32 &&& Int32.toUInt32 31)).toInt32)) &&& (252645135 : Int32)) + (((((((p1 - (((p1.toUInt32 >>> ((1 : Int32).toUInt32 &&& Int32.toUInt32 31)).toInt32) &&& (1431655765 : Int32))) &&& (858993459 : Int32)) + ((((p1 - (((p1.toUInt32 >>> ((1 : Int32).toUInt32 &&& Int32.toUInt32 31)).toInt32) &&& (1431655765 : Int32))).toUInt32 >>> ((2 : Int32).toUInt32 &&& Int32.toUInt32 31)).toInt32) &&& (858993459 : Int32))) + (((((p1 - (((p1.toUInt32 >>> ((1 : Int32).toUInt32 &&& Int32.toUInt32 31)).toInt32) &&& (1431655765 : Int32))) &&& (858993459 : Int32)) + ((((p1 - (((p1.toUInt32 >>> ((1 : Int32).toUInt32 &&& Int32.toUInt32 31)).toInt32) &&& (1431655765 : Int32))).toUInt32 >>> ((2 : Int32).toUInt32 &&& Int32.toUInt32 31)).toInt32) &&& (858993459 : Int32))).toUInt32 >>> ((4 : Int32).toUInt32 &&& Int32.toUInt32 31)).toInt32)) &&& (252645135 : Int32)).toUInt32 >>> ((8 : Int32).toUInt32 &&& Int32.toUInt32 31)).toInt32)).toUInt32 >>> ((16 : Int32).toUInt32 &&& Int32.toUInt32 31)).toInt32)))]) hx hb dJ6_bitCount_0f7a4_47 rfl hl (by decide) rfl (fun ls hl => ?_)
  refine lv_iload_n hx hb dJ6_bitCount_0f7a4_48 rfl (lv_at hl 0 rfl) ?_
  refine lv_bipush (v := 63) hx hb dJ6_bitCount_0f7a4_49 kbp_63 ?_
  refine lv_iand hx hb dJ6_bitCount_0f7a4_51 ?_
  exact ret () ((((((((p1 - (((p1.toUInt32 >>> ((1 : Int32).toUInt32 &&& Int32.toUInt32 31)).toInt32) &&& (1431655765 : Int32))) &&& (858993459 : Int32)) + ((((p1 - (((p1.toUInt32 >>> ((1 : Int32).toUInt32 &&& Int32.toUInt32 31)).toInt32) &&& (1431655765 : Int32))).toUInt32 >>> ((2 : Int32).toUInt32 &&& Int32.toUInt32 31)).toInt32) &&& (858993459 : Int32))) + (((((p1 - (((p1.toUInt32 >>> ((1 : Int32).toUInt32 &&& Int32.toUInt32 31)).toInt32) &&& (1431655765 : Int32))) &&& (858993459 : Int32)) + ((((p1 - (((p1.toUInt32 >>> ((1 : Int32).toUInt32 &&& Int32.toUInt32 31)).toInt32) &&& (1431655765 : Int32))).toUInt32 >>> ((2 : Int32).toUInt32 &&& Int32.toUInt32 31)).toInt32) &&& (858993459 : Int32))).toUInt32 >>> ((4 : Int32).toUInt32 &&& Int32.toUInt32 31)).toInt32)) &&& (252645135 : Int32)) + (((((((p1 - (((p1.toUInt32 >>> ((1 : Int32).toUInt32 &&& Int32.toUInt32 31)).toInt32) &&& (1431655765 : Int32))) &&& (858993459 : Int32)) + ((((p1 - (((p1.toUInt32 >>> ((1 : Int32).toUInt32 &&& Int32.toUInt32 31)).toInt32) &&& (1431655765 : Int32))).toUInt32 >>> ((2 : Int32).toUInt32 &&& Int32.toUInt32 31)).toInt32) &&& (858993459 : Int32))) + (((((p1 - (((p1.toUInt32 >>> ((1 : Int32).toUInt32 &&& Int32.toUInt32 31)).toInt32) &&& (1431655765 : Int32))) &&& (858993459 : Int32)) + ((((p1 - (((p1.toUInt32 >>> ((1 : Int32).toUInt32 &&& Int32.toUInt32 31)).toInt32) &&& (1431655765 : Int32))).toUInt32 >>> ((2 : Int32).toUInt32 &&& Int32.toUInt32 31)).toInt32) &&& (858993459 : Int32))).toUInt32 >>> ((4 : Int32).toUInt32 &&& Int32.toUInt32 31)).toInt32)) &&& (252645135 : Int32)).toUInt32 >>> ((8 : Int32).toUInt32 &&& Int32.toUInt32 31)).toInt32)) + ((((((((p1 - (((p1.toUInt32 >>> ((1 : Int32).toUInt32 &&& Int32.toUInt32 31)).toInt32) &&& (1431655765 : Int32))) &&& (858993459 : Int32)) + ((((p1 - (((p1.toUInt32 >>> ((1 : Int32).toUInt32 &&& Int32.toUInt32 31)).toInt32) &&& (1431655765 : Int32))).toUInt32 >>> ((2 : Int32).toUInt32 &&& Int32.toUInt32 31)).toInt32) &&& (858993459 : Int32))) + (((((p1 - (((p1.toUInt32 >>> ((1 : Int32).toUInt32 &&& Int32.toUInt32 31)).toInt32) &&& (1431655765 : Int32))) &&& (858993459 : Int32)) + ((((p1 - (((p1.toUInt32 >>> ((1 : Int32).toUInt32 &&& Int32.toUInt32 31)).toInt32) &&& (1431655765 : Int32))).toUInt32 >>> ((2 : Int32).toUInt32 &&& Int32.toUInt32 31)).toInt32) &&& (858993459 : Int32))).toUInt32 >>> ((4 : Int32).toUInt32 &&& Int32.toUInt32 31)).toInt32)) &&& (252645135 : Int32)) + (((((((p1 - (((p1.toUInt32 >>> ((1 : Int32).toUInt32 &&& Int32.toUInt32 31)).toInt32) &&& (1431655765 : Int32))) &&& (858993459 : Int32)) + ((((p1 - (((p1.toUInt32 >>> ((1 : Int32).toUInt32 &&& Int32.toUInt32 31)).toInt32) &&& (1431655765 : Int32))).toUInt32 >>> ((2 : Int32).toUInt32 &&& Int32.toUInt32 31)).toInt32) &&& (858993459 : Int32))) + (((((p1 - (((p1.toUInt32 >>> ((1 : Int32).toUInt32 &&& Int32.toUInt32 31)).toInt32) &&& (1431655765 : Int32))) &&& (858993459 : Int32)) + ((((p1 - (((p1.toUInt32 >>> ((1 : Int32).toUInt32 &&& Int32.toUInt32 31)).toInt32) &&& (1431655765 : Int32))).toUInt32 >>> ((2 : Int32).toUInt32 &&& Int32.toUInt32 31)).toInt32) &&& (858993459 : Int32))).toUInt32 >>> ((4 : Int32).toUInt32 &&& Int32.toUInt32 31)).toInt32)) &&& (252645135 : Int32)).toUInt32 >>> ((8 : Int32).toUInt32 &&& Int32.toUInt32 31)).toInt32)).toUInt32 >>> ((16 : Int32).toUInt32 &&& Int32.toUInt32 31)).toInt32)) &&& (63 : Int32)) H locs ls _ rfl hW hS hv dJ6_bitCount_0f7a4_52
set_option maxHeartbeats 4000000 in
set_option maxRecDepth 100000 in
theorem c_X6_nearIfSigned (l : Launch) (G : Gt) (b : Nat → Nat) (images : Int32) (t_day : Int32) (t_near : Nat → Int32) (g_day : Int32) (g_near : Nat → Int32) (p1 : Int32) (p2 : Int32) (K : Int32 → Prop) (hv : v_X6_nearIfSigned p1 p2 t_near g_near K) : CI l G yX6_nearIfSigned (.code yX6_nearIfSigned cX6_nearIfSigned 3 (some .int) :: wsG) (rmm 0 0) [.ref (b 0), .int p1, .int p2] (wd_X6_16 G b images t_day t_near g_day g_near) (S := Unit) (fun u => wd_X6_16 G b images t_day t_near g_day g_near) (fun r u => K r) := by
  refine ci_intro (by decide) rfl (fun _ => rfl) (Nat.le_of_ble_eq_true rfl) ?_
  intro p e s m args below meth c A H ls Q C hW hS hl ret
  have hx := C.1.1
  have hb := C.1.2.1
  generalize hls : ([] : List Loc) = locs at hS ⊢
  have hl : lv_has ls 3 [(0, .ref (b 0)), (1, .int p1), (2, .int p2)] := hl
  refine lv_iload_n hx hb dX6_nearIfSigned_0 rfl (lv_at hl 2 rfl) ?_
  refine lv_iload_n hx hb dX6_nearIfSigned_1 rfl (lv_at hl 1 rfl) ?_
  refine lv_ishr hx hb dX6_nearIfSigned_2 ?_
  refine lv_iconst (v := 1) hx hb dX6_nearIfSigned_3 kic_1 ?_
  refine lv_iand hx hb dX6_nearIfSigned_4 ?_
  refine lv_if_eq (tgt := 20) hx hb dX6_nearIfSigned_5 (by decide) (fun c_1 => ?_) (fun c_1 => ?_)
  · replace hv := hv.1 c_1
    refine lv_aload_n hx hb dX6_nearIfSigned_20 rfl (lv_at hl 0 rfl) ?_
    refine q_get C kc6 hW 0 rfl 3 (by decide) fl_X6_22 rfl rfl dX6_nearIfSigned_21 ?_
    refine q_getN C kc3 hW 1 rfl 0 (by decide) nf_X6_88 rfl rfl dX6_nearIfSigned_24 ?_
    refine lv_iload_n hx hb dX6_nearIfSigned_27 rfl (lv_at hl 1 rfl) ?_
    obtain ⟨h_2, hv⟩ := hv
    refine q_iald C hW 2 rfl h_2 dX6_nearIfSigned_28 ?_
    exact ret () (t_near p1.toNatClampNeg) H locs ls _ rfl hW hS hv dX6_nearIfSigned_29
  · replace hv := hv.2 c_1
    refine lv_aload_n hx hb dX6_nearIfSigned_8 rfl (lv_at hl 0 rfl) ?_
    refine q_get C kc6 hW 0 rfl 4 (by decide) fl_X6_26 rfl rfl dX6_nearIfSigned_9 ?_
    refine q_getN C kc3 hW 3 rfl 0 (by decide) nf_X6_88 rfl rfl dX6_nearIfSigned_12 ?_
    refine lv_iload_n hx hb dX6_nearIfSigned_15 rfl (lv_at hl 1 rfl) ?_
    obtain ⟨h_3, hv⟩ := hv
    refine q_iald C hW 4 rfl h_3 dX6_nearIfSigned_16 ?_
    refine lv_goto (tgt := 29) hx hb dX6_nearIfSigned_17 (by decide) ?_
    exact ret () (g_near p1.toNatClampNeg) H locs ls _ rfl hW hS hv dX6_nearIfSigned_29
set_option maxHeartbeats 4000000 in
set_option maxRecDepth 100000 in
theorem c_X6_nearestIfSigned (l : Launch) (G : Gt) (b : Nat → Nat) (images : Int32) (n_people : Int32) (n_taped : Int32) (n_waiting : Int32) (n_z : Int32) (t_day : Int32) (t_near : Nat → Int32) (g_day : Int32) (g_near : Nat → Int32) (p1 : Int32) (K : Int32 → Prop) (hv : v_X6_nearestIfSigned p1 n_people t_near g_near K) : CI l G yX6_nearestIfSigned (.code yX6_nearestIfSigned cX6_nearestIfSigned 4 (some .int) :: wsG) (rmm 1 22) [.ref (b 0), .int p1] (wd_X6_17 G b images n_people n_taped n_waiting n_z t_day t_near g_day g_near) (S := Unit) (fun u => wd_X6_17 G b images n_people n_taped n_waiting n_z t_day t_near g_day g_near) (fun r u => K r) := by
  refine ci_intro (by decide) rfl (fun _ => rfl) (Nat.le_of_ble_eq_true rfl) ?_
  intro p e s m args below meth c A H ls Q C hW hS hl ret
  have hx := C.1.1
  have hb := C.1.2.1
  generalize hls : ([] : List Loc) = locs at hS ⊢
  have hl : lv_has ls 4 [(0, .ref (b 0)), (1, .int p1)] := hl
  have h_j_X6_nearestIfSigned_36 : ∀ (B4 : Int32 → Int32 → Prop) (hB4 : ∀ (x2 : Int32) (x3 : Int32) (H : Heap) (locs : List Loc) (ls : Array Slot), wo G A (wd_X6_17 G b images n_people n_taped n_waiting n_z t_day t_near g_day g_near) H → va_S A s.heap H locs → lv_has ls 4 [(0, .ref (b 0)), (1, .int p1), (2, .int x2), (3, .int x3)] → B4 x2 x3 → W p l e (rmm 1 22) s m args below meth c H locs 0 0 Q (F0 m 4 ls [])), ∀ (x2 : Int32) (x3 : Int32) (H : Heap) (locs : List Loc) (ls : Array Slot), wo G A (wd_X6_17 G b images n_people n_taped n_waiting n_z t_day t_near g_day g_near) H → va_S A s.heap H locs → lv_has ls 4 [(0, .ref (b 0)), (1, .int p1), (2, .int x2), (3, .int x3)] → j_X6_nearestIfSigned_36 p1 n_people t_near g_near B4 K x2 x3 → W p l e (rmm 1 22) s m args below meth c H locs 0 0 Q (F0 m 36 ls []) := by
    intro B4 hB4 x2 x3 H locs ls hW hS hl hv
    refine lv_iinc (v := (x3 + 1)) (lv' := [(3, .int (x3 + 1)), (0, .ref (b 0)), (1, .int p1), (2, .int x2)]) hx hb dX6_nearestIfSigned_36 hl (k := 3) rfl rfl (by decide) rfl (fun ls hl => ?_)
    refine lv_goto (tgt := 4) hx hb dX6_nearestIfSigned_39 (by decide) ?_
    exact hB4 x2 (x3 + 1) H locs ls hW hS (lv_sub hl [1, 2, 3, 0] rfl) hv
  have h_j_X6_nearestIfSigned_34 : ∀ (B4 : Int32 → Int32 → Prop) (hB4 : ∀ (x2 : Int32) (x3 : Int32) (H : Heap) (locs : List Loc) (ls : Array Slot), wo G A (wd_X6_17 G b images n_people n_taped n_waiting n_z t_day t_near g_day g_near) H → va_S A s.heap H locs → lv_has ls 4 [(0, .ref (b 0)), (1, .int p1), (2, .int x2), (3, .int x3)] → B4 x2 x3 → W p l e (rmm 1 22) s m args below meth c H locs 0 0 Q (F0 m 4 ls [])), ∀ (x3 : Int32) (H : Heap) (locs : List Loc) (ls : Array Slot), wo G A (wd_X6_17 G b images n_people n_taped n_waiting n_z t_day t_near g_day g_near) H → va_S A s.heap H locs → lv_has ls 4 [(0, .ref (b 0)), (1, .int p1), (3, .int x3)] → j_X6_nearestIfSigned_34 p1 n_people t_near g_near B4 K x3 → W p l e (rmm 1 22) s m args below meth c H locs 0 0 Q (F0 m 34 ls []) := by
    intro B4 hB4 x3 H locs ls hW hS hl hv
    refine lv_iload_n hx hb dX6_nearestIfSigned_34 rfl (lv_at hl 2 rfl) ?_
    refine lv_istore_n (lv' := [(2, .int x3), (0, .ref (b 0)), (1, .int p1), (3, .int x3)]) hx hb dX6_nearestIfSigned_35 rfl hl (by decide) rfl (fun ls hl => ?_)
    exact h_j_X6_nearestIfSigned_36 B4 hB4 x3 x3 H locs ls hW hS (lv_sub hl [1, 2, 0, 3] rfl) hv
  have h_l_X6_nearestIfSigned_4 : ∀ (n : Nat), ∀ (x2 : Int32) (x3 : Int32) (H : Heap) (locs : List Loc) (ls : Array Slot), wo G A (wd_X6_17 G b images n_people n_taped n_waiting n_z t_day t_near g_day g_near) H → va_S A s.heap H locs → lv_has ls 4 [(0, .ref (b 0)), (1, .int p1), (2, .int x2), (3, .int x3)] → l_X6_nearestIfSigned_4 p1 n_people t_near g_near K n x2 x3 → W p l e (rmm 1 22) s m args below meth c H locs 0 0 Q (F0 m 4 ls []) := by
    intro n
    induction n with
    | zero =>
      intro x2 x3 H locs ls hW hS hl hv
      exact False.elim hv
    | succ n ih =>
      intro x2 x3 H locs ls hW hS hl hv
      refine lv_iload_n hx hb dX6_nearestIfSigned_4 rfl (lv_at hl 3 rfl) ?_
      refine lv_aload_n hx hb dX6_nearestIfSigned_5 rfl (lv_at hl 0 rfl) ?_
      refine q_get C kc6 hW 0 rfl 0 (by decide) fl_X6_10 rfl rfl dX6_nearestIfSigned_6 ?_
      refine q_getN C kc4 hW 1 rfl 0 (by decide) nf_X6_68 rfl rfl dX6_nearestIfSigned_9 ?_
      refine lv_icmp_ge (tgt := 42) hx hb dX6_nearestIfSigned_12 (by decide) (fun c_1 => ?_) (fun c_1 => ?_)
      · replace hv := hv.1 c_1
        refine lv_iload_n hx hb dX6_nearestIfSigned_42 rfl (lv_at hl 2 rfl) ?_
        exact ret () x2 H locs ls _ rfl hW hS hv dX6_nearestIfSigned_43
      · replace hv := hv.2 c_1
        refine lv_iload_n hx hb dX6_nearestIfSigned_15 rfl (lv_at hl 2 rfl) ?_
        refine lv_if_lt (tgt := 34) hx hb dX6_nearestIfSigned_16 (by decide) (fun c_2 => ?_) (fun c_2 => ?_)
        · replace hv := hv.1 c_2
          exact h_j_X6_nearestIfSigned_34 (fun x2' x3' => l_X6_nearestIfSigned_4 p1 n_people t_near g_near K n x2' x3') ih x3 H locs ls hW hS (lv_sub hl [0, 1, 3] rfl) hv
        · replace hv := hv.2 c_2
          refine lv_aload_n hx hb dX6_nearestIfSigned_19 rfl (lv_at hl 0 rfl) ?_
          refine lv_iload_n hx hb dX6_nearestIfSigned_20 rfl (lv_at hl 3 rfl) ?_
          refine lv_iload_n hx hb dX6_nearestIfSigned_21 rfl (lv_at hl 1 rfl) ?_
          refine q_callV (rest := []) (n := 2) C (c_X6_nearIfSigned l G b images t_day t_near g_day g_near x3 p1 _ hv) ml_X6_263 kb_X6_nearIfSigned rfl ⟨⟨rfl, rfl⟩, (Nat.le_of_ble_eq_true rfl), (Nat.le_of_ble_eq_true rfl)⟩ hW hS [0, 2, 3, 4, 5] rfl rfl kc6 (q0 := 0) rfl hl.1 rfl (Nat.le_of_ble_eq_true rfl) dX6_nearestIfSigned_22 ⟨Nat.zero_le _, Nat.zero_le _⟩ (fun r_3 u_4 H locs hv hW hS => ?_)
          try dsimp only at hv
          refine lv_aload_n hx hb dX6_nearestIfSigned_25 rfl (lv_at hl 0 rfl) ?_
          refine lv_iload_n hx hb dX6_nearestIfSigned_26 rfl (lv_at hl 2 rfl) ?_
          refine lv_iload_n hx hb dX6_nearestIfSigned_27 rfl (lv_at hl 1 rfl) ?_
          refine q_callV (rest := [.int r_3]) (n := 2) C (c_X6_nearIfSigned l G b images t_day t_near g_day g_near x2 p1 _ hv) ml_X6_263 kb_X6_nearIfSigned rfl ⟨⟨rfl, rfl⟩, (Nat.le_of_ble_eq_true rfl), (Nat.le_of_ble_eq_true rfl)⟩ hW hS [0, 2, 3, 4, 5] rfl rfl kc6 (q0 := 0) rfl hl.1 rfl (Nat.le_of_ble_eq_true rfl) dX6_nearestIfSigned_28 ⟨Nat.zero_le _, Nat.zero_le _⟩ (fun r_5 u_6 H locs hv hW hS => ?_)
          try dsimp only at hv
          refine lv_icmp_le (tgt := 36) hx hb dX6_nearestIfSigned_31 (by decide) (fun c_7 => ?_) (fun c_7 => ?_)
          · replace hv := hv.1 c_7
            exact h_j_X6_nearestIfSigned_36 (fun x2' x3' => l_X6_nearestIfSigned_4 p1 n_people t_near g_near K n x2' x3') ih x2 x3 H locs ls hW hS (lv_sub hl [0, 1, 2, 3] rfl) hv
          · replace hv := hv.2 c_7
            exact h_j_X6_nearestIfSigned_34 (fun x2' x3' => l_X6_nearestIfSigned_4 p1 n_people t_near g_near K n x2' x3') ih x3 H locs ls hW hS (lv_sub hl [0, 1, 3] rfl) hv
  refine lv_iconst (v := (-1)) hx hb dX6_nearestIfSigned_0 kic_m1 ?_
  refine lv_istore_n (lv' := [(2, .int (-1 : Int32)), (0, .ref (b 0)), (1, .int p1)]) hx hb dX6_nearestIfSigned_1 rfl hl (by decide) rfl (fun ls hl => ?_)
  refine lv_iconst (v := 0) hx hb dX6_nearestIfSigned_2 kic_0 ?_
  refine lv_istore_n (lv' := [(3, .int (0 : Int32)), (2, .int (-1 : Int32)), (0, .ref (b 0)), (1, .int p1)]) hx hb dX6_nearestIfSigned_3 rfl hl (by decide) rfl (fun ls hl => ?_)
  obtain ⟨n_8, hv⟩ := hv
  exact h_l_X6_nearestIfSigned_4 n_8 (-1 : Int32) (0 : Int32) H locs ls hW hS (lv_sub hl [2, 3, 1, 0] rfl) hv
set_option maxHeartbeats 4000000 in
set_option maxRecDepth 100000 in
theorem c_X6_fewestFor (l : Launch) (G : Gt) (b : Nat → Nat) (images : Int32) (n_people : Int32) (n_taped : Int32) (n_waiting : Int32) (n_z : Int32) (t_day : Int32) (t_near : Nat → Int32) (g_day : Int32) (g_near : Nat → Int32) (p1 : Int32) (K : Int32 → Prop) (hv : v_X6_fewestFor p1 n_people t_near g_near K) : CI l G yX6_fewestFor (.code yX6_fewestFor cX6_fewestFor 5 (some .int) :: wsG) (rmm 2 45) [.ref (b 0), .int p1] (wd_X6_17 G b images n_people n_taped n_waiting n_z t_day t_near g_day g_near) (S := Unit) (fun u => wd_X6_17 G b images n_people n_taped n_waiting n_z t_day t_near g_day g_near) (fun r u => K r) := by
  refine ci_intro (by decide) rfl (fun _ => rfl) (Nat.le_of_ble_eq_true rfl) ?_
  intro p e s m args below meth c A H ls Q C hW hS hl ret
  have hx := C.1.1
  have hb := C.1.2.1
  generalize hls : ([] : List Loc) = locs at hS ⊢
  have hl : lv_has ls 5 [(0, .ref (b 0)), (1, .int p1)] := hl
  have h_j_X6_fewestFor_55 : ∀ (B4 : Int32 → Int32 → Prop) (hB4 : ∀ (x2 : Int32) (x3 : Int32) (H : Heap) (locs : List Loc) (ls : Array Slot), wo G A (wd_X6_17 G b images n_people n_taped n_waiting n_z t_day t_near g_day g_near) H → va_S A s.heap H locs → lv_has ls 5 [(0, .ref (b 0)), (1, .int p1), (2, .int x2), (3, .int x3)] → B4 x2 x3 → W p l e (rmm 2 45) s m args below meth c H locs 0 0 Q (F0 m 4 ls [])), ∀ (x2 : Int32) (x3 : Int32) (H : Heap) (locs : List Loc) (ls : Array Slot), wo G A (wd_X6_17 G b images n_people n_taped n_waiting n_z t_day t_near g_day g_near) H → va_S A s.heap H locs → lv_has ls 5 [(0, .ref (b 0)), (1, .int p1), (2, .int x2), (3, .int x3)] → j_X6_fewestFor_55 p1 n_people t_near g_near B4 K x2 x3 → W p l e (rmm 2 45) s m args below meth c H locs 0 0 Q (F0 m 55 ls []) := by
    intro B4 hB4 x2 x3 H locs ls hW hS hl hv
    refine lv_iinc (v := (x3 + 1)) (lv' := [(3, .int (x3 + 1)), (0, .ref (b 0)), (1, .int p1), (2, .int x2)]) hx hb dX6_fewestFor_55 hl (k := 3) rfl rfl (by decide) rfl (fun ls hl => ?_)
    refine lv_goto (tgt := 4) hx hb dX6_fewestFor_58 (by decide) ?_
    exact hB4 x2 (x3 + 1) H locs ls hW hS (lv_sub hl [1, 2, 3, 0] rfl) hv
  have h_j_X6_fewestFor_37 : ∀ (B4 : Int32 → Int32 → Prop) (hB4 : ∀ (x2 : Int32) (x3 : Int32) (H : Heap) (locs : List Loc) (ls : Array Slot), wo G A (wd_X6_17 G b images n_people n_taped n_waiting n_z t_day t_near g_day g_near) H → va_S A s.heap H locs → lv_has ls 5 [(0, .ref (b 0)), (1, .int p1), (2, .int x2), (3, .int x3)] → B4 x2 x3 → W p l e (rmm 2 45) s m args below meth c H locs 0 0 Q (F0 m 4 ls [])), ∀ (x2 : Int32) (x3 : Int32) (t0 : Int32) (H : Heap) (locs : List Loc) (ls : Array Slot), t0 = 0 ∨ t0 = 1 → wo G A (wd_X6_17 G b images n_people n_taped n_waiting n_z t_day t_near g_day g_near) H → va_S A s.heap H locs → lv_has ls 5 [(0, .ref (b 0)), (1, .int p1), (2, .int x2), (3, .int x3)] → j_X6_fewestFor_37 p1 n_people t_near g_near B4 K x2 x3 t0 → W p l e (rmm 2 45) s m args below meth c H locs 0 0 Q (F0 m 37 ls [.int t0]) := by
    intro B4 hB4 x2 x3 t0 H locs ls hz_t0 hW hS hl hv
    refine lv_istore (lv' := [(4, .int t0), (0, .ref (b 0)), (1, .int p1), (2, .int x2), (3, .int x3)]) hx hb dX6_fewestFor_37 hl (by decide) rfl (fun ls hl => ?_)
    refine lv_iload hx hb dX6_fewestFor_39 (lv_at hl 0 rfl) ?_
    refine lv_if_eq (tgt := 55) hx hb dX6_fewestFor_41 (by decide) (fun c_3 => ?_) (fun c_3 => ?_)
    · replace hv := hv.1 c_3
      exact h_j_X6_fewestFor_55 B4 hB4 x2 x3 H locs ls hW hS (lv_sub hl [1, 2, 3, 4] rfl) hv
    · replace hv := hv.2 c_3
      refine lv_aload_n hx hb dX6_fewestFor_44 rfl (lv_at hl 1 rfl) ?_
      refine lv_iload_n hx hb dX6_fewestFor_45 rfl (lv_at hl 4 rfl) ?_
      refine q_callV (rest := []) (n := 1) C (c_X6_nearestIfSigned l G b images n_people n_taped n_waiting n_z t_day t_near g_day g_near x3 _ hv) ml_X6_266 kb_X6_nearestIfSigned rfl ⟨⟨rfl, rfl⟩, (Nat.le_of_ble_eq_true rfl), (Nat.le_of_ble_eq_true rfl)⟩ hW hS [0, 1, 2, 3, 4, 5] rfl rfl kc6 (q0 := 0) rfl hl.1 rfl (Nat.le_of_ble_eq_true rfl) dX6_fewestFor_46 ⟨Nat.zero_le _, Nat.zero_le _⟩ (fun r_4 u_5 H locs hv hW hS => ?_)
      try dsimp only at hv
      refine lv_iload_n hx hb dX6_fewestFor_49 rfl (lv_at hl 2 rfl) ?_
      refine lv_icmp_ne (tgt := 55) hx hb dX6_fewestFor_50 (by decide) (fun c_6 => ?_) (fun c_6 => ?_)
      · replace hv := hv.1 c_6
        exact h_j_X6_fewestFor_55 B4 hB4 x2 x3 H locs ls hW hS (lv_sub hl [1, 2, 3, 4] rfl) hv
      · replace hv := hv.2 c_6
        refine lv_iload_n hx hb dX6_fewestFor_53 rfl (lv_at hl 4 rfl) ?_
        refine lv_istore_n (lv' := [(2, .int x3), (4, .int t0), (0, .ref (b 0)), (1, .int p1), (3, .int x3)]) hx hb dX6_fewestFor_54 rfl hl (by decide) rfl (fun ls hl => ?_)
        exact h_j_X6_fewestFor_55 B4 hB4 x3 x3 H locs ls hW hS (lv_sub hl [2, 3, 0, 4] rfl) hv
  have h_j_X6_fewestFor_32 : ∀ (B4 : Int32 → Int32 → Prop) (hB4 : ∀ (x2 : Int32) (x3 : Int32) (H : Heap) (locs : List Loc) (ls : Array Slot), wo G A (wd_X6_17 G b images n_people n_taped n_waiting n_z t_day t_near g_day g_near) H → va_S A s.heap H locs → lv_has ls 5 [(0, .ref (b 0)), (1, .int p1), (2, .int x2), (3, .int x3)] → B4 x2 x3 → W p l e (rmm 2 45) s m args below meth c H locs 0 0 Q (F0 m 4 ls [])), ∀ (x2 : Int32) (x3 : Int32) (H : Heap) (locs : List Loc) (ls : Array Slot), wo G A (wd_X6_17 G b images n_people n_taped n_waiting n_z t_day t_near g_day g_near) H → va_S A s.heap H locs → lv_has ls 5 [(0, .ref (b 0)), (1, .int p1), (2, .int x2), (3, .int x3)] → j_X6_fewestFor_32 p1 n_people t_near g_near B4 K x2 x3 → W p l e (rmm 2 45) s m args below meth c H locs 0 0 Q (F0 m 32 ls []) := by
    intro B4 hB4 x2 x3 H locs ls hW hS hl hv
    refine lv_iconst (v := 1) hx hb dX6_fewestFor_32 kic_1 ?_
    refine lv_goto (tgt := 37) hx hb dX6_fewestFor_33 (by decide) ?_
    exact h_j_X6_fewestFor_37 B4 hB4 x2 x3 (1 : Int32) H locs ls (Or.inr rfl) hW hS (lv_sub hl [0, 1, 2, 3] rfl) hv
  have h_l_X6_fewestFor_4 : ∀ (n : Nat), ∀ (x2 : Int32) (x3 : Int32) (H : Heap) (locs : List Loc) (ls : Array Slot), wo G A (wd_X6_17 G b images n_people n_taped n_waiting n_z t_day t_near g_day g_near) H → va_S A s.heap H locs → lv_has ls 5 [(0, .ref (b 0)), (1, .int p1), (2, .int x2), (3, .int x3)] → l_X6_fewestFor_4 p1 n_people t_near g_near K n x2 x3 → W p l e (rmm 2 45) s m args below meth c H locs 0 0 Q (F0 m 4 ls []) := by
    intro n
    induction n with
    | zero =>
      intro x2 x3 H locs ls hW hS hl hv
      exact False.elim hv
    | succ n ih =>
      intro x2 x3 H locs ls hW hS hl hv
      refine lv_iload_n hx hb dX6_fewestFor_4 rfl (lv_at hl 3 rfl) ?_
      refine lv_iconst (v := 1) hx hb dX6_fewestFor_5 kic_1 ?_
      refine lv_aload_n hx hb dX6_fewestFor_6 rfl (lv_at hl 0 rfl) ?_
      refine q_get C kc6 hW 0 rfl 0 (by decide) fl_X6_10 rfl rfl dX6_fewestFor_7 ?_
      refine q_getN C kc4 hW 1 rfl 0 (by decide) nf_X6_68 rfl rfl dX6_fewestFor_10 ?_
      refine lv_ishl hx hb dX6_fewestFor_13 ?_
      refine lv_icmp_ge (tgt := 61) hx hb dX6_fewestFor_14 (by decide) (fun c_1 => ?_) (fun c_1 => ?_)
      · replace hv := hv.1 c_1
        refine lv_iload_n hx hb dX6_fewestFor_61 rfl (lv_at hl 2 rfl) ?_
        exact ret () x2 H locs ls _ rfl hW hS hv dX6_fewestFor_62
      · replace hv := hv.2 c_1
        refine lv_iload_n hx hb dX6_fewestFor_17 rfl (lv_at hl 2 rfl) ?_
        refine lv_if_lt (tgt := 32) hx hb dX6_fewestFor_18 (by decide) (fun c_2 => ?_) (fun c_2 => ?_)
        · replace hv := hv.1 c_2
          exact h_j_X6_fewestFor_32 (fun x2' x3' => l_X6_fewestFor_4 p1 n_people t_near g_near K n x2' x3') ih x2 x3 H locs ls hW hS (lv_sub hl [0, 1, 2, 3] rfl) hv
        · replace hv := hv.2 c_2
          refine lv_iload_n hx hb dX6_fewestFor_21 rfl (lv_at hl 3 rfl) ?_
          refine q_callS (rest := []) (n := 1) C (c_J6_bitCount_0f7a4 l G x3 _ hv) ml_X6_173 kb_J6_bitCount_0f7a4 rfl ⟨⟨rfl, rfl⟩, (Nat.le_of_ble_eq_true rfl), (Nat.le_of_ble_eq_true rfl)⟩ hW hS hl.1 rfl (Nat.le_of_ble_eq_true rfl) dX6_fewestFor_22 ⟨Nat.zero_le _, Nat.zero_le _⟩ (fun r_7 u_8 H locs hv hW hS => ?_)
          try dsimp only at hv
          refine lv_iload_n hx hb dX6_fewestFor_25 rfl (lv_at hl 2 rfl) ?_
          refine q_callS (rest := [.int r_7]) (n := 1) C (c_J6_bitCount_0f7a4 l G x2 _ hv) ml_X6_173 kb_J6_bitCount_0f7a4 rfl ⟨⟨rfl, rfl⟩, (Nat.le_of_ble_eq_true rfl), (Nat.le_of_ble_eq_true rfl)⟩ hW hS hl.1 rfl (Nat.le_of_ble_eq_true rfl) dX6_fewestFor_26 ⟨Nat.zero_le _, Nat.zero_le _⟩ (fun r_9 u_10 H locs hv hW hS => ?_)
          try dsimp only at hv
          refine lv_icmp_ge (tgt := 36) hx hb dX6_fewestFor_29 (by decide) (fun c_11 => ?_) (fun c_11 => ?_)
          · replace hv := hv.1 c_11
            refine lv_iconst (v := 0) hx hb dX6_fewestFor_36 kic_0 ?_
            exact h_j_X6_fewestFor_37 (fun x2' x3' => l_X6_fewestFor_4 p1 n_people t_near g_near K n x2' x3') ih x2 x3 (0 : Int32) H locs ls (Or.inl rfl) hW hS (lv_sub hl [0, 1, 2, 3] rfl) hv
          · replace hv := hv.2 c_11
            exact h_j_X6_fewestFor_32 (fun x2' x3' => l_X6_fewestFor_4 p1 n_people t_near g_near K n x2' x3') ih x2 x3 H locs ls hW hS (lv_sub hl [0, 1, 2, 3] rfl) hv
  refine lv_iconst (v := (-1)) hx hb dX6_fewestFor_0 kic_m1 ?_
  refine lv_istore_n (lv' := [(2, .int (-1 : Int32)), (0, .ref (b 0)), (1, .int p1)]) hx hb dX6_fewestFor_1 rfl hl (by decide) rfl (fun ls hl => ?_)
  refine lv_iconst (v := 0) hx hb dX6_fewestFor_2 kic_0 ?_
  refine lv_istore_n (lv' := [(3, .int (0 : Int32)), (2, .int (-1 : Int32)), (0, .ref (b 0)), (1, .int p1)]) hx hb dX6_fewestFor_3 rfl hl (by decide) rfl (fun ls hl => ?_)
  obtain ⟨n_12, hv⟩ := hv
  exact h_l_X6_fewestFor_4 n_12 (-1 : Int32) (0 : Int32) H locs ls hW hS (lv_sub hl [2, 3, 1, 0] rfl) hv
set_option maxHeartbeats 4000000 in
set_option maxRecDepth 100000 in
theorem c_X6_signs (l : Launch) (G : Gt) (b : Nat → Nat) (images : Int32) (n_people : Int32) (n_taped : Int32) (n_waiting : Int32) (n_z : Int32) (n_kind : Nat → Int32) (n_em : Nat → Int32) (n_day : Int32) (n_near : Nat → Int32) (n_shows : Nat → Int32) (n_tmost : Int32) (n_tsize : Int32) (n_tsteps : Nat → Int32) (n_tstack : Nat → Int32) (n_gmost : Int32) (n_gsize : Int32) (n_gsteps : Nat → Int32) (n_gstack : Nat → Int32) (t_day : Int32) (t_near : Nat → Int32) (t_shows : Nat → Int32) (g_day : Int32) (g_near : Nat → Int32) (g_shows : Nat → Int32) (errs : Nat → Int32) (p1 : Int32) (p2 : Int32) (p3 : Int32) (p4 : Int32) (K : Int32 → (Nat → Int32) → (Nat → Int32) → Int32 → (Nat → Int32) → (Nat → Int32) → Int32 → (Nat → Int32) → (Nat → Int32) → (Nat → Int32) → Prop) (hv : v_X6_signs p1 p2 p3 p4 n_people n_kind n_em n_day n_near n_shows n_tmost n_tsize n_tsteps n_tstack n_gmost n_gsize n_gsteps n_gstack t_day t_near t_shows g_day g_near g_shows errs K) : CI l G yX6_signs (.code yX6_signs cX6_signs 6 (some .int) :: wsG) (rmm 6 145) [.ref (b 0), .int p1, .int p2, .int p3, .int p4] (wd_X6_18 G b images n_people n_taped n_waiting n_z n_kind n_em n_day n_near n_shows n_tmost n_tsize n_tsteps n_tstack n_gmost n_gsize n_gsteps n_gstack t_day t_near t_shows g_day g_near g_shows errs) (S := (Nat → Int32) × (Nat → Int32) × Int32 × (Nat → Int32) × (Nat → Int32) × Int32 × (Nat → Int32) × (Nat → Int32) × (Nat → Int32)) (fun u => wd_X6_18 G b images n_people n_taped n_waiting n_z n_kind n_em n_day n_near n_shows n_tmost n_tsize n_tsteps u.1 n_gmost n_gsize n_gsteps u.2.1 u.2.2.1 u.2.2.2.1 u.2.2.2.2.1 u.2.2.2.2.2.1 u.2.2.2.2.2.2.1 u.2.2.2.2.2.2.2.1 u.2.2.2.2.2.2.2.2) (fun r u => K r u.1 u.2.1 u.2.2.1 u.2.2.2.1 u.2.2.2.2.1 u.2.2.2.2.2.1 u.2.2.2.2.2.2.1 u.2.2.2.2.2.2.2.1 u.2.2.2.2.2.2.2.2) := by
  refine ci_intro (by decide) rfl (fun _ => rfl) (Nat.le_of_ble_eq_true rfl) ?_
  intro p e s m args below meth c A H ls Q C hW hS hl ret
  have hx := C.1.1
  have hb := C.1.2.1
  generalize hls : ([] : List Loc) = locs at hS ⊢
  have hl : lv_has ls 6 [(0, .ref (b 0)), (1, .int p1), (2, .int p2), (3, .int p3), (4, .int p4)] := hl
  have h_j_X6_signs_37 : ∀ (n_tstack : Nat → Int32) (n_gstack : Nat → Int32) (t_day : Int32) (t_near : Nat → Int32) (t_shows : Nat → Int32) (g_day : Int32) (g_near : Nat → Int32) (g_shows : Nat → Int32) (errs : Nat → Int32) (H : Heap) (locs : List Loc) (ls : Array Slot), wo G A (wd_X6_18 G b images n_people n_taped n_waiting n_z n_kind n_em n_day n_near n_shows n_tmost n_tsize n_tsteps n_tstack n_gmost n_gsize n_gsteps n_gstack t_day t_near t_shows g_day g_near g_shows errs) H → va_S A s.heap H locs → lv_has ls 6 [(0, .ref (b 0))] → j_X6_signs_37 p1 p2 p3 p4 n_people n_kind n_em n_day n_near n_shows n_tmost n_tsize n_tsteps n_gmost n_gsize n_gsteps K n_tstack n_gstack t_day t_near t_shows g_day g_near g_shows errs → W p l e (rmm 6 145) s m args below meth c H locs 0 0 Q (F0 m 37 ls []) := by
    intro n_tstack n_gstack t_day t_near t_shows g_day g_near g_shows errs H locs ls hW hS hl hv
    refine lv_aload_n hx hb dX6_signs_37 rfl (lv_at hl 0 rfl) ?_
    refine lv_iconst (v := 1) hx hb dX6_signs_38 kic_1 ?_
    refine q_callV (rest := []) (n := 1) C (c_X6_error l G b images errs (1 : Int32) _ hv) ml_X6_64 kb_X6_error rfl ⟨⟨rfl, rfl⟩, (Nat.le_of_ble_eq_true rfl), (Nat.le_of_ble_eq_true rfl)⟩ hW hS [0, 19] rfl rfl kc6 (q0 := 0) rfl hl.1 rfl (Nat.le_of_ble_eq_true rfl) dX6_signs_39 ⟨Nat.zero_le _, Nat.zero_le _⟩ (fun r_4 u_5 H locs hv hW hS => ?_)
    obtain ⟨errs_4, rfl⟩ : ∃ z, z = u_5 := ⟨_, rfl⟩
    try dsimp only at hv
    have hW : wo G A (wd_X6_18 G b images n_people n_taped n_waiting n_z n_kind n_em n_day n_near n_shows n_tmost n_tsize n_tsteps n_tstack n_gmost n_gsize n_gsteps n_gstack t_day t_near t_shows g_day g_near g_shows errs_4) H := hW
    exact ret (n_tstack, n_gstack, t_day, t_near, t_shows, g_day, g_near, g_shows, errs_4) r_4 H locs ls _ rfl hW hS hv dX6_signs_42
  refine lv_aload_n hx hb dX6_signs_0 rfl (lv_at hl 0 rfl) ?_
  refine q_get C kc6 hW 0 rfl 0 (by decide) fl_X6_10 rfl rfl dX6_signs_1 ?_
  refine lv_iload_n hx hb dX6_signs_4 rfl (lv_at hl 1 rfl) ?_
  refine q_callN (rest := []) (n := 1) C (c_X4_has l G (fun k => b (k + 1)) n_people n_taped n_waiting n_z p1 _ hv) nm_X6_76 kb_X4_has rfl ⟨⟨rfl, rfl⟩, (Nat.le_of_ble_eq_true rfl), (Nat.le_of_ble_eq_true rfl)⟩ hW hS [1] rfl rfl kc4 (q0 := 1) rfl hl.1 rfl (Nat.le_of_ble_eq_true rfl) dX6_signs_5 ⟨Nat.zero_le _, Nat.zero_le _⟩ (fun r_1 u_2 H locs hv hW hS => ?_)
  obtain ⟨hv_b_1, hv⟩ := hv
  try dsimp only at hv
  refine lv_if_eq (tgt := 37) hx hb dX6_signs_8 (by decide) (fun c_3 => ?_) (fun c_3 => ?_)
  · replace hv := hv.1 c_3
    exact h_j_X6_signs_37 n_tstack n_gstack t_day t_near t_shows g_day g_near g_shows errs H locs ls hW hS (lv_sub hl [0] rfl) hv
  · replace hv := hv.2 c_3
    refine lv_iload_n hx hb dX6_signs_11 rfl (lv_at hl 2 rfl) ?_
    refine q_callS (rest := []) (n := 1) C (c_X6_isSign l G p2 _ hv) ml_X6_61 kb_X6_isSign rfl ⟨⟨rfl, rfl⟩, (Nat.le_of_ble_eq_true rfl), (Nat.le_of_ble_eq_true rfl)⟩ hW hS hl.1 rfl (Nat.le_of_ble_eq_true rfl) dX6_signs_12 ⟨Nat.zero_le _, Nat.zero_le _⟩ (fun r_6 u_7 H locs hv hW hS => ?_)
    obtain ⟨hv_b_6, hv⟩ := hv
    try dsimp only at hv
    refine lv_if_eq (tgt := 37) hx hb dX6_signs_15 (by decide) (fun c_8 => ?_) (fun c_8 => ?_)
    · replace hv := hv.1 c_8
      exact h_j_X6_signs_37 n_tstack n_gstack t_day t_near t_shows g_day g_near g_shows errs H locs ls hW hS (lv_sub hl [0] rfl) hv
    · replace hv := hv.2 c_8
      refine lv_iload_n hx hb dX6_signs_18 rfl (lv_at hl 3 rfl) ?_
      refine lv_iconst (v := 1) hx hb dX6_signs_19 kic_1 ?_
      refine lv_icmp_lt (tgt := 37) hx hb dX6_signs_20 (by decide) (fun c_9 => ?_) (fun c_9 => ?_)
      · replace hv := hv.1 c_9
        exact h_j_X6_signs_37 n_tstack n_gstack t_day t_near t_shows g_day g_near g_shows errs H locs ls hW hS (lv_sub hl [0] rfl) hv
      · replace hv := hv.2 c_9
        refine lv_iload_n hx hb dX6_signs_23 rfl (lv_at hl 3 rfl) ?_
        refine lv_iconst (v := 4) hx hb dX6_signs_24 kic_4 ?_
        refine lv_icmp_gt (tgt := 37) hx hb dX6_signs_25 (by decide) (fun c_10 => ?_) (fun c_10 => ?_)
        · replace hv := hv.1 c_10
          exact h_j_X6_signs_37 n_tstack n_gstack t_day t_near t_shows g_day g_near g_shows errs H locs ls hW hS (lv_sub hl [0] rfl) hv
        · replace hv := hv.2 c_10
          refine lv_iload hx hb dX6_signs_28 (lv_at hl 4 rfl) ?_
          refine lv_iconst (v := 1) hx hb dX6_signs_30 kic_1 ?_
          refine q_callS (rest := []) (n := 2) C (c_X6_isWithin l G p4 (1 : Int32) _ hv) ml_X6_97 kb_X6_isWithin rfl ⟨⟨rfl, rfl⟩, (Nat.le_of_ble_eq_true rfl), (Nat.le_of_ble_eq_true rfl)⟩ hW hS hl.1 rfl (Nat.le_of_ble_eq_true rfl) dX6_signs_31 ⟨Nat.zero_le _, Nat.zero_le _⟩ (fun r_11 u_12 H locs hv hW hS => ?_)
          obtain ⟨hv_b_11, hv⟩ := hv
          try dsimp only at hv
          refine lv_if_ne (tgt := 43) hx hb dX6_signs_34 (by decide) (fun c_13 => ?_) (fun c_13 => ?_)
          · replace hv := hv.1 c_13
            refine lv_aload_n hx hb dX6_signs_43 rfl (lv_at hl 0 rfl) ?_
            refine lv_iload_n hx hb dX6_signs_44 rfl (lv_at hl 3 rfl) ?_
            refine q_callVv (rest := []) (n := 1) C (c_X6_think l G b images n_people n_taped n_waiting n_z n_kind n_em n_day n_near n_shows n_tmost n_tsize n_tsteps n_tstack n_gmost n_gsize n_gsteps n_gstack t_day t_near t_shows p3 _ hv) ml_X6_159 kb_X6_think rfl ⟨⟨rfl, rfl⟩, (Nat.le_of_ble_eq_true rfl), (Nat.le_of_ble_eq_true rfl)⟩ hW hS [0, 1, 2, 3, 4, 5, 6, 7, 8, 9, 10, 11, 12, 13, 14, 15] rfl rfl kc6 (q0 := 0) rfl hl.1 rfl (Nat.le_of_ble_eq_true rfl) dX6_signs_45 ⟨Nat.zero_le _, Nat.zero_le _⟩ (fun u_15 H locs hv hW hS => ?_)
            obtain ⟨n_tstack_14, n_gstack_14, t_day_14, t_near_14, t_shows_14⟩ := u_15
            try dsimp only at hv
            have hW : wo G A (wd_X6_18 G b images n_people n_taped n_waiting n_z n_kind n_em n_day n_near n_shows n_tmost n_tsize n_tsteps n_tstack_14 n_gmost n_gsize n_gsteps n_gstack_14 t_day_14 t_near_14 t_shows_14 g_day g_near g_shows errs) H := hW
            refine lv_aload_n hx hb dX6_signs_48 rfl (lv_at hl 0 rfl) ?_
            refine lv_iload_n hx hb dX6_signs_49 rfl (lv_at hl 2 rfl) ?_
            refine lv_iload_n hx hb dX6_signs_50 rfl (lv_at hl 3 rfl) ?_
            refine q_callVv (rest := []) (n := 2) C (c_X6_thinkSigned l G b images n_people n_taped n_waiting n_z n_kind n_em n_day n_near n_shows n_tmost n_tsize n_tsteps n_tstack_14 n_gmost n_gsize n_gsteps n_gstack_14 g_day g_near g_shows p2 p3 _ hv) ml_X6_166 kb_X6_thinkSigned rfl ⟨⟨rfl, rfl⟩, (Nat.le_of_ble_eq_true rfl), (Nat.le_of_ble_eq_true rfl)⟩ hW hS [0, 1, 2, 3, 4, 5, 6, 7, 8, 9, 10, 11, 12, 16, 17, 18] rfl rfl kc6 (q0 := 0) rfl hl.1 rfl (Nat.le_of_ble_eq_true rfl) dX6_signs_51 ⟨Nat.zero_le _, Nat.zero_le _⟩ (fun u_17 H locs hv hW hS => ?_)
            obtain ⟨n_tstack_16, n_gstack_16, g_day_16, g_near_16, g_shows_16⟩ := u_17
            try dsimp only at hv
            have hW : wo G A (wd_X6_18 G b images n_people n_taped n_waiting n_z n_kind n_em n_day n_near n_shows n_tmost n_tsize n_tsteps n_tstack_16 n_gmost n_gsize n_gsteps n_gstack_16 t_day_14 t_near_14 t_shows_14 g_day_16 g_near_16 g_shows_16 errs) H := hW
            refine lv_aload_n hx hb dX6_signs_54 rfl (lv_at hl 0 rfl) ?_
            refine lv_iload_n hx hb dX6_signs_55 rfl (lv_at hl 1 rfl) ?_
            refine q_callV (rest := []) (n := 1) C (c_X6_fewestFor l G b images n_people n_taped n_waiting n_z t_day_14 t_near_14 g_day_16 g_near_16 p1 _ hv) ml_X6_170 kb_X6_fewestFor rfl ⟨⟨rfl, rfl⟩, (Nat.le_of_ble_eq_true rfl), (Nat.le_of_ble_eq_true rfl)⟩ hW hS [0, 1, 13, 14, 16, 17] rfl rfl kc6 (q0 := 0) rfl hl.1 rfl (Nat.le_of_ble_eq_true rfl) dX6_signs_56 ⟨Nat.zero_le _, Nat.zero_le _⟩ (fun r_18 u_19 H locs hv hW hS => ?_)
            try dsimp only at hv
            refine lv_istore (lv' := [(5, .int r_18), (0, .ref (b 0)), (1, .int p1), (2, .int p2), (3, .int p3), (4, .int p4)]) hx hb dX6_signs_59 hl (by decide) rfl (fun ls hl => ?_)
            refine lv_iload hx hb dX6_signs_61 (lv_at hl 0 rfl) ?_
            refine lv_if_ge (tgt := 72) hx hb dX6_signs_63 (by decide) (fun c_20 => ?_) (fun c_20 => ?_)
            · replace hv := hv.1 c_20
              refine lv_iload hx hb dX6_signs_72 (lv_at hl 5 rfl) ?_
              refine lv_if_ne (tgt := 85) hx hb dX6_signs_74 (by decide) (fun c_21 => ?_) (fun c_21 => ?_)
              · replace hv := hv.1 c_21
                refine lv_iload hx hb dX6_signs_85 (lv_at hl 0 rfl) ?_
                exact ret (n_tstack_16, n_gstack_16, t_day_14, t_near_14, t_shows_14, g_day_16, g_near_16, g_shows_16, errs) r_18 H locs ls _ rfl hW hS hv dX6_signs_87
              · replace hv := hv.2 c_21
                refine lv_iload hx hb dX6_signs_77 (lv_at hl 0 rfl) ?_
                refine q_callS (rest := []) (n := 1) C (c_J6_bitCount_0f7a4 l G r_18 _ hv) ml_X6_173 kb_J6_bitCount_0f7a4 rfl ⟨⟨rfl, rfl⟩, (Nat.le_of_ble_eq_true rfl), (Nat.le_of_ble_eq_true rfl)⟩ hW hS hl.1 rfl (Nat.le_of_ble_eq_true rfl) dX6_signs_79 ⟨Nat.zero_le _, Nat.zero_le _⟩ (fun r_22 u_23 H locs hv hW hS => ?_)
                try dsimp only at hv
                refine lv_goto (tgt := 87) hx hb dX6_signs_82 (by decide) ?_
                exact ret (n_tstack_16, n_gstack_16, t_day_14, t_near_14, t_shows_14, g_day_16, g_near_16, g_shows_16, errs) r_22 H locs ls _ rfl hW hS hv dX6_signs_87
            · replace hv := hv.2 c_20
              refine lv_aload_n hx hb dX6_signs_66 rfl (lv_at hl 1 rfl) ?_
              refine lv_iconst (v := 2) hx hb dX6_signs_67 kic_2 ?_
              refine q_callV (rest := []) (n := 1) C (c_X6_error l G b images errs (2 : Int32) _ hv) ml_X6_64 kb_X6_error rfl ⟨⟨rfl, rfl⟩, (Nat.le_of_ble_eq_true rfl), (Nat.le_of_ble_eq_true rfl)⟩ hW hS [0, 19] rfl rfl kc6 (q0 := 0) rfl hl.1 rfl (Nat.le_of_ble_eq_true rfl) dX6_signs_68 ⟨Nat.zero_le _, Nat.zero_le _⟩ (fun r_24 u_25 H locs hv hW hS => ?_)
              obtain ⟨errs_24, rfl⟩ : ∃ z, z = u_25 := ⟨_, rfl⟩
              try dsimp only at hv
              have hW : wo G A (wd_X6_18 G b images n_people n_taped n_waiting n_z n_kind n_em n_day n_near n_shows n_tmost n_tsize n_tsteps n_tstack_16 n_gmost n_gsize n_gsteps n_gstack_16 t_day_14 t_near_14 t_shows_14 g_day_16 g_near_16 g_shows_16 errs_24) H := hW
              exact ret (n_tstack_16, n_gstack_16, t_day_14, t_near_14, t_shows_14, g_day_16, g_near_16, g_shows_16, errs_24) r_24 H locs ls _ rfl hW hS hv dX6_signs_71
          · replace hv := hv.2 c_13
            exact h_j_X6_signs_37 n_tstack n_gstack t_day t_near t_shows g_day g_near g_shows errs H locs ls hW hS (lv_sub hl [0] rfl) hv
set_option maxHeartbeats 4000000 in
set_option maxRecDepth 100000 in
theorem c_X6_heard (l : Launch) (G : Gt) (b : Nat → Nat) (images : Int32) (n_people : Int32) (n_taped : Int32) (n_waiting : Int32) (n_z : Int32) (n_called : Nat → Int32) (errs : Nat → Int32) (p1 : Int32) (K : Int32 → (Nat → Int32) → Prop) (hv : v_X6_heard p1 n_people n_called errs K) : CI l G yX6_heard (.code yX6_heard cX6_heard 2 (some .int) :: wsG) (rmm 1 24) [.ref (b 0), .int p1] (wd_X6_19 G b images n_people n_taped n_waiting n_z n_called errs) (S := (Nat → Int32)) (fun u => wd_X6_19 G b images n_people n_taped n_waiting n_z n_called u) (fun r u => K r u) := by
  refine ci_intro (by decide) rfl (fun _ => rfl) (Nat.le_of_ble_eq_true rfl) ?_
  intro p e s m args below meth c A H ls Q C hW hS hl ret
  have hx := C.1.1
  have hb := C.1.2.1
  generalize hls : ([] : List Loc) = locs at hS ⊢
  have hl : lv_has ls 2 [(0, .ref (b 0)), (1, .int p1)] := hl
  refine lv_aload_n hx hb dX6_heard_0 rfl (lv_at hl 0 rfl) ?_
  refine q_get C kc6 hW 0 rfl 0 (by decide) fl_X6_10 rfl rfl dX6_heard_1 ?_
  refine lv_iload_n hx hb dX6_heard_4 rfl (lv_at hl 1 rfl) ?_
  refine q_callN (rest := []) (n := 1) C (c_X4_has l G (fun k => b (k + 1)) n_people n_taped n_waiting n_z p1 _ hv) nm_X6_76 kb_X4_has rfl ⟨⟨rfl, rfl⟩, (Nat.le_of_ble_eq_true rfl), (Nat.le_of_ble_eq_true rfl)⟩ hW hS [1] rfl rfl kc4 (q0 := 1) rfl hl.1 rfl (Nat.le_of_ble_eq_true rfl) dX6_heard_5 ⟨Nat.zero_le _, Nat.zero_le _⟩ (fun r_1 u_2 H locs hv hW hS => ?_)
  obtain ⟨hv_b_1, hv⟩ := hv
  try dsimp only at hv
  refine lv_if_eq (tgt := 22) hx hb dX6_heard_8 (by decide) (fun c_3 => ?_) (fun c_3 => ?_)
  · replace hv := hv.1 c_3
    refine lv_aload_n hx hb dX6_heard_22 rfl (lv_at hl 0 rfl) ?_
    refine lv_iconst (v := 1) hx hb dX6_heard_23 kic_1 ?_
    refine q_callV (rest := []) (n := 1) C (c_X6_error l G b images errs (1 : Int32) _ hv) ml_X6_64 kb_X6_error rfl ⟨⟨rfl, rfl⟩, (Nat.le_of_ble_eq_true rfl), (Nat.le_of_ble_eq_true rfl)⟩ hW hS [0, 3] rfl rfl kc6 (q0 := 0) rfl hl.1 rfl (Nat.le_of_ble_eq_true rfl) dX6_heard_24 ⟨Nat.zero_le _, Nat.zero_le _⟩ (fun r_4 u_5 H locs hv hW hS => ?_)
    obtain ⟨errs_4, rfl⟩ : ∃ z, z = u_5 := ⟨_, rfl⟩
    try dsimp only at hv
    have hW : wo G A (wd_X6_19 G b images n_people n_taped n_waiting n_z n_called errs_4) H := hW
    exact ret (errs_4) r_4 H locs ls _ rfl hW hS hv dX6_heard_27
  · replace hv := hv.2 c_3
    refine lv_aload_n hx hb dX6_heard_11 rfl (lv_at hl 0 rfl) ?_
    refine q_get C kc6 hW 0 rfl 0 (by decide) fl_X6_10 rfl rfl dX6_heard_12 ?_
    refine lv_iload_n hx hb dX6_heard_15 rfl (lv_at hl 1 rfl) ?_
    refine q_callN (rest := []) (n := 1) C (c_X4_comeToFrom l G (fun k => b (k + 1)) n_people n_taped n_waiting n_z n_called p1 _ hv) nm_X6_178 kb_X4_comeToFrom rfl ⟨⟨rfl, rfl⟩, (Nat.le_of_ble_eq_true rfl), (Nat.le_of_ble_eq_true rfl)⟩ hW hS [1, 2] rfl rfl kc4 (q0 := 1) rfl hl.1 rfl (Nat.le_of_ble_eq_true rfl) dX6_heard_16 ⟨Nat.zero_le _, Nat.zero_le _⟩ (fun r_6 u_7 H locs hv hW hS => ?_)
    try dsimp only at hv
    refine lv_goto (tgt := 27) hx hb dX6_heard_19 (by decide) ?_
    exact ret (errs) r_6 H locs ls _ rfl hW hS hv dX6_heard_27
set_option maxHeartbeats 4000000 in
set_option maxRecDepth 100000 in
theorem c_X6_commonDivisor (l : Launch) (G : Gt) (p1 : Int32) (p2 : Int32) (K : Int32 → Prop) (hv : v_X6_commonDivisor p1 p2 K) : CI l G yX6_commonDivisor (.code yX6_commonDivisor cX6_commonDivisor 6 (some .int) :: wsG) (rmm 0 0) [.int p1, .int p2] [] (S := Unit) (fun _ => []) (fun r u => K r) := by
  refine ci_intro (by decide) rfl (fun _ => rfl) (Nat.le_of_ble_eq_true rfl) ?_
  intro p e s m args below meth c A H ls Q C hW hS hl ret
  have hx := C.1.1
  have hb := C.1.2.1
  generalize hls : ([] : List Loc) = locs at hS ⊢
  have hl : lv_has ls 6 [(0, .int p1), (1, .int p2)] := hl
  have h_l_X6_commonDivisor_7 : ∀ (n : Nat), ∀ (x2 : Int32) (x3 : Int32) (x4 : Int32) (H : Heap) (locs : List Loc) (ls : Array Slot), wo G A (wd_X4_7 G) H → va_S A s.heap H locs → lv_has ls 6 [(2, .int x2), (3, .int x3), (4, .int x4)] → l_X6_commonDivisor_7 p1 p2 K n x2 x3 x4 → W p l e (rmm 0 0) s m args below meth c H locs 0 0 Q (F0 m 7 ls []) := by
    intro n
    induction n with
    | zero =>
      intro x2 x3 x4 H locs ls hW hS hl hv
      exact False.elim hv
    | succ n ih =>
      intro x2 x3 x4 H locs ls hW hS hl hv
      refine lv_iload hx hb dX6_commonDivisor_7 (lv_at hl 2 rfl) ?_
      refine lv_bipush (v := 64) hx hb dX6_commonDivisor_9 kbp_64 ?_
      refine lv_icmp_ge (tgt := 34) hx hb dX6_commonDivisor_11 (by decide) (fun c_1 => ?_) (fun c_1 => ?_)
      · replace hv := hv.1 c_1
        refine lv_iload_n hx hb dX6_commonDivisor_34 rfl (lv_at hl 0 rfl) ?_
        exact ret () x2 H locs ls _ rfl hW hS hv dX6_commonDivisor_35
      · replace hv := hv.2 c_1
        refine lv_iload_n hx hb dX6_commonDivisor_14 rfl (lv_at hl 1 rfl) ?_
        refine lv_if_le (tgt := 34) hx hb dX6_commonDivisor_15 (by decide) (fun c_2 => ?_) (fun c_2 => ?_)
        · replace hv := hv.1 c_2
          refine lv_iload_n hx hb dX6_commonDivisor_34 rfl (lv_at hl 0 rfl) ?_
          exact ret () x2 H locs ls _ rfl hW hS hv dX6_commonDivisor_35
        · replace hv := hv.2 c_2
          refine lv_iload_n hx hb dX6_commonDivisor_18 rfl (lv_at hl 0 rfl) ?_
          refine lv_iload_n hx hb dX6_commonDivisor_19 rfl (lv_at hl 1 rfl) ?_
          obtain ⟨h_3, hv⟩ := hv
          refine lv_irem hx hb dX6_commonDivisor_20 h_3 ?_
          refine lv_istore (lv' := [(5, .int (x2 - x2 / x3 * x3)), (2, .int x2), (3, .int x3), (4, .int x4)]) hx hb dX6_commonDivisor_21 hl (by decide) rfl (fun ls hl => ?_)
          refine lv_iload_n hx hb dX6_commonDivisor_23 rfl (lv_at hl 2 rfl) ?_
          refine lv_istore_n (lv' := [(2, .int x3), (5, .int (x2 - x2 / x3 * x3)), (3, .int x3), (4, .int x4)]) hx hb dX6_commonDivisor_24 rfl hl (by decide) rfl (fun ls hl => ?_)
          refine lv_iload hx hb dX6_commonDivisor_25 (lv_at hl 1 rfl) ?_
          refine lv_istore_n (lv' := [(3, .int (x2 - x2 / x3 * x3)), (2, .int x3), (5, .int (x2 - x2 / x3 * x3)), (4, .int x4)]) hx hb dX6_commonDivisor_27 rfl hl (by decide) rfl (fun ls hl => ?_)
          refine lv_iinc (v := (x4 + 1)) (lv' := [(4, .int (x4 + 1)), (3, .int (x2 - x2 / x3 * x3)), (2, .int x3), (5, .int (x2 - x2 / x3 * x3))]) hx hb dX6_commonDivisor_28 hl (k := 3) rfl rfl (by decide) rfl (fun ls hl => ?_)
          refine lv_goto (tgt := 7) hx hb dX6_commonDivisor_31 (by decide) ?_
          exact ih x3 (x2 - x2 / x3 * x3) (x4 + 1) H locs ls hW hS (lv_sub hl [2, 1, 0] rfl) hv
  refine lv_iload_n hx hb dX6_commonDivisor_0 rfl (lv_at hl 0 rfl) ?_
  refine lv_istore_n (lv' := [(2, .int p1), (0, .int p1), (1, .int p2)]) hx hb dX6_commonDivisor_1 rfl hl (by decide) rfl (fun ls hl => ?_)
  refine lv_iload_n hx hb dX6_commonDivisor_2 rfl (lv_at hl 2 rfl) ?_
  refine lv_istore_n (lv' := [(3, .int p2), (2, .int p1), (0, .int p1), (1, .int p2)]) hx hb dX6_commonDivisor_3 rfl hl (by decide) rfl (fun ls hl => ?_)
  refine lv_iconst (v := 0) hx hb dX6_commonDivisor_4 kic_0 ?_
  refine lv_istore (lv' := [(4, .int (0 : Int32)), (3, .int p2), (2, .int p1), (0, .int p1), (1, .int p2)]) hx hb dX6_commonDivisor_5 hl (by decide) rfl (fun ls hl => ?_)
  obtain ⟨n_4, hv⟩ := hv
  exact h_l_X6_commonDivisor_7 n_4 p1 p2 (0 : Int32) H locs ls hW hS (lv_sub hl [2, 1, 0] rfl) hv
set_option maxHeartbeats 4000000 in
set_option maxRecDepth 100000 in
theorem c_X6_odds (l : Launch) (G : Gt) (b : Nat → Nat) (images : Int32) (n_people : Int32) (n_taped : Int32) (n_waiting : Int32) (n_z : Int32) (n_kind : Nat → Int32) (n_em : Nat → Int32) (n_day : Int32) (n_near : Nat → Int32) (n_shows : Nat → Int32) (n_tmost : Int32) (n_tsize : Int32) (n_tsteps : Nat → Int32) (n_tstack : Nat → Int32) (errs : Nat → Int32) (p1 : Int32) (p2 : Int32) (K : Int32 → (Nat → Int32) → (Nat → Int32) → Prop) (hv : v_X6_odds p1 p2 n_people n_kind n_em n_day n_near n_shows n_tmost n_tsize n_tsteps n_tstack errs K) : CI l G yX6_odds (.code yX6_odds cX6_odds 6 (some .int) :: wsG) (rmm 4 96) [.ref (b 0), .int p1, .int p2] (wd_X6_5 G b images n_people n_taped n_waiting n_z n_kind n_em n_day n_near n_shows n_tmost n_tsize n_tsteps n_tstack errs) (S := (Nat → Int32) × (Nat → Int32)) (fun u => wd_X6_5 G b images n_people n_taped n_waiting n_z n_kind n_em n_day n_near n_shows n_tmost n_tsize n_tsteps u.1 u.2) (fun r u => K r u.1 u.2) := by
  refine ci_intro (by decide) rfl (fun _ => rfl) (Nat.le_of_ble_eq_true rfl) ?_
  intro p e s m args below meth c A H ls Q C hW hS hl ret
  have hx := C.1.1
  have hb := C.1.2.1
  generalize hls : ([] : List Loc) = locs at hS ⊢
  have hl : lv_has ls 6 [(0, .ref (b 0)), (1, .int p1), (2, .int p2)] := hl
  have h_j_X6_odds_19 : ∀ (n_tstack : Nat → Int32) (errs : Nat → Int32) (H : Heap) (locs : List Loc) (ls : Array Slot), wo G A (wd_X6_5 G b images n_people n_taped n_waiting n_z n_kind n_em n_day n_near n_shows n_tmost n_tsize n_tsteps n_tstack errs) H → va_S A s.heap H locs → lv_has ls 6 [(0, .ref (b 0))] → j_X6_odds_19 p1 p2 n_people n_kind n_em n_day n_near n_shows n_tmost n_tsize n_tsteps K n_tstack errs → W p l e (rmm 4 96) s m args below meth c H locs 0 0 Q (F0 m 19 ls []) := by
    intro n_tstack errs H locs ls hW hS hl hv
    refine lv_aload_n hx hb dX6_odds_19 rfl (lv_at hl 0 rfl) ?_
    refine lv_iconst (v := 1) hx hb dX6_odds_20 kic_1 ?_
    refine q_callV (rest := []) (n := 1) C (c_X6_error l G b images errs (1 : Int32) _ hv) ml_X6_64 kb_X6_error rfl ⟨⟨rfl, rfl⟩, (Nat.le_of_ble_eq_true rfl), (Nat.le_of_ble_eq_true rfl)⟩ hW hS [0, 10] rfl rfl kc6 (q0 := 0) rfl hl.1 rfl (Nat.le_of_ble_eq_true rfl) dX6_odds_21 ⟨Nat.zero_le _, Nat.zero_le _⟩ (fun r_4 u_5 H locs hv hW hS => ?_)
    obtain ⟨errs_4, rfl⟩ : ∃ z, z = u_5 := ⟨_, rfl⟩
    try dsimp only at hv
    have hW : wo G A (wd_X6_5 G b images n_people n_taped n_waiting n_z n_kind n_em n_day n_near n_shows n_tmost n_tsize n_tsteps n_tstack errs_4) H := hW
    exact ret (n_tstack, errs_4) r_4 H locs ls _ rfl hW hS hv dX6_odds_24
  refine lv_aload_n hx hb dX6_odds_0 rfl (lv_at hl 0 rfl) ?_
  refine q_get C kc6 hW 0 rfl 0 (by decide) fl_X6_10 rfl rfl dX6_odds_1 ?_
  refine lv_iload_n hx hb dX6_odds_4 rfl (lv_at hl 1 rfl) ?_
  refine q_callN (rest := []) (n := 1) C (c_X4_has l G (fun k => b (k + 1)) n_people n_taped n_waiting n_z p1 _ hv) nm_X6_76 kb_X4_has rfl ⟨⟨rfl, rfl⟩, (Nat.le_of_ble_eq_true rfl), (Nat.le_of_ble_eq_true rfl)⟩ hW hS [1] rfl rfl kc4 (q0 := 1) rfl hl.1 rfl (Nat.le_of_ble_eq_true rfl) dX6_odds_5 ⟨Nat.zero_le _, Nat.zero_le _⟩ (fun r_1 u_2 H locs hv hW hS => ?_)
  obtain ⟨hv_b_1, hv⟩ := hv
  try dsimp only at hv
  refine lv_if_eq (tgt := 19) hx hb dX6_odds_8 (by decide) (fun c_3 => ?_) (fun c_3 => ?_)
  · replace hv := hv.1 c_3
    exact h_j_X6_odds_19 n_tstack errs H locs ls hW hS (lv_sub hl [0] rfl) hv
  · replace hv := hv.2 c_3
    refine lv_iload_n hx hb dX6_odds_11 rfl (lv_at hl 2 rfl) ?_
    refine lv_iconst (v := 1) hx hb dX6_odds_12 kic_1 ?_
    refine q_callS (rest := []) (n := 2) C (c_X6_isWithin l G p2 (1 : Int32) _ hv) ml_X6_97 kb_X6_isWithin rfl ⟨⟨rfl, rfl⟩, (Nat.le_of_ble_eq_true rfl), (Nat.le_of_ble_eq_true rfl)⟩ hW hS hl.1 rfl (Nat.le_of_ble_eq_true rfl) dX6_odds_13 ⟨Nat.zero_le _, Nat.zero_le _⟩ (fun r_6 u_7 H locs hv hW hS => ?_)
    obtain ⟨hv_b_6, hv⟩ := hv
    try dsimp only at hv
    refine lv_if_ne (tgt := 25) hx hb dX6_odds_16 (by decide) (fun c_8 => ?_) (fun c_8 => ?_)
    · replace hv := hv.1 c_8
      refine lv_aload_n hx hb dX6_odds_25 rfl (lv_at hl 0 rfl) ?_
      refine q_get C kc6 hW 0 rfl 0 (by decide) fl_X6_10 rfl rfl dX6_odds_26 ?_
      refine q_getN C kc4 hW 1 rfl 0 (by decide) nf_X6_68 rfl rfl dX6_odds_29 ?_
      refine lv_iconst (v := 1) hx hb dX6_odds_32 kic_1 ?_
      refine lv_isub hx hb dX6_odds_33 ?_
      refine lv_istore_n (lv' := [(3, .int (n_people - (1 : Int32))), (0, .ref (b 0)), (1, .int p1), (2, .int p2)]) hx hb dX6_odds_34 rfl hl (by decide) rfl (fun ls hl => ?_)
      refine lv_iload_n hx hb dX6_odds_35 rfl (lv_at hl 0 rfl) ?_
      refine lv_iconst (v := 1) hx hb dX6_odds_36 kic_1 ?_
      refine lv_icmp_ge (tgt := 46) hx hb dX6_odds_37 (by decide) (fun c_9 => ?_) (fun c_9 => ?_)
      · replace hv := hv.1 c_9
        refine lv_aload_n hx hb dX6_odds_46 rfl (lv_at hl 1 rfl) ?_
        refine q_get C kc6 hW 0 rfl 0 (by decide) fl_X6_10 rfl rfl dX6_odds_47 ?_
        refine lv_iload_n hx hb dX6_odds_50 rfl (lv_at hl 2 rfl) ?_
        refine q_callN (rest := []) (n := 1) C (c_X4_countTakenNearer l G (fun k => b (k + 1)) n_people n_taped n_waiting n_z n_kind n_em n_day n_near n_shows n_tmost n_tsize n_tsteps n_tstack p1 _ hv) nm_X6_181 kb_X4_countTakenNearer rfl ⟨⟨rfl, rfl⟩, (Nat.le_of_ble_eq_true rfl), (Nat.le_of_ble_eq_true rfl)⟩ hW hS [1, 2, 3, 4, 5, 6, 7, 8, 9] rfl rfl kc4 (q0 := 1) rfl hl.1 rfl (Nat.le_of_ble_eq_true rfl) dX6_odds_51 ⟨Nat.zero_le _, Nat.zero_le _⟩ (fun r_10 u_11 H locs hv hW hS => ?_)
        obtain ⟨n_tstack_10, rfl⟩ : ∃ z, z = u_11 := ⟨_, rfl⟩
        try dsimp only at hv
        have hW : wo G A (wd_X6_5 G b images n_people n_taped n_waiting n_z n_kind n_em n_day n_near n_shows n_tmost n_tsize n_tsteps n_tstack_10 errs) H := hW
        refine lv_istore (lv' := [(4, .int r_10), (3, .int (n_people - (1 : Int32))), (0, .ref (b 0)), (1, .int p1), (2, .int p2)]) hx hb dX6_odds_54 hl (by decide) rfl (fun ls hl => ?_)
        refine lv_iload hx hb dX6_odds_56 (lv_at hl 0 rfl) ?_
        refine lv_iload_n hx hb dX6_odds_58 rfl (lv_at hl 1 rfl) ?_
        refine q_callS (rest := []) (n := 2) C (c_X6_commonDivisor l G r_10 (n_people - (1 : Int32)) _ hv) ml_X6_184 kb_X6_commonDivisor rfl ⟨⟨rfl, rfl⟩, (Nat.le_of_ble_eq_true rfl), (Nat.le_of_ble_eq_true rfl)⟩ hW hS hl.1 rfl (Nat.le_of_ble_eq_true rfl) dX6_odds_59 ⟨Nat.zero_le _, Nat.zero_le _⟩ (fun r_12 u_13 H locs hv hW hS => ?_)
        try dsimp only at hv
        refine lv_istore (lv' := [(5, .int r_12), (4, .int r_10), (3, .int (n_people - (1 : Int32))), (0, .ref (b 0)), (1, .int p1), (2, .int p2)]) hx hb dX6_odds_62 hl (by decide) rfl (fun ls hl => ?_)
        refine lv_iload hx hb dX6_odds_64 (lv_at hl 0 rfl) ?_
        refine lv_iconst (v := 1) hx hb dX6_odds_66 kic_1 ?_
        refine lv_icmp_ge (tgt := 76) hx hb dX6_odds_67 (by decide) (fun c_14 => ?_) (fun c_14 => ?_)
        · replace hv := hv.1 c_14
          refine lv_iload_n hx hb dX6_odds_76 rfl (lv_at hl 5 rfl) ?_
          refine lv_if_ne (tgt := 88) hx hb dX6_odds_77 (by decide) (fun c_15 => ?_) (fun c_15 => ?_)
          · replace hv := hv.1 c_15
            refine lv_iload_n hx hb dX6_odds_88 rfl (lv_at hl 2 rfl) ?_
            refine lv_iload hx hb dX6_odds_89 (lv_at hl 0 rfl) ?_
            obtain ⟨h_16, hv⟩ := hv
            refine lv_idiv hx hb dX6_odds_91 h_16 ?_
            exact ret (n_tstack_10, errs) ((n_people - (1 : Int32)) / r_12) H locs ls _ rfl hW hS hv dX6_odds_92
          · replace hv := hv.2 c_15
            refine lv_iload hx hb dX6_odds_80 (lv_at hl 1 rfl) ?_
            refine lv_iload hx hb dX6_odds_82 (lv_at hl 0 rfl) ?_
            obtain ⟨h_17, hv⟩ := hv
            refine lv_idiv hx hb dX6_odds_84 h_17 ?_
            refine lv_goto (tgt := 92) hx hb dX6_odds_85 (by decide) ?_
            exact ret (n_tstack_10, errs) (r_10 / r_12) H locs ls _ rfl hW hS hv dX6_odds_92
        · replace hv := hv.2 c_14
          refine lv_aload_n hx hb dX6_odds_70 rfl (lv_at hl 3 rfl) ?_
          refine lv_iconst (v := 3) hx hb dX6_odds_71 kic_3 ?_
          refine q_callV (rest := []) (n := 1) C (c_X6_error l G b images errs (3 : Int32) _ hv) ml_X6_64 kb_X6_error rfl ⟨⟨rfl, rfl⟩, (Nat.le_of_ble_eq_true rfl), (Nat.le_of_ble_eq_true rfl)⟩ hW hS [0, 10] rfl rfl kc6 (q0 := 0) rfl hl.1 rfl (Nat.le_of_ble_eq_true rfl) dX6_odds_72 ⟨Nat.zero_le _, Nat.zero_le _⟩ (fun r_18 u_19 H locs hv hW hS => ?_)
          obtain ⟨errs_18, rfl⟩ : ∃ z, z = u_19 := ⟨_, rfl⟩
          try dsimp only at hv
          have hW : wo G A (wd_X6_5 G b images n_people n_taped n_waiting n_z n_kind n_em n_day n_near n_shows n_tmost n_tsize n_tsteps n_tstack_10 errs_18) H := hW
          exact ret (n_tstack_10, errs_18) r_18 H locs ls _ rfl hW hS hv dX6_odds_75
      · replace hv := hv.2 c_9
        refine lv_aload_n hx hb dX6_odds_40 rfl (lv_at hl 1 rfl) ?_
        refine lv_iconst (v := 3) hx hb dX6_odds_41 kic_3 ?_
        refine q_callV (rest := []) (n := 1) C (c_X6_error l G b images errs (3 : Int32) _ hv) ml_X6_64 kb_X6_error rfl ⟨⟨rfl, rfl⟩, (Nat.le_of_ble_eq_true rfl), (Nat.le_of_ble_eq_true rfl)⟩ hW hS [0, 10] rfl rfl kc6 (q0 := 0) rfl hl.1 rfl (Nat.le_of_ble_eq_true rfl) dX6_odds_42 ⟨Nat.zero_le _, Nat.zero_le _⟩ (fun r_20 u_21 H locs hv hW hS => ?_)
        obtain ⟨errs_20, rfl⟩ : ∃ z, z = u_21 := ⟨_, rfl⟩
        try dsimp only at hv
        have hW : wo G A (wd_X6_5 G b images n_people n_taped n_waiting n_z n_kind n_em n_day n_near n_shows n_tmost n_tsize n_tsteps n_tstack errs_20) H := hW
        exact ret (n_tstack, errs_20) r_20 H locs ls _ rfl hW hS hv dX6_odds_45
    · replace hv := hv.2 c_8
      exact h_j_X6_odds_19 n_tstack errs H locs ls hW hS (lv_sub hl [0] rfl) hv
