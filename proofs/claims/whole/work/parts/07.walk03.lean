set_option maxHeartbeats 4000000 in
set_option maxRecDepth 100000 in
theorem c_X6_settles (l : Launch) (G : Gt) (b : Nat → Nat) (images : Int32) (n_people : Int32) (n_taped : Int32) (n_waiting : Int32) (n_z : Int32) (n_kind : Nat → Int32) (n_em : Nat → Int32) (n_day : Int32) (n_near : Nat → Int32) (n_shows : Nat → Int32) (n_tmost : Int32) (n_tsize : Int32) (n_tsteps : Nat → Int32) (n_tstack : Nat → Int32) (n_gmost : Int32) (n_gsize : Int32) (n_gsteps : Nat → Int32) (n_gstack : Nat → Int32) (t_day : Int32) (t_near : Nat → Int32) (t_shows : Nat → Int32) (errs : Nat → Int32) (K : Int32 → (Nat → Int32) → (Nat → Int32) → Int32 → (Nat → Int32) → (Nat → Int32) → (Nat → Int32) → Prop) (hv : v_X6_settles n_people n_kind n_em n_day n_near n_shows n_tmost n_tsize n_tsteps n_tstack n_gmost n_gsize n_gsteps n_gstack t_day t_near t_shows errs K) : CI l G yX6_settles (.code yX6_settles cX6_settles 2 (some .int) :: wsG) (rmm 6 144) [.ref (b 0)] (wd_X6_15 G b images n_people n_taped n_waiting n_z n_kind n_em n_day n_near n_shows n_tmost n_tsize n_tsteps n_tstack n_gmost n_gsize n_gsteps n_gstack t_day t_near t_shows errs) (S := (Nat → Int32) × (Nat → Int32) × Int32 × (Nat → Int32) × (Nat → Int32) × (Nat → Int32)) (fun u => wd_X6_15 G b images n_people n_taped n_waiting n_z n_kind n_em n_day n_near n_shows n_tmost n_tsize n_tsteps u.1 n_gmost n_gsize n_gsteps u.2.1 u.2.2.1 u.2.2.2.1 u.2.2.2.2.1 u.2.2.2.2.2) (fun r u => K r u.1 u.2.1 u.2.2.1 u.2.2.2.1 u.2.2.2.2.1 u.2.2.2.2.2) := by
  refine ci_intro (by decide) rfl (fun _ => rfl) (Nat.le_of_ble_eq_true rfl) ?_
  intro p e s m args below meth c A H ls Q C hW hS hl ret
  have hx := C.1.1
  have hb := C.1.2.1
  generalize hls : ([] : List Loc) = locs at hS ⊢
  have hl : lv_has ls 2 [(0, .ref (b 0))] := hl
  have h_l_X6_settles_7 : ∀ (n : Nat), ∀ (x1 : Int32) (n_tstack : Nat → Int32) (n_gstack : Nat → Int32) (t_day : Int32) (t_near : Nat → Int32) (t_shows : Nat → Int32) (errs : Nat → Int32) (H : Heap) (locs : List Loc) (ls : Array Slot), wo G A (wd_X6_15 G b images n_people n_taped n_waiting n_z n_kind n_em n_day n_near n_shows n_tmost n_tsize n_tsteps n_tstack n_gmost n_gsize n_gsteps n_gstack t_day t_near t_shows errs) H → va_S A s.heap H locs → lv_has ls 2 [(0, .ref (b 0)), (1, .int x1)] → l_X6_settles_7 n_people n_kind n_em n_day n_near n_shows n_tmost n_tsize n_tsteps n_gmost n_gsize n_gsteps K n x1 n_tstack n_gstack t_day t_near t_shows errs → W p l e (rmm 6 144) s m args below meth c H locs 0 0 Q (F0 m 7 ls []) := by
    intro n
    induction n with
    | zero =>
      intro x1 n_tstack n_gstack t_day t_near t_shows errs H locs ls hW hS hl hv
      exact False.elim hv
    | succ n ih =>
      intro x1 n_tstack n_gstack t_day t_near t_shows errs H locs ls hW hS hl hv
      refine lv_iload_n hx hb dX6_settles_7 rfl (lv_at hl 1 rfl) ?_
      refine lv_bipush (v := 100) hx hb dX6_settles_8 kbp_100 ?_
      refine lv_icmp_gt (tgt := 35) hx hb dX6_settles_10 (by decide) (fun c_3 => ?_) (fun c_3 => ?_)
      · replace hv := hv.1 c_3
        refine lv_aload_n hx hb dX6_settles_35 rfl (lv_at hl 0 rfl) ?_
        refine lv_iconst (v := 2) hx hb dX6_settles_36 kic_2 ?_
        refine q_callV (rest := []) (n := 1) C (c_X6_error l G b images errs (2 : Int32) _ hv) ml_X6_64 kb_X6_error rfl ⟨⟨rfl, rfl⟩, (Nat.le_of_ble_eq_true rfl), (Nat.le_of_ble_eq_true rfl)⟩ hW hS [0, 16] rfl rfl kc6 (q0 := 0) rfl hl.1 rfl (Nat.le_of_ble_eq_true rfl) dX6_settles_37 ⟨Nat.zero_le _, Nat.zero_le _⟩ (fun r_4 u_5 H locs hv hW hS => ?_)
        obtain ⟨errs_4, rfl⟩ : ∃ z, z = u_5 := ⟨_, rfl⟩
        try dsimp only at hv
        have hW : wo G A (wd_X6_15 G b images n_people n_taped n_waiting n_z n_kind n_em n_day n_near n_shows n_tmost n_tsize n_tsteps n_tstack n_gmost n_gsize n_gsteps n_gstack t_day t_near t_shows errs_4) H := hW
        exact ret (n_tstack, n_gstack, t_day, t_near, t_shows, errs_4) r_4 H locs ls _ rfl hW hS hv dX6_settles_40
      · replace hv := hv.2 c_3
        refine lv_aload_n hx hb dX6_settles_13 rfl (lv_at hl 0 rfl) ?_
        refine q_get C kc6 hW 0 rfl 0 (by decide) fl_X6_10 rfl rfl dX6_settles_14 ?_
        refine lv_aload_n hx hb dX6_settles_17 rfl (lv_at hl 0 rfl) ?_
        refine q_get C kc6 hW 0 rfl 3 (by decide) fl_X6_22 rfl rfl dX6_settles_18 ?_
        refine q_callN (rest := []) (n := 1) C (c_X4_pass l G (fun k => b (k + 1)) (fun k => b (k + 31)) n_people n_taped n_waiting n_z n_kind n_em n_tmost n_tsize n_tsteps n_tstack n_gmost n_gsize n_gsteps n_gstack t_day t_near t_shows _ hv) nm_X6_145 kb_X4_pass rfl ⟨⟨rfl, rfl⟩, (Nat.le_of_ble_eq_true rfl), (Nat.le_of_ble_eq_true rfl)⟩ hW hS [1, 2, 3, 7, 8, 9, 10, 11, 12, 13, 14, 15] rfl rfl kc4 (q0 := 1) rfl hl.1 rfl (Nat.le_of_ble_eq_true rfl) dX6_settles_21 ⟨Nat.zero_le _, Nat.zero_le _⟩ (fun r_6 u_7 H locs hv hW hS => ?_)
        obtain ⟨n_tstack_6, n_gstack_6, t_day_6, t_near_6, t_shows_6⟩ := u_7
        obtain ⟨hv_b_6, hv⟩ := hv
        try dsimp only at hv
        have hW : wo G A (wd_X6_15 G b images n_people n_taped n_waiting n_z n_kind n_em n_day n_near n_shows n_tmost n_tsize n_tsteps n_tstack_6 n_gmost n_gsize n_gsteps n_gstack_6 t_day_6 t_near_6 t_shows_6 errs) H := hW
        refine lv_if_ne (tgt := 29) hx hb dX6_settles_24 (by decide) (fun c_8 => ?_) (fun c_8 => ?_)
        · replace hv := hv.1 c_8
          refine lv_iinc (v := (x1 + 1)) (lv' := [(1, .int (x1 + 1)), (0, .ref (b 0))]) hx hb dX6_settles_29 hl (k := 1) rfl rfl (by decide) rfl (fun ls hl => ?_)
          refine lv_goto (tgt := 7) hx hb dX6_settles_32 (by decide) ?_
          exact ih (x1 + 1) n_tstack_6 n_gstack_6 t_day_6 t_near_6 t_shows_6 errs H locs ls hW hS (lv_sub hl [1, 0] rfl) hv
        · replace hv := hv.2 c_8
          refine lv_iload_n hx hb dX6_settles_27 rfl (lv_at hl 1 rfl) ?_
          exact ret (n_tstack_6, n_gstack_6, t_day_6, t_near_6, t_shows_6, errs) x1 H locs ls _ rfl hW hS hv dX6_settles_28
  refine lv_aload_n hx hb dX6_settles_0 rfl (lv_at hl 0 rfl) ?_
  refine lv_iconst (v := 0) hx hb dX6_settles_1 kic_0 ?_
  refine q_callVv (rest := []) (n := 1) C (c_X6_think l G b images n_people n_taped n_waiting n_z n_kind n_em n_day n_near n_shows n_tmost n_tsize n_tsteps n_tstack n_gmost n_gsize n_gsteps n_gstack t_day t_near t_shows (0 : Int32) _ hv) ml_X6_159 kb_X6_think rfl ⟨⟨rfl, rfl⟩, (Nat.le_of_ble_eq_true rfl), (Nat.le_of_ble_eq_true rfl)⟩ hW hS [0, 1, 2, 3, 4, 5, 6, 7, 8, 9, 10, 11, 12, 13, 14, 15] rfl rfl kc6 (q0 := 0) rfl hl.1 rfl (Nat.le_of_ble_eq_true rfl) dX6_settles_2 ⟨Nat.zero_le _, Nat.zero_le _⟩ (fun u_2 H locs hv hW hS => ?_)
  obtain ⟨n_tstack_1, n_gstack_1, t_day_1, t_near_1, t_shows_1⟩ := u_2
  try dsimp only at hv
  have hW : wo G A (wd_X6_15 G b images n_people n_taped n_waiting n_z n_kind n_em n_day n_near n_shows n_tmost n_tsize n_tsteps n_tstack_1 n_gmost n_gsize n_gsteps n_gstack_1 t_day_1 t_near_1 t_shows_1 errs) H := hW
  refine lv_iconst (v := 0) hx hb dX6_settles_5 kic_0 ?_
  refine lv_istore_n (lv' := [(1, .int (0 : Int32)), (0, .ref (b 0))]) hx hb dX6_settles_6 rfl hl (by decide) rfl (fun ls hl => ?_)
  obtain ⟨n_9, hv⟩ := hv
  exact h_l_X6_settles_7 n_9 (0 : Int32) n_tstack_1 n_gstack_1 t_day_1 t_near_1 t_shows_1 errs H locs ls hW hS (lv_sub hl [1, 0] rfl) hv
set_option maxHeartbeats 4000000 in
set_option maxRecDepth 100000 in
theorem c_X6_rank (l : Launch) (G : Gt) (b : Nat → Nat) (images : Int32) (n_people : Int32) (n_taped : Int32) (n_waiting : Int32) (n_z : Int32) (n_day : Int32) (n_near : Nat → Int32) (errs : Nat → Int32) (p1 : Int32) (K : Int32 → (Nat → Int32) → Prop) (hv : v_X6_rank p1 n_people n_near errs K) : CI l G yX6_rank (.code yX6_rank cX6_rank 2 (some .int) :: wsG) (rmm 1 23) [.ref (b 0), .int p1] (wd_X6_4 G b images n_people n_taped n_waiting n_z n_day n_near errs) (S := (Nat → Int32)) (fun u => wd_X6_4 G b images n_people n_taped n_waiting n_z n_day n_near u) (fun r u => K r u) := by
  refine ci_intro (by decide) rfl (fun _ => rfl) (Nat.le_of_ble_eq_true rfl) ?_
  intro p e s m args below meth c A H ls Q C hW hS hl ret
  have hx := C.1.1
  have hb := C.1.2.1
  generalize hls : ([] : List Loc) = locs at hS ⊢
  have hl : lv_has ls 2 [(0, .ref (b 0)), (1, .int p1)] := hl
  refine lv_aload_n hx hb dX6_rank_0 rfl (lv_at hl 0 rfl) ?_
  refine q_get C kc6 hW 0 rfl 0 (by decide) fl_X6_10 rfl rfl dX6_rank_1 ?_
  refine lv_iload_n hx hb dX6_rank_4 rfl (lv_at hl 1 rfl) ?_
  refine q_callN (rest := []) (n := 1) C (c_X4_has l G (fun k => b (k + 1)) n_people n_taped n_waiting n_z p1 _ hv) nm_X6_76 kb_X4_has rfl ⟨⟨rfl, rfl⟩, (Nat.le_of_ble_eq_true rfl), (Nat.le_of_ble_eq_true rfl)⟩ hW hS [1] rfl rfl kc4 (q0 := 1) rfl hl.1 rfl (Nat.le_of_ble_eq_true rfl) dX6_rank_5 ⟨Nat.zero_le _, Nat.zero_le _⟩ (fun r_1 u_2 H locs hv hW hS => ?_)
  obtain ⟨hv_b_1, hv⟩ := hv
  try dsimp only at hv
  refine lv_if_eq (tgt := 22) hx hb dX6_rank_8 (by decide) (fun c_3 => ?_) (fun c_3 => ?_)
  · replace hv := hv.1 c_3
    refine lv_aload_n hx hb dX6_rank_22 rfl (lv_at hl 0 rfl) ?_
    refine lv_iconst (v := 1) hx hb dX6_rank_23 kic_1 ?_
    refine q_callV (rest := []) (n := 1) C (c_X6_error l G b images errs (1 : Int32) _ hv) ml_X6_64 kb_X6_error rfl ⟨⟨rfl, rfl⟩, (Nat.le_of_ble_eq_true rfl), (Nat.le_of_ble_eq_true rfl)⟩ hW hS [0, 4] rfl rfl kc6 (q0 := 0) rfl hl.1 rfl (Nat.le_of_ble_eq_true rfl) dX6_rank_24 ⟨Nat.zero_le _, Nat.zero_le _⟩ (fun r_4 u_5 H locs hv hW hS => ?_)
    obtain ⟨errs_4, rfl⟩ : ∃ z, z = u_5 := ⟨_, rfl⟩
    try dsimp only at hv
    have hW : wo G A (wd_X6_4 G b images n_people n_taped n_waiting n_z n_day n_near errs_4) H := hW
    exact ret (errs_4) r_4 H locs ls _ rfl hW hS hv dX6_rank_27
  · replace hv := hv.2 c_3
    refine lv_aload_n hx hb dX6_rank_11 rfl (lv_at hl 0 rfl) ?_
    refine q_get C kc6 hW 0 rfl 0 (by decide) fl_X6_10 rfl rfl dX6_rank_12 ?_
    refine lv_iload_n hx hb dX6_rank_15 rfl (lv_at hl 1 rfl) ?_
    refine q_callN (rest := []) (n := 1) C (c_X4_countNearer l G (fun k => b (k + 1)) n_people n_taped n_waiting n_z n_day n_near p1 _ hv) nm_X6_163 kb_X4_countNearer rfl ⟨⟨rfl, rfl⟩, (Nat.le_of_ble_eq_true rfl), (Nat.le_of_ble_eq_true rfl)⟩ hW hS [1, 2, 3] rfl rfl kc4 (q0 := 1) rfl hl.1 rfl (Nat.le_of_ble_eq_true rfl) dX6_rank_16 ⟨Nat.zero_le _, Nat.zero_le _⟩ (fun r_6 u_7 H locs hv hW hS => ?_)
    try dsimp only at hv
    refine lv_goto (tgt := 27) hx hb dX6_rank_19 (by decide) ?_
    exact ret (errs) r_6 H locs ls _ rfl hW hS hv dX6_rank_27
set_option maxHeartbeats 4000000 in
set_option maxRecDepth 100000 in
theorem c_X6_thinkSigned (l : Launch) (G : Gt) (b : Nat → Nat) (images : Int32) (n_people : Int32) (n_taped : Int32) (n_waiting : Int32) (n_z : Int32) (n_kind : Nat → Int32) (n_em : Nat → Int32) (n_day : Int32) (n_near : Nat → Int32) (n_shows : Nat → Int32) (n_tmost : Int32) (n_tsize : Int32) (n_tsteps : Nat → Int32) (n_tstack : Nat → Int32) (n_gmost : Int32) (n_gsize : Int32) (n_gsteps : Nat → Int32) (n_gstack : Nat → Int32) (g_day : Int32) (g_near : Nat → Int32) (g_shows : Nat → Int32) (p1 : Int32) (p2 : Int32) (K : (Nat → Int32) → (Nat → Int32) → Int32 → (Nat → Int32) → (Nat → Int32) → Prop) (hv : v_X6_thinkSigned p1 p2 n_people n_kind n_em n_day n_near n_shows n_tmost n_tsize n_tsteps n_tstack n_gmost n_gsize n_gsteps n_gstack g_day g_near g_shows K) : CV l G yX6_thinkSigned (.code yX6_thinkSigned cX6_thinkSigned 4 none :: wsG) (rmm 5 122) [.ref (b 0), .int p1, .int p2] (wd_X6_16 G b images n_people n_taped n_waiting n_z n_kind n_em n_day n_near n_shows n_tmost n_tsize n_tsteps n_tstack n_gmost n_gsize n_gsteps n_gstack g_day g_near g_shows) (S := (Nat → Int32) × (Nat → Int32) × Int32 × (Nat → Int32) × (Nat → Int32)) (fun u => wd_X6_16 G b images n_people n_taped n_waiting n_z n_kind n_em n_day n_near n_shows n_tmost n_tsize n_tsteps u.1 n_gmost n_gsize n_gsteps u.2.1 u.2.2.1 u.2.2.2.1 u.2.2.2.2) (fun u => K u.1 u.2.1 u.2.2.1 u.2.2.2.1 u.2.2.2.2) := by
  refine cv_intro (by decide) rfl (fun _ => rfl) (Nat.le_of_ble_eq_true rfl) ?_
  intro p e s m args below meth c A H ls Q C hW hS hl ret
  have hx := C.1.1
  have hb := C.1.2.1
  generalize hls : ([] : List Loc) = locs at hS ⊢
  have hl : lv_has ls 4 [(0, .ref (b 0)), (1, .int p1), (2, .int p2)] := hl
  have h_l_X6_thinkSigned_45 : ∀ (n : Nat), ∀ (x3 : Int32) (n_tstack : Nat → Int32) (n_gstack : Nat → Int32) (g_day : Int32) (g_near : Nat → Int32) (g_shows : Nat → Int32) (H : Heap) (locs : List Loc) (ls : Array Slot), wo G A (wd_X6_16 G b images n_people n_taped n_waiting n_z n_kind n_em n_day n_near n_shows n_tmost n_tsize n_tsteps n_tstack n_gmost n_gsize n_gsteps n_gstack g_day g_near g_shows) H → va_S A s.heap H locs → lv_has ls 4 [(0, .ref (b 0)), (2, .int p2), (3, .int x3)] → l_X6_thinkSigned_45 p1 p2 n_people n_kind n_em n_day n_near n_shows n_tmost n_tsize n_tsteps n_gmost n_gsize n_gsteps K n x3 n_tstack n_gstack g_day g_near g_shows → W p l e (rmm 5 122) s m args below meth c H locs 0 0 Q (F0 m 45 ls []) := by
    intro n
    induction n with
    | zero =>
      intro x3 n_tstack n_gstack g_day g_near g_shows H locs ls hW hS hl hv
      exact False.elim hv
    | succ n ih =>
      intro x3 n_tstack n_gstack g_day g_near g_shows H locs ls hW hS hl hv
      refine lv_iload_n hx hb dX6_thinkSigned_45 rfl (lv_at hl 2 rfl) ?_
      refine lv_iload_n hx hb dX6_thinkSigned_46 rfl (lv_at hl 1 rfl) ?_
      refine lv_icmp_ge (tgt := 68) hx hb dX6_thinkSigned_47 (by decide) (fun c_4 => ?_) (fun c_4 => ?_)
      · replace hv := hv.1 c_4
        exact ret (n_tstack, n_gstack, g_day, g_near, g_shows) H locs ls _ hW hS hv dX6_thinkSigned_68
      · replace hv := hv.2 c_4
        refine lv_aload_n hx hb dX6_thinkSigned_50 rfl (lv_at hl 0 rfl) ?_
        refine q_get C kc6 hW 0 rfl 0 (by decide) fl_X6_10 rfl rfl dX6_thinkSigned_51 ?_
        refine lv_aload_n hx hb dX6_thinkSigned_54 rfl (lv_at hl 0 rfl) ?_
        refine q_get C kc6 hW 0 rfl 4 (by decide) fl_X6_26 rfl rfl dX6_thinkSigned_55 ?_
        refine q_callN (rest := []) (n := 1) C (c_X4_pass l G (fun k => b (k + 1)) (fun k => b (k + 34)) n_people n_taped n_waiting n_z n_kind n_em n_tmost n_tsize n_tsteps n_tstack n_gmost n_gsize n_gsteps n_gstack g_day g_near g_shows _ hv) nm_X6_145 kb_X4_pass rfl ⟨⟨rfl, rfl⟩, (Nat.le_of_ble_eq_true rfl), (Nat.le_of_ble_eq_true rfl)⟩ hW hS [1, 2, 3, 7, 8, 9, 10, 11, 12, 13, 14, 15] rfl rfl kc4 (q0 := 1) rfl hl.1 rfl (Nat.le_of_ble_eq_true rfl) dX6_thinkSigned_58 ⟨Nat.zero_le _, Nat.zero_le _⟩ (fun r_5 u_6 H locs hv hW hS => ?_)
        obtain ⟨n_tstack_5, n_gstack_5, g_day_5, g_near_5, g_shows_5⟩ := u_6
        obtain ⟨hv_b_5, hv⟩ := hv
        try dsimp only at hv
        have hW : wo G A (wd_X6_16 G b images n_people n_taped n_waiting n_z n_kind n_em n_day n_near n_shows n_tmost n_tsize n_tsteps n_tstack_5 n_gmost n_gsize n_gsteps n_gstack_5 g_day_5 g_near_5 g_shows_5) H := hW
        refine lv_pop hx hb dX6_thinkSigned_61 rfl ?_
        refine lv_iinc (v := (x3 + 1)) (lv' := [(3, .int (x3 + 1)), (0, .ref (b 0)), (2, .int p2)]) hx hb dX6_thinkSigned_62 hl (k := 2) rfl rfl (by decide) rfl (fun ls hl => ?_)
        refine lv_goto (tgt := 45) hx hb dX6_thinkSigned_65 (by decide) ?_
        exact ih (x3 + 1) n_tstack_5 n_gstack_5 g_day_5 g_near_5 g_shows_5 H locs ls hW hS (lv_sub hl [1, 2, 0] rfl) hv
  have h_l_X6_thinkSigned_16 : ∀ (n : Nat), ∀ (x3 : Int32) (n_tstack : Nat → Int32) (n_gstack : Nat → Int32) (g_day : Int32) (g_near : Nat → Int32) (g_shows : Nat → Int32) (H : Heap) (locs : List Loc) (ls : Array Slot), wo G A (wd_X6_16 G b images n_people n_taped n_waiting n_z n_kind n_em n_day n_near n_shows n_tmost n_tsize n_tsteps n_tstack n_gmost n_gsize n_gsteps n_gstack g_day g_near g_shows) H → va_S A s.heap H locs → lv_has ls 4 [(0, .ref (b 0)), (1, .int p1), (2, .int p2), (3, .int x3)] → l_X6_thinkSigned_16 p1 p2 n_people n_kind n_em n_day n_near n_shows n_tmost n_tsize n_tsteps n_gmost n_gsize n_gsteps K n x3 n_tstack n_gstack g_day g_near g_shows → W p l e (rmm 5 122) s m args below meth c H locs 0 0 Q (F0 m 16 ls []) := by
    intro n
    induction n with
    | zero =>
      intro x3 n_tstack n_gstack g_day g_near g_shows H locs ls hW hS hl hv
      exact False.elim hv
    | succ n ih =>
      intro x3 n_tstack n_gstack g_day g_near g_shows H locs ls hW hS hl hv
      refine lv_iload_n hx hb dX6_thinkSigned_16 rfl (lv_at hl 3 rfl) ?_
      refine lv_aload_n hx hb dX6_thinkSigned_17 rfl (lv_at hl 0 rfl) ?_
      refine q_get C kc6 hW 0 rfl 0 (by decide) fl_X6_10 rfl rfl dX6_thinkSigned_18 ?_
      refine q_getN C kc4 hW 1 rfl 0 (by decide) nf_X6_68 rfl rfl dX6_thinkSigned_21 ?_
      refine lv_icmp_ge (tgt := 43) hx hb dX6_thinkSigned_24 (by decide) (fun c_3 => ?_) (fun c_3 => ?_)
      · replace hv := hv.1 c_3
        refine lv_iconst (v := 0) hx hb dX6_thinkSigned_43 kic_0 ?_
        refine lv_istore_n (lv' := [(3, .int (0 : Int32)), (0, .ref (b 0)), (1, .int p1), (2, .int p2)]) hx hb dX6_thinkSigned_44 rfl hl (by decide) rfl (fun ls hl => ?_)
        obtain ⟨n_7, hv⟩ := hv
        exact h_l_X6_thinkSigned_45 n_7 (0 : Int32) n_tstack n_gstack g_day g_near g_shows H locs ls hW hS (lv_sub hl [1, 3, 0] rfl) hv
      · replace hv := hv.2 c_3
        refine lv_aload_n hx hb dX6_thinkSigned_27 rfl (lv_at hl 0 rfl) ?_
        refine q_get C kc6 hW 0 rfl 4 (by decide) fl_X6_26 rfl rfl dX6_thinkSigned_28 ?_
        refine q_getN C kc3 hW 13 rfl 1 (by decide) nf_X6_91 rfl rfl dX6_thinkSigned_31 ?_
        refine lv_iload_n hx hb dX6_thinkSigned_34 rfl (lv_at hl 3 rfl) ?_
        refine lv_iload_n hx hb dX6_thinkSigned_35 rfl (lv_at hl 1 rfl) ?_
        obtain ⟨h_8, hv⟩ := hv
        refine q_iast C hW hS 15 rfl h_8 dX6_thinkSigned_36 (fun H locs hW hS => ?_)
        have hW : wo G A (wd_X6_16 G b images n_people n_taped n_waiting n_z n_kind n_em n_day n_near n_shows n_tmost n_tsize n_tsteps n_tstack n_gmost n_gsize n_gsteps n_gstack g_day g_near (upd g_shows x3.toNatClampNeg p1)) H := hW
        refine lv_iinc (v := (x3 + 1)) (lv' := [(3, .int (x3 + 1)), (0, .ref (b 0)), (1, .int p1), (2, .int p2)]) hx hb dX6_thinkSigned_37 hl (k := 3) rfl rfl (by decide) rfl (fun ls hl => ?_)
        refine lv_goto (tgt := 16) hx hb dX6_thinkSigned_40 (by decide) ?_
        exact ih (x3 + 1) n_tstack n_gstack g_day g_near (upd g_shows x3.toNatClampNeg p1) H locs ls hW hS (lv_sub hl [1, 2, 3, 0] rfl) hv
  refine lv_aload_n hx hb dX6_thinkSigned_0 rfl (lv_at hl 0 rfl) ?_
  refine q_get C kc6 hW 0 rfl 4 (by decide) fl_X6_26 rfl rfl dX6_thinkSigned_1 ?_
  refine lv_aload_n hx hb dX6_thinkSigned_4 rfl (lv_at hl 0 rfl) ?_
  refine q_get C kc6 hW 0 rfl 0 (by decide) fl_X6_10 rfl rfl dX6_thinkSigned_5 ?_
  refine q_getN C kc4 hW 1 rfl 4 (by decide) nf_X6_85 rfl rfl dX6_thinkSigned_8 ?_
  refine q_callNv (rest := []) (n := 1) C (c_X3_copy l G (fun k => b (k + 34)) (fun k => b (k + 5)) g_day g_near g_shows n_day n_near n_shows _ hv) nm_X6_260 kb_X3_copy rfl ⟨⟨rfl, rfl⟩, (Nat.le_of_ble_eq_true rfl), (Nat.le_of_ble_eq_true rfl)⟩ hW hS [13, 14, 15, 4, 5, 6] rfl rfl kc3 (q0 := 13) rfl hl.1 rfl (Nat.le_of_ble_eq_true rfl) dX6_thinkSigned_11 ⟨Nat.zero_le _, Nat.zero_le _⟩ (fun u_2 H locs hv hW hS => ?_)
  obtain ⟨g_day_1, g_near_1, g_shows_1⟩ := u_2
  try dsimp only at hv
  have hW : wo G A (wd_X6_16 G b images n_people n_taped n_waiting n_z n_kind n_em n_day n_near n_shows n_tmost n_tsize n_tsteps n_tstack n_gmost n_gsize n_gsteps n_gstack g_day_1 g_near_1 g_shows_1) H := hW
  refine lv_iconst (v := 0) hx hb dX6_thinkSigned_14 kic_0 ?_
  refine lv_istore_n (lv' := [(3, .int (0 : Int32)), (0, .ref (b 0)), (1, .int p1), (2, .int p2)]) hx hb dX6_thinkSigned_15 rfl hl (by decide) rfl (fun ls hl => ?_)
  obtain ⟨n_9, hv⟩ := hv
  exact h_l_X6_thinkSigned_16 n_9 (0 : Int32) n_tstack n_gstack g_day_1 g_near_1 g_shows_1 H locs ls hW hS (lv_sub hl [1, 2, 3, 0] rfl) hv
set_option maxHeartbeats 4000000 in
set_option maxRecDepth 100000 in
theorem c_J6_bitCount_0f7a4 (l : Launch) (G : Gt) (p1 : Int32) (K : Int32 → Prop) (hv : v_J6_bitCount_0f7a4 p1 K) : CI l G yJ6_bitCount_0f7a4 (.code yJ6_bitCount_0f7a4 cJ6_bitCount_0f7a4 1 (some .int) :: wsG) (rmm 0 0) [.int p1] [] (S := Unit) (fun _ => []) (fun r u => K r) := by
  refine ci_intro (by decide) rfl (fun _ => rfl) (Nat.le_of_ble_eq_true rfl) ?_
  intro p e s m args below meth c A H ls Q C hW hS hl ret
  have hx := C.1.1
  have hb := C.1.2.1
  generalize hls : ([] : List Loc) = locs at hS ⊢
  have hl : lv_has ls 1 [(0, .int p1)] := hl
  refine lv_iload_n hx hb dJ6_bitCount_0f7a4_0 rfl (lv_at hl 0 rfl) ?_
  refine lv_iload_n hx hb dJ6_bitCount_0f7a4_1 rfl (lv_at hl 0 rfl) ?_
  refine lv_iconst (v := 1) hx hb dJ6_bitCount_0f7a4_2 kic_1 ?_
  refine lv_iushr hx hb dJ6_bitCount_0f7a4_3 rfl ?_
  refine lv_ldcw (v := 1431655765) hx hb C.1.2.2.2.1 (C.hts kc_J6_265) dJ6_bitCount_0f7a4_4 ?_
  refine lv_iand hx hb dJ6_bitCount_0f7a4_7 ?_
  refine lv_isub hx hb dJ6_bitCount_0f7a4_8 ?_
  refine lv_istore_n (lv' := [(0, .int (p1 - (((p1.toUInt32 >>> ((1 : Int32).toUInt32 &&& Int32.toUInt32 31)).toInt32) &&& (1431655765 : Int32))))]) hx hb dJ6_bitCount_0f7a4_9 rfl hl (by decide) rfl (fun ls hl => ?_)
  refine lv_iload_n hx hb dJ6_bitCount_0f7a4_10 rfl (lv_at hl 0 rfl) ?_
  refine lv_ldcw (v := 858993459) hx hb C.1.2.2.2.1 (C.hts kc_J6_266) dJ6_bitCount_0f7a4_11 ?_
  refine lv_iand hx hb dJ6_bitCount_0f7a4_14 ?_
  refine lv_iload_n hx hb dJ6_bitCount_0f7a4_15 rfl (lv_at hl 0 rfl) ?_
  refine lv_iconst (v := 2) hx hb dJ6_bitCount_0f7a4_16 kic_2 ?_
  refine lv_iushr hx hb dJ6_bitCount_0f7a4_17 rfl ?_
  refine lv_ldcw (v := 858993459) hx hb C.1.2.2.2.1 (C.hts kc_J6_266) dJ6_bitCount_0f7a4_18 ?_
  refine lv_iand hx hb dJ6_bitCount_0f7a4_21 ?_
  refine lv_iadd hx hb dJ6_bitCount_0f7a4_22 ?_
  refine lv_istore_n (lv' := [(0, .int (((p1 - (((p1.toUInt32 >>> ((1 : Int32).toUInt32 &&& Int32.toUInt32 31)).toInt32) &&& (1431655765 : Int32))) &&& (858993459 : Int32)) + ((((p1 - (((p1.toUInt32 >>> ((1 : Int32).toUInt32 &&& Int32.toUInt32 31)).toInt32) &&& (1431655765 : Int32))).toUInt32 >>> ((2 : Int32).toUInt32 &&& Int32.toUInt32 31)).toInt32) &&& (858993459 : Int32))))]) hx hb dJ6_bitCount_0f7a4_23 rfl hl (by decide) rfl (fun ls hl => ?_)
  refine lv_iload_n hx hb dJ6_bitCount_0f7a4_24 rfl (lv_at hl 0 rfl) ?_
  refine lv_iload_n hx hb dJ6_bitCount_0f7a4_25 rfl (lv_at hl 0 rfl) ?_
  refine lv_iconst (v := 4) hx hb dJ6_bitCount_0f7a4_26 kic_4 ?_
  refine lv_iushr hx hb dJ6_bitCount_0f7a4_27 rfl ?_
  refine lv_iadd hx hb dJ6_bitCount_0f7a4_28 ?_
  refine lv_ldcw (v := 252645135) hx hb C.1.2.2.2.1 (C.hts kc_J6_267) dJ6_bitCount_0f7a4_29 ?_
  refine lv_iand hx hb dJ6_bitCount_0f7a4_32 ?_
  refine lv_istore_n (lv' := [(0, .int (((((p1 - (((p1.toUInt32 >>> ((1 : Int32).toUInt32 &&& Int32.toUInt32 31)).toInt32) &&& (1431655765 : Int32))) &&& (858993459 : Int32)) + ((((p1 - (((p1.toUInt32 >>> ((1 : Int32).toUInt32 &&& Int32.toUInt32 31)).toInt32) &&& (1431655765 : Int32))).toUInt32 >>> ((2 : Int32).toUInt32 &&& Int32.toUInt32 31)).toInt32) &&& (858993459 : Int32))) + (((((p1 - (((p1.toUInt32 >>> ((1 : Int32).toUInt32 &&& Int32.toUInt32 31)).toInt32) &&& (1431655765 : Int32))) &&& (858993459 : Int32)) + ((((p1 - (((p1.toUInt32 >>> ((1 : Int32).toUInt32 &&& Int32.toUInt32 31)).toInt32) &&& (1431655765 : Int32))).toUInt32 >>> ((2 : Int32).toUInt32 &&& Int32.toUInt32 31)).toInt32) &&& (858993459 : Int32))).toUInt32 >>> ((4 : Int32).toUInt32 &&& Int32.toUInt32 31)).toInt32)) &&& (252645135 : Int32)))]) hx hb dJ6_bitCount_0f7a4_33 rfl hl (by decide) rfl (fun ls hl => ?_)
  refine lv_iload_n hx hb dJ6_bitCount_0f7a4_34 rfl (lv_at hl 0 rfl) ?_
  refine lv_iload_n hx hb dJ6_bitCount_0f7a4_35 rfl (lv_at hl 0 rfl) ?_
  refine lv_bipush (v := 8) hx hb dJ6_bitCount_0f7a4_36 kbp_8 ?_
  refine lv_iushr hx hb dJ6_bitCount_0f7a4_38 rfl ?_
  refine lv_iadd hx hb dJ6_bitCount_0f7a4_39 ?_
  refine lv_istore_n (lv' := [(0, .int ((((((p1 - (((p1.toUInt32 >>> ((1 : Int32).toUInt32 &&& Int32.toUInt32 31)).toInt32) &&& (1431655765 : Int32))) &&& (858993459 : Int32)) + ((((p1 - (((p1.toUInt32 >>> ((1 : Int32).toUInt32 &&& Int32.toUInt32 31)).toInt32) &&& (1431655765 : Int32))).toUInt32 >>> ((2 : Int32).toUInt32 &&& Int32.toUInt32 31)).toInt32) &&& (858993459 : Int32))) + (((((p1 - (((p1.toUInt32 >>> ((1 : Int32).toUInt32 &&& Int32.toUInt32 31)).toInt32) &&& (1431655765 : Int32))) &&& (858993459 : Int32)) + ((((p1 - (((p1.toUInt32 >>> ((1 : Int32).toUInt32 &&& Int32.toUInt32 31)).toInt32) &&& (1431655765 : Int32))).toUInt32 >>> ((2 : Int32).toUInt32 &&& Int32.toUInt32 31)).toInt32) &&& (858993459 : Int32))).toUInt32 >>> ((4 : Int32).toUInt32 &&& Int32.toUInt32 31)).toInt32)) &&& (252645135 : Int32)) + (((((((p1 - (((p1.toUInt32 >>> ((1 : Int32).toUInt32 &&& Int32.toUInt32 31)).toInt32) &&& (1431655765 : Int32))) &&& (858993459 : Int32)) + ((((p1 - (((p1.toUInt32 >>> ((1 : Int32).toUInt32 &&& Int32.toUInt32 31)).toInt32) &&& (1431655765 : Int32))).toUInt32 >>> ((2 : Int32).toUInt32 &&& Int32.toUInt32 31)).toInt32) &&& (858993459 : Int32))) + (((((p1 - (((p1.toUInt32 >>> ((1 : Int32).toUInt32 &&& Int32.toUInt32 31)).toInt32) &&& (1431655765 : Int32))) &&& (858993459 : Int32)) + ((((p1 - (((p1.toUInt32 >>> ((1 : Int32).toUInt32 &&& Int32.toUInt32 31)).toInt32) &&& (1431655765 : Int32))).toUInt32 >>> ((2 : Int32).toUInt32 &&& Int32.toUInt32 31)).toInt32) &&& (858993459 : Int32))).toUInt32 >>> ((4 : Int32).toUInt32 &&& Int32.toUInt32 31)).toInt32)) &&& (252645135 : Int32)).toUInt32 >>> ((8 : Int32).toUInt32 &&& Int32.toUInt32 31)).toInt32)))]) hx hb dJ6_bitCount_0f7a4_40 rfl hl (by decide) rfl (fun ls hl => ?_)
  refine lv_iload_n hx hb dJ6_bitCount_0f7a4_41 rfl (lv_at hl 0 rfl) ?_
  refine lv_iload_n hx hb dJ6_bitCount_0f7a4_42 rfl (lv_at hl 0 rfl) ?_
  refine lv_bipush (v := 16) hx hb dJ6_bitCount_0f7a4_43 kbp_16 ?_
  refine lv_iushr hx hb dJ6_bitCount_0f7a4_45 rfl ?_
  refine lv_iadd hx hb dJ6_bitCount_0f7a4_46 ?_
  refine lv_istore_n (lv' := [(0, .int (((((((p1 - (((p1.toUInt32 >>> ((1 : Int32).toUInt32 &&& Int32.toUInt32 31)).toInt32) &&& (1431655765 : Int32))) &&& (858993459 : Int32)) + ((((p1 - (((p1.toUInt32 >>> ((1 : Int32).toUInt32 &&& Int32.toUInt32 31)).toInt32) &&& (1431655765 : Int32))).toUInt32 >>> ((2 : Int32).toUInt32 &&& Int32.toUInt32 31)).toInt32) &&& (858993459 : Int32))) + (((((p1 - (((p1.toUInt32 >>> ((1 : Int32).toUInt32 &&& Int32.toUInt32 31)).toInt32) &&& (1431655765 : Int32))) &&& (858993459 : Int32)) + ((((p1 - (((p1.toUInt32 >>> ((1 : Int32).toUInt32 &&& Int32.toUInt32 31)).toInt32) &&& (1431655765 : Int32))).toUInt32 >>> ((2 : Int32).toUInt32 &&& Int32.toUInt32 31)).toInt32) &&& (858993459 : Int32))).toUInt32 >>> ((4 : Int32).toUInt32 &&& Int32.toUInt32 31)).toInt32)) &&& (252645135 : Int32)) + (((((((p1 - (((p1.toUInt32 >>> ((1 : Int32).toUInt32 &&& Int32.toUInt32 31)).toInt32) &&& (1431655765 : Int32))) &&& (858993459 : Int32)) + ((((p1 - (((p1.toUInt32 >>> ((1 : Int32).toUInt32 &&& Int32.toUInt32 31)).toInt32) &&& (1431655765 : Int32))).toUInt32 >>> ((2 : Int32).toUInt32 &&& Int32.toUInt32 31)).toInt32) &&& (858993459 : Int32))) + (((((p1 - (((p1.toUInt32 >>> ((1 : Int32).toUInt32 &&& Int32.toUInt32 31)).toInt32) &&& (1431655765 : Int32))) &&& (858993459 : Int32)) + ((((p1 - (((p1.toUInt32 >>> ((1 : Int32).toUInt32 &&& Int32.toUInt32 31)).toInt32) &&& (1431655765 : Int32))).toUInt32 >>> ((2 : Int32).toUInt32 &&& Int32.toUInt32 31)).toInt32) &&& (858993459 : Int32))).toUInt32 >>> ((4 : Int32).toUInt32 &&& Int32.toUInt32 31)).toInt32)) &&& (252645135 : Int32)).toUInt32 >>> ((8 : Int32).toUInt32 &&& Int32.toUInt32 31)).toInt32)) + ((((((((p1 - (((p1.toUInt32 >>> ((1 : Int32).toUInt32 &&& Int32.toUInt32 31)).toInt32) &&& (1431655765 : Int32))) &&& (858993459 : Int32)) + ((((p1 - (((p1.toUInt32 >>> ((1 : Int32).toUInt32 &&& Int32.toUInt32 31)).toInt32) &&& (1431655765 : Int32))).toUInt32 >>> ((2 : Int32).toUInt32 &&& Int32.toUInt32 31)).toInt32) &&& (858993459 : Int32))) + (((((p1 - (((p1.toUInt32 >>> ((1 : Int32).toUInt32 &&& Int32.toUInt32 31)).toInt32) &&& (1431655765 : Int32))) &&& (858993459 : Int32)) + ((((p1 - (((p1.toUInt32 >>> ((1 : Int32).toUInt32 &&& Int32.toUInt32 31)).toInt32) &&& (1431655765 : Int32))).toUInt32 >>> ((2 : Int32).toUInt32 &&& Int32.toUInt32 31)).toInt32) &&& (858993459 : Int32))).toUInt32 >>> ((4 : Int32).toUInt32 &&& Int32.toUInt32 31)).toInt32)) &&& (252645135 : Int32)) + (((((((p1 - (((p1.toUInt32 >>> ((1 : Int32).toUInt32 &&& Int32.toUInt32 31)).toInt32) &&& (1431655765 : Int32))) &&& (858993459 : Int32)) + ((((p1 - (((p1.toUInt32 >>> ((1 : Int32).toUInt32 &&& Int32.toUInt32 31)).toInt32) &&& (1431655765 : Int32))).toUInt32 >>> ((2 : Int32).toUInt32 &&& Int32.toUInt32 31)).toInt32) &&& (858993459 : Int32))) + (((((p1 - (((p1.toUInt32 >>> ((1 : Int32).toUInt32 &&& Int32.toUInt32 31)).toInt32) &&& (1431655765 : Int32))) &&& (858993459 : Int32)) + ((((p1 - (((p1.toUInt32 >>> ((1 : Int32).toUInt32 &&& Int32.toUInt32 31)).toInt32) &&& (1431655765 : Int32))).toUInt32 >>> ((2 : Int32).toUInt32 &&& Int32.toUInt32 31)).toInt32) &&& (858993459 : Int32))).toUInt32 >>> ((4 : Int32).toUInt32 &&& Int32.toUInt32 31)).toInt32)) &&& (252645135 : Int32)).toUInt32 >>> ((8 : Int32).toUInt32 &&& Int32.toUInt32 31)).toInt32)).toUInt32 >>> ((16 : Int32).toUInt32 &&& Int32.toUInt32 31)).toInt32)))]) hx hb dJ6_bitCount_0f7a4_47 rfl hl (by decide) rfl (fun ls hl => ?_)
  refine lv_iload_n hx hb dJ6_bitCount_0f7a4_48 rfl (lv_at hl 0 rfl) ?_
  refine lv_bipush (v := 63) hx hb dJ6_bitCount_0f7a4_49 kbp_63 ?_
  refine lv_iand hx hb dJ6_bitCount_0f7a4_51 ?_
  exact ret () ((((((((p1 - (((p1.toUInt32 >>> ((1 : Int32).toUInt32 &&& Int32.toUInt32 31)).toInt32) &&& (1431655765 : Int32))) &&& (858993459 : Int32)) + ((((p1 - (((p1.toUInt32 >>> ((1 : Int32).toUInt32 &&& Int32.toUInt32 31)).toInt32) &&& (1431655765 : Int32))).toUInt32 >>> ((2 : Int32).toUInt32 &&& Int32.toUInt32 31)).toInt32) &&& (858993459 : Int32))) + (((((p1 - (((p1.toUInt32 >>> ((1 : Int32).toUInt32 &&& Int32.toUInt32 31)).toInt32) &&& (1431655765 : Int32))) &&& (858993459 : Int32)) + ((((p1 - (((p1.toUInt32 >>> ((1 : Int32).toUInt32 &&& Int32.toUInt32 31)).toInt32) &&& (1431655765 : Int32))).toUInt32 >>> ((2 : Int32).toUInt32 &&& Int32.toUInt32 31)).toInt32) &&& (858993459 : Int32))).toUInt32 >>> ((4 : Int32).toUInt32 &&& Int32.toUInt32 31)).toInt32)) &&& (252645135 : Int32)) + (((((((p1 - (((p1.toUInt32 >>> ((1 : Int32).toUInt32 &&& Int32.toUInt32 31)).toInt32) &&& (1431655765 : Int32))) &&& (858993459 : Int32)) + ((((p1 - (((p1.toUInt32 >>> ((1 : Int32).toUInt32 &&& Int32.toUInt32 31)).toInt32) &&& (1431655765 : Int32))).toUInt32 >>> ((2 : Int32).toUInt32 &&& Int32.toUInt32 31)).toInt32) &&& (858993459 : Int32))) + (((((p1 - (((p1.toUInt32 >>> ((1 : Int32).toUInt32 &&& Int32.toUInt32 31)).toInt32) &&& (1431655765 : Int32))) &&& (858993459 : Int32)) + ((((p1 - (((p1.toUInt32 >>> ((1 : Int32).toUInt32 &&& Int32.toUInt32 31)).toInt32) &&& (1431655765 : Int32))).toUInt32 >>> ((2 : Int32).toUInt32 &&& Int32.toUInt32 31)).toInt32) &&& (858993459 : Int32))).toUInt32 >>> ((4 : Int32).toUInt32 &&& Int32.toUInt32 31)).toInt32)) &&& (252645135 : Int32)).toUInt32 >>> ((8 : Int32).toUInt32 &&& Int32.toUInt32 31)).toInt32)) + ((((((((p1 - (((p1.toUInt32 >>> ((1 : Int32).toUInt32 &&& Int32.toUInt32 31)).toInt32) &&& (1431655765 : Int32))) &&& (858993459 : Int32)) + ((((p1 - (((p1.toUInt32 >>> ((1 : Int32).toUInt32 &&& Int32.toUInt32 31)).toInt32) &&& (1431655765 : Int32))).toUInt32 >>> ((2 : Int32).toUInt32 &&& Int32.toUInt32 31)).toInt32) &&& (858993459 : Int32))) + (((((p1 - (((p1.toUInt32 >>> ((1 : Int32).toUInt32 &&& Int32.toUInt32 31)).toInt32) &&& (1431655765 : Int32))) &&& (858993459 : Int32)) + ((((p1 - (((p1.toUInt32 >>> ((1 : Int32).toUInt32 &&& Int32.toUInt32 31)).toInt32) &&& (1431655765 : Int32))).toUInt32 >>> ((2 : Int32).toUInt32 &&& Int32.toUInt32 31)).toInt32) &&& (858993459 : Int32))).toUInt32 >>> ((4 : Int32).toUInt32 &&& Int32.toUInt32 31)).toInt32)) &&& (252645135 : Int32)) + (((((((p1 - (((p1.toUInt32 >>> ((1 : Int32).toUInt32 &&& Int32.toUInt32 31)).toInt32) &&& (1431655765 : Int32))) &&& (858993459 : Int32)) + ((((p1 - (((p1.toUInt32 >>> ((1 : Int32).toUInt32 &&& Int32.toUInt32 31)).toInt32) &&& (1431655765 : Int32))).toUInt32 >>> ((2 : Int32).toUInt32 &&& Int32.toUInt32 31)).toInt32) &&& (858993459 : Int32))) + (((((p1 - (((p1.toUInt32 >>> ((1 : Int32).toUInt32 &&& Int32.toUInt32 31)).toInt32) &&& (1431655765 : Int32))) &&& (858993459 : Int32)) + ((((p1 - (((p1.toUInt32 >>> ((1 : Int32).toUInt32 &&& Int32.toUInt32 31)).toInt32) &&& (1431655765 : Int32))).toUInt32 >>> ((2 : Int32).toUInt32 &&& Int32.toUInt32 31)).toInt32) &&& (858993459 : Int32))).toUInt32 >>> ((4 : Int32).toUInt32 &&& Int32.toUInt32 31)).toInt32)) &&& (252645135 : Int32)).toUInt32 >>> ((8 : Int32).toUInt32 &&& Int32.toUInt32 31)).toInt32)).toUInt32 >>> ((16 : Int32).toUInt32 &&& Int32.toUInt32 31)).toInt32)) &&& (63 : Int32)) H locs ls _ rfl hW hS hv dJ6_bitCount_0f7a4_52
set_option maxHeartbeats 4000000 in
set_option maxRecDepth 100000 in
theorem c_X6_nearIfSigned (l : Launch) (G : Gt) (b : Nat → Nat) (images : Int32) (t_day : Int32) (t_near : Nat → Int32) (g_day : Int32) (g_near : Nat → Int32) (p1 : Int32) (p2 : Int32) (K : Int32 → Prop) (hv : v_X6_nearIfSigned p1 p2 t_near g_near K) : CI l G yX6_nearIfSigned (.code yX6_nearIfSigned cX6_nearIfSigned 3 (some .int) :: wsG) (rmm 0 0) [.ref (b 0), .int p1, .int p2] (wd_X6_17 G b images t_day t_near g_day g_near) (S := Unit) (fun u => wd_X6_17 G b images t_day t_near g_day g_near) (fun r u => K r) := by
  refine ci_intro (by decide) rfl (fun _ => rfl) (Nat.le_of_ble_eq_true rfl) ?_
  intro p e s m args below meth c A H ls Q C hW hS hl ret
  have hx := C.1.1
  have hb := C.1.2.1
  generalize hls : ([] : List Loc) = locs at hS ⊢
  have hl : lv_has ls 3 [(0, .ref (b 0)), (1, .int p1), (2, .int p2)] := hl
  refine lv_iload_n hx hb dX6_nearIfSigned_0 rfl (lv_at hl 2 rfl) ?_
  refine lv_iload_n hx hb dX6_nearIfSigned_1 rfl (lv_at hl 1 rfl) ?_
  refine lv_ishr hx hb dX6_nearIfSigned_2 ?_
  refine lv_iconst (v := 1) hx hb dX6_nearIfSigned_3 kic_1 ?_
  refine lv_iand hx hb dX6_nearIfSigned_4 ?_
  refine lv_if_eq (tgt := 20) hx hb dX6_nearIfSigned_5 (by decide) (fun c_1 => ?_) (fun c_1 => ?_)
  · replace hv := hv.1 c_1
    refine lv_aload_n hx hb dX6_nearIfSigned_20 rfl (lv_at hl 0 rfl) ?_
    refine q_get C kc6 hW 0 rfl 3 (by decide) fl_X6_22 rfl rfl dX6_nearIfSigned_21 ?_
    refine q_getN C kc3 hW 1 rfl 0 (by decide) nf_X6_88 rfl rfl dX6_nearIfSigned_24 ?_
    refine lv_iload_n hx hb dX6_nearIfSigned_27 rfl (lv_at hl 1 rfl) ?_
    obtain ⟨h_2, hv⟩ := hv
    refine q_iald C hW 2 rfl h_2 dX6_nearIfSigned_28 ?_
    exact ret () (t_near p1.toNatClampNeg) H locs ls _ rfl hW hS hv dX6_nearIfSigned_29
  · replace hv := hv.2 c_1
    refine lv_aload_n hx hb dX6_nearIfSigned_8 rfl (lv_at hl 0 rfl) ?_
    refine q_get C kc6 hW 0 rfl 4 (by decide) fl_X6_26 rfl rfl dX6_nearIfSigned_9 ?_
    refine q_getN C kc3 hW 3 rfl 0 (by decide) nf_X6_88 rfl rfl dX6_nearIfSigned_12 ?_
    refine lv_iload_n hx hb dX6_nearIfSigned_15 rfl (lv_at hl 1 rfl) ?_
    obtain ⟨h_3, hv⟩ := hv
    refine q_iald C hW 4 rfl h_3 dX6_nearIfSigned_16 ?_
    refine lv_goto (tgt := 29) hx hb dX6_nearIfSigned_17 (by decide) ?_
    exact ret () (g_near p1.toNatClampNeg) H locs ls _ rfl hW hS hv dX6_nearIfSigned_29
set_option maxHeartbeats 4000000 in
set_option maxRecDepth 100000 in
theorem c_X6_nearestIfSigned (l : Launch) (G : Gt) (b : Nat → Nat) (images : Int32) (n_people : Int32) (n_taped : Int32) (n_waiting : Int32) (n_z : Int32) (t_day : Int32) (t_near : Nat → Int32) (g_day : Int32) (g_near : Nat → Int32) (p1 : Int32) (K : Int32 → Prop) (hv : v_X6_nearestIfSigned p1 n_people t_near g_near K) : CI l G yX6_nearestIfSigned (.code yX6_nearestIfSigned cX6_nearestIfSigned 4 (some .int) :: wsG) (rmm 1 22) [.ref (b 0), .int p1] (wd_X6_18 G b images n_people n_taped n_waiting n_z t_day t_near g_day g_near) (S := Unit) (fun u => wd_X6_18 G b images n_people n_taped n_waiting n_z t_day t_near g_day g_near) (fun r u => K r) := by
  refine ci_intro (by decide) rfl (fun _ => rfl) (Nat.le_of_ble_eq_true rfl) ?_
  intro p e s m args below meth c A H ls Q C hW hS hl ret
  have hx := C.1.1
  have hb := C.1.2.1
  generalize hls : ([] : List Loc) = locs at hS ⊢
  have hl : lv_has ls 4 [(0, .ref (b 0)), (1, .int p1)] := hl
  have h_j_X6_nearestIfSigned_36 : ∀ (B4 : Int32 → Int32 → Prop) (hB4 : ∀ (x2 : Int32) (x3 : Int32) (H : Heap) (locs : List Loc) (ls : Array Slot), wo G A (wd_X6_18 G b images n_people n_taped n_waiting n_z t_day t_near g_day g_near) H → va_S A s.heap H locs → lv_has ls 4 [(0, .ref (b 0)), (1, .int p1), (2, .int x2), (3, .int x3)] → B4 x2 x3 → W p l e (rmm 1 22) s m args below meth c H locs 0 0 Q (F0 m 4 ls [])), ∀ (x2 : Int32) (x3 : Int32) (H : Heap) (locs : List Loc) (ls : Array Slot), wo G A (wd_X6_18 G b images n_people n_taped n_waiting n_z t_day t_near g_day g_near) H → va_S A s.heap H locs → lv_has ls 4 [(0, .ref (b 0)), (1, .int p1), (2, .int x2), (3, .int x3)] → j_X6_nearestIfSigned_36 p1 n_people t_near g_near B4 K x2 x3 → W p l e (rmm 1 22) s m args below meth c H locs 0 0 Q (F0 m 36 ls []) := by
    intro B4 hB4 x2 x3 H locs ls hW hS hl hv
    refine lv_iinc (v := (x3 + 1)) (lv' := [(3, .int (x3 + 1)), (0, .ref (b 0)), (1, .int p1), (2, .int x2)]) hx hb dX6_nearestIfSigned_36 hl (k := 3) rfl rfl (by decide) rfl (fun ls hl => ?_)
    refine lv_goto (tgt := 4) hx hb dX6_nearestIfSigned_39 (by decide) ?_
    exact hB4 x2 (x3 + 1) H locs ls hW hS (lv_sub hl [1, 2, 3, 0] rfl) hv
  have h_j_X6_nearestIfSigned_34 : ∀ (B4 : Int32 → Int32 → Prop) (hB4 : ∀ (x2 : Int32) (x3 : Int32) (H : Heap) (locs : List Loc) (ls : Array Slot), wo G A (wd_X6_18 G b images n_people n_taped n_waiting n_z t_day t_near g_day g_near) H → va_S A s.heap H locs → lv_has ls 4 [(0, .ref (b 0)), (1, .int p1), (2, .int x2), (3, .int x3)] → B4 x2 x3 → W p l e (rmm 1 22) s m args below meth c H locs 0 0 Q (F0 m 4 ls [])), ∀ (x3 : Int32) (H : Heap) (locs : List Loc) (ls : Array Slot), wo G A (wd_X6_18 G b images n_people n_taped n_waiting n_z t_day t_near g_day g_near) H → va_S A s.heap H locs → lv_has ls 4 [(0, .ref (b 0)), (1, .int p1), (3, .int x3)] → j_X6_nearestIfSigned_34 p1 n_people t_near g_near B4 K x3 → W p l e (rmm 1 22) s m args below meth c H locs 0 0 Q (F0 m 34 ls []) := by
    intro B4 hB4 x3 H locs ls hW hS hl hv
    refine lv_iload_n hx hb dX6_nearestIfSigned_34 rfl (lv_at hl 2 rfl) ?_
    refine lv_istore_n (lv' := [(2, .int x3), (0, .ref (b 0)), (1, .int p1), (3, .int x3)]) hx hb dX6_nearestIfSigned_35 rfl hl (by decide) rfl (fun ls hl => ?_)
    exact h_j_X6_nearestIfSigned_36 B4 hB4 x3 x3 H locs ls hW hS (lv_sub hl [1, 2, 0, 3] rfl) hv
  have h_l_X6_nearestIfSigned_4 : ∀ (n : Nat), ∀ (x2 : Int32) (x3 : Int32) (H : Heap) (locs : List Loc) (ls : Array Slot), wo G A (wd_X6_18 G b images n_people n_taped n_waiting n_z t_day t_near g_day g_near) H → va_S A s.heap H locs → lv_has ls 4 [(0, .ref (b 0)), (1, .int p1), (2, .int x2), (3, .int x3)] → l_X6_nearestIfSigned_4 p1 n_people t_near g_near K n x2 x3 → W p l e (rmm 1 22) s m args below meth c H locs 0 0 Q (F0 m 4 ls []) := by
    intro n
    induction n with
    | zero =>
      intro x2 x3 H locs ls hW hS hl hv
      exact False.elim hv
    | succ n ih =>
      intro x2 x3 H locs ls hW hS hl hv
      refine lv_iload_n hx hb dX6_nearestIfSigned_4 rfl (lv_at hl 3 rfl) ?_
      refine lv_aload_n hx hb dX6_nearestIfSigned_5 rfl (lv_at hl 0 rfl) ?_
      refine q_get C kc6 hW 0 rfl 0 (by decide) fl_X6_10 rfl rfl dX6_nearestIfSigned_6 ?_
      refine q_getN C kc4 hW 1 rfl 0 (by decide) nf_X6_68 rfl rfl dX6_nearestIfSigned_9 ?_
      refine lv_icmp_ge (tgt := 42) hx hb dX6_nearestIfSigned_12 (by decide) (fun c_1 => ?_) (fun c_1 => ?_)
      · replace hv := hv.1 c_1
        refine lv_iload_n hx hb dX6_nearestIfSigned_42 rfl (lv_at hl 2 rfl) ?_
        exact ret () x2 H locs ls _ rfl hW hS hv dX6_nearestIfSigned_43
      · replace hv := hv.2 c_1
        refine lv_iload_n hx hb dX6_nearestIfSigned_15 rfl (lv_at hl 2 rfl) ?_
        refine lv_if_lt (tgt := 34) hx hb dX6_nearestIfSigned_16 (by decide) (fun c_2 => ?_) (fun c_2 => ?_)
        · replace hv := hv.1 c_2
          exact h_j_X6_nearestIfSigned_34 (fun x2' x3' => l_X6_nearestIfSigned_4 p1 n_people t_near g_near K n x2' x3') ih x3 H locs ls hW hS (lv_sub hl [0, 1, 3] rfl) hv
        · replace hv := hv.2 c_2
          refine lv_aload_n hx hb dX6_nearestIfSigned_19 rfl (lv_at hl 0 rfl) ?_
          refine lv_iload_n hx hb dX6_nearestIfSigned_20 rfl (lv_at hl 3 rfl) ?_
          refine lv_iload_n hx hb dX6_nearestIfSigned_21 rfl (lv_at hl 1 rfl) ?_
          refine q_callV (rest := []) (n := 2) C (c_X6_nearIfSigned l G b images t_day t_near g_day g_near x3 p1 _ hv) ml_X6_263 kb_X6_nearIfSigned rfl ⟨⟨rfl, rfl⟩, (Nat.le_of_ble_eq_true rfl), (Nat.le_of_ble_eq_true rfl)⟩ hW hS [0, 2, 3, 4, 5] rfl rfl kc6 (q0 := 0) rfl hl.1 rfl (Nat.le_of_ble_eq_true rfl) dX6_nearestIfSigned_22 ⟨Nat.zero_le _, Nat.zero_le _⟩ (fun r_3 u_4 H locs hv hW hS => ?_)
          try dsimp only at hv
          refine lv_aload_n hx hb dX6_nearestIfSigned_25 rfl (lv_at hl 0 rfl) ?_
          refine lv_iload_n hx hb dX6_nearestIfSigned_26 rfl (lv_at hl 2 rfl) ?_
          refine lv_iload_n hx hb dX6_nearestIfSigned_27 rfl (lv_at hl 1 rfl) ?_
          refine q_callV (rest := [.int r_3]) (n := 2) C (c_X6_nearIfSigned l G b images t_day t_near g_day g_near x2 p1 _ hv) ml_X6_263 kb_X6_nearIfSigned rfl ⟨⟨rfl, rfl⟩, (Nat.le_of_ble_eq_true rfl), (Nat.le_of_ble_eq_true rfl)⟩ hW hS [0, 2, 3, 4, 5] rfl rfl kc6 (q0 := 0) rfl hl.1 rfl (Nat.le_of_ble_eq_true rfl) dX6_nearestIfSigned_28 ⟨Nat.zero_le _, Nat.zero_le _⟩ (fun r_5 u_6 H locs hv hW hS => ?_)
          try dsimp only at hv
          refine lv_icmp_le (tgt := 36) hx hb dX6_nearestIfSigned_31 (by decide) (fun c_7 => ?_) (fun c_7 => ?_)
          · replace hv := hv.1 c_7
            exact h_j_X6_nearestIfSigned_36 (fun x2' x3' => l_X6_nearestIfSigned_4 p1 n_people t_near g_near K n x2' x3') ih x2 x3 H locs ls hW hS (lv_sub hl [0, 1, 2, 3] rfl) hv
          · replace hv := hv.2 c_7
            exact h_j_X6_nearestIfSigned_34 (fun x2' x3' => l_X6_nearestIfSigned_4 p1 n_people t_near g_near K n x2' x3') ih x3 H locs ls hW hS (lv_sub hl [0, 1, 3] rfl) hv
  refine lv_iconst (v := (-1)) hx hb dX6_nearestIfSigned_0 kic_m1 ?_
  refine lv_istore_n (lv' := [(2, .int (-1 : Int32)), (0, .ref (b 0)), (1, .int p1)]) hx hb dX6_nearestIfSigned_1 rfl hl (by decide) rfl (fun ls hl => ?_)
  refine lv_iconst (v := 0) hx hb dX6_nearestIfSigned_2 kic_0 ?_
  refine lv_istore_n (lv' := [(3, .int (0 : Int32)), (2, .int (-1 : Int32)), (0, .ref (b 0)), (1, .int p1)]) hx hb dX6_nearestIfSigned_3 rfl hl (by decide) rfl (fun ls hl => ?_)
  obtain ⟨n_8, hv⟩ := hv
  exact h_l_X6_nearestIfSigned_4 n_8 (-1 : Int32) (0 : Int32) H locs ls hW hS (lv_sub hl [2, 3, 1, 0] rfl) hv
set_option maxHeartbeats 4000000 in
set_option maxRecDepth 100000 in
theorem c_X6_fewestFor (l : Launch) (G : Gt) (b : Nat → Nat) (images : Int32) (n_people : Int32) (n_taped : Int32) (n_waiting : Int32) (n_z : Int32) (t_day : Int32) (t_near : Nat → Int32) (g_day : Int32) (g_near : Nat → Int32) (p1 : Int32) (K : Int32 → Prop) (hv : v_X6_fewestFor p1 n_people t_near g_near K) : CI l G yX6_fewestFor (.code yX6_fewestFor cX6_fewestFor 5 (some .int) :: wsG) (rmm 2 45) [.ref (b 0), .int p1] (wd_X6_18 G b images n_people n_taped n_waiting n_z t_day t_near g_day g_near) (S := Unit) (fun u => wd_X6_18 G b images n_people n_taped n_waiting n_z t_day t_near g_day g_near) (fun r u => K r) := by
  refine ci_intro (by decide) rfl (fun _ => rfl) (Nat.le_of_ble_eq_true rfl) ?_
  intro p e s m args below meth c A H ls Q C hW hS hl ret
  have hx := C.1.1
  have hb := C.1.2.1
  generalize hls : ([] : List Loc) = locs at hS ⊢
  have hl : lv_has ls 5 [(0, .ref (b 0)), (1, .int p1)] := hl
  have h_j_X6_fewestFor_55 : ∀ (B4 : Int32 → Int32 → Prop) (hB4 : ∀ (x2 : Int32) (x3 : Int32) (H : Heap) (locs : List Loc) (ls : Array Slot), wo G A (wd_X6_18 G b images n_people n_taped n_waiting n_z t_day t_near g_day g_near) H → va_S A s.heap H locs → lv_has ls 5 [(0, .ref (b 0)), (1, .int p1), (2, .int x2), (3, .int x3)] → B4 x2 x3 → W p l e (rmm 2 45) s m args below meth c H locs 0 0 Q (F0 m 4 ls [])), ∀ (x2 : Int32) (x3 : Int32) (H : Heap) (locs : List Loc) (ls : Array Slot), wo G A (wd_X6_18 G b images n_people n_taped n_waiting n_z t_day t_near g_day g_near) H → va_S A s.heap H locs → lv_has ls 5 [(0, .ref (b 0)), (1, .int p1), (2, .int x2), (3, .int x3)] → j_X6_fewestFor_55 p1 n_people t_near g_near B4 K x2 x3 → W p l e (rmm 2 45) s m args below meth c H locs 0 0 Q (F0 m 55 ls []) := by
    intro B4 hB4 x2 x3 H locs ls hW hS hl hv
    refine lv_iinc (v := (x3 + 1)) (lv' := [(3, .int (x3 + 1)), (0, .ref (b 0)), (1, .int p1), (2, .int x2)]) hx hb dX6_fewestFor_55 hl (k := 3) rfl rfl (by decide) rfl (fun ls hl => ?_)
    refine lv_goto (tgt := 4) hx hb dX6_fewestFor_58 (by decide) ?_
    exact hB4 x2 (x3 + 1) H locs ls hW hS (lv_sub hl [1, 2, 3, 0] rfl) hv
  have h_j_X6_fewestFor_37 : ∀ (B4 : Int32 → Int32 → Prop) (hB4 : ∀ (x2 : Int32) (x3 : Int32) (H : Heap) (locs : List Loc) (ls : Array Slot), wo G A (wd_X6_18 G b images n_people n_taped n_waiting n_z t_day t_near g_day g_near) H → va_S A s.heap H locs → lv_has ls 5 [(0, .ref (b 0)), (1, .int p1), (2, .int x2), (3, .int x3)] → B4 x2 x3 → W p l e (rmm 2 45) s m args below meth c H locs 0 0 Q (F0 m 4 ls [])), ∀ (x2 : Int32) (x3 : Int32) (t0 : Int32) (H : Heap) (locs : List Loc) (ls : Array Slot), t0 = 0 ∨ t0 = 1 → wo G A (wd_X6_18 G b images n_people n_taped n_waiting n_z t_day t_near g_day g_near) H → va_S A s.heap H locs → lv_has ls 5 [(0, .ref (b 0)), (1, .int p1), (2, .int x2), (3, .int x3)] → j_X6_fewestFor_37 p1 n_people t_near g_near B4 K x2 x3 t0 → W p l e (rmm 2 45) s m args below meth c H locs 0 0 Q (F0 m 37 ls [.int t0]) := by
    intro B4 hB4 x2 x3 t0 H locs ls hz_t0 hW hS hl hv
    refine lv_istore (lv' := [(4, .int t0), (0, .ref (b 0)), (1, .int p1), (2, .int x2), (3, .int x3)]) hx hb dX6_fewestFor_37 hl (by decide) rfl (fun ls hl => ?_)
    refine lv_iload hx hb dX6_fewestFor_39 (lv_at hl 0 rfl) ?_
    refine lv_if_eq (tgt := 55) hx hb dX6_fewestFor_41 (by decide) (fun c_3 => ?_) (fun c_3 => ?_)
    · replace hv := hv.1 c_3
      exact h_j_X6_fewestFor_55 B4 hB4 x2 x3 H locs ls hW hS (lv_sub hl [1, 2, 3, 4] rfl) hv
    · replace hv := hv.2 c_3
      refine lv_aload_n hx hb dX6_fewestFor_44 rfl (lv_at hl 1 rfl) ?_
      refine lv_iload_n hx hb dX6_fewestFor_45 rfl (lv_at hl 4 rfl) ?_
      refine q_callV (rest := []) (n := 1) C (c_X6_nearestIfSigned l G b images n_people n_taped n_waiting n_z t_day t_near g_day g_near x3 _ hv) ml_X6_266 kb_X6_nearestIfSigned rfl ⟨⟨rfl, rfl⟩, (Nat.le_of_ble_eq_true rfl), (Nat.le_of_ble_eq_true rfl)⟩ hW hS [0, 1, 2, 3, 4, 5] rfl rfl kc6 (q0 := 0) rfl hl.1 rfl (Nat.le_of_ble_eq_true rfl) dX6_fewestFor_46 ⟨Nat.zero_le _, Nat.zero_le _⟩ (fun r_4 u_5 H locs hv hW hS => ?_)
      try dsimp only at hv
      refine lv_iload_n hx hb dX6_fewestFor_49 rfl (lv_at hl 2 rfl) ?_
      refine lv_icmp_ne (tgt := 55) hx hb dX6_fewestFor_50 (by decide) (fun c_6 => ?_) (fun c_6 => ?_)
      · replace hv := hv.1 c_6
        exact h_j_X6_fewestFor_55 B4 hB4 x2 x3 H locs ls hW hS (lv_sub hl [1, 2, 3, 4] rfl) hv
      · replace hv := hv.2 c_6
        refine lv_iload_n hx hb dX6_fewestFor_53 rfl (lv_at hl 4 rfl) ?_
        refine lv_istore_n (lv' := [(2, .int x3), (4, .int t0), (0, .ref (b 0)), (1, .int p1), (3, .int x3)]) hx hb dX6_fewestFor_54 rfl hl (by decide) rfl (fun ls hl => ?_)
        exact h_j_X6_fewestFor_55 B4 hB4 x3 x3 H locs ls hW hS (lv_sub hl [2, 3, 0, 4] rfl) hv
  have h_j_X6_fewestFor_32 : ∀ (B4 : Int32 → Int32 → Prop) (hB4 : ∀ (x2 : Int32) (x3 : Int32) (H : Heap) (locs : List Loc) (ls : Array Slot), wo G A (wd_X6_18 G b images n_people n_taped n_waiting n_z t_day t_near g_day g_near) H → va_S A s.heap H locs → lv_has ls 5 [(0, .ref (b 0)), (1, .int p1), (2, .int x2), (3, .int x3)] → B4 x2 x3 → W p l e (rmm 2 45) s m args below meth c H locs 0 0 Q (F0 m 4 ls [])), ∀ (x2 : Int32) (x3 : Int32) (H : Heap) (locs : List Loc) (ls : Array Slot), wo G A (wd_X6_18 G b images n_people n_taped n_waiting n_z t_day t_near g_day g_near) H → va_S A s.heap H locs → lv_has ls 5 [(0, .ref (b 0)), (1, .int p1), (2, .int x2), (3, .int x3)] → j_X6_fewestFor_32 p1 n_people t_near g_near B4 K x2 x3 → W p l e (rmm 2 45) s m args below meth c H locs 0 0 Q (F0 m 32 ls []) := by
    intro B4 hB4 x2 x3 H locs ls hW hS hl hv
    refine lv_iconst (v := 1) hx hb dX6_fewestFor_32 kic_1 ?_
    refine lv_goto (tgt := 37) hx hb dX6_fewestFor_33 (by decide) ?_
    exact h_j_X6_fewestFor_37 B4 hB4 x2 x3 (1 : Int32) H locs ls (Or.inr rfl) hW hS (lv_sub hl [0, 1, 2, 3] rfl) hv
  have h_l_X6_fewestFor_4 : ∀ (n : Nat), ∀ (x2 : Int32) (x3 : Int32) (H : Heap) (locs : List Loc) (ls : Array Slot), wo G A (wd_X6_18 G b images n_people n_taped n_waiting n_z t_day t_near g_day g_near) H → va_S A s.heap H locs → lv_has ls 5 [(0, .ref (b 0)), (1, .int p1), (2, .int x2), (3, .int x3)] → l_X6_fewestFor_4 p1 n_people t_near g_near K n x2 x3 → W p l e (rmm 2 45) s m args below meth c H locs 0 0 Q (F0 m 4 ls []) := by
    intro n
    induction n with
    | zero =>
      intro x2 x3 H locs ls hW hS hl hv
      exact False.elim hv
    | succ n ih =>
      intro x2 x3 H locs ls hW hS hl hv
      refine lv_iload_n hx hb dX6_fewestFor_4 rfl (lv_at hl 3 rfl) ?_
      refine lv_iconst (v := 1) hx hb dX6_fewestFor_5 kic_1 ?_
      refine lv_aload_n hx hb dX6_fewestFor_6 rfl (lv_at hl 0 rfl) ?_
      refine q_get C kc6 hW 0 rfl 0 (by decide) fl_X6_10 rfl rfl dX6_fewestFor_7 ?_
      refine q_getN C kc4 hW 1 rfl 0 (by decide) nf_X6_68 rfl rfl dX6_fewestFor_10 ?_
      refine lv_ishl hx hb dX6_fewestFor_13 ?_
      refine lv_icmp_ge (tgt := 61) hx hb dX6_fewestFor_14 (by decide) (fun c_1 => ?_) (fun c_1 => ?_)
      · replace hv := hv.1 c_1
        refine lv_iload_n hx hb dX6_fewestFor_61 rfl (lv_at hl 2 rfl) ?_
        exact ret () x2 H locs ls _ rfl hW hS hv dX6_fewestFor_62
      · replace hv := hv.2 c_1
        refine lv_iload_n hx hb dX6_fewestFor_17 rfl (lv_at hl 2 rfl) ?_
        refine lv_if_lt (tgt := 32) hx hb dX6_fewestFor_18 (by decide) (fun c_2 => ?_) (fun c_2 => ?_)
        · replace hv := hv.1 c_2
          exact h_j_X6_fewestFor_32 (fun x2' x3' => l_X6_fewestFor_4 p1 n_people t_near g_near K n x2' x3') ih x2 x3 H locs ls hW hS (lv_sub hl [0, 1, 2, 3] rfl) hv
        · replace hv := hv.2 c_2
          refine lv_iload_n hx hb dX6_fewestFor_21 rfl (lv_at hl 3 rfl) ?_
          refine q_callS (rest := []) (n := 1) C (c_J6_bitCount_0f7a4 l G x3 _ hv) ml_X6_173 kb_J6_bitCount_0f7a4 rfl ⟨⟨rfl, rfl⟩, (Nat.le_of_ble_eq_true rfl), (Nat.le_of_ble_eq_true rfl)⟩ hW hS hl.1 rfl (Nat.le_of_ble_eq_true rfl) dX6_fewestFor_22 ⟨Nat.zero_le _, Nat.zero_le _⟩ (fun r_7 u_8 H locs hv hW hS => ?_)
          try dsimp only at hv
          refine lv_iload_n hx hb dX6_fewestFor_25 rfl (lv_at hl 2 rfl) ?_
          refine q_callS (rest := [.int r_7]) (n := 1) C (c_J6_bitCount_0f7a4 l G x2 _ hv) ml_X6_173 kb_J6_bitCount_0f7a4 rfl ⟨⟨rfl, rfl⟩, (Nat.le_of_ble_eq_true rfl), (Nat.le_of_ble_eq_true rfl)⟩ hW hS hl.1 rfl (Nat.le_of_ble_eq_true rfl) dX6_fewestFor_26 ⟨Nat.zero_le _, Nat.zero_le _⟩ (fun r_9 u_10 H locs hv hW hS => ?_)
          try dsimp only at hv
          refine lv_icmp_ge (tgt := 36) hx hb dX6_fewestFor_29 (by decide) (fun c_11 => ?_) (fun c_11 => ?_)
          · replace hv := hv.1 c_11
            refine lv_iconst (v := 0) hx hb dX6_fewestFor_36 kic_0 ?_
            exact h_j_X6_fewestFor_37 (fun x2' x3' => l_X6_fewestFor_4 p1 n_people t_near g_near K n x2' x3') ih x2 x3 (0 : Int32) H locs ls (Or.inl rfl) hW hS (lv_sub hl [0, 1, 2, 3] rfl) hv
          · replace hv := hv.2 c_11
            exact h_j_X6_fewestFor_32 (fun x2' x3' => l_X6_fewestFor_4 p1 n_people t_near g_near K n x2' x3') ih x2 x3 H locs ls hW hS (lv_sub hl [0, 1, 2, 3] rfl) hv
  refine lv_iconst (v := (-1)) hx hb dX6_fewestFor_0 kic_m1 ?_
  refine lv_istore_n (lv' := [(2, .int (-1 : Int32)), (0, .ref (b 0)), (1, .int p1)]) hx hb dX6_fewestFor_1 rfl hl (by decide) rfl (fun ls hl => ?_)
  refine lv_iconst (v := 0) hx hb dX6_fewestFor_2 kic_0 ?_
  refine lv_istore_n (lv' := [(3, .int (0 : Int32)), (2, .int (-1 : Int32)), (0, .ref (b 0)), (1, .int p1)]) hx hb dX6_fewestFor_3 rfl hl (by decide) rfl (fun ls hl => ?_)
  obtain ⟨n_12, hv⟩ := hv
  exact h_l_X6_fewestFor_4 n_12 (-1 : Int32) (0 : Int32) H locs ls hW hS (lv_sub hl [2, 3, 1, 0] rfl) hv
set_option maxHeartbeats 4000000 in
set_option maxRecDepth 100000 in
theorem c_X6_signs (l : Launch) (G : Gt) (b : Nat → Nat) (images : Int32) (n_people : Int32) (n_taped : Int32) (n_waiting : Int32) (n_z : Int32) (n_kind : Nat → Int32) (n_em : Nat → Int32) (n_day : Int32) (n_near : Nat → Int32) (n_shows : Nat → Int32) (n_tmost : Int32) (n_tsize : Int32) (n_tsteps : Nat → Int32) (n_tstack : Nat → Int32) (n_gmost : Int32) (n_gsize : Int32) (n_gsteps : Nat → Int32) (n_gstack : Nat → Int32) (t_day : Int32) (t_near : Nat → Int32) (t_shows : Nat → Int32) (g_day : Int32) (g_near : Nat → Int32) (g_shows : Nat → Int32) (errs : Nat → Int32) (p1 : Int32) (p2 : Int32) (p3 : Int32) (p4 : Int32) (K : Int32 → (Nat → Int32) → (Nat → Int32) → Int32 → (Nat → Int32) → (Nat → Int32) → Int32 → (Nat → Int32) → (Nat → Int32) → (Nat → Int32) → Prop) (hv : v_X6_signs p1 p2 p3 p4 n_people n_kind n_em n_day n_near n_shows n_tmost n_tsize n_tsteps n_tstack n_gmost n_gsize n_gsteps n_gstack t_day t_near t_shows g_day g_near g_shows errs K) : CI l G yX6_signs (.code yX6_signs cX6_signs 6 (some .int) :: wsG) (rmm 6 145) [.ref (b 0), .int p1, .int p2, .int p3, .int p4] (wd_X6_19 G b images n_people n_taped n_waiting n_z n_kind n_em n_day n_near n_shows n_tmost n_tsize n_tsteps n_tstack n_gmost n_gsize n_gsteps n_gstack t_day t_near t_shows g_day g_near g_shows errs) (S := (Nat → Int32) × (Nat → Int32) × Int32 × (Nat → Int32) × (Nat → Int32) × Int32 × (Nat → Int32) × (Nat → Int32) × (Nat → Int32)) (fun u => wd_X6_19 G b images n_people n_taped n_waiting n_z n_kind n_em n_day n_near n_shows n_tmost n_tsize n_tsteps u.1 n_gmost n_gsize n_gsteps u.2.1 u.2.2.1 u.2.2.2.1 u.2.2.2.2.1 u.2.2.2.2.2.1 u.2.2.2.2.2.2.1 u.2.2.2.2.2.2.2.1 u.2.2.2.2.2.2.2.2) (fun r u => K r u.1 u.2.1 u.2.2.1 u.2.2.2.1 u.2.2.2.2.1 u.2.2.2.2.2.1 u.2.2.2.2.2.2.1 u.2.2.2.2.2.2.2.1 u.2.2.2.2.2.2.2.2) := by
  refine ci_intro (by decide) rfl (fun _ => rfl) (Nat.le_of_ble_eq_true rfl) ?_
  intro p e s m args below meth c A H ls Q C hW hS hl ret
  have hx := C.1.1
  have hb := C.1.2.1
  generalize hls : ([] : List Loc) = locs at hS ⊢
  have hl : lv_has ls 6 [(0, .ref (b 0)), (1, .int p1), (2, .int p2), (3, .int p3), (4, .int p4)] := hl
  have h_j_X6_signs_37 : ∀ (n_tstack : Nat → Int32) (n_gstack : Nat → Int32) (t_day : Int32) (t_near : Nat → Int32) (t_shows : Nat → Int32) (g_day : Int32) (g_near : Nat → Int32) (g_shows : Nat → Int32) (errs : Nat → Int32) (H : Heap) (locs : List Loc) (ls : Array Slot), wo G A (wd_X6_19 G b images n_people n_taped n_waiting n_z n_kind n_em n_day n_near n_shows n_tmost n_tsize n_tsteps n_tstack n_gmost n_gsize n_gsteps n_gstack t_day t_near t_shows g_day g_near g_shows errs) H → va_S A s.heap H locs → lv_has ls 6 [(0, .ref (b 0))] → j_X6_signs_37 p1 p2 p3 p4 n_people n_kind n_em n_day n_near n_shows n_tmost n_tsize n_tsteps n_gmost n_gsize n_gsteps K n_tstack n_gstack t_day t_near t_shows g_day g_near g_shows errs → W p l e (rmm 6 145) s m args below meth c H locs 0 0 Q (F0 m 37 ls []) := by
    intro n_tstack n_gstack t_day t_near t_shows g_day g_near g_shows errs H locs ls hW hS hl hv
    refine lv_aload_n hx hb dX6_signs_37 rfl (lv_at hl 0 rfl) ?_
    refine lv_iconst (v := 1) hx hb dX6_signs_38 kic_1 ?_
    refine q_callV (rest := []) (n := 1) C (c_X6_error l G b images errs (1 : Int32) _ hv) ml_X6_64 kb_X6_error rfl ⟨⟨rfl, rfl⟩, (Nat.le_of_ble_eq_true rfl), (Nat.le_of_ble_eq_true rfl)⟩ hW hS [0, 19] rfl rfl kc6 (q0 := 0) rfl hl.1 rfl (Nat.le_of_ble_eq_true rfl) dX6_signs_39 ⟨Nat.zero_le _, Nat.zero_le _⟩ (fun r_4 u_5 H locs hv hW hS => ?_)
    obtain ⟨errs_4, rfl⟩ : ∃ z, z = u_5 := ⟨_, rfl⟩
    try dsimp only at hv
    have hW : wo G A (wd_X6_19 G b images n_people n_taped n_waiting n_z n_kind n_em n_day n_near n_shows n_tmost n_tsize n_tsteps n_tstack n_gmost n_gsize n_gsteps n_gstack t_day t_near t_shows g_day g_near g_shows errs_4) H := hW
    exact ret (n_tstack, n_gstack, t_day, t_near, t_shows, g_day, g_near, g_shows, errs_4) r_4 H locs ls _ rfl hW hS hv dX6_signs_42
  refine lv_aload_n hx hb dX6_signs_0 rfl (lv_at hl 0 rfl) ?_
  refine q_get C kc6 hW 0 rfl 0 (by decide) fl_X6_10 rfl rfl dX6_signs_1 ?_
  refine lv_iload_n hx hb dX6_signs_4 rfl (lv_at hl 1 rfl) ?_
  refine q_callN (rest := []) (n := 1) C (c_X4_has l G (fun k => b (k + 1)) n_people n_taped n_waiting n_z p1 _ hv) nm_X6_76 kb_X4_has rfl ⟨⟨rfl, rfl⟩, (Nat.le_of_ble_eq_true rfl), (Nat.le_of_ble_eq_true rfl)⟩ hW hS [1] rfl rfl kc4 (q0 := 1) rfl hl.1 rfl (Nat.le_of_ble_eq_true rfl) dX6_signs_5 ⟨Nat.zero_le _, Nat.zero_le _⟩ (fun r_1 u_2 H locs hv hW hS => ?_)
  obtain ⟨hv_b_1, hv⟩ := hv
  try dsimp only at hv
  refine lv_if_eq (tgt := 37) hx hb dX6_signs_8 (by decide) (fun c_3 => ?_) (fun c_3 => ?_)
  · replace hv := hv.1 c_3
    exact h_j_X6_signs_37 n_tstack n_gstack t_day t_near t_shows g_day g_near g_shows errs H locs ls hW hS (lv_sub hl [0] rfl) hv
  · replace hv := hv.2 c_3
    refine lv_iload_n hx hb dX6_signs_11 rfl (lv_at hl 2 rfl) ?_
    refine q_callS (rest := []) (n := 1) C (c_X6_isSign l G p2 _ hv) ml_X6_61 kb_X6_isSign rfl ⟨⟨rfl, rfl⟩, (Nat.le_of_ble_eq_true rfl), (Nat.le_of_ble_eq_true rfl)⟩ hW hS hl.1 rfl (Nat.le_of_ble_eq_true rfl) dX6_signs_12 ⟨Nat.zero_le _, Nat.zero_le _⟩ (fun r_6 u_7 H locs hv hW hS => ?_)
    obtain ⟨hv_b_6, hv⟩ := hv
    try dsimp only at hv
    refine lv_if_eq (tgt := 37) hx hb dX6_signs_15 (by decide) (fun c_8 => ?_) (fun c_8 => ?_)
    · replace hv := hv.1 c_8
      exact h_j_X6_signs_37 n_tstack n_gstack t_day t_near t_shows g_day g_near g_shows errs H locs ls hW hS (lv_sub hl [0] rfl) hv
    · replace hv := hv.2 c_8
      refine lv_iload_n hx hb dX6_signs_18 rfl (lv_at hl 3 rfl) ?_
      refine lv_iconst (v := 1) hx hb dX6_signs_19 kic_1 ?_
      refine lv_icmp_lt (tgt := 37) hx hb dX6_signs_20 (by decide) (fun c_9 => ?_) (fun c_9 => ?_)
      · replace hv := hv.1 c_9
        exact h_j_X6_signs_37 n_tstack n_gstack t_day t_near t_shows g_day g_near g_shows errs H locs ls hW hS (lv_sub hl [0] rfl) hv
      · replace hv := hv.2 c_9
        refine lv_iload_n hx hb dX6_signs_23 rfl (lv_at hl 3 rfl) ?_
        refine lv_iconst (v := 4) hx hb dX6_signs_24 kic_4 ?_
        refine lv_icmp_gt (tgt := 37) hx hb dX6_signs_25 (by decide) (fun c_10 => ?_) (fun c_10 => ?_)
        · replace hv := hv.1 c_10
          exact h_j_X6_signs_37 n_tstack n_gstack t_day t_near t_shows g_day g_near g_shows errs H locs ls hW hS (lv_sub hl [0] rfl) hv
        · replace hv := hv.2 c_10
          refine lv_iload hx hb dX6_signs_28 (lv_at hl 4 rfl) ?_
          refine lv_iconst (v := 1) hx hb dX6_signs_30 kic_1 ?_
          refine q_callS (rest := []) (n := 2) C (c_X6_isWithin l G p4 (1 : Int32) _ hv) ml_X6_97 kb_X6_isWithin rfl ⟨⟨rfl, rfl⟩, (Nat.le_of_ble_eq_true rfl), (Nat.le_of_ble_eq_true rfl)⟩ hW hS hl.1 rfl (Nat.le_of_ble_eq_true rfl) dX6_signs_31 ⟨Nat.zero_le _, Nat.zero_le _⟩ (fun r_11 u_12 H locs hv hW hS => ?_)
          obtain ⟨hv_b_11, hv⟩ := hv
          try dsimp only at hv
          refine lv_if_ne (tgt := 43) hx hb dX6_signs_34 (by decide) (fun c_13 => ?_) (fun c_13 => ?_)
          · replace hv := hv.1 c_13
            refine lv_aload_n hx hb dX6_signs_43 rfl (lv_at hl 0 rfl) ?_
            refine lv_iload_n hx hb dX6_signs_44 rfl (lv_at hl 3 rfl) ?_
            refine q_callVv (rest := []) (n := 1) C (c_X6_think l G b images n_people n_taped n_waiting n_z n_kind n_em n_day n_near n_shows n_tmost n_tsize n_tsteps n_tstack n_gmost n_gsize n_gsteps n_gstack t_day t_near t_shows p3 _ hv) ml_X6_159 kb_X6_think rfl ⟨⟨rfl, rfl⟩, (Nat.le_of_ble_eq_true rfl), (Nat.le_of_ble_eq_true rfl)⟩ hW hS [0, 1, 2, 3, 4, 5, 6, 7, 8, 9, 10, 11, 12, 13, 14, 15] rfl rfl kc6 (q0 := 0) rfl hl.1 rfl (Nat.le_of_ble_eq_true rfl) dX6_signs_45 ⟨Nat.zero_le _, Nat.zero_le _⟩ (fun u_15 H locs hv hW hS => ?_)
            obtain ⟨n_tstack_14, n_gstack_14, t_day_14, t_near_14, t_shows_14⟩ := u_15
            try dsimp only at hv
            have hW : wo G A (wd_X6_19 G b images n_people n_taped n_waiting n_z n_kind n_em n_day n_near n_shows n_tmost n_tsize n_tsteps n_tstack_14 n_gmost n_gsize n_gsteps n_gstack_14 t_day_14 t_near_14 t_shows_14 g_day g_near g_shows errs) H := hW
            refine lv_aload_n hx hb dX6_signs_48 rfl (lv_at hl 0 rfl) ?_
            refine lv_iload_n hx hb dX6_signs_49 rfl (lv_at hl 2 rfl) ?_
            refine lv_iload_n hx hb dX6_signs_50 rfl (lv_at hl 3 rfl) ?_
            refine q_callVv (rest := []) (n := 2) C (c_X6_thinkSigned l G b images n_people n_taped n_waiting n_z n_kind n_em n_day n_near n_shows n_tmost n_tsize n_tsteps n_tstack_14 n_gmost n_gsize n_gsteps n_gstack_14 g_day g_near g_shows p2 p3 _ hv) ml_X6_166 kb_X6_thinkSigned rfl ⟨⟨rfl, rfl⟩, (Nat.le_of_ble_eq_true rfl), (Nat.le_of_ble_eq_true rfl)⟩ hW hS [0, 1, 2, 3, 4, 5, 6, 7, 8, 9, 10, 11, 12, 16, 17, 18] rfl rfl kc6 (q0 := 0) rfl hl.1 rfl (Nat.le_of_ble_eq_true rfl) dX6_signs_51 ⟨Nat.zero_le _, Nat.zero_le _⟩ (fun u_17 H locs hv hW hS => ?_)
            obtain ⟨n_tstack_16, n_gstack_16, g_day_16, g_near_16, g_shows_16⟩ := u_17
            try dsimp only at hv
            have hW : wo G A (wd_X6_19 G b images n_people n_taped n_waiting n_z n_kind n_em n_day n_near n_shows n_tmost n_tsize n_tsteps n_tstack_16 n_gmost n_gsize n_gsteps n_gstack_16 t_day_14 t_near_14 t_shows_14 g_day_16 g_near_16 g_shows_16 errs) H := hW
            refine lv_aload_n hx hb dX6_signs_54 rfl (lv_at hl 0 rfl) ?_
            refine lv_iload_n hx hb dX6_signs_55 rfl (lv_at hl 1 rfl) ?_
            refine q_callV (rest := []) (n := 1) C (c_X6_fewestFor l G b images n_people n_taped n_waiting n_z t_day_14 t_near_14 g_day_16 g_near_16 p1 _ hv) ml_X6_170 kb_X6_fewestFor rfl ⟨⟨rfl, rfl⟩, (Nat.le_of_ble_eq_true rfl), (Nat.le_of_ble_eq_true rfl)⟩ hW hS [0, 1, 13, 14, 16, 17] rfl rfl kc6 (q0 := 0) rfl hl.1 rfl (Nat.le_of_ble_eq_true rfl) dX6_signs_56 ⟨Nat.zero_le _, Nat.zero_le _⟩ (fun r_18 u_19 H locs hv hW hS => ?_)
            try dsimp only at hv
            refine lv_istore (lv' := [(5, .int r_18), (0, .ref (b 0)), (1, .int p1), (2, .int p2), (3, .int p3), (4, .int p4)]) hx hb dX6_signs_59 hl (by decide) rfl (fun ls hl => ?_)
            refine lv_iload hx hb dX6_signs_61 (lv_at hl 0 rfl) ?_
            refine lv_if_ge (tgt := 72) hx hb dX6_signs_63 (by decide) (fun c_20 => ?_) (fun c_20 => ?_)
            · replace hv := hv.1 c_20
              refine lv_iload hx hb dX6_signs_72 (lv_at hl 5 rfl) ?_
              refine lv_if_ne (tgt := 85) hx hb dX6_signs_74 (by decide) (fun c_21 => ?_) (fun c_21 => ?_)
              · replace hv := hv.1 c_21
                refine lv_iload hx hb dX6_signs_85 (lv_at hl 0 rfl) ?_
                exact ret (n_tstack_16, n_gstack_16, t_day_14, t_near_14, t_shows_14, g_day_16, g_near_16, g_shows_16, errs) r_18 H locs ls _ rfl hW hS hv dX6_signs_87
              · replace hv := hv.2 c_21
                refine lv_iload hx hb dX6_signs_77 (lv_at hl 0 rfl) ?_
                refine q_callS (rest := []) (n := 1) C (c_J6_bitCount_0f7a4 l G r_18 _ hv) ml_X6_173 kb_J6_bitCount_0f7a4 rfl ⟨⟨rfl, rfl⟩, (Nat.le_of_ble_eq_true rfl), (Nat.le_of_ble_eq_true rfl)⟩ hW hS hl.1 rfl (Nat.le_of_ble_eq_true rfl) dX6_signs_79 ⟨Nat.zero_le _, Nat.zero_le _⟩ (fun r_22 u_23 H locs hv hW hS => ?_)
                try dsimp only at hv
                refine lv_goto (tgt := 87) hx hb dX6_signs_82 (by decide) ?_
                exact ret (n_tstack_16, n_gstack_16, t_day_14, t_near_14, t_shows_14, g_day_16, g_near_16, g_shows_16, errs) r_22 H locs ls _ rfl hW hS hv dX6_signs_87
            · replace hv := hv.2 c_20
              refine lv_aload_n hx hb dX6_signs_66 rfl (lv_at hl 1 rfl) ?_
              refine lv_iconst (v := 2) hx hb dX6_signs_67 kic_2 ?_
              refine q_callV (rest := []) (n := 1) C (c_X6_error l G b images errs (2 : Int32) _ hv) ml_X6_64 kb_X6_error rfl ⟨⟨rfl, rfl⟩, (Nat.le_of_ble_eq_true rfl), (Nat.le_of_ble_eq_true rfl)⟩ hW hS [0, 19] rfl rfl kc6 (q0 := 0) rfl hl.1 rfl (Nat.le_of_ble_eq_true rfl) dX6_signs_68 ⟨Nat.zero_le _, Nat.zero_le _⟩ (fun r_24 u_25 H locs hv hW hS => ?_)
              obtain ⟨errs_24, rfl⟩ : ∃ z, z = u_25 := ⟨_, rfl⟩
              try dsimp only at hv
              have hW : wo G A (wd_X6_19 G b images n_people n_taped n_waiting n_z n_kind n_em n_day n_near n_shows n_tmost n_tsize n_tsteps n_tstack_16 n_gmost n_gsize n_gsteps n_gstack_16 t_day_14 t_near_14 t_shows_14 g_day_16 g_near_16 g_shows_16 errs_24) H := hW
              exact ret (n_tstack_16, n_gstack_16, t_day_14, t_near_14, t_shows_14, g_day_16, g_near_16, g_shows_16, errs_24) r_24 H locs ls _ rfl hW hS hv dX6_signs_71
          · replace hv := hv.2 c_13
            exact h_j_X6_signs_37 n_tstack n_gstack t_day t_near t_shows g_day g_near g_shows errs H locs ls hW hS (lv_sub hl [0] rfl) hv
set_option maxHeartbeats 4000000 in
set_option maxRecDepth 100000 in
theorem c_X6_heard (l : Launch) (G : Gt) (b : Nat → Nat) (images : Int32) (n_people : Int32) (n_taped : Int32) (n_waiting : Int32) (n_z : Int32) (n_called : Nat → Int32) (errs : Nat → Int32) (p1 : Int32) (K : Int32 → (Nat → Int32) → Prop) (hv : v_X6_heard p1 n_people n_called errs K) : CI l G yX6_heard (.code yX6_heard cX6_heard 2 (some .int) :: wsG) (rmm 1 24) [.ref (b 0), .int p1] (wd_X6_20 G b images n_people n_taped n_waiting n_z n_called errs) (S := (Nat → Int32)) (fun u => wd_X6_20 G b images n_people n_taped n_waiting n_z n_called u) (fun r u => K r u) := by
  refine ci_intro (by decide) rfl (fun _ => rfl) (Nat.le_of_ble_eq_true rfl) ?_
  intro p e s m args below meth c A H ls Q C hW hS hl ret
  have hx := C.1.1
  have hb := C.1.2.1
  generalize hls : ([] : List Loc) = locs at hS ⊢
  have hl : lv_has ls 2 [(0, .ref (b 0)), (1, .int p1)] := hl
  refine lv_aload_n hx hb dX6_heard_0 rfl (lv_at hl 0 rfl) ?_
  refine q_get C kc6 hW 0 rfl 0 (by decide) fl_X6_10 rfl rfl dX6_heard_1 ?_
  refine lv_iload_n hx hb dX6_heard_4 rfl (lv_at hl 1 rfl) ?_
  refine q_callN (rest := []) (n := 1) C (c_X4_has l G (fun k => b (k + 1)) n_people n_taped n_waiting n_z p1 _ hv) nm_X6_76 kb_X4_has rfl ⟨⟨rfl, rfl⟩, (Nat.le_of_ble_eq_true rfl), (Nat.le_of_ble_eq_true rfl)⟩ hW hS [1] rfl rfl kc4 (q0 := 1) rfl hl.1 rfl (Nat.le_of_ble_eq_true rfl) dX6_heard_5 ⟨Nat.zero_le _, Nat.zero_le _⟩ (fun r_1 u_2 H locs hv hW hS => ?_)
  obtain ⟨hv_b_1, hv⟩ := hv
  try dsimp only at hv
  refine lv_if_eq (tgt := 22) hx hb dX6_heard_8 (by decide) (fun c_3 => ?_) (fun c_3 => ?_)
  · replace hv := hv.1 c_3
    refine lv_aload_n hx hb dX6_heard_22 rfl (lv_at hl 0 rfl) ?_
    refine lv_iconst (v := 1) hx hb dX6_heard_23 kic_1 ?_
    refine q_callV (rest := []) (n := 1) C (c_X6_error l G b images errs (1 : Int32) _ hv) ml_X6_64 kb_X6_error rfl ⟨⟨rfl, rfl⟩, (Nat.le_of_ble_eq_true rfl), (Nat.le_of_ble_eq_true rfl)⟩ hW hS [0, 3] rfl rfl kc6 (q0 := 0) rfl hl.1 rfl (Nat.le_of_ble_eq_true rfl) dX6_heard_24 ⟨Nat.zero_le _, Nat.zero_le _⟩ (fun r_4 u_5 H locs hv hW hS => ?_)
    obtain ⟨errs_4, rfl⟩ : ∃ z, z = u_5 := ⟨_, rfl⟩
    try dsimp only at hv
    have hW : wo G A (wd_X6_20 G b images n_people n_taped n_waiting n_z n_called errs_4) H := hW
    exact ret (errs_4) r_4 H locs ls _ rfl hW hS hv dX6_heard_27
  · replace hv := hv.2 c_3
    refine lv_aload_n hx hb dX6_heard_11 rfl (lv_at hl 0 rfl) ?_
    refine q_get C kc6 hW 0 rfl 0 (by decide) fl_X6_10 rfl rfl dX6_heard_12 ?_
    refine lv_iload_n hx hb dX6_heard_15 rfl (lv_at hl 1 rfl) ?_
    refine q_callN (rest := []) (n := 1) C (c_X4_comeToFrom l G (fun k => b (k + 1)) n_people n_taped n_waiting n_z n_called p1 _ hv) nm_X6_178 kb_X4_comeToFrom rfl ⟨⟨rfl, rfl⟩, (Nat.le_of_ble_eq_true rfl), (Nat.le_of_ble_eq_true rfl)⟩ hW hS [1, 2] rfl rfl kc4 (q0 := 1) rfl hl.1 rfl (Nat.le_of_ble_eq_true rfl) dX6_heard_16 ⟨Nat.zero_le _, Nat.zero_le _⟩ (fun r_6 u_7 H locs hv hW hS => ?_)
    try dsimp only at hv
    refine lv_goto (tgt := 27) hx hb dX6_heard_19 (by decide) ?_
    exact ret (errs) r_6 H locs ls _ rfl hW hS hv dX6_heard_27
set_option maxHeartbeats 4000000 in
set_option maxRecDepth 100000 in
theorem c_X6_commonDivisor (l : Launch) (G : Gt) (p1 : Int32) (p2 : Int32) (K : Int32 → Prop) (hv : v_X6_commonDivisor p1 p2 K) : CI l G yX6_commonDivisor (.code yX6_commonDivisor cX6_commonDivisor 6 (some .int) :: wsG) (rmm 0 0) [.int p1, .int p2] [] (S := Unit) (fun _ => []) (fun r u => K r) := by
  refine ci_intro (by decide) rfl (fun _ => rfl) (Nat.le_of_ble_eq_true rfl) ?_
  intro p e s m args below meth c A H ls Q C hW hS hl ret
  have hx := C.1.1
  have hb := C.1.2.1
  generalize hls : ([] : List Loc) = locs at hS ⊢
  have hl : lv_has ls 6 [(0, .int p1), (1, .int p2)] := hl
  have h_l_X6_commonDivisor_7 : ∀ (n : Nat), ∀ (x2 : Int32) (x3 : Int32) (x4 : Int32) (H : Heap) (locs : List Loc) (ls : Array Slot), wo G A (wd_J1_0 G) H → va_S A s.heap H locs → lv_has ls 6 [(2, .int x2), (3, .int x3), (4, .int x4)] → l_X6_commonDivisor_7 p1 p2 K n x2 x3 x4 → W p l e (rmm 0 0) s m args below meth c H locs 0 0 Q (F0 m 7 ls []) := by
    intro n
    induction n with
    | zero =>
      intro x2 x3 x4 H locs ls hW hS hl hv
      exact False.elim hv
    | succ n ih =>
      intro x2 x3 x4 H locs ls hW hS hl hv
      refine lv_iload hx hb dX6_commonDivisor_7 (lv_at hl 2 rfl) ?_
      refine lv_bipush (v := 64) hx hb dX6_commonDivisor_9 kbp_64 ?_
      refine lv_icmp_ge (tgt := 34) hx hb dX6_commonDivisor_11 (by decide) (fun c_1 => ?_) (fun c_1 => ?_)
      · replace hv := hv.1 c_1
        refine lv_iload_n hx hb dX6_commonDivisor_34 rfl (lv_at hl 0 rfl) ?_
        exact ret () x2 H locs ls _ rfl hW hS hv dX6_commonDivisor_35
      · replace hv := hv.2 c_1
        refine lv_iload_n hx hb dX6_commonDivisor_14 rfl (lv_at hl 1 rfl) ?_
        refine lv_if_le (tgt := 34) hx hb dX6_commonDivisor_15 (by decide) (fun c_2 => ?_) (fun c_2 => ?_)
        · replace hv := hv.1 c_2
          refine lv_iload_n hx hb dX6_commonDivisor_34 rfl (lv_at hl 0 rfl) ?_
          exact ret () x2 H locs ls _ rfl hW hS hv dX6_commonDivisor_35
        · replace hv := hv.2 c_2
          refine lv_iload_n hx hb dX6_commonDivisor_18 rfl (lv_at hl 0 rfl) ?_
          refine lv_iload_n hx hb dX6_commonDivisor_19 rfl (lv_at hl 1 rfl) ?_
          obtain ⟨h_3, hv⟩ := hv
          refine lv_irem hx hb dX6_commonDivisor_20 h_3 ?_
          refine lv_istore (lv' := [(5, .int (x2 - x2 / x3 * x3)), (2, .int x2), (3, .int x3), (4, .int x4)]) hx hb dX6_commonDivisor_21 hl (by decide) rfl (fun ls hl => ?_)
          refine lv_iload_n hx hb dX6_commonDivisor_23 rfl (lv_at hl 2 rfl) ?_
          refine lv_istore_n (lv' := [(2, .int x3), (5, .int (x2 - x2 / x3 * x3)), (3, .int x3), (4, .int x4)]) hx hb dX6_commonDivisor_24 rfl hl (by decide) rfl (fun ls hl => ?_)
          refine lv_iload hx hb dX6_commonDivisor_25 (lv_at hl 1 rfl) ?_
          refine lv_istore_n (lv' := [(3, .int (x2 - x2 / x3 * x3)), (2, .int x3), (5, .int (x2 - x2 / x3 * x3)), (4, .int x4)]) hx hb dX6_commonDivisor_27 rfl hl (by decide) rfl (fun ls hl => ?_)
          refine lv_iinc (v := (x4 + 1)) (lv' := [(4, .int (x4 + 1)), (3, .int (x2 - x2 / x3 * x3)), (2, .int x3), (5, .int (x2 - x2 / x3 * x3))]) hx hb dX6_commonDivisor_28 hl (k := 3) rfl rfl (by decide) rfl (fun ls hl => ?_)
          refine lv_goto (tgt := 7) hx hb dX6_commonDivisor_31 (by decide) ?_
          exact ih x3 (x2 - x2 / x3 * x3) (x4 + 1) H locs ls hW hS (lv_sub hl [2, 1, 0] rfl) hv
  refine lv_iload_n hx hb dX6_commonDivisor_0 rfl (lv_at hl 0 rfl) ?_
  refine lv_istore_n (lv' := [(2, .int p1), (0, .int p1), (1, .int p2)]) hx hb dX6_commonDivisor_1 rfl hl (by decide) rfl (fun ls hl => ?_)
  refine lv_iload_n hx hb dX6_commonDivisor_2 rfl (lv_at hl 2 rfl) ?_
  refine lv_istore_n (lv' := [(3, .int p2), (2, .int p1), (0, .int p1), (1, .int p2)]) hx hb dX6_commonDivisor_3 rfl hl (by decide) rfl (fun ls hl => ?_)
  refine lv_iconst (v := 0) hx hb dX6_commonDivisor_4 kic_0 ?_
  refine lv_istore (lv' := [(4, .int (0 : Int32)), (3, .int p2), (2, .int p1), (0, .int p1), (1, .int p2)]) hx hb dX6_commonDivisor_5 hl (by decide) rfl (fun ls hl => ?_)
  obtain ⟨n_4, hv⟩ := hv
  exact h_l_X6_commonDivisor_7 n_4 p1 p2 (0 : Int32) H locs ls hW hS (lv_sub hl [2, 1, 0] rfl) hv
set_option maxHeartbeats 4000000 in
set_option maxRecDepth 100000 in
theorem c_X6_odds (l : Launch) (G : Gt) (b : Nat → Nat) (images : Int32) (n_people : Int32) (n_taped : Int32) (n_waiting : Int32) (n_z : Int32) (n_kind : Nat → Int32) (n_em : Nat → Int32) (n_day : Int32) (n_near : Nat → Int32) (n_shows : Nat → Int32) (n_tmost : Int32) (n_tsize : Int32) (n_tsteps : Nat → Int32) (n_tstack : Nat → Int32) (errs : Nat → Int32) (p1 : Int32) (p2 : Int32) (K : Int32 → (Nat → Int32) → (Nat → Int32) → Prop) (hv : v_X6_odds p1 p2 n_people n_kind n_em n_day n_near n_shows n_tmost n_tsize n_tsteps n_tstack errs K) : CI l G yX6_odds (.code yX6_odds cX6_odds 6 (some .int) :: wsG) (rmm 4 96) [.ref (b 0), .int p1, .int p2] (wd_X6_5 G b images n_people n_taped n_waiting n_z n_kind n_em n_day n_near n_shows n_tmost n_tsize n_tsteps n_tstack errs) (S := (Nat → Int32) × (Nat → Int32)) (fun u => wd_X6_5 G b images n_people n_taped n_waiting n_z n_kind n_em n_day n_near n_shows n_tmost n_tsize n_tsteps u.1 u.2) (fun r u => K r u.1 u.2) := by
  refine ci_intro (by decide) rfl (fun _ => rfl) (Nat.le_of_ble_eq_true rfl) ?_
  intro p e s m args below meth c A H ls Q C hW hS hl ret
  have hx := C.1.1
  have hb := C.1.2.1
  generalize hls : ([] : List Loc) = locs at hS ⊢
  have hl : lv_has ls 6 [(0, .ref (b 0)), (1, .int p1), (2, .int p2)] := hl
  have h_j_X6_odds_19 : ∀ (n_tstack : Nat → Int32) (errs : Nat → Int32) (H : Heap) (locs : List Loc) (ls : Array Slot), wo G A (wd_X6_5 G b images n_people n_taped n_waiting n_z n_kind n_em n_day n_near n_shows n_tmost n_tsize n_tsteps n_tstack errs) H → va_S A s.heap H locs → lv_has ls 6 [(0, .ref (b 0))] → j_X6_odds_19 p1 p2 n_people n_kind n_em n_day n_near n_shows n_tmost n_tsize n_tsteps K n_tstack errs → W p l e (rmm 4 96) s m args below meth c H locs 0 0 Q (F0 m 19 ls []) := by
    intro n_tstack errs H locs ls hW hS hl hv
    refine lv_aload_n hx hb dX6_odds_19 rfl (lv_at hl 0 rfl) ?_
    refine lv_iconst (v := 1) hx hb dX6_odds_20 kic_1 ?_
    refine q_callV (rest := []) (n := 1) C (c_X6_error l G b images errs (1 : Int32) _ hv) ml_X6_64 kb_X6_error rfl ⟨⟨rfl, rfl⟩, (Nat.le_of_ble_eq_true rfl), (Nat.le_of_ble_eq_true rfl)⟩ hW hS [0, 10] rfl rfl kc6 (q0 := 0) rfl hl.1 rfl (Nat.le_of_ble_eq_true rfl) dX6_odds_21 ⟨Nat.zero_le _, Nat.zero_le _⟩ (fun r_4 u_5 H locs hv hW hS => ?_)
    obtain ⟨errs_4, rfl⟩ : ∃ z, z = u_5 := ⟨_, rfl⟩
    try dsimp only at hv
    have hW : wo G A (wd_X6_5 G b images n_people n_taped n_waiting n_z n_kind n_em n_day n_near n_shows n_tmost n_tsize n_tsteps n_tstack errs_4) H := hW
    exact ret (n_tstack, errs_4) r_4 H locs ls _ rfl hW hS hv dX6_odds_24
  refine lv_aload_n hx hb dX6_odds_0 rfl (lv_at hl 0 rfl) ?_
  refine q_get C kc6 hW 0 rfl 0 (by decide) fl_X6_10 rfl rfl dX6_odds_1 ?_
  refine lv_iload_n hx hb dX6_odds_4 rfl (lv_at hl 1 rfl) ?_
  refine q_callN (rest := []) (n := 1) C (c_X4_has l G (fun k => b (k + 1)) n_people n_taped n_waiting n_z p1 _ hv) nm_X6_76 kb_X4_has rfl ⟨⟨rfl, rfl⟩, (Nat.le_of_ble_eq_true rfl), (Nat.le_of_ble_eq_true rfl)⟩ hW hS [1] rfl rfl kc4 (q0 := 1) rfl hl.1 rfl (Nat.le_of_ble_eq_true rfl) dX6_odds_5 ⟨Nat.zero_le _, Nat.zero_le _⟩ (fun r_1 u_2 H locs hv hW hS => ?_)
  obtain ⟨hv_b_1, hv⟩ := hv
  try dsimp only at hv
  refine lv_if_eq (tgt := 19) hx hb dX6_odds_8 (by decide) (fun c_3 => ?_) (fun c_3 => ?_)
  · replace hv := hv.1 c_3
    exact h_j_X6_odds_19 n_tstack errs H locs ls hW hS (lv_sub hl [0] rfl) hv
  · replace hv := hv.2 c_3
    refine lv_iload_n hx hb dX6_odds_11 rfl (lv_at hl 2 rfl) ?_
    refine lv_iconst (v := 1) hx hb dX6_odds_12 kic_1 ?_
    refine q_callS (rest := []) (n := 2) C (c_X6_isWithin l G p2 (1 : Int32) _ hv) ml_X6_97 kb_X6_isWithin rfl ⟨⟨rfl, rfl⟩, (Nat.le_of_ble_eq_true rfl), (Nat.le_of_ble_eq_true rfl)⟩ hW hS hl.1 rfl (Nat.le_of_ble_eq_true rfl) dX6_odds_13 ⟨Nat.zero_le _, Nat.zero_le _⟩ (fun r_6 u_7 H locs hv hW hS => ?_)
    obtain ⟨hv_b_6, hv⟩ := hv
    try dsimp only at hv
    refine lv_if_ne (tgt := 25) hx hb dX6_odds_16 (by decide) (fun c_8 => ?_) (fun c_8 => ?_)
    · replace hv := hv.1 c_8
      refine lv_aload_n hx hb dX6_odds_25 rfl (lv_at hl 0 rfl) ?_
      refine q_get C kc6 hW 0 rfl 0 (by decide) fl_X6_10 rfl rfl dX6_odds_26 ?_
      refine q_getN C kc4 hW 1 rfl 0 (by decide) nf_X6_68 rfl rfl dX6_odds_29 ?_
      refine lv_iconst (v := 1) hx hb dX6_odds_32 kic_1 ?_
      refine lv_isub hx hb dX6_odds_33 ?_
      refine lv_istore_n (lv' := [(3, .int (n_people - (1 : Int32))), (0, .ref (b 0)), (1, .int p1), (2, .int p2)]) hx hb dX6_odds_34 rfl hl (by decide) rfl (fun ls hl => ?_)
      refine lv_iload_n hx hb dX6_odds_35 rfl (lv_at hl 0 rfl) ?_
      refine lv_iconst (v := 1) hx hb dX6_odds_36 kic_1 ?_
      refine lv_icmp_ge (tgt := 46) hx hb dX6_odds_37 (by decide) (fun c_9 => ?_) (fun c_9 => ?_)
      · replace hv := hv.1 c_9
        refine lv_aload_n hx hb dX6_odds_46 rfl (lv_at hl 1 rfl) ?_
        refine q_get C kc6 hW 0 rfl 0 (by decide) fl_X6_10 rfl rfl dX6_odds_47 ?_
        refine lv_iload_n hx hb dX6_odds_50 rfl (lv_at hl 2 rfl) ?_
        refine q_callN (rest := []) (n := 1) C (c_X4_countTakenNearer l G (fun k => b (k + 1)) n_people n_taped n_waiting n_z n_kind n_em n_day n_near n_shows n_tmost n_tsize n_tsteps n_tstack p1 _ hv) nm_X6_181 kb_X4_countTakenNearer rfl ⟨⟨rfl, rfl⟩, (Nat.le_of_ble_eq_true rfl), (Nat.le_of_ble_eq_true rfl)⟩ hW hS [1, 2, 3, 4, 5, 6, 7, 8, 9] rfl rfl kc4 (q0 := 1) rfl hl.1 rfl (Nat.le_of_ble_eq_true rfl) dX6_odds_51 ⟨Nat.zero_le _, Nat.zero_le _⟩ (fun r_10 u_11 H locs hv hW hS => ?_)
        obtain ⟨n_tstack_10, rfl⟩ : ∃ z, z = u_11 := ⟨_, rfl⟩
        try dsimp only at hv
        have hW : wo G A (wd_X6_5 G b images n_people n_taped n_waiting n_z n_kind n_em n_day n_near n_shows n_tmost n_tsize n_tsteps n_tstack_10 errs) H := hW
        refine lv_istore (lv' := [(4, .int r_10), (3, .int (n_people - (1 : Int32))), (0, .ref (b 0)), (1, .int p1), (2, .int p2)]) hx hb dX6_odds_54 hl (by decide) rfl (fun ls hl => ?_)
        refine lv_iload hx hb dX6_odds_56 (lv_at hl 0 rfl) ?_
        refine lv_iload_n hx hb dX6_odds_58 rfl (lv_at hl 1 rfl) ?_
        refine q_callS (rest := []) (n := 2) C (c_X6_commonDivisor l G r_10 (n_people - (1 : Int32)) _ hv) ml_X6_184 kb_X6_commonDivisor rfl ⟨⟨rfl, rfl⟩, (Nat.le_of_ble_eq_true rfl), (Nat.le_of_ble_eq_true rfl)⟩ hW hS hl.1 rfl (Nat.le_of_ble_eq_true rfl) dX6_odds_59 ⟨Nat.zero_le _, Nat.zero_le _⟩ (fun r_12 u_13 H locs hv hW hS => ?_)
        try dsimp only at hv
        refine lv_istore (lv' := [(5, .int r_12), (4, .int r_10), (3, .int (n_people - (1 : Int32))), (0, .ref (b 0)), (1, .int p1), (2, .int p2)]) hx hb dX6_odds_62 hl (by decide) rfl (fun ls hl => ?_)
        refine lv_iload hx hb dX6_odds_64 (lv_at hl 0 rfl) ?_
        refine lv_iconst (v := 1) hx hb dX6_odds_66 kic_1 ?_
        refine lv_icmp_ge (tgt := 76) hx hb dX6_odds_67 (by decide) (fun c_14 => ?_) (fun c_14 => ?_)
        · replace hv := hv.1 c_14
          refine lv_iload_n hx hb dX6_odds_76 rfl (lv_at hl 5 rfl) ?_
          refine lv_if_ne (tgt := 88) hx hb dX6_odds_77 (by decide) (fun c_15 => ?_) (fun c_15 => ?_)
          · replace hv := hv.1 c_15
            refine lv_iload_n hx hb dX6_odds_88 rfl (lv_at hl 2 rfl) ?_
            refine lv_iload hx hb dX6_odds_89 (lv_at hl 0 rfl) ?_
            obtain ⟨h_16, hv⟩ := hv
            refine lv_idiv hx hb dX6_odds_91 h_16 ?_
            exact ret (n_tstack_10, errs) ((n_people - (1 : Int32)) / r_12) H locs ls _ rfl hW hS hv dX6_odds_92
          · replace hv := hv.2 c_15
            refine lv_iload hx hb dX6_odds_80 (lv_at hl 1 rfl) ?_
            refine lv_iload hx hb dX6_odds_82 (lv_at hl 0 rfl) ?_
            obtain ⟨h_17, hv⟩ := hv
            refine lv_idiv hx hb dX6_odds_84 h_17 ?_
            refine lv_goto (tgt := 92) hx hb dX6_odds_85 (by decide) ?_
            exact ret (n_tstack_10, errs) (r_10 / r_12) H locs ls _ rfl hW hS hv dX6_odds_92
        · replace hv := hv.2 c_14
          refine lv_aload_n hx hb dX6_odds_70 rfl (lv_at hl 3 rfl) ?_
          refine lv_iconst (v := 3) hx hb dX6_odds_71 kic_3 ?_
          refine q_callV (rest := []) (n := 1) C (c_X6_error l G b images errs (3 : Int32) _ hv) ml_X6_64 kb_X6_error rfl ⟨⟨rfl, rfl⟩, (Nat.le_of_ble_eq_true rfl), (Nat.le_of_ble_eq_true rfl)⟩ hW hS [0, 10] rfl rfl kc6 (q0 := 0) rfl hl.1 rfl (Nat.le_of_ble_eq_true rfl) dX6_odds_72 ⟨Nat.zero_le _, Nat.zero_le _⟩ (fun r_18 u_19 H locs hv hW hS => ?_)
          obtain ⟨errs_18, rfl⟩ : ∃ z, z = u_19 := ⟨_, rfl⟩
          try dsimp only at hv
          have hW : wo G A (wd_X6_5 G b images n_people n_taped n_waiting n_z n_kind n_em n_day n_near n_shows n_tmost n_tsize n_tsteps n_tstack_10 errs_18) H := hW
          exact ret (n_tstack_10, errs_18) r_18 H locs ls _ rfl hW hS hv dX6_odds_75
      · replace hv := hv.2 c_9
        refine lv_aload_n hx hb dX6_odds_40 rfl (lv_at hl 1 rfl) ?_
        refine lv_iconst (v := 3) hx hb dX6_odds_41 kic_3 ?_
        refine q_callV (rest := []) (n := 1) C (c_X6_error l G b images errs (3 : Int32) _ hv) ml_X6_64 kb_X6_error rfl ⟨⟨rfl, rfl⟩, (Nat.le_of_ble_eq_true rfl), (Nat.le_of_ble_eq_true rfl)⟩ hW hS [0, 10] rfl rfl kc6 (q0 := 0) rfl hl.1 rfl (Nat.le_of_ble_eq_true rfl) dX6_odds_42 ⟨Nat.zero_le _, Nat.zero_le _⟩ (fun r_20 u_21 H locs hv hW hS => ?_)
        obtain ⟨errs_20, rfl⟩ : ∃ z, z = u_21 := ⟨_, rfl⟩
        try dsimp only at hv
        have hW : wo G A (wd_X6_5 G b images n_people n_taped n_waiting n_z n_kind n_em n_day n_near n_shows n_tmost n_tsize n_tsteps n_tstack errs_20) H := hW
        exact ret (n_tstack, errs_20) r_20 H locs ls _ rfl hW hS hv dX6_odds_45
    · replace hv := hv.2 c_8
      exact h_j_X6_odds_19 n_tstack errs H locs ls hW hS (lv_sub hl [0] rfl) hv
set_option maxHeartbeats 4000000 in
set_option maxRecDepth 100000 in
theorem c_X6_isSheet (l : Launch) (G : Gt) (p1 : Int32) (K : Int32 → Prop) (hv : v_X6_isSheet p1 K) : CI l G yX6_isSheet (.code yX6_isSheet cX6_isSheet 1 (some .boolean) :: wsG) (rmm 1 21) [.int p1] [] (S := Unit) (fun _ => []) (fun r u => (r = 0 ∨ r = 1) ∧ K r) := by
  refine ci_intro (by decide) rfl (fun _ => rfl) (Nat.le_of_ble_eq_true rfl) ?_
  intro p e s m args below meth c A H ls Q C hW hS hl ret
  have hx := C.1.1
  have hb := C.1.2.1
  generalize hls : ([] : List Loc) = locs at hS ⊢
  have hl : lv_has ls 1 [(0, .int p1)] := hl
  refine lv_iload_n hx hb dX6_isSheet_0 rfl (lv_at hl 0 rfl) ?_
  refine lv_iconst (v := 3) hx hb dX6_isSheet_1 kic_3 ?_
  refine q_callS (rest := []) (n := 2) C (c_X6_isWithin l G p1 (3 : Int32) _ hv) ml_X6_97 kb_X6_isWithin rfl ⟨⟨rfl, rfl⟩, (Nat.le_of_ble_eq_true rfl), (Nat.le_of_ble_eq_true rfl)⟩ hW hS hl.1 rfl (Nat.le_of_ble_eq_true rfl) dX6_isSheet_2 ⟨Nat.zero_le _, Nat.zero_le _⟩ (fun r_1 u_2 H locs hv hW hS => ?_)
  obtain ⟨hv_b_1, hv⟩ := hv
  try dsimp only at hv
  exact ret () r_1 H locs ls _ (bl_narrow hv_b_1) hW hS ⟨hv_b_1, hv⟩ dX6_isSheet_5
set_option maxHeartbeats 4000000 in
set_option maxRecDepth 100000 in
theorem c_X6_tellsMixed (l : Launch) (G : Gt) (b : Nat → Nat) (bc : Nat → Nat) (images : Int32) (n_people : Int32) (n_taped : Int32) (n_waiting : Int32) (n_z : Int32) (t_day : Int32) (t_near : Nat → Int32) (g_day : Int32) (g_near : Nat → Int32) (c_bits : Int32) (c_size : Int32) (c_numbers : Nat → Int32) (p2 : Int32) (K : Int32 → Prop) (hv : v_X6_tellsMixed p2 n_people t_near g_near c_size c_numbers K) : CI l G yX6_tellsMixed (.code yX6_tellsMixed cX6_tellsMixed 4 (some .boolean) :: wsG) (rmm 1 22) [.ref (b 0), .ref (bc 0), .int p2] (wd_X6_21 G b bc images n_people n_taped n_waiting n_z t_day t_near g_day g_near c_bits c_size c_numbers) (S := Unit) (fun u => wd_X6_21 G b bc images n_people n_taped n_waiting n_z t_day t_near g_day g_near c_bits c_size c_numbers) (fun r u => (r = 0 ∨ r = 1) ∧ K r) := by
  refine ci_intro (by decide) rfl (fun _ => rfl) (Nat.le_of_ble_eq_true rfl) ?_
  intro p e s m args below meth c A H ls Q C hW hS hl ret
  have hx := C.1.1
  have hb := C.1.2.1
  generalize hls : ([] : List Loc) = locs at hS ⊢
  have hl : lv_has ls 4 [(0, .ref (b 0)), (1, .ref (bc 0)), (2, .int p2)] := hl
  have h_l_X6_tellsMixed_18 : ∀ (n : Nat), ∀ (x3 : Int32) (H : Heap) (locs : List Loc) (ls : Array Slot), wo G A (wd_X6_21 G b bc images n_people n_taped n_waiting n_z t_day t_near g_day g_near c_bits c_size c_numbers) H → va_S A s.heap H locs → lv_has ls 4 [(0, .ref (b 0)), (1, .ref (bc 0)), (2, .int p2), (3, .int x3)] → l_X6_tellsMixed_18 p2 n_people t_near g_near c_size c_numbers K n x3 → W p l e (rmm 1 22) s m args below meth c H locs 0 0 Q (F0 m 18 ls []) := by
    intro n
    induction n with
    | zero =>
      intro x3 H locs ls hW hS hl hv
      exact False.elim hv
    | succ n ih =>
      intro x3 H locs ls hW hS hl hv
      refine lv_iload_n hx hb dX6_tellsMixed_18 rfl (lv_at hl 3 rfl) ?_
      refine lv_aload_n hx hb dX6_tellsMixed_19 rfl (lv_at hl 1 rfl) ?_
      refine q_getN C kc2 hW 6 rfl 1 (by decide) nf_X6_220 rfl rfl dX6_tellsMixed_20 ?_
      refine lv_icmp_ge (tgt := 49) hx hb dX6_tellsMixed_23 (by decide) (fun c_2 => ?_) (fun c_2 => ?_)
      · replace hv := hv.1 c_2
        refine lv_iconst (v := 1) hx hb dX6_tellsMixed_49 kic_1 ?_
        exact ret () (1 : Int32) H locs ls _ (bl_narrow (Or.inr rfl)) hW hS ⟨(Or.inr rfl), hv⟩ dX6_tellsMixed_50
      · replace hv := hv.2 c_2
        refine lv_aload_n hx hb dX6_tellsMixed_26 rfl (lv_at hl 1 rfl) ?_
        refine q_getN C kc2 hW 6 rfl 2 (by decide) nf_X6_230 rfl rfl dX6_tellsMixed_27 ?_
        refine lv_iload_n hx hb dX6_tellsMixed_30 rfl (lv_at hl 3 rfl) ?_
        obtain ⟨h_3, hv⟩ := hv
        refine q_iald C hW 7 rfl h_3 dX6_tellsMixed_31 ?_
        refine lv_aload_n hx hb dX6_tellsMixed_32 rfl (lv_at hl 0 rfl) ?_
        refine lv_iload_n hx hb dX6_tellsMixed_33 rfl (lv_at hl 3 rfl) ?_
        refine lv_iload_n hx hb dX6_tellsMixed_34 rfl (lv_at hl 2 rfl) ?_
        refine q_callV (rest := [.int (c_numbers x3.toNatClampNeg)]) (n := 2) C (c_X6_nearIfSigned l G b images t_day t_near g_day g_near x3 p2 _ hv) ml_X6_263 kb_X6_nearIfSigned rfl ⟨⟨rfl, rfl⟩, (Nat.le_of_ble_eq_true rfl), (Nat.le_of_ble_eq_true rfl)⟩ hW hS [0, 2, 3, 4, 5] rfl rfl kc6 (q0 := 0) rfl hl.1 rfl (Nat.le_of_ble_eq_true rfl) dX6_tellsMixed_35 ⟨Nat.zero_le _, Nat.zero_le _⟩ (fun r_4 u_5 H locs hv hW hS => ?_)
        try dsimp only at hv
        refine lv_icmp_eq (tgt := 43) hx hb dX6_tellsMixed_38 (by decide) (fun c_6 => ?_) (fun c_6 => ?_)
        · replace hv := hv.1 c_6
          refine lv_iinc (v := (x3 + 1)) (lv' := [(3, .int (x3 + 1)), (0, .ref (b 0)), (1, .ref (bc 0)), (2, .int p2)]) hx hb dX6_tellsMixed_43 hl (k := 3) rfl rfl (by decide) rfl (fun ls hl => ?_)
          refine lv_goto (tgt := 18) hx hb dX6_tellsMixed_46 (by decide) ?_
          exact ih (x3 + 1) H locs ls hW hS (lv_sub hl [1, 2, 3, 0] rfl) hv
        · replace hv := hv.2 c_6
          refine lv_iconst (v := 0) hx hb dX6_tellsMixed_41 kic_0 ?_
          exact ret () (0 : Int32) H locs ls _ (bl_narrow (Or.inl rfl)) hW hS ⟨(Or.inl rfl), hv⟩ dX6_tellsMixed_42
  refine lv_aload_n hx hb dX6_tellsMixed_0 rfl (lv_at hl 1 rfl) ?_
  refine q_getN C kc2 hW 6 rfl 1 (by decide) nf_X6_220 rfl rfl dX6_tellsMixed_1 ?_
  refine lv_aload_n hx hb dX6_tellsMixed_4 rfl (lv_at hl 0 rfl) ?_
  refine q_get C kc6 hW 0 rfl 0 (by decide) fl_X6_10 rfl rfl dX6_tellsMixed_5 ?_
  refine q_getN C kc4 hW 1 rfl 0 (by decide) nf_X6_68 rfl rfl dX6_tellsMixed_8 ?_
  refine lv_icmp_le (tgt := 16) hx hb dX6_tellsMixed_11 (by decide) (fun c_1 => ?_) (fun c_1 => ?_)
  · replace hv := hv.1 c_1
    refine lv_iconst (v := 0) hx hb dX6_tellsMixed_16 kic_0 ?_
    refine lv_istore_n (lv' := [(3, .int (0 : Int32)), (0, .ref (b 0)), (1, .ref (bc 0)), (2, .int p2)]) hx hb dX6_tellsMixed_17 rfl hl (by decide) rfl (fun ls hl => ?_)
    obtain ⟨n_7, hv⟩ := hv
    exact h_l_X6_tellsMixed_18 n_7 (0 : Int32) H locs ls hW hS (lv_sub hl [1, 2, 3, 0] rfl) hv
  · replace hv := hv.2 c_1
    refine lv_iconst (v := 0) hx hb dX6_tellsMixed_14 kic_0 ?_
    exact ret () (0 : Int32) H locs ls _ (bl_narrow (Or.inl rfl)) hW hS ⟨(Or.inl rfl), hv⟩ dX6_tellsMixed_15
set_option maxHeartbeats 4000000 in
set_option maxRecDepth 100000 in
theorem c_X6_began (l : Launch) (G : Gt) (b : Nat → Nat) (images : Int32) (n_people : Int32) (n_taped : Int32) (n_waiting : Int32) (n_z : Int32) (n_kind : Nat → Int32) (n_em : Nat → Int32) (n_day : Int32) (n_near : Nat → Int32) (n_shows : Nat → Int32) (n_tmost : Int32) (n_tsize : Int32) (n_tsteps : Nat → Int32) (n_tstack : Nat → Int32) (n_gmost : Int32) (n_gsize : Int32) (n_gsteps : Nat → Int32) (n_gstack : Nat → Int32) (t_day : Int32) (t_near : Nat → Int32) (t_shows : Nat → Int32) (g_day : Int32) (g_near : Nat → Int32) (g_shows : Nat → Int32) (shb : Nat → Int32) (shs : Nat → Int32) (shn : Nat → Nat → Int32) (errs : Nat → Int32) (p1 : Int32) (p2 : Int32) (p3 : Int32) (K : Int32 → (Nat → Int32) → (Nat → Int32) → Int32 → (Nat → Int32) → (Nat → Int32) → Int32 → (Nat → Int32) → (Nat → Int32) → (Nat → Int32) → Prop) (hv : v_X6_began p1 p2 p3 n_people n_kind n_em n_day n_near n_shows n_tmost n_tsize n_tsteps n_tstack n_gmost n_gsize n_gsteps n_gstack t_day t_near t_shows g_day g_near g_shows shb shs shn errs K) : CI l G yX6_began (.code yX6_began cX6_began 9 (some .int) :: wsG) (rmm 6 145) [.ref (b 0), .int p1, .int p2, .int p3] (wd_X6_22 G b images n_people n_taped n_waiting n_z n_kind n_em n_day n_near n_shows n_tmost n_tsize n_tsteps n_tstack n_gmost n_gsize n_gsteps n_gstack t_day t_near t_shows g_day g_near g_shows shb shs shn errs) (S := (Nat → Int32) × (Nat → Int32) × Int32 × (Nat → Int32) × (Nat → Int32) × Int32 × (Nat → Int32) × (Nat → Int32) × (Nat → Int32)) (fun u => wd_X6_22 G b images n_people n_taped n_waiting n_z n_kind n_em n_day n_near n_shows n_tmost n_tsize n_tsteps u.1 n_gmost n_gsize n_gsteps u.2.1 u.2.2.1 u.2.2.2.1 u.2.2.2.2.1 u.2.2.2.2.2.1 u.2.2.2.2.2.2.1 u.2.2.2.2.2.2.2.1 shb shs shn u.2.2.2.2.2.2.2.2) (fun r u => K r u.1 u.2.1 u.2.2.1 u.2.2.2.1 u.2.2.2.2.1 u.2.2.2.2.2.1 u.2.2.2.2.2.2.1 u.2.2.2.2.2.2.2.1 u.2.2.2.2.2.2.2.2) := by
  refine ci_intro (by decide) rfl (fun _ => rfl) (Nat.le_of_ble_eq_true rfl) ?_
  intro p e s m args below meth c A H ls Q C hW hS hl ret
  have hx := C.1.1
  have hb := C.1.2.1
  generalize hls : ([] : List Loc) = locs at hS ⊢
  have hl : lv_has ls 9 [(0, .ref (b 0)), (1, .int p1), (2, .int p2), (3, .int p3)] := hl
  have h_j_X6_began_24 : ∀ (n_tstack : Nat → Int32) (n_gstack : Nat → Int32) (t_day : Int32) (t_near : Nat → Int32) (t_shows : Nat → Int32) (g_day : Int32) (g_near : Nat → Int32) (g_shows : Nat → Int32) (errs : Nat → Int32) (H : Heap) (locs : List Loc) (ls : Array Slot), wo G A (wd_X6_22 G b images n_people n_taped n_waiting n_z n_kind n_em n_day n_near n_shows n_tmost n_tsize n_tsteps n_tstack n_gmost n_gsize n_gsteps n_gstack t_day t_near t_shows g_day g_near g_shows shb shs shn errs) H → va_S A s.heap H locs → lv_has ls 9 [(0, .ref (b 0))] → j_X6_began_24 p1 p2 p3 n_people n_kind n_em n_day n_near n_shows n_tmost n_tsize n_tsteps n_gmost n_gsize n_gsteps shb shs shn K n_tstack n_gstack t_day t_near t_shows g_day g_near g_shows errs → W p l e (rmm 6 145) s m args below meth c H locs 0 0 Q (F0 m 24 ls []) := by
    intro n_tstack n_gstack t_day t_near t_shows g_day g_near g_shows errs H locs ls hW hS hl hv
    refine lv_aload_n hx hb dX6_began_24 rfl (lv_at hl 0 rfl) ?_
    refine lv_iconst (v := 1) hx hb dX6_began_25 kic_1 ?_
    refine q_callV (rest := []) (n := 1) C (c_X6_error l G b images errs (1 : Int32) _ hv) ml_X6_64 kb_X6_error rfl ⟨⟨rfl, rfl⟩, (Nat.le_of_ble_eq_true rfl), (Nat.le_of_ble_eq_true rfl)⟩ hW hS [0, 28] rfl rfl kc6 (q0 := 0) rfl hl.1 rfl (Nat.le_of_ble_eq_true rfl) dX6_began_26 ⟨Nat.zero_le _, Nat.zero_le _⟩ (fun r_4 u_5 H locs hv hW hS => ?_)
    obtain ⟨errs_4, rfl⟩ : ∃ z, z = u_5 := ⟨_, rfl⟩
    try dsimp only at hv
    have hW : wo G A (wd_X6_22 G b images n_people n_taped n_waiting n_z n_kind n_em n_day n_near n_shows n_tmost n_tsize n_tsteps n_tstack n_gmost n_gsize n_gsteps n_gstack t_day t_near t_shows g_day g_near g_shows shb shs shn errs_4) H := hW
    exact ret (n_tstack, n_gstack, t_day, t_near, t_shows, g_day, g_near, g_shows, errs_4) r_4 H locs ls _ rfl hW hS hv dX6_began_29
  have h_j_X6_began_140 : ∀ (B62 : Int32 → Int32 → Int32 → (Nat → Int32) → (Nat → Int32) → Int32 → (Nat → Int32) → (Nat → Int32) → Int32 → (Nat → Int32) → (Nat → Int32) → (Nat → Int32) → Prop) (hB62 : ∀ (x4 : Int32) (x5 : Int32) (x6 : Int32) (n_tstack : Nat → Int32) (n_gstack : Nat → Int32) (t_day : Int32) (t_near : Nat → Int32) (t_shows : Nat → Int32) (g_day : Int32) (g_near : Nat → Int32) (g_shows : Nat → Int32) (errs : Nat → Int32) (H : Heap) (locs : List Loc) (ls : Array Slot), wo G A (wd_X6_22 G b images n_people n_taped n_waiting n_z n_kind n_em n_day n_near n_shows n_tmost n_tsize n_tsteps n_tstack n_gmost n_gsize n_gsteps n_gstack t_day t_near t_shows g_day g_near g_shows shb shs shn errs) H → va_S A s.heap H locs → lv_has ls 9 [(0, .ref (b 0)), (1, .int p1), (2, .int p2), (3, .int p3), (4, .int x4), (5, .int x5), (6, .int x6)] → B62 x4 x5 x6 n_tstack n_gstack t_day t_near t_shows g_day g_near g_shows errs → W p l e (rmm 6 145) s m args below meth c H locs 0 0 Q (F0 m 62 ls [])) (B79 : Int32 → Int32 → Int32 → Int32 → (Nat → Int32) → (Nat → Int32) → Int32 → (Nat → Int32) → (Nat → Int32) → Int32 → (Nat → Int32) → (Nat → Int32) → (Nat → Int32) → Prop) (hB79 : ∀ (x4 : Int32) (x5 : Int32) (x6 : Int32) (x7 : Int32) (n_tstack : Nat → Int32) (n_gstack : Nat → Int32) (t_day : Int32) (t_near : Nat → Int32) (t_shows : Nat → Int32) (g_day : Int32) (g_near : Nat → Int32) (g_shows : Nat → Int32) (errs : Nat → Int32) (H : Heap) (locs : List Loc) (ls : Array Slot), wo G A (wd_X6_22 G b images n_people n_taped n_waiting n_z n_kind n_em n_day n_near n_shows n_tmost n_tsize n_tsteps n_tstack n_gmost n_gsize n_gsteps n_gstack t_day t_near t_shows g_day g_near g_shows shb shs shn errs) H → va_S A s.heap H locs → lv_has ls 9 [(0, .ref (b 0)), (1, .int p1), (2, .int p2), (3, .int p3), (4, .int x4), (5, .int x5), (6, .int x6), (7, .int x7)] → B79 x4 x5 x6 x7 n_tstack n_gstack t_day t_near t_shows g_day g_near g_shows errs → W p l e (rmm 6 145) s m args below meth c H locs 0 0 Q (F0 m 79 ls [])), ∀ (x4 : Int32) (x5 : Int32) (x6 : Int32) (x7 : Int32) (n_tstack : Nat → Int32) (n_gstack : Nat → Int32) (t_day : Int32) (t_near : Nat → Int32) (t_shows : Nat → Int32) (g_day : Int32) (g_near : Nat → Int32) (g_shows : Nat → Int32) (errs : Nat → Int32) (H : Heap) (locs : List Loc) (ls : Array Slot), wo G A (wd_X6_22 G b images n_people n_taped n_waiting n_z n_kind n_em n_day n_near n_shows n_tmost n_tsize n_tsteps n_tstack n_gmost n_gsize n_gsteps n_gstack t_day t_near t_shows g_day g_near g_shows shb shs shn errs) H → va_S A s.heap H locs → lv_has ls 9 [(0, .ref (b 0)), (1, .int p1), (2, .int p2), (3, .int p3), (4, .int x4), (5, .int x5), (6, .int x6), (7, .int x7)] → j_X6_began_140 p1 p2 p3 n_people n_kind n_em n_day n_near n_shows n_tmost n_tsize n_tsteps n_gmost n_gsize n_gsteps shb shs shn B62 B79 K x4 x5 x6 x7 n_tstack n_gstack t_day t_near t_shows g_day g_near g_shows errs → W p l e (rmm 6 145) s m args below meth c H locs 0 0 Q (F0 m 140 ls []) := by
    intro B62 hB62 B79 hB79 x4 x5 x6 x7 n_tstack n_gstack t_day t_near t_shows g_day g_near g_shows errs H locs ls hW hS hl hv
    refine lv_iinc (v := (x7 + 1)) (lv' := [(7, .int (x7 + 1)), (0, .ref (b 0)), (1, .int p1), (2, .int p2), (3, .int p3), (4, .int x4), (5, .int x5), (6, .int x6)]) hx hb dX6_began_140 hl (k := 7) rfl rfl (by decide) rfl (fun ls hl => ?_)
    refine lv_goto (tgt := 79) hx hb dX6_began_143 (by decide) ?_
    exact hB79 x4 x5 x6 (x7 + 1) n_tstack n_gstack t_day t_near t_shows g_day g_near g_shows errs H locs ls hW hS (lv_sub hl [1, 2, 3, 4, 5, 6, 7, 0] rfl) hv
  have h_j_X6_began_135 : ∀ (B62 : Int32 → Int32 → Int32 → (Nat → Int32) → (Nat → Int32) → Int32 → (Nat → Int32) → (Nat → Int32) → Int32 → (Nat → Int32) → (Nat → Int32) → (Nat → Int32) → Prop) (hB62 : ∀ (x4 : Int32) (x5 : Int32) (x6 : Int32) (n_tstack : Nat → Int32) (n_gstack : Nat → Int32) (t_day : Int32) (t_near : Nat → Int32) (t_shows : Nat → Int32) (g_day : Int32) (g_near : Nat → Int32) (g_shows : Nat → Int32) (errs : Nat → Int32) (H : Heap) (locs : List Loc) (ls : Array Slot), wo G A (wd_X6_22 G b images n_people n_taped n_waiting n_z n_kind n_em n_day n_near n_shows n_tmost n_tsize n_tsteps n_tstack n_gmost n_gsize n_gsteps n_gstack t_day t_near t_shows g_day g_near g_shows shb shs shn errs) H → va_S A s.heap H locs → lv_has ls 9 [(0, .ref (b 0)), (1, .int p1), (2, .int p2), (3, .int p3), (4, .int x4), (5, .int x5), (6, .int x6)] → B62 x4 x5 x6 n_tstack n_gstack t_day t_near t_shows g_day g_near g_shows errs → W p l e (rmm 6 145) s m args below meth c H locs 0 0 Q (F0 m 62 ls [])) (B79 : Int32 → Int32 → Int32 → Int32 → (Nat → Int32) → (Nat → Int32) → Int32 → (Nat → Int32) → (Nat → Int32) → Int32 → (Nat → Int32) → (Nat → Int32) → (Nat → Int32) → Prop) (hB79 : ∀ (x4 : Int32) (x5 : Int32) (x6 : Int32) (x7 : Int32) (n_tstack : Nat → Int32) (n_gstack : Nat → Int32) (t_day : Int32) (t_near : Nat → Int32) (t_shows : Nat → Int32) (g_day : Int32) (g_near : Nat → Int32) (g_shows : Nat → Int32) (errs : Nat → Int32) (H : Heap) (locs : List Loc) (ls : Array Slot), wo G A (wd_X6_22 G b images n_people n_taped n_waiting n_z n_kind n_em n_day n_near n_shows n_tmost n_tsize n_tsteps n_tstack n_gmost n_gsize n_gsteps n_gstack t_day t_near t_shows g_day g_near g_shows shb shs shn errs) H → va_S A s.heap H locs → lv_has ls 9 [(0, .ref (b 0)), (1, .int p1), (2, .int p2), (3, .int p3), (4, .int x4), (5, .int x5), (6, .int x6), (7, .int x7)] → B79 x4 x5 x6 x7 n_tstack n_gstack t_day t_near t_shows g_day g_near g_shows errs → W p l e (rmm 6 145) s m args below meth c H locs 0 0 Q (F0 m 79 ls [])), ∀ (x4 : Int32) (x6 : Int32) (x7 : Int32) (t0 : Int32) (n_tstack : Nat → Int32) (n_gstack : Nat → Int32) (t_day : Int32) (t_near : Nat → Int32) (t_shows : Nat → Int32) (g_day : Int32) (g_near : Nat → Int32) (g_shows : Nat → Int32) (errs : Nat → Int32) (H : Heap) (locs : List Loc) (ls : Array Slot), wo G A (wd_X6_22 G b images n_people n_taped n_waiting n_z n_kind n_em n_day n_near n_shows n_tmost n_tsize n_tsteps n_tstack n_gmost n_gsize n_gsteps n_gstack t_day t_near t_shows g_day g_near g_shows shb shs shn errs) H → va_S A s.heap H locs → lv_has ls 9 [(0, .ref (b 0)), (1, .int p1), (2, .int p2), (3, .int p3), (4, .int x4), (6, .int x6), (7, .int x7)] → j_X6_began_135 p1 p2 p3 n_people n_kind n_em n_day n_near n_shows n_tmost n_tsize n_tsteps n_gmost n_gsize n_gsteps shb shs shn B62 B79 K x4 x6 x7 t0 n_tstack n_gstack t_day t_near t_shows g_day g_near g_shows errs → W p l e (rmm 6 145) s m args below meth c H locs 0 0 Q (F0 m 135 ls [.int t0]) := by
    intro B62 hB62 B79 hB79 x4 x6 x7 t0 n_tstack n_gstack t_day t_near t_shows g_day g_near g_shows errs H locs ls hW hS hl hv
    refine lv_istore (lv' := [(5, .int t0), (0, .ref (b 0)), (1, .int p1), (2, .int p2), (3, .int p3), (4, .int x4), (6, .int x6), (7, .int x7)]) hx hb dX6_began_135 hl (by decide) rfl (fun ls hl => ?_)
    refine lv_iinc (v := (x4 + 1)) (lv' := [(4, .int (x4 + 1)), (5, .int t0), (0, .ref (b 0)), (1, .int p1), (2, .int p2), (3, .int p3), (6, .int x6), (7, .int x7)]) hx hb dX6_began_137 hl (k := 5) rfl rfl (by decide) rfl (fun ls hl => ?_)
    exact h_j_X6_began_140 B62 hB62 B79 hB79 (x4 + 1) t0 x6 x7 n_tstack n_gstack t_day t_near t_shows g_day g_near g_shows errs H locs ls hW hS (lv_sub hl [2, 3, 4, 5, 0, 1, 6, 7] rfl) hv
  have h_l_X6_began_79 : ∀ (B62 : Int32 → Int32 → Int32 → (Nat → Int32) → (Nat → Int32) → Int32 → (Nat → Int32) → (Nat → Int32) → Int32 → (Nat → Int32) → (Nat → Int32) → (Nat → Int32) → Prop) (hB62 : ∀ (x4 : Int32) (x5 : Int32) (x6 : Int32) (n_tstack : Nat → Int32) (n_gstack : Nat → Int32) (t_day : Int32) (t_near : Nat → Int32) (t_shows : Nat → Int32) (g_day : Int32) (g_near : Nat → Int32) (g_shows : Nat → Int32) (errs : Nat → Int32) (H : Heap) (locs : List Loc) (ls : Array Slot), wo G A (wd_X6_22 G b images n_people n_taped n_waiting n_z n_kind n_em n_day n_near n_shows n_tmost n_tsize n_tsteps n_tstack n_gmost n_gsize n_gsteps n_gstack t_day t_near t_shows g_day g_near g_shows shb shs shn errs) H → va_S A s.heap H locs → lv_has ls 9 [(0, .ref (b 0)), (1, .int p1), (2, .int p2), (3, .int p3), (4, .int x4), (5, .int x5), (6, .int x6)] → B62 x4 x5 x6 n_tstack n_gstack t_day t_near t_shows g_day g_near g_shows errs → W p l e (rmm 6 145) s m args below meth c H locs 0 0 Q (F0 m 62 ls [])) (n : Nat), ∀ (x4 : Int32) (x5 : Int32) (x6 : Int32) (x7 : Int32) (n_tstack : Nat → Int32) (n_gstack : Nat → Int32) (t_day : Int32) (t_near : Nat → Int32) (t_shows : Nat → Int32) (g_day : Int32) (g_near : Nat → Int32) (g_shows : Nat → Int32) (errs : Nat → Int32) (H : Heap) (locs : List Loc) (ls : Array Slot), wo G A (wd_X6_22 G b images n_people n_taped n_waiting n_z n_kind n_em n_day n_near n_shows n_tmost n_tsize n_tsteps n_tstack n_gmost n_gsize n_gsteps n_gstack t_day t_near t_shows g_day g_near g_shows shb shs shn errs) H → va_S A s.heap H locs → lv_has ls 9 [(0, .ref (b 0)), (1, .int p1), (2, .int p2), (3, .int p3), (4, .int x4), (5, .int x5), (6, .int x6), (7, .int x7)] → l_X6_began_79 p1 p2 p3 n_people n_kind n_em n_day n_near n_shows n_tmost n_tsize n_tsteps n_gmost n_gsize n_gsteps shb shs shn B62 K n x4 x5 x6 x7 n_tstack n_gstack t_day t_near t_shows g_day g_near g_shows errs → W p l e (rmm 6 145) s m args below meth c H locs 0 0 Q (F0 m 79 ls []) := by
    intro B62 hB62 n
    induction n with
    | zero =>
      intro x4 x5 x6 x7 n_tstack n_gstack t_day t_near t_shows g_day g_near g_shows errs H locs ls hW hS hl hv
      exact False.elim hv
    | succ n ih =>
      intro x4 x5 x6 x7 n_tstack n_gstack t_day t_near t_shows g_day g_near g_shows errs H locs ls hW hS hl hv
      refine lv_iload hx hb dX6_began_79 (lv_at hl 7 rfl) ?_
      refine lv_aload_n hx hb dX6_began_81 rfl (lv_at hl 0 rfl) ?_
      refine q_get C kc6 hW 0 rfl 0 (by decide) fl_X6_10 rfl rfl dX6_began_82 ?_
      refine q_getN C kc4 hW 1 rfl 0 (by decide) nf_X6_68 rfl rfl dX6_began_85 ?_
      refine lv_icmp_ge (tgt := 146) hx hb dX6_began_88 (by decide) (fun c_26 => ?_) (fun c_26 => ?_)
      · replace hv := hv.1 c_26
        refine lv_iinc (v := (x6 + 1)) (lv' := [(6, .int (x6 + 1)), (0, .ref (b 0)), (1, .int p1), (2, .int p2), (3, .int p3), (4, .int x4), (5, .int x5), (7, .int x7)]) hx hb dX6_began_146 hl (k := 6) rfl rfl (by decide) rfl (fun ls hl => ?_)
        refine lv_goto (tgt := 62) hx hb dX6_began_149 (by decide) ?_
        exact hB62 x4 x5 (x6 + 1) n_tstack n_gstack t_day t_near t_shows g_day g_near g_shows errs H locs ls hW hS (lv_sub hl [1, 2, 3, 4, 5, 6, 0] rfl) hv
      · replace hv := hv.2 c_26
        refine lv_aload_n hx hb dX6_began_91 rfl (lv_at hl 0 rfl) ?_
        refine lv_aload_n hx hb dX6_began_92 rfl (lv_at hl 0 rfl) ?_
        refine q_get C kc6 hW 0 rfl 7 (by decide) fl_X6_46 rfl rfl dX6_began_93 ?_
        refine lv_iload_n hx hb dX6_began_96 rfl (lv_at hl 1 rfl) ?_
        obtain ⟨h_27, hv⟩ := hv
        refine va_aldq (D := G.1) (cl := GB_cl) (tys := tyG G) hx hb C.2.1 hW.1 19 2 rfl rfl h_27 dX6_began_97 ?_
        have hj_p1_toNatClampNeg : p1.toNatClampNeg < 4 := Nat.not_le.mp fun q => h_27 (Or.inr q)
        refine lv_iconst (v := 1) hx hb dX6_began_98 kic_1 ?_
        refine lv_iload hx hb dX6_began_99 (lv_at hl 7 rfl) ?_
        refine lv_ishl hx hb dX6_began_101 ?_
        refine q_callV (rest := []) (n := 2) C (c_X6_tellsMixed l G b (fun k => b (43 + 2 * p1.toNatClampNeg + k)) images n_people n_taped n_waiting n_z t_day t_near g_day g_near (shb p1.toNatClampNeg) (shs p1.toNatClampNeg) (shn p1.toNatClampNeg) ((1 : Int32) <<< (x7 &&& 31)) _ hv) ml_X6_194 kb_X6_tellsMixed rfl ⟨⟨rfl, rfl⟩, (Nat.le_of_ble_eq_true rfl), (Nat.le_of_ble_eq_true rfl)⟩ hW hS [0, 1, 13, 14, 16, 17, 20 + 2 * p1.toNatClampNeg, 21 + 2 * p1.toNatClampNeg] (co_4 (P := fun j => va_nd [0, 1, 13, 14, 16, 17, 20 + 2 * j, 21 + 2 * j] = true) rfl rfl rfl rfl hj_p1_toNatClampNeg) (co_4 (P := fun j => [0, 1, 13, 14, 16, 17, 20 + 2 * j, 21 + 2 * j].map (fun i => (wd_X6_22 G b images n_people n_taped n_waiting n_z n_kind n_em n_day n_near n_shows n_tmost n_tsize n_tsteps n_tstack n_gmost n_gsize n_gsteps n_gstack t_day t_near t_shows g_day g_near g_shows shb shs shn errs)[i]?) = (wd_X6_21 G b (fun k => b (43 + 2 * j + k)) images n_people n_taped n_waiting n_z t_day t_near g_day g_near (shb j) (shs j) (shn j)).map some) rfl rfl rfl rfl hj_p1_toNatClampNeg) kc6 (q0 := 0) rfl hl.1 rfl (Nat.le_of_ble_eq_true rfl) dX6_began_102 ⟨Nat.zero_le _, Nat.zero_le _⟩ (fun r_28 u_29 H locs hv hW hS => ?_)
        obtain ⟨hv_b_28, hv⟩ := hv
        try dsimp only at hv
        have e_30 := co_4 (P := fun j => mix (wd_X6_22 G b images n_people n_taped n_waiting n_z n_kind n_em n_day n_near n_shows n_tmost n_tsize n_tsteps n_tstack n_gmost n_gsize n_gsteps n_gstack t_day t_near t_shows g_day g_near g_shows shb shs shn errs) [0, 1, 13, 14, 16, 17, 20 + 2 * j, 21 + 2 * j] (wd_X6_21 G b (fun k => b (43 + 2 * j + k)) images n_people n_taped n_waiting n_z t_day t_near g_day g_near (shb j) (shs j) (shn j)) = (wd_X6_22 G b images n_people n_taped n_waiting n_z n_kind n_em n_day n_near n_shows n_tmost n_tsize n_tsteps n_tstack n_gmost n_gsize n_gsteps n_gstack t_day t_near t_shows g_day g_near g_shows shb shs shn errs)) rfl rfl rfl rfl hj_p1_toNatClampNeg
        have hW : wo G A (wd_X6_22 G b images n_people n_taped n_waiting n_z n_kind n_em n_day n_near n_shows n_tmost n_tsize n_tsteps n_tstack n_gmost n_gsize n_gsteps n_gstack t_day t_near t_shows g_day g_near g_shows shb shs shn errs) H := Eq.mp (congrArg (fun z => wo G A z H) e_30) hW
        refine lv_if_eq (tgt := 140) hx hb dX6_began_105 (by decide) (fun c_31 => ?_) (fun c_31 => ?_)
        · replace hv := hv.1 c_31
          exact h_j_X6_began_140 B62 hB62 (fun x4' x5' x6' x7' n_tstack' n_gstack' t_day' t_near' t_shows' g_day' g_near' g_shows' errs' => l_X6_began_79 p1 p2 p3 n_people n_kind n_em n_day n_near n_shows n_tmost n_tsize n_tsteps n_gmost n_gsize n_gsteps shb shs shn B62 K n x4' x5' x6' x7' n_tstack' n_gstack' t_day' t_near' t_shows' g_day' g_near' g_shows' errs') ih x4 x5 x6 x7 n_tstack n_gstack t_day t_near t_shows g_day g_near g_shows errs H locs ls hW hS (lv_sub hl [0, 1, 2, 3, 4, 5, 6, 7] rfl) hv
        · replace hv := hv.2 c_31
          refine lv_bipush (v := 10) hx hb dX6_began_108 kbp_10 ?_
          refine lv_iload hx hb dX6_began_110 (lv_at hl 7 rfl) ?_
          refine lv_imul hx hb dX6_began_112 ?_
          refine lv_iload hx hb dX6_began_113 (lv_at hl 6 rfl) ?_
          refine lv_iadd hx hb dX6_began_115 ?_
          refine lv_istore (lv' := [(8, .int (((10 : Int32) * x7) + x6)), (0, .ref (b 0)), (1, .int p1), (2, .int p2), (3, .int p3), (4, .int x4), (5, .int x5), (6, .int x6), (7, .int x7)]) hx hb dX6_began_116 hl (by decide) rfl (fun ls hl => ?_)
          refine lv_iload hx hb dX6_began_118 (lv_at hl 5 rfl) ?_
          refine lv_if_ne (tgt := 128) hx hb dX6_began_120 (by decide) (fun c_32 => ?_) (fun c_32 => ?_)
          · replace hv := hv.1 c_32
            refine lv_iload hx hb dX6_began_128 (lv_at hl 6 rfl) ?_
            refine lv_iload hx hb dX6_began_130 (lv_at hl 0 rfl) ?_
            refine va_mmin hx hb (C.1.2.2.1.trans hl.1.symm) C.1.2.2.2.1 (C.hts ml_X6_198) (C.hts st_mmin) (C.hts ini_javalangMath) (C.hts cd_mmin) (Nat.le_of_ble_eq_true rfl) (Nat.le_of_ble_eq_true rfl) (Nat.zero_le _) (Nat.zero_le _) dX6_began_132 ?_
            exact h_j_X6_began_135 B62 hB62 (fun x4' x5' x6' x7' n_tstack' n_gstack' t_day' t_near' t_shows' g_day' g_near' g_shows' errs' => l_X6_began_79 p1 p2 p3 n_people n_kind n_em n_day n_near n_shows n_tmost n_tsize n_tsteps n_gmost n_gsize n_gsteps shb shs shn B62 K n x4' x5' x6' x7' n_tstack' n_gstack' t_day' t_near' t_shows' g_day' g_near' g_shows' errs') ih x4 x6 x7 (if (((10 : Int32) * x7) + x6) < x5 then (((10 : Int32) * x7) + x6) else x5) n_tstack n_gstack t_day t_near t_shows g_day g_near g_shows errs H locs ls hW hS (lv_sub hl [1, 2, 3, 4, 5, 7, 8] rfl) hv
          · replace hv := hv.2 c_32
            refine lv_iload hx hb dX6_began_123 (lv_at hl 0 rfl) ?_
            refine lv_goto (tgt := 135) hx hb dX6_began_125 (by decide) ?_
            exact h_j_X6_began_135 B62 hB62 (fun x4' x5' x6' x7' n_tstack' n_gstack' t_day' t_near' t_shows' g_day' g_near' g_shows' errs' => l_X6_began_79 p1 p2 p3 n_people n_kind n_em n_day n_near n_shows n_tmost n_tsize n_tsteps n_gmost n_gsize n_gsteps shb shs shn B62 K n x4' x5' x6' x7' n_tstack' n_gstack' t_day' t_near' t_shows' g_day' g_near' g_shows' errs') ih x4 x6 x7 (((10 : Int32) * x7) + x6) n_tstack n_gstack t_day t_near t_shows g_day g_near g_shows errs H locs ls hW hS (lv_sub hl [1, 2, 3, 4, 5, 7, 8] rfl) hv
  have h_l_X6_began_62 : ∀ (n : Nat), ∀ (x4 : Int32) (x5 : Int32) (x6 : Int32) (n_tstack : Nat → Int32) (n_gstack : Nat → Int32) (t_day : Int32) (t_near : Nat → Int32) (t_shows : Nat → Int32) (g_day : Int32) (g_near : Nat → Int32) (g_shows : Nat → Int32) (errs : Nat → Int32) (H : Heap) (locs : List Loc) (ls : Array Slot), wo G A (wd_X6_22 G b images n_people n_taped n_waiting n_z n_kind n_em n_day n_near n_shows n_tmost n_tsize n_tsteps n_tstack n_gmost n_gsize n_gsteps n_gstack t_day t_near t_shows g_day g_near g_shows shb shs shn errs) H → va_S A s.heap H locs → lv_has ls 9 [(0, .ref (b 0)), (1, .int p1), (2, .int p2), (3, .int p3), (4, .int x4), (5, .int x5), (6, .int x6)] → l_X6_began_62 p1 p2 p3 n_people n_kind n_em n_day n_near n_shows n_tmost n_tsize n_tsteps n_gmost n_gsize n_gsteps shb shs shn K n x4 x5 x6 n_tstack n_gstack t_day t_near t_shows g_day g_near g_shows errs → W p l e (rmm 6 145) s m args below meth c H locs 0 0 Q (F0 m 62 ls []) := by
    intro n
    induction n with
    | zero =>
      intro x4 x5 x6 n_tstack n_gstack t_day t_near t_shows g_day g_near g_shows errs H locs ls hW hS hl hv
      exact False.elim hv
    | succ n ih =>
      intro x4 x5 x6 n_tstack n_gstack t_day t_near t_shows g_day g_near g_shows errs H locs ls hW hS hl hv
      refine lv_iload hx hb dX6_began_62 (lv_at hl 6 rfl) ?_
      refine lv_bipush (v := 9) hx hb dX6_began_64 kbp_9 ?_
      refine lv_icmp_gt (tgt := 152) hx hb dX6_began_66 (by decide) (fun c_19 => ?_) (fun c_19 => ?_)
      · replace hv := hv.1 c_19
        refine lv_iload_n hx hb dX6_began_152 rfl (lv_at hl 3 rfl) ?_
        refine lv_if_ne (tgt := 159) hx hb dX6_began_153 (by decide) (fun c_20 => ?_) (fun c_20 => ?_)
        · replace hv := hv.1 c_20
          refine lv_iload hx hb dX6_began_159 (lv_at hl 4 rfl) ?_
          refine lv_if_ne (tgt := 172) hx hb dX6_began_161 (by decide) (fun c_21 => ?_) (fun c_21 => ?_)
          · replace hv := hv.1 c_21
            refine lv_iload hx hb dX6_began_172 (lv_at hl 5 rfl) ?_
            exact ret (n_tstack, n_gstack, t_day, t_near, t_shows, g_day, g_near, g_shows, errs) x5 H locs ls _ rfl hW hS hv dX6_began_174
          · replace hv := hv.2 c_21
            refine lv_aload_n hx hb dX6_began_164 rfl (lv_at hl 0 rfl) ?_
            refine lv_iconst (v := 2) hx hb dX6_began_165 kic_2 ?_
            refine q_callV (rest := []) (n := 1) C (c_X6_error l G b images errs (2 : Int32) _ hv) ml_X6_64 kb_X6_error rfl ⟨⟨rfl, rfl⟩, (Nat.le_of_ble_eq_true rfl), (Nat.le_of_ble_eq_true rfl)⟩ hW hS [0, 28] rfl rfl kc6 (q0 := 0) rfl hl.1 rfl (Nat.le_of_ble_eq_true rfl) dX6_began_166 ⟨Nat.zero_le _, Nat.zero_le _⟩ (fun r_22 u_23 H locs hv hW hS => ?_)
            obtain ⟨errs_22, rfl⟩ : ∃ z, z = u_23 := ⟨_, rfl⟩
            try dsimp only at hv
            have hW : wo G A (wd_X6_22 G b images n_people n_taped n_waiting n_z n_kind n_em n_day n_near n_shows n_tmost n_tsize n_tsteps n_tstack n_gmost n_gsize n_gsteps n_gstack t_day t_near t_shows g_day g_near g_shows shb shs shn errs_22) H := hW
            refine lv_goto (tgt := 174) hx hb dX6_began_169 (by decide) ?_
            exact ret (n_tstack, n_gstack, t_day, t_near, t_shows, g_day, g_near, g_shows, errs_22) r_22 H locs ls _ rfl hW hS hv dX6_began_174
        · replace hv := hv.2 c_20
          refine lv_iload hx hb dX6_began_156 (lv_at hl 4 rfl) ?_
          exact ret (n_tstack, n_gstack, t_day, t_near, t_shows, g_day, g_near, g_shows, errs) x4 H locs ls _ rfl hW hS hv dX6_began_158
      · replace hv := hv.2 c_19
        refine lv_aload_n hx hb dX6_began_69 rfl (lv_at hl 0 rfl) ?_
        refine lv_iload hx hb dX6_began_70 (lv_at hl 6 rfl) ?_
        refine lv_iload_n hx hb dX6_began_72 rfl (lv_at hl 2 rfl) ?_
        refine q_callVv (rest := []) (n := 2) C (c_X6_thinkSigned l G b images n_people n_taped n_waiting n_z n_kind n_em n_day n_near n_shows n_tmost n_tsize n_tsteps n_tstack n_gmost n_gsize n_gsteps n_gstack g_day g_near g_shows x6 p2 _ hv) ml_X6_166 kb_X6_thinkSigned rfl ⟨⟨rfl, rfl⟩, (Nat.le_of_ble_eq_true rfl), (Nat.le_of_ble_eq_true rfl)⟩ hW hS [0, 1, 2, 3, 4, 5, 6, 7, 8, 9, 10, 11, 12, 16, 17, 18] rfl rfl kc6 (q0 := 0) rfl hl.1 rfl (Nat.le_of_ble_eq_true rfl) dX6_began_73 ⟨Nat.zero_le _, Nat.zero_le _⟩ (fun u_25 H locs hv hW hS => ?_)
        obtain ⟨n_tstack_24, n_gstack_24, g_day_24, g_near_24, g_shows_24⟩ := u_25
        try dsimp only at hv
        have hW : wo G A (wd_X6_22 G b images n_people n_taped n_waiting n_z n_kind n_em n_day n_near n_shows n_tmost n_tsize n_tsteps n_tstack_24 n_gmost n_gsize n_gsteps n_gstack_24 t_day t_near t_shows g_day_24 g_near_24 g_shows_24 shb shs shn errs) H := hW
        refine lv_iconst (v := 0) hx hb dX6_began_76 kic_0 ?_
        refine lv_istore (lv' := [(7, .int (0 : Int32)), (0, .ref (b 0)), (1, .int p1), (2, .int p2), (3, .int p3), (4, .int x4), (5, .int x5), (6, .int x6)]) hx hb dX6_began_77 hl (by decide) rfl (fun ls hl => ?_)
        obtain ⟨n_33, hv⟩ := hv
        exact h_l_X6_began_79 (fun x4' x5' x6' n_tstack' n_gstack' t_day' t_near' t_shows' g_day' g_near' g_shows' errs' => l_X6_began_62 p1 p2 p3 n_people n_kind n_em n_day n_near n_shows n_tmost n_tsize n_tsteps n_gmost n_gsize n_gsteps shb shs shn K n x4' x5' x6' n_tstack' n_gstack' t_day' t_near' t_shows' g_day' g_near' g_shows' errs') ih n_33 x4 x5 x6 (0 : Int32) n_tstack_24 n_gstack_24 t_day t_near t_shows g_day_24 g_near_24 g_shows_24 errs H locs ls hW hS (lv_sub hl [1, 2, 3, 4, 5, 6, 7, 0] rfl) hv
  refine lv_iload_n hx hb dX6_began_0 rfl (lv_at hl 1 rfl) ?_
  refine q_callS (rest := []) (n := 1) C (c_X6_isSheet l G p1 _ hv) ml_X6_187 kb_X6_isSheet rfl ⟨⟨rfl, rfl⟩, (Nat.le_of_ble_eq_true rfl), (Nat.le_of_ble_eq_true rfl)⟩ hW hS hl.1 rfl (Nat.le_of_ble_eq_true rfl) dX6_began_1 ⟨Nat.zero_le _, Nat.zero_le _⟩ (fun r_1 u_2 H locs hv hW hS => ?_)
  obtain ⟨hv_b_1, hv⟩ := hv
  try dsimp only at hv
  refine lv_if_eq (tgt := 24) hx hb dX6_began_4 (by decide) (fun c_3 => ?_) (fun c_3 => ?_)
  · replace hv := hv.1 c_3
    exact h_j_X6_began_24 n_tstack n_gstack t_day t_near t_shows g_day g_near g_shows errs H locs ls hW hS (lv_sub hl [0] rfl) hv
  · replace hv := hv.2 c_3
    refine lv_iload_n hx hb dX6_began_7 rfl (lv_at hl 2 rfl) ?_
    refine lv_bipush (v := 20) hx hb dX6_began_8 kbp_20 ?_
    refine q_callS (rest := []) (n := 2) C (c_X6_isWithin l G p2 (20 : Int32) _ hv) ml_X6_97 kb_X6_isWithin rfl ⟨⟨rfl, rfl⟩, (Nat.le_of_ble_eq_true rfl), (Nat.le_of_ble_eq_true rfl)⟩ hW hS hl.1 rfl (Nat.le_of_ble_eq_true rfl) dX6_began_10 ⟨Nat.zero_le _, Nat.zero_le _⟩ (fun r_6 u_7 H locs hv hW hS => ?_)
    obtain ⟨hv_b_6, hv⟩ := hv
    try dsimp only at hv
    refine lv_if_eq (tgt := 24) hx hb dX6_began_13 (by decide) (fun c_8 => ?_) (fun c_8 => ?_)
    · replace hv := hv.1 c_8
      exact h_j_X6_began_24 n_tstack n_gstack t_day t_near t_shows g_day g_near g_shows errs H locs ls hW hS (lv_sub hl [0] rfl) hv
    · replace hv := hv.2 c_8
      refine lv_iload_n hx hb dX6_began_16 rfl (lv_at hl 3 rfl) ?_
      refine lv_iconst (v := 1) hx hb dX6_began_17 kic_1 ?_
      refine q_callS (rest := []) (n := 2) C (c_X6_isWithin l G p3 (1 : Int32) _ hv) ml_X6_97 kb_X6_isWithin rfl ⟨⟨rfl, rfl⟩, (Nat.le_of_ble_eq_true rfl), (Nat.le_of_ble_eq_true rfl)⟩ hW hS hl.1 rfl (Nat.le_of_ble_eq_true rfl) dX6_began_18 ⟨Nat.zero_le _, Nat.zero_le _⟩ (fun r_9 u_10 H locs hv hW hS => ?_)
      obtain ⟨hv_b_9, hv⟩ := hv
      try dsimp only at hv
      refine lv_if_ne (tgt := 30) hx hb dX6_began_21 (by decide) (fun c_11 => ?_) (fun c_11 => ?_)
      · replace hv := hv.1 c_11
        refine lv_aload_n hx hb dX6_began_30 rfl (lv_at hl 0 rfl) ?_
        refine q_get C kc6 hW 0 rfl 7 (by decide) fl_X6_46 rfl rfl dX6_began_31 ?_
        refine lv_iload_n hx hb dX6_began_34 rfl (lv_at hl 1 rfl) ?_
        obtain ⟨h_12, hv⟩ := hv
        refine va_aldq (D := G.1) (cl := GB_cl) (tys := tyG G) hx hb C.2.1 hW.1 19 2 rfl rfl h_12 dX6_began_35 ?_
        have hj_p1_toNatClampNeg : p1.toNatClampNeg < 4 := Nat.not_le.mp fun q => h_12 (Or.inr q)
        refine q_callN (rest := []) (n := 0) C (c_X2_isMissing l G (fun k => b (43 + 2 * p1.toNatClampNeg + k)) (shb p1.toNatClampNeg) (shs p1.toNatClampNeg) _ hv) nm_X6_190 kb_X2_isMissing rfl ⟨⟨rfl, rfl⟩, (Nat.le_of_ble_eq_true rfl), (Nat.le_of_ble_eq_true rfl)⟩ hW hS [20 + 2 * p1.toNatClampNeg] (co_4 (P := fun j => va_nd [20 + 2 * j] = true) rfl rfl rfl rfl hj_p1_toNatClampNeg) (co_4 (P := fun j => [20 + 2 * j].map (fun i => (wd_X6_22 G b images n_people n_taped n_waiting n_z n_kind n_em n_day n_near n_shows n_tmost n_tsize n_tsteps n_tstack n_gmost n_gsize n_gsteps n_gstack t_day t_near t_shows g_day g_near g_shows shb shs shn errs)[i]?) = (wd_X2_0 G (fun k => b (43 + 2 * j + k)) (shb j) (shs j)).map some) rfl rfl rfl rfl hj_p1_toNatClampNeg) kc2 (q0 := 20 + 2 * p1.toNatClampNeg) (co_4 (P := fun j => (wd_X6_22 G b images n_people n_taped n_waiting n_z n_kind n_em n_day n_near n_shows n_tmost n_tsize n_tsteps n_tstack n_gmost n_gsize n_gsteps n_gstack t_day t_near t_shows g_day g_near g_shows shb shs shn errs)[20 + 2 * j]? = some (b (43 + 2 * j), .inr (2, [.int (shb j), .int (shs j), .ref (b (43 + 2 * j + 1))]))) rfl rfl rfl rfl hj_p1_toNatClampNeg) hl.1 rfl (Nat.le_of_ble_eq_true rfl) dX6_began_36 ⟨Nat.zero_le _, Nat.zero_le _⟩ (fun r_13 u_14 H locs hv hW hS => ?_)
        obtain ⟨hv_b_13, hv⟩ := hv
        try dsimp only at hv
        have e_15 := co_4 (P := fun j => mix (wd_X6_22 G b images n_people n_taped n_waiting n_z n_kind n_em n_day n_near n_shows n_tmost n_tsize n_tsteps n_tstack n_gmost n_gsize n_gsteps n_gstack t_day t_near t_shows g_day g_near g_shows shb shs shn errs) [20 + 2 * j] (wd_X2_0 G (fun k => b (43 + 2 * j + k)) (shb j) (shs j)) = (wd_X6_22 G b images n_people n_taped n_waiting n_z n_kind n_em n_day n_near n_shows n_tmost n_tsize n_tsteps n_tstack n_gmost n_gsize n_gsteps n_gstack t_day t_near t_shows g_day g_near g_shows shb shs shn errs)) rfl rfl rfl rfl hj_p1_toNatClampNeg
        have hW : wo G A (wd_X6_22 G b images n_people n_taped n_waiting n_z n_kind n_em n_day n_near n_shows n_tmost n_tsize n_tsteps n_tstack n_gmost n_gsize n_gsteps n_gstack t_day t_near t_shows g_day g_near g_shows shb shs shn errs) H := Eq.mp (congrArg (fun z => wo G A z H) e_15) hW
        refine lv_if_eq (tgt := 48) hx hb dX6_began_39 (by decide) (fun c_16 => ?_) (fun c_16 => ?_)
        · replace hv := hv.1 c_16
          refine lv_aload_n hx hb dX6_began_48 rfl (lv_at hl 0 rfl) ?_
          refine lv_iload_n hx hb dX6_began_49 rfl (lv_at hl 2 rfl) ?_
          refine q_callVv (rest := []) (n := 1) C (c_X6_think l G b images n_people n_taped n_waiting n_z n_kind n_em n_day n_near n_shows n_tmost n_tsize n_tsteps n_tstack n_gmost n_gsize n_gsteps n_gstack t_day t_near t_shows p2 _ hv) ml_X6_159 kb_X6_think rfl ⟨⟨rfl, rfl⟩, (Nat.le_of_ble_eq_true rfl), (Nat.le_of_ble_eq_true rfl)⟩ hW hS [0, 1, 2, 3, 4, 5, 6, 7, 8, 9, 10, 11, 12, 13, 14, 15] rfl rfl kc6 (q0 := 0) rfl hl.1 rfl (Nat.le_of_ble_eq_true rfl) dX6_began_50 ⟨Nat.zero_le _, Nat.zero_le _⟩ (fun u_18 H locs hv hW hS => ?_)
          obtain ⟨n_tstack_17, n_gstack_17, t_day_17, t_near_17, t_shows_17⟩ := u_18
          try dsimp only at hv
          have hW : wo G A (wd_X6_22 G b images n_people n_taped n_waiting n_z n_kind n_em n_day n_near n_shows n_tmost n_tsize n_tsteps n_tstack_17 n_gmost n_gsize n_gsteps n_gstack_17 t_day_17 t_near_17 t_shows_17 g_day g_near g_shows shb shs shn errs) H := hW
          refine lv_iconst (v := 0) hx hb dX6_began_53 kic_0 ?_
          refine lv_istore (lv' := [(4, .int (0 : Int32)), (0, .ref (b 0)), (1, .int p1), (2, .int p2), (3, .int p3)]) hx hb dX6_began_54 hl (by decide) rfl (fun ls hl => ?_)
          refine lv_iconst (v := 0) hx hb dX6_began_56 kic_0 ?_
          refine lv_istore (lv' := [(5, .int (0 : Int32)), (4, .int (0 : Int32)), (0, .ref (b 0)), (1, .int p1), (2, .int p2), (3, .int p3)]) hx hb dX6_began_57 hl (by decide) rfl (fun ls hl => ?_)
          refine lv_iconst (v := 1) hx hb dX6_began_59 kic_1 ?_
          refine lv_istore (lv' := [(6, .int (1 : Int32)), (5, .int (0 : Int32)), (4, .int (0 : Int32)), (0, .ref (b 0)), (1, .int p1), (2, .int p2), (3, .int p3)]) hx hb dX6_began_60 hl (by decide) rfl (fun ls hl => ?_)
          obtain ⟨n_34, hv⟩ := hv
          exact h_l_X6_began_62 n_34 (0 : Int32) (0 : Int32) (1 : Int32) n_tstack_17 n_gstack_17 t_day_17 t_near_17 t_shows_17 g_day g_near g_shows errs H locs ls hW hS (lv_sub hl [3, 4, 5, 6, 2, 1, 0] rfl) hv
        · replace hv := hv.2 c_16
          refine lv_aload_n hx hb dX6_began_42 rfl (lv_at hl 0 rfl) ?_
          refine lv_iconst (v := 2) hx hb dX6_began_43 kic_2 ?_
          refine q_callV (rest := []) (n := 1) C (c_X6_error l G b images errs (2 : Int32) _ hv) ml_X6_64 kb_X6_error rfl ⟨⟨rfl, rfl⟩, (Nat.le_of_ble_eq_true rfl), (Nat.le_of_ble_eq_true rfl)⟩ hW hS [0, 28] rfl rfl kc6 (q0 := 0) rfl hl.1 rfl (Nat.le_of_ble_eq_true rfl) dX6_began_44 ⟨Nat.zero_le _, Nat.zero_le _⟩ (fun r_35 u_36 H locs hv hW hS => ?_)
          obtain ⟨errs_35, rfl⟩ : ∃ z, z = u_36 := ⟨_, rfl⟩
          try dsimp only at hv
          have hW : wo G A (wd_X6_22 G b images n_people n_taped n_waiting n_z n_kind n_em n_day n_near n_shows n_tmost n_tsize n_tsteps n_tstack n_gmost n_gsize n_gsteps n_gstack t_day t_near t_shows g_day g_near g_shows shb shs shn errs_35) H := hW
          exact ret (n_tstack, n_gstack, t_day, t_near, t_shows, g_day, g_near, g_shows, errs_35) r_35 H locs ls _ rfl hW hS hv dX6_began_47
      · replace hv := hv.2 c_11
        exact h_j_X6_began_24 n_tstack n_gstack t_day t_near t_shows g_day g_near g_shows errs H locs ls hW hS (lv_sub hl [0] rfl) hv
set_option maxHeartbeats 4000000 in
set_option maxRecDepth 100000 in
theorem c_X6_fits (l : Launch) (G : Gt) (b : Nat → Nat) (images : Int32) (n_people : Int32) (n_taped : Int32) (n_waiting : Int32) (n_z : Int32) (n_kind : Nat → Int32) (n_em : Nat → Int32) (n_day : Int32) (n_near : Nat → Int32) (n_shows : Nat → Int32) (n_tmost : Int32) (n_tsize : Int32) (n_tsteps : Nat → Int32) (n_tstack : Nat → Int32) (n_gmost : Int32) (n_gsize : Int32) (n_gsteps : Nat → Int32) (n_gstack : Nat → Int32) (t_day : Int32) (t_near : Nat → Int32) (t_shows : Nat → Int32) (g_day : Int32) (g_near : Nat → Int32) (shb : Nat → Int32) (shs : Nat → Int32) (shn : Nat → Nat → Int32) (errs : Nat → Int32) (p1 : Int32) (K : Int32 → (Nat → Int32) → (Nat → Int32) → Int32 → (Nat → Int32) → (Nat → Int32) → (Nat → Int32) → Prop) (hv : v_X6_fits p1 n_people n_kind n_em n_day n_near n_shows n_tmost n_tsize n_tsteps n_tstack n_gmost n_gsize n_gsteps n_gstack t_day t_near t_shows g_near shb shs shn errs K) : CI l G yX6_fits (.code yX6_fits cX6_fits 3 (some .int) :: wsG) (rmm 6 144) [.ref (b 0), .int p1] (wd_X6_23 G b images n_people n_taped n_waiting n_z n_kind n_em n_day n_near n_shows n_tmost n_tsize n_tsteps n_tstack n_gmost n_gsize n_gsteps n_gstack t_day t_near t_shows g_day g_near shb shs shn errs) (S := (Nat → Int32) × (Nat → Int32) × Int32 × (Nat → Int32) × (Nat → Int32) × (Nat → Int32)) (fun u => wd_X6_23 G b images n_people n_taped n_waiting n_z n_kind n_em n_day n_near n_shows n_tmost n_tsize n_tsteps u.1 n_gmost n_gsize n_gsteps u.2.1 u.2.2.1 u.2.2.2.1 u.2.2.2.2.1 g_day g_near shb shs shn u.2.2.2.2.2) (fun r u => K r u.1 u.2.1 u.2.2.1 u.2.2.2.1 u.2.2.2.2.1 u.2.2.2.2.2) := by
  refine ci_intro (by decide) rfl (fun _ => rfl) (Nat.le_of_ble_eq_true rfl) ?_
  intro p e s m args below meth c A H ls Q C hW hS hl ret
  have hx := C.1.1
  have hb := C.1.2.1
  generalize hls : ([] : List Loc) = locs at hS ⊢
  have hl : lv_has ls 3 [(0, .ref (b 0)), (1, .int p1)] := hl
  have h_l_X6_fits_38 : ∀ (n : Nat), ∀ (x2 : Int32) (n_tstack : Nat → Int32) (n_gstack : Nat → Int32) (t_day : Int32) (t_near : Nat → Int32) (t_shows : Nat → Int32) (errs : Nat → Int32) (H : Heap) (locs : List Loc) (ls : Array Slot), wo G A (wd_X6_23 G b images n_people n_taped n_waiting n_z n_kind n_em n_day n_near n_shows n_tmost n_tsize n_tsteps n_tstack n_gmost n_gsize n_gsteps n_gstack t_day t_near t_shows g_day g_near shb shs shn errs) H → va_S A s.heap H locs → lv_has ls 3 [(0, .ref (b 0)), (1, .int p1), (2, .int x2)] → l_X6_fits_38 p1 n_people n_kind n_em n_day n_near n_shows n_tmost n_tsize n_tsteps n_gmost n_gsize n_gsteps g_near shb shs shn K n x2 n_tstack n_gstack t_day t_near t_shows errs → W p l e (rmm 6 144) s m args below meth c H locs 0 0 Q (F0 m 38 ls []) := by
    intro n
    induction n with
    | zero =>
      intro x2 n_tstack n_gstack t_day t_near t_shows errs H locs ls hW hS hl hv
      exact False.elim hv
    | succ n ih =>
      intro x2 n_tstack n_gstack t_day t_near t_shows errs H locs ls hW hS hl hv
      refine lv_iload_n hx hb dX6_fits_38 rfl (lv_at hl 2 rfl) ?_
      refine lv_bipush (v := 100) hx hb dX6_fits_39 kbp_100 ?_
      refine lv_icmp_gt (tgt := 78) hx hb dX6_fits_41 (by decide) (fun c_11 => ?_) (fun c_11 => ?_)
      · replace hv := hv.1 c_11
        refine lv_aload_n hx hb dX6_fits_78 rfl (lv_at hl 0 rfl) ?_
        refine lv_iconst (v := 2) hx hb dX6_fits_79 kic_2 ?_
        refine q_callV (rest := []) (n := 1) C (c_X6_error l G b images errs (2 : Int32) _ hv) ml_X6_64 kb_X6_error rfl ⟨⟨rfl, rfl⟩, (Nat.le_of_ble_eq_true rfl), (Nat.le_of_ble_eq_true rfl)⟩ hW hS [0, 27] rfl rfl kc6 (q0 := 0) rfl hl.1 rfl (Nat.le_of_ble_eq_true rfl) dX6_fits_80 ⟨Nat.zero_le _, Nat.zero_le _⟩ (fun r_12 u_13 H locs hv hW hS => ?_)
        obtain ⟨errs_12, rfl⟩ : ∃ z, z = u_13 := ⟨_, rfl⟩
        try dsimp only at hv
        have hW : wo G A (wd_X6_23 G b images n_people n_taped n_waiting n_z n_kind n_em n_day n_near n_shows n_tmost n_tsize n_tsteps n_tstack n_gmost n_gsize n_gsteps n_gstack t_day t_near t_shows g_day g_near shb shs shn errs_12) H := hW
        exact ret (n_tstack, n_gstack, t_day, t_near, t_shows, errs_12) r_12 H locs ls _ rfl hW hS hv dX6_fits_83
      · replace hv := hv.2 c_11
        refine lv_aload_n hx hb dX6_fits_44 rfl (lv_at hl 0 rfl) ?_
        refine lv_aload_n hx hb dX6_fits_45 rfl (lv_at hl 0 rfl) ?_
        refine q_get C kc6 hW 0 rfl 7 (by decide) fl_X6_46 rfl rfl dX6_fits_46 ?_
        refine lv_iload_n hx hb dX6_fits_49 rfl (lv_at hl 1 rfl) ?_
        obtain ⟨h_14, hv⟩ := hv
        refine va_aldq (D := G.1) (cl := GB_cl) (tys := tyG G) hx hb C.2.1 hW.1 18 2 rfl rfl h_14 dX6_fits_50 ?_
        have hj_p1_toNatClampNeg : p1.toNatClampNeg < 4 := Nat.not_le.mp fun q => h_14 (Or.inr q)
        refine lv_iconst (v := 0) hx hb dX6_fits_51 kic_0 ?_
        refine q_callV (rest := []) (n := 2) C (c_X6_tellsMixed l G b (fun k => b (43 + 2 * p1.toNatClampNeg + k)) images n_people n_taped n_waiting n_z t_day t_near g_day g_near (shb p1.toNatClampNeg) (shs p1.toNatClampNeg) (shn p1.toNatClampNeg) (0 : Int32) _ hv) ml_X6_194 kb_X6_tellsMixed rfl ⟨⟨rfl, rfl⟩, (Nat.le_of_ble_eq_true rfl), (Nat.le_of_ble_eq_true rfl)⟩ hW hS [0, 1, 13, 14, 16, 17, 19 + 2 * p1.toNatClampNeg, 20 + 2 * p1.toNatClampNeg] (co_4 (P := fun j => va_nd [0, 1, 13, 14, 16, 17, 19 + 2 * j, 20 + 2 * j] = true) rfl rfl rfl rfl hj_p1_toNatClampNeg) (co_4 (P := fun j => [0, 1, 13, 14, 16, 17, 19 + 2 * j, 20 + 2 * j].map (fun i => (wd_X6_23 G b images n_people n_taped n_waiting n_z n_kind n_em n_day n_near n_shows n_tmost n_tsize n_tsteps n_tstack n_gmost n_gsize n_gsteps n_gstack t_day t_near t_shows g_day g_near shb shs shn errs)[i]?) = (wd_X6_21 G b (fun k => b (43 + 2 * j + k)) images n_people n_taped n_waiting n_z t_day t_near g_day g_near (shb j) (shs j) (shn j)).map some) rfl rfl rfl rfl hj_p1_toNatClampNeg) kc6 (q0 := 0) rfl hl.1 rfl (Nat.le_of_ble_eq_true rfl) dX6_fits_52 ⟨Nat.zero_le _, Nat.zero_le _⟩ (fun r_15 u_16 H locs hv hW hS => ?_)
        obtain ⟨hv_b_15, hv⟩ := hv
        try dsimp only at hv
        have e_17 := co_4 (P := fun j => mix (wd_X6_23 G b images n_people n_taped n_waiting n_z n_kind n_em n_day n_near n_shows n_tmost n_tsize n_tsteps n_tstack n_gmost n_gsize n_gsteps n_gstack t_day t_near t_shows g_day g_near shb shs shn errs) [0, 1, 13, 14, 16, 17, 19 + 2 * j, 20 + 2 * j] (wd_X6_21 G b (fun k => b (43 + 2 * j + k)) images n_people n_taped n_waiting n_z t_day t_near g_day g_near (shb j) (shs j) (shn j)) = (wd_X6_23 G b images n_people n_taped n_waiting n_z n_kind n_em n_day n_near n_shows n_tmost n_tsize n_tsteps n_tstack n_gmost n_gsize n_gsteps n_gstack t_day t_near t_shows g_day g_near shb shs shn errs)) rfl rfl rfl rfl hj_p1_toNatClampNeg
        have hW : wo G A (wd_X6_23 G b images n_people n_taped n_waiting n_z n_kind n_em n_day n_near n_shows n_tmost n_tsize n_tsteps n_tstack n_gmost n_gsize n_gsteps n_gstack t_day t_near t_shows g_day g_near shb shs shn errs) H := Eq.mp (congrArg (fun z => wo G A z H) e_17) hW
        refine lv_if_eq (tgt := 60) hx hb dX6_fits_55 (by decide) (fun c_18 => ?_) (fun c_18 => ?_)
        · replace hv := hv.1 c_18
          refine lv_aload_n hx hb dX6_fits_60 rfl (lv_at hl 0 rfl) ?_
          refine q_get C kc6 hW 0 rfl 0 (by decide) fl_X6_10 rfl rfl dX6_fits_61 ?_
          refine lv_aload_n hx hb dX6_fits_64 rfl (lv_at hl 0 rfl) ?_
          refine q_get C kc6 hW 0 rfl 3 (by decide) fl_X6_22 rfl rfl dX6_fits_65 ?_
          refine q_callN (rest := []) (n := 1) C (c_X4_pass l G (fun k => b (k + 1)) (fun k => b (k + 31)) n_people n_taped n_waiting n_z n_kind n_em n_tmost n_tsize n_tsteps n_tstack n_gmost n_gsize n_gsteps n_gstack t_day t_near t_shows _ hv) nm_X6_145 kb_X4_pass rfl ⟨⟨rfl, rfl⟩, (Nat.le_of_ble_eq_true rfl), (Nat.le_of_ble_eq_true rfl)⟩ hW hS [1, 2, 3, 7, 8, 9, 10, 11, 12, 13, 14, 15] rfl rfl kc4 (q0 := 1) rfl hl.1 rfl (Nat.le_of_ble_eq_true rfl) dX6_fits_68 ⟨Nat.zero_le _, Nat.zero_le _⟩ (fun r_19 u_20 H locs hv hW hS => ?_)
          obtain ⟨n_tstack_19, n_gstack_19, t_day_19, t_near_19, t_shows_19⟩ := u_20
          obtain ⟨hv_b_19, hv⟩ := hv
          try dsimp only at hv
          have hW : wo G A (wd_X6_23 G b images n_people n_taped n_waiting n_z n_kind n_em n_day n_near n_shows n_tmost n_tsize n_tsteps n_tstack_19 n_gmost n_gsize n_gsteps n_gstack_19 t_day_19 t_near_19 t_shows_19 g_day g_near shb shs shn errs) H := hW
          refine lv_pop hx hb dX6_fits_71 rfl ?_
          refine lv_iinc (v := (x2 + 1)) (lv' := [(2, .int (x2 + 1)), (0, .ref (b 0)), (1, .int p1)]) hx hb dX6_fits_72 hl (k := 2) rfl rfl (by decide) rfl (fun ls hl => ?_)
          refine lv_goto (tgt := 38) hx hb dX6_fits_75 (by decide) ?_
          exact ih (x2 + 1) n_tstack_19 n_gstack_19 t_day_19 t_near_19 t_shows_19 errs H locs ls hW hS (lv_sub hl [1, 2, 0] rfl) hv
        · replace hv := hv.2 c_18
          refine lv_iload_n hx hb dX6_fits_58 rfl (lv_at hl 2 rfl) ?_
          exact ret (n_tstack, n_gstack, t_day, t_near, t_shows, errs) x2 H locs ls _ rfl hW hS hv dX6_fits_59
  refine lv_iload_n hx hb dX6_fits_0 rfl (lv_at hl 1 rfl) ?_
  refine q_callS (rest := []) (n := 1) C (c_X6_isSheet l G p1 _ hv) ml_X6_187 kb_X6_isSheet rfl ⟨⟨rfl, rfl⟩, (Nat.le_of_ble_eq_true rfl), (Nat.le_of_ble_eq_true rfl)⟩ hW hS hl.1 rfl (Nat.le_of_ble_eq_true rfl) dX6_fits_1 ⟨Nat.zero_le _, Nat.zero_le _⟩ (fun r_1 u_2 H locs hv hW hS => ?_)
  obtain ⟨hv_b_1, hv⟩ := hv
  try dsimp only at hv
  refine lv_if_ne (tgt := 13) hx hb dX6_fits_4 (by decide) (fun c_3 => ?_) (fun c_3 => ?_)
  · replace hv := hv.1 c_3
    refine lv_aload_n hx hb dX6_fits_13 rfl (lv_at hl 0 rfl) ?_
    refine q_get C kc6 hW 0 rfl 7 (by decide) fl_X6_46 rfl rfl dX6_fits_14 ?_
    refine lv_iload_n hx hb dX6_fits_17 rfl (lv_at hl 1 rfl) ?_
    obtain ⟨h_4, hv⟩ := hv
    refine va_aldq (D := G.1) (cl := GB_cl) (tys := tyG G) hx hb C.2.1 hW.1 18 2 rfl rfl h_4 dX6_fits_18 ?_
    have hj_p1_toNatClampNeg : p1.toNatClampNeg < 4 := Nat.not_le.mp fun q => h_4 (Or.inr q)
    refine q_callN (rest := []) (n := 0) C (c_X2_isMissing l G (fun k => b (43 + 2 * p1.toNatClampNeg + k)) (shb p1.toNatClampNeg) (shs p1.toNatClampNeg) _ hv) nm_X6_190 kb_X2_isMissing rfl ⟨⟨rfl, rfl⟩, (Nat.le_of_ble_eq_true rfl), (Nat.le_of_ble_eq_true rfl)⟩ hW hS [19 + 2 * p1.toNatClampNeg] (co_4 (P := fun j => va_nd [19 + 2 * j] = true) rfl rfl rfl rfl hj_p1_toNatClampNeg) (co_4 (P := fun j => [19 + 2 * j].map (fun i => (wd_X6_23 G b images n_people n_taped n_waiting n_z n_kind n_em n_day n_near n_shows n_tmost n_tsize n_tsteps n_tstack n_gmost n_gsize n_gsteps n_gstack t_day t_near t_shows g_day g_near shb shs shn errs)[i]?) = (wd_X2_0 G (fun k => b (43 + 2 * j + k)) (shb j) (shs j)).map some) rfl rfl rfl rfl hj_p1_toNatClampNeg) kc2 (q0 := 19 + 2 * p1.toNatClampNeg) (co_4 (P := fun j => (wd_X6_23 G b images n_people n_taped n_waiting n_z n_kind n_em n_day n_near n_shows n_tmost n_tsize n_tsteps n_tstack n_gmost n_gsize n_gsteps n_gstack t_day t_near t_shows g_day g_near shb shs shn errs)[19 + 2 * j]? = some (b (43 + 2 * j), .inr (2, [.int (shb j), .int (shs j), .ref (b (43 + 2 * j + 1))]))) rfl rfl rfl rfl hj_p1_toNatClampNeg) hl.1 rfl (Nat.le_of_ble_eq_true rfl) dX6_fits_19 ⟨Nat.zero_le _, Nat.zero_le _⟩ (fun r_5 u_6 H locs hv hW hS => ?_)
    obtain ⟨hv_b_5, hv⟩ := hv
    try dsimp only at hv
    have e_7 := co_4 (P := fun j => mix (wd_X6_23 G b images n_people n_taped n_waiting n_z n_kind n_em n_day n_near n_shows n_tmost n_tsize n_tsteps n_tstack n_gmost n_gsize n_gsteps n_gstack t_day t_near t_shows g_day g_near shb shs shn errs) [19 + 2 * j] (wd_X2_0 G (fun k => b (43 + 2 * j + k)) (shb j) (shs j)) = (wd_X6_23 G b images n_people n_taped n_waiting n_z n_kind n_em n_day n_near n_shows n_tmost n_tsize n_tsteps n_tstack n_gmost n_gsize n_gsteps n_gstack t_day t_near t_shows g_day g_near shb shs shn errs)) rfl rfl rfl rfl hj_p1_toNatClampNeg
    have hW : wo G A (wd_X6_23 G b images n_people n_taped n_waiting n_z n_kind n_em n_day n_near n_shows n_tmost n_tsize n_tsteps n_tstack n_gmost n_gsize n_gsteps n_gstack t_day t_near t_shows g_day g_near shb shs shn errs) H := Eq.mp (congrArg (fun z => wo G A z H) e_7) hW
    refine lv_if_eq (tgt := 31) hx hb dX6_fits_22 (by decide) (fun c_8 => ?_) (fun c_8 => ?_)
    · replace hv := hv.1 c_8
      refine lv_aload_n hx hb dX6_fits_31 rfl (lv_at hl 0 rfl) ?_
      refine lv_iconst (v := 0) hx hb dX6_fits_32 kic_0 ?_
      refine q_callVv (rest := []) (n := 1) C (c_X6_think l G b images n_people n_taped n_waiting n_z n_kind n_em n_day n_near n_shows n_tmost n_tsize n_tsteps n_tstack n_gmost n_gsize n_gsteps n_gstack t_day t_near t_shows (0 : Int32) _ hv) ml_X6_159 kb_X6_think rfl ⟨⟨rfl, rfl⟩, (Nat.le_of_ble_eq_true rfl), (Nat.le_of_ble_eq_true rfl)⟩ hW hS [0, 1, 2, 3, 4, 5, 6, 7, 8, 9, 10, 11, 12, 13, 14, 15] rfl rfl kc6 (q0 := 0) rfl hl.1 rfl (Nat.le_of_ble_eq_true rfl) dX6_fits_33 ⟨Nat.zero_le _, Nat.zero_le _⟩ (fun u_10 H locs hv hW hS => ?_)
      obtain ⟨n_tstack_9, n_gstack_9, t_day_9, t_near_9, t_shows_9⟩ := u_10
      try dsimp only at hv
      have hW : wo G A (wd_X6_23 G b images n_people n_taped n_waiting n_z n_kind n_em n_day n_near n_shows n_tmost n_tsize n_tsteps n_tstack_9 n_gmost n_gsize n_gsteps n_gstack_9 t_day_9 t_near_9 t_shows_9 g_day g_near shb shs shn errs) H := hW
      refine lv_iconst (v := 0) hx hb dX6_fits_36 kic_0 ?_
      refine lv_istore_n (lv' := [(2, .int (0 : Int32)), (0, .ref (b 0)), (1, .int p1)]) hx hb dX6_fits_37 rfl hl (by decide) rfl (fun ls hl => ?_)
      obtain ⟨n_21, hv⟩ := hv
      exact h_l_X6_fits_38 n_21 (0 : Int32) n_tstack_9 n_gstack_9 t_day_9 t_near_9 t_shows_9 errs H locs ls hW hS (lv_sub hl [1, 2, 0] rfl) hv
    · replace hv := hv.2 c_8
      refine lv_aload_n hx hb dX6_fits_25 rfl (lv_at hl 0 rfl) ?_
      refine lv_iconst (v := 2) hx hb dX6_fits_26 kic_2 ?_
      refine q_callV (rest := []) (n := 1) C (c_X6_error l G b images errs (2 : Int32) _ hv) ml_X6_64 kb_X6_error rfl ⟨⟨rfl, rfl⟩, (Nat.le_of_ble_eq_true rfl), (Nat.le_of_ble_eq_true rfl)⟩ hW hS [0, 27] rfl rfl kc6 (q0 := 0) rfl hl.1 rfl (Nat.le_of_ble_eq_true rfl) dX6_fits_27 ⟨Nat.zero_le _, Nat.zero_le _⟩ (fun r_22 u_23 H locs hv hW hS => ?_)
      obtain ⟨errs_22, rfl⟩ : ∃ z, z = u_23 := ⟨_, rfl⟩
      try dsimp only at hv
      have hW : wo G A (wd_X6_23 G b images n_people n_taped n_waiting n_z n_kind n_em n_day n_near n_shows n_tmost n_tsize n_tsteps n_tstack n_gmost n_gsize n_gsteps n_gstack t_day t_near t_shows g_day g_near shb shs shn errs_22) H := hW
      exact ret (n_tstack, n_gstack, t_day, t_near, t_shows, errs_22) r_22 H locs ls _ rfl hW hS hv dX6_fits_30
  · replace hv := hv.2 c_3
    refine lv_aload_n hx hb dX6_fits_7 rfl (lv_at hl 0 rfl) ?_
    refine lv_iconst (v := 1) hx hb dX6_fits_8 kic_1 ?_
    refine q_callV (rest := []) (n := 1) C (c_X6_error l G b images errs (1 : Int32) _ hv) ml_X6_64 kb_X6_error rfl ⟨⟨rfl, rfl⟩, (Nat.le_of_ble_eq_true rfl), (Nat.le_of_ble_eq_true rfl)⟩ hW hS [0, 27] rfl rfl kc6 (q0 := 0) rfl hl.1 rfl (Nat.le_of_ble_eq_true rfl) dX6_fits_9 ⟨Nat.zero_le _, Nat.zero_le _⟩ (fun r_24 u_25 H locs hv hW hS => ?_)
    obtain ⟨errs_24, rfl⟩ : ∃ z, z = u_25 := ⟨_, rfl⟩
    try dsimp only at hv
    have hW : wo G A (wd_X6_23 G b images n_people n_taped n_waiting n_z n_kind n_em n_day n_near n_shows n_tmost n_tsize n_tsteps n_tstack n_gmost n_gsize n_gsteps n_gstack t_day t_near t_shows g_day g_near shb shs shn errs_24) H := hW
    exact ret (n_tstack, n_gstack, t_day, t_near, t_shows, errs_24) r_24 H locs ls _ rfl hW hS hv dX6_fits_12
set_option maxHeartbeats 4000000 in
set_option maxRecDepth 100000 in
theorem c_X6_voice (l : Launch) (G : Gt) (b : Nat → Nat) (images : Int32) (n_people : Int32) (n_taped : Int32) (n_waiting : Int32) (n_z : Int32) (n_kind : Nat → Int32) (n_em : Nat → Int32) (v_traced : Int32) (v_parted : Int32) (v_yk : Int32) (v_ykind : Int32) (v_ym : Int32) (v_trace : Nat → Int32) (errs : Nat → Int32) (p1 : Int32) (p2 : Int32) (p3 : Int32) (K : Int32 → Int32 → Int32 → Int32 → Int32 → Int32 → (Nat → Int32) → (Nat → Int32) → Prop) (hv : v_X6_voice p1 p2 p3 n_people n_kind n_em v_traced v_parted v_yk v_ykind v_ym v_trace errs K) : CI l G yX6_voice (.code yX6_voice cX6_voice 5 (some .int) :: wsG) (rmm 38 939) [.ref (b 0), .int p1, .int p2, .int p3] (wd_X6_24 G b images n_people n_taped n_waiting n_z n_kind n_em v_traced v_parted v_yk v_ykind v_ym v_trace errs) (S := Int32 × Int32 × Int32 × Int32 × Int32 × (Nat → Int32) × (Nat → Int32)) (fun u => wd_X6_24 G b images n_people n_taped n_waiting n_z n_kind n_em u.1 u.2.1 u.2.2.1 u.2.2.2.1 u.2.2.2.2.1 u.2.2.2.2.2.1 u.2.2.2.2.2.2) (fun r u => K r u.1 u.2.1 u.2.2.1 u.2.2.2.1 u.2.2.2.2.1 u.2.2.2.2.2.1 u.2.2.2.2.2.2) := by
  refine ci_intro (by decide) rfl (fun _ => rfl) (Nat.le_of_ble_eq_true rfl) ?_
  intro p e s m args below meth c A H ls Q C hW hS hl ret
  have hx := C.1.1
  have hb := C.1.2.1
  generalize hls : ([] : List Loc) = locs at hS ⊢
  have hl : lv_has ls 5 [(0, .ref (b 0)), (1, .int p1), (2, .int p2), (3, .int p3)] := hl
  have h_j_X6_voice_19 : ∀ (v_traced : Int32) (v_parted : Int32) (v_yk : Int32) (v_ykind : Int32) (v_ym : Int32) (v_trace : Nat → Int32) (errs : Nat → Int32) (H : Heap) (locs : List Loc) (ls : Array Slot), wo G A (wd_X6_24 G b images n_people n_taped n_waiting n_z n_kind n_em v_traced v_parted v_yk v_ykind v_ym v_trace errs) H → va_S A s.heap H locs → lv_has ls 5 [(0, .ref (b 0))] → j_X6_voice_19 p1 p2 p3 n_people n_kind n_em K v_traced v_parted v_yk v_ykind v_ym v_trace errs → W p l e (rmm 38 939) s m args below meth c H locs 0 0 Q (F0 m 19 ls []) := by
    intro v_traced v_parted v_yk v_ykind v_ym v_trace errs H locs ls hW hS hl hv
    refine lv_aload_n hx hb dX6_voice_19 rfl (lv_at hl 0 rfl) ?_
    refine lv_iconst (v := 1) hx hb dX6_voice_20 kic_1 ?_
    refine q_callV (rest := []) (n := 1) C (c_X6_error l G b images errs (1 : Int32) _ hv) ml_X6_64 kb_X6_error rfl ⟨⟨rfl, rfl⟩, (Nat.le_of_ble_eq_true rfl), (Nat.le_of_ble_eq_true rfl)⟩ hW hS [0, 6] rfl rfl kc6 (q0 := 0) rfl hl.1 rfl (Nat.le_of_ble_eq_true rfl) dX6_voice_21 ⟨Nat.zero_le _, Nat.zero_le _⟩ (fun r_4 u_5 H locs hv hW hS => ?_)
    obtain ⟨errs_4, rfl⟩ : ∃ z, z = u_5 := ⟨_, rfl⟩
    try dsimp only at hv
    have hW : wo G A (wd_X6_24 G b images n_people n_taped n_waiting n_z n_kind n_em v_traced v_parted v_yk v_ykind v_ym v_trace errs_4) H := hW
    exact ret (v_traced, v_parted, v_yk, v_ykind, v_ym, v_trace, errs_4) r_4 H locs ls _ rfl hW hS hv dX6_voice_24
  refine lv_aload_n hx hb dX6_voice_0 rfl (lv_at hl 0 rfl) ?_
  refine q_get C kc6 hW 0 rfl 0 (by decide) fl_X6_10 rfl rfl dX6_voice_1 ?_
  refine lv_iload_n hx hb dX6_voice_4 rfl (lv_at hl 1 rfl) ?_
  refine q_callN (rest := []) (n := 1) C (c_X4_has l G (fun k => b (k + 1)) n_people n_taped n_waiting n_z p1 _ hv) nm_X6_76 kb_X4_has rfl ⟨⟨rfl, rfl⟩, (Nat.le_of_ble_eq_true rfl), (Nat.le_of_ble_eq_true rfl)⟩ hW hS [1] rfl rfl kc4 (q0 := 1) rfl hl.1 rfl (Nat.le_of_ble_eq_true rfl) dX6_voice_5 ⟨Nat.zero_le _, Nat.zero_le _⟩ (fun r_1 u_2 H locs hv hW hS => ?_)
  obtain ⟨hv_b_1, hv⟩ := hv
  try dsimp only at hv
  refine lv_if_eq (tgt := 19) hx hb dX6_voice_8 (by decide) (fun c_3 => ?_) (fun c_3 => ?_)
  · replace hv := hv.1 c_3
    exact h_j_X6_voice_19 v_traced v_parted v_yk v_ykind v_ym v_trace errs H locs ls hW hS (lv_sub hl [0] rfl) hv
  · replace hv := hv.2 c_3
    refine lv_iload_n hx hb dX6_voice_11 rfl (lv_at hl 2 rfl) ?_
    refine lv_iconst (v := 3) hx hb dX6_voice_12 kic_3 ?_
    refine q_callS (rest := []) (n := 2) C (c_X6_isWithin l G p2 (3 : Int32) _ hv) ml_X6_97 kb_X6_isWithin rfl ⟨⟨rfl, rfl⟩, (Nat.le_of_ble_eq_true rfl), (Nat.le_of_ble_eq_true rfl)⟩ hW hS hl.1 rfl (Nat.le_of_ble_eq_true rfl) dX6_voice_13 ⟨Nat.zero_le _, Nat.zero_le _⟩ (fun r_6 u_7 H locs hv hW hS => ?_)
    obtain ⟨hv_b_6, hv⟩ := hv
    try dsimp only at hv
    refine lv_if_ne (tgt := 25) hx hb dX6_voice_16 (by decide) (fun c_8 => ?_) (fun c_8 => ?_)
    · replace hv := hv.1 c_8
      refine lv_aload_n hx hb dX6_voice_25 rfl (lv_at hl 0 rfl) ?_
      refine q_get C kc6 hW 0 rfl 6 (by decide) fl_X6_39 rfl rfl dX6_voice_26 ?_
      refine lv_iload_n hx hb dX6_voice_29 rfl (lv_at hl 1 rfl) ?_
      refine lv_aload_n hx hb dX6_voice_30 rfl (lv_at hl 0 rfl) ?_
      refine q_get C kc6 hW 0 rfl 0 (by decide) fl_X6_10 rfl rfl dX6_voice_31 ?_
      refine q_getN C kc4 hW 1 rfl 1 (by decide) nf_X6_79 rfl rfl dX6_voice_34 ?_
      refine lv_iload_n hx hb dX6_voice_37 rfl (lv_at hl 1 rfl) ?_
      obtain ⟨h_9, hv⟩ := hv
      refine q_iald C hW 2 rfl h_9 dX6_voice_38 ?_
      refine lv_aload_n hx hb dX6_voice_39 rfl (lv_at hl 0 rfl) ?_
      refine q_get C kc6 hW 0 rfl 0 (by decide) fl_X6_10 rfl rfl dX6_voice_40 ?_
      refine q_getN C kc4 hW 1 rfl 2 (by decide) nf_X6_82 rfl rfl dX6_voice_43 ?_
      refine lv_iload_n hx hb dX6_voice_46 rfl (lv_at hl 1 rfl) ?_
      obtain ⟨h_10, hv⟩ := hv
      refine q_iald C hW 3 rfl h_10 dX6_voice_47 ?_
      refine lv_iload_n hx hb dX6_voice_48 rfl (lv_at hl 2 rfl) ?_
      refine lv_iload_n hx hb dX6_voice_49 rfl (lv_at hl 3 rfl) ?_
      refine q_callN (rest := []) (n := 5) C (c_X5_hear l G (fun k => b (k + 40)) v_traced v_parted v_yk v_ykind v_ym v_trace p1 (n_kind p1.toNatClampNeg) (n_em p1.toNatClampNeg) p2 p3 _ hv) nm_X6_203 kb_X5_hear rfl ⟨⟨rfl, rfl⟩, (Nat.le_of_ble_eq_true rfl), (Nat.le_of_ble_eq_true rfl)⟩ hW hS [4, 5] rfl rfl kc5 (q0 := 4) rfl hl.1 rfl (Nat.le_of_ble_eq_true rfl) dX6_voice_50 ⟨Nat.zero_le _, Nat.zero_le _⟩ (fun r_11 u_12 H locs hv hW hS => ?_)
      obtain ⟨v_traced_11, v_parted_11, v_yk_11, v_ykind_11, v_ym_11, v_trace_11⟩ := u_12
      try dsimp only at hv
      have hW : wo G A (wd_X6_24 G b images n_people n_taped n_waiting n_z n_kind n_em v_traced_11 v_parted_11 v_yk_11 v_ykind_11 v_ym_11 v_trace_11 errs) H := hW
      refine lv_istore (lv' := [(4, .int r_11), (0, .ref (b 0)), (1, .int p1), (2, .int p2), (3, .int p3)]) hx hb dX6_voice_53 hl (by decide) rfl (fun ls hl => ?_)
      refine lv_aload_n hx hb dX6_voice_55 rfl (lv_at hl 1 rfl) ?_
      refine q_get C kc6 hW 0 rfl 6 (by decide) fl_X6_39 rfl rfl dX6_voice_56 ?_
      refine q_getN C kc5 hW 4 rfl 2 (by decide) nf_X6_207 rfl rfl dX6_voice_59 ?_
      refine lv_if_eq (tgt := 74) hx hb dX6_voice_62 (by decide) (fun c_13 => ?_) (fun c_13 => ?_)
      · replace hv := hv.1 c_13
        refine lv_iload hx hb dX6_voice_74 (lv_at hl 0 rfl) ?_
        exact ret (v_traced_11, v_parted_11, v_yk_11, v_ykind_11, v_ym_11, v_trace_11, errs) r_11 H locs ls _ rfl hW hS hv dX6_voice_76
      · replace hv := hv.2 c_13
        refine lv_aload_n hx hb dX6_voice_65 rfl (lv_at hl 1 rfl) ?_
        refine lv_bipush (v := 6) hx hb dX6_voice_66 kbp_6 ?_
        refine q_callV (rest := []) (n := 1) C (c_X6_error l G b images errs (6 : Int32) _ hv) ml_X6_64 kb_X6_error rfl ⟨⟨rfl, rfl⟩, (Nat.le_of_ble_eq_true rfl), (Nat.le_of_ble_eq_true rfl)⟩ hW hS [0, 6] rfl rfl kc6 (q0 := 0) rfl hl.1 rfl (Nat.le_of_ble_eq_true rfl) dX6_voice_68 ⟨Nat.zero_le _, Nat.zero_le _⟩ (fun r_14 u_15 H locs hv hW hS => ?_)
        obtain ⟨errs_14, rfl⟩ : ∃ z, z = u_15 := ⟨_, rfl⟩
        try dsimp only at hv
        have hW : wo G A (wd_X6_24 G b images n_people n_taped n_waiting n_z n_kind n_em v_traced_11 v_parted_11 v_yk_11 v_ykind_11 v_ym_11 v_trace_11 errs_14) H := hW
        refine lv_goto (tgt := 76) hx hb dX6_voice_71 (by decide) ?_
        exact ret (v_traced_11, v_parted_11, v_yk_11, v_ykind_11, v_ym_11, v_trace_11, errs_14) r_14 H locs ls _ rfl hW hS hv dX6_voice_76
    · replace hv := hv.2 c_8
      exact h_j_X6_voice_19 v_traced v_parted v_yk v_ykind v_ym v_trace errs H locs ls hW hS (lv_sub hl [0] rfl) hv
set_option maxHeartbeats 4000000 in
set_option maxRecDepth 100000 in
theorem c_X6_body (l : Launch) (G : Gt) (b : Nat → Nat) (images : Int32) (v_traced : Int32) (v_parted : Int32) (v_yk : Int32) (v_ykind : Int32) (v_ym : Int32) (v_trace : Nat → Int32) (errs : Nat → Int32) (p1 : Int32) (K : Int32 → (Nat → Int32) → Prop) (hv : v_X6_body p1 v_traced v_trace errs K) : CI l G yX6_body (.code yX6_body cX6_body 2 (some .int) :: wsG) (rmm 1 21) [.ref (b 0), .int p1] (wd_X6_25 G b images v_traced v_parted v_yk v_ykind v_ym v_trace errs) (S := (Nat → Int32)) (fun u => wd_X6_25 G b images v_traced v_parted v_yk v_ykind v_ym v_trace u) (fun r u => K r u) := by
  refine ci_intro (by decide) rfl (fun _ => rfl) (Nat.le_of_ble_eq_true rfl) ?_
  intro p e s m args below meth c A H ls Q C hW hS hl ret
  have hx := C.1.1
  have hb := C.1.2.1
  generalize hls : ([] : List Loc) = locs at hS ⊢
  have hl : lv_has ls 2 [(0, .ref (b 0)), (1, .int p1)] := hl
  have h_j_X6_body_27 : ∀ (errs : Nat → Int32) (H : Heap) (locs : List Loc) (ls : Array Slot), wo G A (wd_X6_25 G b images v_traced v_parted v_yk v_ykind v_ym v_trace errs) H → va_S A s.heap H locs → lv_has ls 2 [(0, .ref (b 0))] → j_X6_body_27 p1 v_traced v_trace K errs → W p l e (rmm 1 21) s m args below meth c H locs 0 0 Q (F0 m 27 ls []) := by
    intro errs H locs ls hW hS hl hv
    refine lv_aload_n hx hb dX6_body_27 rfl (lv_at hl 0 rfl) ?_
    refine lv_iconst (v := 2) hx hb dX6_body_28 kic_2 ?_
    refine q_callV (rest := []) (n := 1) C (c_X6_error l G b images errs (2 : Int32) _ hv) ml_X6_64 kb_X6_error rfl ⟨⟨rfl, rfl⟩, (Nat.le_of_ble_eq_true rfl), (Nat.le_of_ble_eq_true rfl)⟩ hW hS [0, 3] rfl rfl kc6 (q0 := 0) rfl hl.1 rfl (Nat.le_of_ble_eq_true rfl) dX6_body_29 ⟨Nat.zero_le _, Nat.zero_le _⟩ (fun r_2 u_3 H locs hv hW hS => ?_)
    obtain ⟨errs_2, rfl⟩ : ∃ z, z = u_3 := ⟨_, rfl⟩
    try dsimp only at hv
    have hW : wo G A (wd_X6_25 G b images v_traced v_parted v_yk v_ykind v_ym v_trace errs_2) H := hW
    exact ret (errs_2) r_2 H locs ls _ rfl hW hS hv dX6_body_32
  refine lv_iload_n hx hb dX6_body_0 rfl (lv_at hl 1 rfl) ?_
  refine lv_if_lt (tgt := 27) hx hb dX6_body_1 (by decide) (fun c_1 => ?_) (fun c_1 => ?_)
  · replace hv := hv.1 c_1
    exact h_j_X6_body_27 errs H locs ls hW hS (lv_sub hl [0] rfl) hv
  · replace hv := hv.2 c_1
    refine lv_iload_n hx hb dX6_body_4 rfl (lv_at hl 1 rfl) ?_
    refine lv_aload_n hx hb dX6_body_5 rfl (lv_at hl 0 rfl) ?_
    refine q_get C kc6 hW 0 rfl 6 (by decide) fl_X6_39 rfl rfl dX6_body_6 ?_
    refine q_getN C kc5 hW 1 rfl 1 (by decide) nf_X6_211 rfl rfl dX6_body_9 ?_
    refine lv_icmp_ge (tgt := 27) hx hb dX6_body_12 (by decide) (fun c_4 => ?_) (fun c_4 => ?_)
    · replace hv := hv.1 c_4
      exact h_j_X6_body_27 errs H locs ls hW hS (lv_sub hl [0] rfl) hv
    · replace hv := hv.2 c_4
      refine lv_aload_n hx hb dX6_body_15 rfl (lv_at hl 0 rfl) ?_
      refine q_get C kc6 hW 0 rfl 6 (by decide) fl_X6_39 rfl rfl dX6_body_16 ?_
      refine q_getN C kc5 hW 1 rfl 0 (by decide) nf_X6_214 rfl rfl dX6_body_19 ?_
      refine lv_iload_n hx hb dX6_body_22 rfl (lv_at hl 1 rfl) ?_
      obtain ⟨h_5, hv⟩ := hv
      refine q_iald C hW 2 rfl h_5 dX6_body_23 ?_
      refine lv_goto (tgt := 32) hx hb dX6_body_24 (by decide) ?_
      exact ret (errs) (v_trace p1.toNatClampNeg) H locs ls _ rfl hW hS hv dX6_body_32
set_option maxHeartbeats 4000000 in
set_option maxRecDepth 100000 in
theorem c_X6_sheet (l : Launch) (G : Gt) (b : Nat → Nat) (images : Int32) (shb : Nat → Int32) (shs : Nat → Int32) (shn : Nat → Nat → Int32) (errs : Nat → Int32) (p1 : Int32) (p2 : Int32) (p3 : Int32) (K : Int32 → (Nat → Int32) → (Nat → Int32) → (Nat → Nat → Int32) → (Nat → Int32) → Prop) (hv : v_X6_sheet p1 p2 p3 shb shs shn errs K) : CI l G yX6_sheet (.code yX6_sheet cX6_sheet 4 (some .int) :: wsG) (rmm 2 44) [.ref (b 0), .int p1, .int p2, .int p3] (wd_X6_26 G b images shb shs shn errs) (S := (Nat → Int32) × (Nat → Int32) × (Nat → Nat → Int32) × (Nat → Int32)) (fun u => wd_X6_26 G b images u.1 u.2.1 u.2.2.1 u.2.2.2) (fun r u => K r u.1 u.2.1 u.2.2.1 u.2.2.2) := by
  refine ci_intro (by decide) rfl (fun _ => rfl) (Nat.le_of_ble_eq_true rfl) ?_
  intro p e s m args below meth c A H ls Q C hW hS hl ret
  have hx := C.1.1
  have hb := C.1.2.1
  generalize hls : ([] : List Loc) = locs at hS ⊢
  have hl : lv_has ls 4 [(0, .ref (b 0)), (1, .int p1), (2, .int p2), (3, .int p3)] := hl
  have h_j_X6_sheet_29 : ∀ (shb : Nat → Int32) (shs : Nat → Int32) (shn : Nat → Nat → Int32) (errs : Nat → Int32) (H : Heap) (locs : List Loc) (ls : Array Slot), wo G A (wd_X6_26 G b images shb shs shn errs) H → va_S A s.heap H locs → lv_has ls 4 [(0, .ref (b 0))] → j_X6_sheet_29 p1 p2 p3 K shb shs shn errs → W p l e (rmm 2 44) s m args below meth c H locs 0 0 Q (F0 m 29 ls []) := by
    intro shb shs shn errs H locs ls hW hS hl hv
    refine lv_aload_n hx hb dX6_sheet_29 rfl (lv_at hl 0 rfl) ?_
    refine lv_iconst (v := 1) hx hb dX6_sheet_30 kic_1 ?_
    refine q_callV (rest := []) (n := 1) C (c_X6_error l G b images errs (1 : Int32) _ hv) ml_X6_64 kb_X6_error rfl ⟨⟨rfl, rfl⟩, (Nat.le_of_ble_eq_true rfl), (Nat.le_of_ble_eq_true rfl)⟩ hW hS [0, 10] rfl rfl kc6 (q0 := 0) rfl hl.1 rfl (Nat.le_of_ble_eq_true rfl) dX6_sheet_31 ⟨Nat.zero_le _, Nat.zero_le _⟩ (fun r_4 u_5 H locs hv hW hS => ?_)
    obtain ⟨errs_4, rfl⟩ : ∃ z, z = u_5 := ⟨_, rfl⟩
    try dsimp only at hv
    have hW : wo G A (wd_X6_26 G b images shb shs shn errs_4) H := hW
    exact ret (shb, shs, shn, errs_4) r_4 H locs ls _ rfl hW hS hv dX6_sheet_34
  have h_j_X6_sheet_65 : ∀ (shb : Nat → Int32) (shs : Nat → Int32) (shn : Nat → Nat → Int32) (errs : Nat → Int32) (H : Heap) (locs : List Loc) (ls : Array Slot), wo G A (wd_X6_26 G b images shb shs shn errs) H → va_S A s.heap H locs → lv_has ls 4 [(0, .ref (b 0)), (1, .int p1), (2, .int p2), (3, .int p3)] → j_X6_sheet_65 p1 p2 p3 K shb shs shn errs → W p l e (rmm 2 44) s m args below meth c H locs 0 0 Q (F0 m 65 ls []) := by
    intro shb shs shn errs H locs ls hW hS hl hv
    refine lv_aload_n hx hb dX6_sheet_65 rfl (lv_at hl 0 rfl) ?_
    refine q_get C kc6 hW 0 rfl 7 (by decide) fl_X6_46 rfl rfl dX6_sheet_66 ?_
    refine lv_iload_n hx hb dX6_sheet_69 rfl (lv_at hl 1 rfl) ?_
    obtain ⟨h_9, hv⟩ := hv
    refine va_aldq (D := G.1) (cl := GB_cl) (tys := tyG G) hx hb C.2.1 hW.1 1 2 rfl rfl h_9 dX6_sheet_70 ?_
    have hj_p1_toNatClampNeg : p1.toNatClampNeg < 4 := Nat.not_le.mp fun q => h_9 (Or.inr q)
    refine lv_iload_n hx hb dX6_sheet_71 rfl (lv_at hl 2 rfl) ?_
    refine lv_iload_n hx hb dX6_sheet_72 rfl (lv_at hl 3 rfl) ?_
    refine q_callNv (rest := []) (n := 2) C (c_X2_lay l G (fun k => b (43 + 2 * p1.toNatClampNeg + k)) (shb p1.toNatClampNeg) (shs p1.toNatClampNeg) (shn p1.toNatClampNeg) p2 p3 _ hv) nm_X6_217 kb_X2_lay rfl ⟨⟨rfl, rfl⟩, (Nat.le_of_ble_eq_true rfl), (Nat.le_of_ble_eq_true rfl)⟩ hW hS [2 + 2 * p1.toNatClampNeg, 3 + 2 * p1.toNatClampNeg] (co_4 (P := fun j => va_nd [2 + 2 * j, 3 + 2 * j] = true) rfl rfl rfl rfl hj_p1_toNatClampNeg) (co_4 (P := fun j => [2 + 2 * j, 3 + 2 * j].map (fun i => (wd_X6_26 G b images shb shs shn errs)[i]?) = (wd_X2_1 G (fun k => b (43 + 2 * j + k)) (shb j) (shs j) (shn j)).map some) rfl rfl rfl rfl hj_p1_toNatClampNeg) kc2 (q0 := 2 + 2 * p1.toNatClampNeg) (co_4 (P := fun j => (wd_X6_26 G b images shb shs shn errs)[2 + 2 * j]? = some (b (43 + 2 * j), .inr (2, [.int (shb j), .int (shs j), .ref (b (43 + 2 * j + 1))]))) rfl rfl rfl rfl hj_p1_toNatClampNeg) hl.1 rfl (Nat.le_of_ble_eq_true rfl) dX6_sheet_73 ⟨Nat.zero_le _, Nat.zero_le _⟩ (fun u_11 H locs hv hW hS => ?_)
    obtain ⟨shb_10, shs_10, shn_10⟩ := u_11
    try dsimp only at hv
    have e_12 := co_4 (P := fun j => ∀ (shb_10 : Int32) (shs_10 : Int32) (shn_10 : Nat → Int32), mix (wd_X6_26 G b images shb shs shn errs) [2 + 2 * j, 3 + 2 * j] (wd_X2_1 G (fun k => b (43 + 2 * j + k)) shb_10 shs_10 shn_10) = (wd_X6_26 G b images (va_up shb j shb_10) (va_up shs j shs_10) (va_up shn j shn_10) errs)) (fun _ _ _ => rfl) (fun _ _ _ => rfl) (fun _ _ _ => rfl) (fun _ _ _ => rfl) hj_p1_toNatClampNeg shb_10 shs_10 shn_10
    have hW : wo G A (wd_X6_26 G b images (va_up shb p1.toNatClampNeg shb_10) (va_up shs p1.toNatClampNeg shs_10) (va_up shn p1.toNatClampNeg shn_10) errs) H := Eq.mp (congrArg (fun z => wo G A z H) e_12) hW
    refine lv_iconst (v := 1) hx hb dX6_sheet_76 kic_1 ?_
    exact ret ((va_up shb p1.toNatClampNeg shb_10), (va_up shs p1.toNatClampNeg shs_10), (va_up shn p1.toNatClampNeg shn_10), errs) (1 : Int32) H locs ls _ rfl hW hS hv dX6_sheet_77
  have h_j_X6_sheet_49 : ∀ (shb : Nat → Int32) (shs : Nat → Int32) (shn : Nat → Nat → Int32) (errs : Nat → Int32) (H : Heap) (locs : List Loc) (ls : Array Slot), wo G A (wd_X6_26 G b images shb shs shn errs) H → va_S A s.heap H locs → lv_has ls 4 [(0, .ref (b 0)), (1, .int p1), (2, .int p2), (3, .int p3)] → j_X6_sheet_49 p1 p2 p3 K shb shs shn errs → W p l e (rmm 2 44) s m args below meth c H locs 0 0 Q (F0 m 49 ls []) := by
    intro shb shs shn errs H locs ls hW hS hl hv
    refine lv_iload_n hx hb dX6_sheet_49 rfl (lv_at hl 2 rfl) ?_
    refine lv_if_eq (tgt := 65) hx hb dX6_sheet_50 (by decide) (fun c_8 => ?_) (fun c_8 => ?_)
    · replace hv := hv.1 c_8
      exact h_j_X6_sheet_65 shb shs shn errs H locs ls hW hS (lv_sub hl [0, 1, 2, 3] rfl) hv
    · replace hv := hv.2 c_8
      refine lv_iload_n hx hb dX6_sheet_53 rfl (lv_at hl 3 rfl) ?_
      refine lv_bipush (v := 24) hx hb dX6_sheet_54 kbp_24 ?_
      refine lv_icmp_le (tgt := 65) hx hb dX6_sheet_56 (by decide) (fun c_13 => ?_) (fun c_13 => ?_)
      · replace hv := hv.1 c_13
        exact h_j_X6_sheet_65 shb shs shn errs H locs ls hW hS (lv_sub hl [0, 1, 2, 3] rfl) hv
      · replace hv := hv.2 c_13
        refine lv_aload_n hx hb dX6_sheet_59 rfl (lv_at hl 0 rfl) ?_
        refine lv_iconst (v := 1) hx hb dX6_sheet_60 kic_1 ?_
        refine q_callV (rest := []) (n := 1) C (c_X6_error l G b images errs (1 : Int32) _ hv) ml_X6_64 kb_X6_error rfl ⟨⟨rfl, rfl⟩, (Nat.le_of_ble_eq_true rfl), (Nat.le_of_ble_eq_true rfl)⟩ hW hS [0, 10] rfl rfl kc6 (q0 := 0) rfl hl.1 rfl (Nat.le_of_ble_eq_true rfl) dX6_sheet_61 ⟨Nat.zero_le _, Nat.zero_le _⟩ (fun r_14 u_15 H locs hv hW hS => ?_)
        obtain ⟨errs_14, rfl⟩ : ∃ z, z = u_15 := ⟨_, rfl⟩
        try dsimp only at hv
        have hW : wo G A (wd_X6_26 G b images shb shs shn errs_14) H := hW
        exact ret (shb, shs, shn, errs_14) r_14 H locs ls _ rfl hW hS hv dX6_sheet_64
  have h_j_X6_sheet_35 : ∀ (shb : Nat → Int32) (shs : Nat → Int32) (shn : Nat → Nat → Int32) (errs : Nat → Int32) (H : Heap) (locs : List Loc) (ls : Array Slot), wo G A (wd_X6_26 G b images shb shs shn errs) H → va_S A s.heap H locs → lv_has ls 4 [(0, .ref (b 0)), (1, .int p1), (2, .int p2), (3, .int p3)] → j_X6_sheet_35 p1 p2 p3 K shb shs shn errs → W p l e (rmm 2 44) s m args below meth c H locs 0 0 Q (F0 m 35 ls []) := by
    intro shb shs shn errs H locs ls hW hS hl hv
    refine lv_iload_n hx hb dX6_sheet_35 rfl (lv_at hl 2 rfl) ?_
    refine lv_if_eq (tgt := 49) hx hb dX6_sheet_36 (by decide) (fun c_7 => ?_) (fun c_7 => ?_)
    · replace hv := hv.1 c_7
      exact h_j_X6_sheet_49 shb shs shn errs H locs ls hW hS (lv_sub hl [0, 1, 2, 3] rfl) hv
    · replace hv := hv.2 c_7
      refine lv_iload_n hx hb dX6_sheet_39 rfl (lv_at hl 3 rfl) ?_
      refine lv_if_ge (tgt := 49) hx hb dX6_sheet_40 (by decide) (fun c_16 => ?_) (fun c_16 => ?_)
      · replace hv := hv.1 c_16
        exact h_j_X6_sheet_49 shb shs shn errs H locs ls hW hS (lv_sub hl [0, 1, 2, 3] rfl) hv
      · replace hv := hv.2 c_16
        refine lv_aload_n hx hb dX6_sheet_43 rfl (lv_at hl 0 rfl) ?_
        refine lv_iconst (v := 3) hx hb dX6_sheet_44 kic_3 ?_
        refine q_callV (rest := []) (n := 1) C (c_X6_error l G b images errs (3 : Int32) _ hv) ml_X6_64 kb_X6_error rfl ⟨⟨rfl, rfl⟩, (Nat.le_of_ble_eq_true rfl), (Nat.le_of_ble_eq_true rfl)⟩ hW hS [0, 10] rfl rfl kc6 (q0 := 0) rfl hl.1 rfl (Nat.le_of_ble_eq_true rfl) dX6_sheet_45 ⟨Nat.zero_le _, Nat.zero_le _⟩ (fun r_17 u_18 H locs hv hW hS => ?_)
        obtain ⟨errs_17, rfl⟩ : ∃ z, z = u_18 := ⟨_, rfl⟩
        try dsimp only at hv
        have hW : wo G A (wd_X6_26 G b images shb shs shn errs_17) H := hW
        exact ret (shb, shs, shn, errs_17) r_17 H locs ls _ rfl hW hS hv dX6_sheet_48
  refine lv_iload_n hx hb dX6_sheet_0 rfl (lv_at hl 1 rfl) ?_
  refine q_callS (rest := []) (n := 1) C (c_X6_isSheet l G p1 _ hv) ml_X6_187 kb_X6_isSheet rfl ⟨⟨rfl, rfl⟩, (Nat.le_of_ble_eq_true rfl), (Nat.le_of_ble_eq_true rfl)⟩ hW hS hl.1 rfl (Nat.le_of_ble_eq_true rfl) dX6_sheet_1 ⟨Nat.zero_le _, Nat.zero_le _⟩ (fun r_1 u_2 H locs hv hW hS => ?_)
  obtain ⟨hv_b_1, hv⟩ := hv
  try dsimp only at hv
  refine lv_if_eq (tgt := 29) hx hb dX6_sheet_4 (by decide) (fun c_3 => ?_) (fun c_3 => ?_)
  · replace hv := hv.1 c_3
    exact h_j_X6_sheet_29 shb shs shn errs H locs ls hW hS (lv_sub hl [0] rfl) hv
  · replace hv := hv.2 c_3
    refine lv_iload_n hx hb dX6_sheet_7 rfl (lv_at hl 2 rfl) ?_
    refine lv_if_eq (tgt := 35) hx hb dX6_sheet_8 (by decide) (fun c_6 => ?_) (fun c_6 => ?_)
    · replace hv := hv.1 c_6
      exact h_j_X6_sheet_35 shb shs shn errs H locs ls hW hS (lv_sub hl [0, 1, 2, 3] rfl) hv
    · replace hv := hv.2 c_6
      refine lv_iload_n hx hb dX6_sheet_11 rfl (lv_at hl 2 rfl) ?_
      refine lv_bipush (v := 8) hx hb dX6_sheet_12 kbp_8 ?_
      refine lv_icmp_eq (tgt := 35) hx hb dX6_sheet_14 (by decide) (fun c_19 => ?_) (fun c_19 => ?_)
      · replace hv := hv.1 c_19
        exact h_j_X6_sheet_35 shb shs shn errs H locs ls hW hS (lv_sub hl [0, 1, 2, 3] rfl) hv
      · replace hv := hv.2 c_19
        refine lv_iload_n hx hb dX6_sheet_17 rfl (lv_at hl 2 rfl) ?_
        refine lv_bipush (v := 16) hx hb dX6_sheet_18 kbp_16 ?_
        refine lv_icmp_eq (tgt := 35) hx hb dX6_sheet_20 (by decide) (fun c_20 => ?_) (fun c_20 => ?_)
        · replace hv := hv.1 c_20
          exact h_j_X6_sheet_35 shb shs shn errs H locs ls hW hS (lv_sub hl [0, 1, 2, 3] rfl) hv
        · replace hv := hv.2 c_20
          refine lv_iload_n hx hb dX6_sheet_23 rfl (lv_at hl 2 rfl) ?_
          refine lv_bipush (v := 32) hx hb dX6_sheet_24 kbp_32 ?_
          refine lv_icmp_eq (tgt := 35) hx hb dX6_sheet_26 (by decide) (fun c_21 => ?_) (fun c_21 => ?_)
          · replace hv := hv.1 c_21
            exact h_j_X6_sheet_35 shb shs shn errs H locs ls hW hS (lv_sub hl [0, 1, 2, 3] rfl) hv
          · replace hv := hv.2 c_21
            exact h_j_X6_sheet_29 shb shs shn errs H locs ls hW hS (lv_sub hl [0] rfl) hv
