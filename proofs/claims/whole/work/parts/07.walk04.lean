set_option maxHeartbeats 4000000 in
set_option maxRecDepth 100000 in
theorem c_X6_isSheet (l : Launch) (G : Gt) (p1 : Int32) (K : Int32 → Prop) (hv : v_X6_isSheet p1 K) : CI l G yX6_isSheet (.code yX6_isSheet cX6_isSheet 1 (some .boolean) :: wsG) (rmm 1 21) [.int p1] [] (S := Unit) (fun _ => []) (fun r u => (r = 0 ∨ r = 1) ∧ K r) := by
  refine ci_intro (by decide) rfl (fun _ => rfl) (Nat.le_of_ble_eq_true rfl) ?_
  intro p e s m args below meth c A H ls Q C hW hS hl ret
  have hx := C.1.1
  have hb := C.1.2.1
  generalize hls : ([] : List Loc) = locs at hS ⊢
  have hl : lv_has ls 1 [(0, .int p1)] := hl
  refine lv_iload_n hx hb dX6_isSheet_0 rfl (lv_at hl 0 rfl) ?_
  refine lv_iconst (v := 3) hx hb dX6_isSheet_1 kic_3 ?_
  refine q_callS (rest := []) (n := 2) C (c_X6_isWithin l G p1 (3 : Int32) _ hv) ml_X6_97 kb_X6_isWithin rfl ⟨⟨rfl, rfl⟩, (Nat.le_of_ble_eq_true rfl), (Nat.le_of_ble_eq_true rfl)⟩ hW hS hl.1 rfl (Nat.le_of_ble_eq_true rfl) dX6_isSheet_2 ⟨Nat.zero_le _, Nat.zero_le _⟩ (fun r_1 u_2 H locs hv hW hS => ?_)
  obtain ⟨hv_b_1, hv⟩ := hv
  try dsimp only at hv
  exact ret () r_1 H locs ls _ (bl_narrow hv_b_1) hW hS ⟨hv_b_1, hv⟩ dX6_isSheet_5
set_option maxHeartbeats 4000000 in
set_option maxRecDepth 100000 in
theorem c_X6_tellsMixed (l : Launch) (G : Gt) (b : Nat → Nat) (bc : Nat → Nat) (images : Int32) (n_people : Int32) (n_taped : Int32) (n_waiting : Int32) (n_z : Int32) (t_day : Int32) (t_near : Nat → Int32) (g_day : Int32) (g_near : Nat → Int32) (c_bits : Int32) (c_size : Int32) (c_numbers : Nat → Int32) (p2 : Int32) (K : Int32 → Prop) (hv : v_X6_tellsMixed p2 n_people t_near g_near c_size c_numbers K) : CI l G yX6_tellsMixed (.code yX6_tellsMixed cX6_tellsMixed 4 (some .boolean) :: wsG) (rmm 1 22) [.ref (b 0), .ref (bc 0), .int p2] (wd_X6_20 G b bc images n_people n_taped n_waiting n_z t_day t_near g_day g_near c_bits c_size c_numbers) (S := Unit) (fun u => wd_X6_20 G b bc images n_people n_taped n_waiting n_z t_day t_near g_day g_near c_bits c_size c_numbers) (fun r u => (r = 0 ∨ r = 1) ∧ K r) := by
  refine ci_intro (by decide) rfl (fun _ => rfl) (Nat.le_of_ble_eq_true rfl) ?_
  intro p e s m args below meth c A H ls Q C hW hS hl ret
  have hx := C.1.1
  have hb := C.1.2.1
  generalize hls : ([] : List Loc) = locs at hS ⊢
  have hl : lv_has ls 4 [(0, .ref (b 0)), (1, .ref (bc 0)), (2, .int p2)] := hl
  have h_l_X6_tellsMixed_18 : ∀ (n : Nat), ∀ (x3 : Int32) (H : Heap) (locs : List Loc) (ls : Array Slot), wo G A (wd_X6_20 G b bc images n_people n_taped n_waiting n_z t_day t_near g_day g_near c_bits c_size c_numbers) H → va_S A s.heap H locs → lv_has ls 4 [(0, .ref (b 0)), (1, .ref (bc 0)), (2, .int p2), (3, .int x3)] → l_X6_tellsMixed_18 p2 n_people t_near g_near c_size c_numbers K n x3 → W p l e (rmm 1 22) s m args below meth c H locs 0 0 Q (F0 m 18 ls []) := by
    intro n
    induction n with
    | zero =>
      intro x3 H locs ls hW hS hl hv
      exact False.elim hv
    | succ n ih =>
      intro x3 H locs ls hW hS hl hv
      refine lv_iload_n hx hb dX6_tellsMixed_18 rfl (lv_at hl 3 rfl) ?_
      refine lv_aload_n hx hb dX6_tellsMixed_19 rfl (lv_at hl 1 rfl) ?_
      refine q_getN C kc2 hW 6 rfl 1 (by decide) nf_X6_220 rfl rfl dX6_tellsMixed_20 ?_
      refine lv_icmp_ge (tgt := 49) hx hb dX6_tellsMixed_23 (by decide) (fun c_2 => ?_) (fun c_2 => ?_)
      · replace hv := hv.1 c_2
        refine lv_iconst (v := 1) hx hb dX6_tellsMixed_49 kic_1 ?_
        exact ret () (1 : Int32) H locs ls _ (bl_narrow (Or.inr rfl)) hW hS ⟨(Or.inr rfl), hv⟩ dX6_tellsMixed_50
      · replace hv := hv.2 c_2
        refine lv_aload_n hx hb dX6_tellsMixed_26 rfl (lv_at hl 1 rfl) ?_
        refine q_getN C kc2 hW 6 rfl 2 (by decide) nf_X6_230 rfl rfl dX6_tellsMixed_27 ?_
        refine lv_iload_n hx hb dX6_tellsMixed_30 rfl (lv_at hl 3 rfl) ?_
        obtain ⟨h_3, hv⟩ := hv
        refine q_iald C hW 7 rfl h_3 dX6_tellsMixed_31 ?_
        refine lv_aload_n hx hb dX6_tellsMixed_32 rfl (lv_at hl 0 rfl) ?_
        refine lv_iload_n hx hb dX6_tellsMixed_33 rfl (lv_at hl 3 rfl) ?_
        refine lv_iload_n hx hb dX6_tellsMixed_34 rfl (lv_at hl 2 rfl) ?_
        refine q_callV (rest := [.int (c_numbers x3.toNatClampNeg)]) (n := 2) C (c_X6_nearIfSigned l G b images t_day t_near g_day g_near x3 p2 _ hv) ml_X6_263 kb_X6_nearIfSigned rfl ⟨⟨rfl, rfl⟩, (Nat.le_of_ble_eq_true rfl), (Nat.le_of_ble_eq_true rfl)⟩ hW hS [0, 2, 3, 4, 5] rfl rfl kc6 (q0 := 0) rfl hl.1 rfl (Nat.le_of_ble_eq_true rfl) dX6_tellsMixed_35 ⟨Nat.zero_le _, Nat.zero_le _⟩ (fun r_4 u_5 H locs hv hW hS => ?_)
        try dsimp only at hv
        refine lv_icmp_eq (tgt := 43) hx hb dX6_tellsMixed_38 (by decide) (fun c_6 => ?_) (fun c_6 => ?_)
        · replace hv := hv.1 c_6
          refine lv_iinc (v := (x3 + 1)) (lv' := [(3, .int (x3 + 1)), (0, .ref (b 0)), (1, .ref (bc 0)), (2, .int p2)]) hx hb dX6_tellsMixed_43 hl (k := 3) rfl rfl (by decide) rfl (fun ls hl => ?_)
          refine lv_goto (tgt := 18) hx hb dX6_tellsMixed_46 (by decide) ?_
          exact ih (x3 + 1) H locs ls hW hS (lv_sub hl [1, 2, 3, 0] rfl) hv
        · replace hv := hv.2 c_6
          refine lv_iconst (v := 0) hx hb dX6_tellsMixed_41 kic_0 ?_
          exact ret () (0 : Int32) H locs ls _ (bl_narrow (Or.inl rfl)) hW hS ⟨(Or.inl rfl), hv⟩ dX6_tellsMixed_42
  refine lv_aload_n hx hb dX6_tellsMixed_0 rfl (lv_at hl 1 rfl) ?_
  refine q_getN C kc2 hW 6 rfl 1 (by decide) nf_X6_220 rfl rfl dX6_tellsMixed_1 ?_
  refine lv_aload_n hx hb dX6_tellsMixed_4 rfl (lv_at hl 0 rfl) ?_
  refine q_get C kc6 hW 0 rfl 0 (by decide) fl_X6_10 rfl rfl dX6_tellsMixed_5 ?_
  refine q_getN C kc4 hW 1 rfl 0 (by decide) nf_X6_68 rfl rfl dX6_tellsMixed_8 ?_
  refine lv_icmp_le (tgt := 16) hx hb dX6_tellsMixed_11 (by decide) (fun c_1 => ?_) (fun c_1 => ?_)
  · replace hv := hv.1 c_1
    refine lv_iconst (v := 0) hx hb dX6_tellsMixed_16 kic_0 ?_
    refine lv_istore_n (lv' := [(3, .int (0 : Int32)), (0, .ref (b 0)), (1, .ref (bc 0)), (2, .int p2)]) hx hb dX6_tellsMixed_17 rfl hl (by decide) rfl (fun ls hl => ?_)
    obtain ⟨n_7, hv⟩ := hv
    exact h_l_X6_tellsMixed_18 n_7 (0 : Int32) H locs ls hW hS (lv_sub hl [1, 2, 3, 0] rfl) hv
  · replace hv := hv.2 c_1
    refine lv_iconst (v := 0) hx hb dX6_tellsMixed_14 kic_0 ?_
    exact ret () (0 : Int32) H locs ls _ (bl_narrow (Or.inl rfl)) hW hS ⟨(Or.inl rfl), hv⟩ dX6_tellsMixed_15
set_option maxHeartbeats 4000000 in
set_option maxRecDepth 100000 in
theorem c_X6_began (l : Launch) (G : Gt) (b : Nat → Nat) (images : Int32) (n_people : Int32) (n_taped : Int32) (n_waiting : Int32) (n_z : Int32) (n_kind : Nat → Int32) (n_em : Nat → Int32) (n_day : Int32) (n_near : Nat → Int32) (n_shows : Nat → Int32) (n_tmost : Int32) (n_tsize : Int32) (n_tsteps : Nat → Int32) (n_tstack : Nat → Int32) (n_gmost : Int32) (n_gsize : Int32) (n_gsteps : Nat → Int32) (n_gstack : Nat → Int32) (t_day : Int32) (t_near : Nat → Int32) (t_shows : Nat → Int32) (g_day : Int32) (g_near : Nat → Int32) (g_shows : Nat → Int32) (shb : Nat → Int32) (shs : Nat → Int32) (shn : Nat → Nat → Int32) (errs : Nat → Int32) (p1 : Int32) (p2 : Int32) (p3 : Int32) (K : Int32 → (Nat → Int32) → (Nat → Int32) → Int32 → (Nat → Int32) → (Nat → Int32) → Int32 → (Nat → Int32) → (Nat → Int32) → (Nat → Int32) → Prop) (hv : v_X6_began p1 p2 p3 n_people n_kind n_em n_day n_near n_shows n_tmost n_tsize n_tsteps n_tstack n_gmost n_gsize n_gsteps n_gstack t_day t_near t_shows g_day g_near g_shows shb shs shn errs K) : CI l G yX6_began (.code yX6_began cX6_began 9 (some .int) :: wsG) (rmm 6 145) [.ref (b 0), .int p1, .int p2, .int p3] (wd_X6_21 G b images n_people n_taped n_waiting n_z n_kind n_em n_day n_near n_shows n_tmost n_tsize n_tsteps n_tstack n_gmost n_gsize n_gsteps n_gstack t_day t_near t_shows g_day g_near g_shows shb shs shn errs) (S := (Nat → Int32) × (Nat → Int32) × Int32 × (Nat → Int32) × (Nat → Int32) × Int32 × (Nat → Int32) × (Nat → Int32) × (Nat → Int32)) (fun u => wd_X6_21 G b images n_people n_taped n_waiting n_z n_kind n_em n_day n_near n_shows n_tmost n_tsize n_tsteps u.1 n_gmost n_gsize n_gsteps u.2.1 u.2.2.1 u.2.2.2.1 u.2.2.2.2.1 u.2.2.2.2.2.1 u.2.2.2.2.2.2.1 u.2.2.2.2.2.2.2.1 shb shs shn u.2.2.2.2.2.2.2.2) (fun r u => K r u.1 u.2.1 u.2.2.1 u.2.2.2.1 u.2.2.2.2.1 u.2.2.2.2.2.1 u.2.2.2.2.2.2.1 u.2.2.2.2.2.2.2.1 u.2.2.2.2.2.2.2.2) := by
  refine ci_intro (by decide) rfl (fun _ => rfl) (Nat.le_of_ble_eq_true rfl) ?_
  intro p e s m args below meth c A H ls Q C hW hS hl ret
  have hx := C.1.1
  have hb := C.1.2.1
  generalize hls : ([] : List Loc) = locs at hS ⊢
  have hl : lv_has ls 9 [(0, .ref (b 0)), (1, .int p1), (2, .int p2), (3, .int p3)] := hl
  have h_j_X6_began_24 : ∀ (n_tstack : Nat → Int32) (n_gstack : Nat → Int32) (t_day : Int32) (t_near : Nat → Int32) (t_shows : Nat → Int32) (g_day : Int32) (g_near : Nat → Int32) (g_shows : Nat → Int32) (errs : Nat → Int32) (H : Heap) (locs : List Loc) (ls : Array Slot), wo G A (wd_X6_21 G b images n_people n_taped n_waiting n_z n_kind n_em n_day n_near n_shows n_tmost n_tsize n_tsteps n_tstack n_gmost n_gsize n_gsteps n_gstack t_day t_near t_shows g_day g_near g_shows shb shs shn errs) H → va_S A s.heap H locs → lv_has ls 9 [(0, .ref (b 0))] → j_X6_began_24 p1 p2 p3 n_people n_kind n_em n_day n_near n_shows n_tmost n_tsize n_tsteps n_gmost n_gsize n_gsteps shb shs shn K n_tstack n_gstack t_day t_near t_shows g_day g_near g_shows errs → W p l e (rmm 6 145) s m args below meth c H locs 0 0 Q (F0 m 24 ls []) := by
    intro n_tstack n_gstack t_day t_near t_shows g_day g_near g_shows errs H locs ls hW hS hl hv
    refine lv_aload_n hx hb dX6_began_24 rfl (lv_at hl 0 rfl) ?_
    refine lv_iconst (v := 1) hx hb dX6_began_25 kic_1 ?_
    refine q_callV (rest := []) (n := 1) C (c_X6_error l G b images errs (1 : Int32) _ hv) ml_X6_64 kb_X6_error rfl ⟨⟨rfl, rfl⟩, (Nat.le_of_ble_eq_true rfl), (Nat.le_of_ble_eq_true rfl)⟩ hW hS [0, 28] rfl rfl kc6 (q0 := 0) rfl hl.1 rfl (Nat.le_of_ble_eq_true rfl) dX6_began_26 ⟨Nat.zero_le _, Nat.zero_le _⟩ (fun r_4 u_5 H locs hv hW hS => ?_)
    obtain ⟨errs_4, rfl⟩ : ∃ z, z = u_5 := ⟨_, rfl⟩
    try dsimp only at hv
    have hW : wo G A (wd_X6_21 G b images n_people n_taped n_waiting n_z n_kind n_em n_day n_near n_shows n_tmost n_tsize n_tsteps n_tstack n_gmost n_gsize n_gsteps n_gstack t_day t_near t_shows g_day g_near g_shows shb shs shn errs_4) H := hW
    exact ret (n_tstack, n_gstack, t_day, t_near, t_shows, g_day, g_near, g_shows, errs_4) r_4 H locs ls _ rfl hW hS hv dX6_began_29
  have h_j_X6_began_140 : ∀ (B62 : Int32 → Int32 → Int32 → (Nat → Int32) → (Nat → Int32) → Int32 → (Nat → Int32) → (Nat → Int32) → Int32 → (Nat → Int32) → (Nat → Int32) → (Nat → Int32) → Prop) (hB62 : ∀ (x4 : Int32) (x5 : Int32) (x6 : Int32) (n_tstack : Nat → Int32) (n_gstack : Nat → Int32) (t_day : Int32) (t_near : Nat → Int32) (t_shows : Nat → Int32) (g_day : Int32) (g_near : Nat → Int32) (g_shows : Nat → Int32) (errs : Nat → Int32) (H : Heap) (locs : List Loc) (ls : Array Slot), wo G A (wd_X6_21 G b images n_people n_taped n_waiting n_z n_kind n_em n_day n_near n_shows n_tmost n_tsize n_tsteps n_tstack n_gmost n_gsize n_gsteps n_gstack t_day t_near t_shows g_day g_near g_shows shb shs shn errs) H → va_S A s.heap H locs → lv_has ls 9 [(0, .ref (b 0)), (1, .int p1), (2, .int p2), (3, .int p3), (4, .int x4), (5, .int x5), (6, .int x6)] → B62 x4 x5 x6 n_tstack n_gstack t_day t_near t_shows g_day g_near g_shows errs → W p l e (rmm 6 145) s m args below meth c H locs 0 0 Q (F0 m 62 ls [])) (B79 : Int32 → Int32 → Int32 → Int32 → (Nat → Int32) → (Nat → Int32) → Int32 → (Nat → Int32) → (Nat → Int32) → Int32 → (Nat → Int32) → (Nat → Int32) → (Nat → Int32) → Prop) (hB79 : ∀ (x4 : Int32) (x5 : Int32) (x6 : Int32) (x7 : Int32) (n_tstack : Nat → Int32) (n_gstack : Nat → Int32) (t_day : Int32) (t_near : Nat → Int32) (t_shows : Nat → Int32) (g_day : Int32) (g_near : Nat → Int32) (g_shows : Nat → Int32) (errs : Nat → Int32) (H : Heap) (locs : List Loc) (ls : Array Slot), wo G A (wd_X6_21 G b images n_people n_taped n_waiting n_z n_kind n_em n_day n_near n_shows n_tmost n_tsize n_tsteps n_tstack n_gmost n_gsize n_gsteps n_gstack t_day t_near t_shows g_day g_near g_shows shb shs shn errs) H → va_S A s.heap H locs → lv_has ls 9 [(0, .ref (b 0)), (1, .int p1), (2, .int p2), (3, .int p3), (4, .int x4), (5, .int x5), (6, .int x6), (7, .int x7)] → B79 x4 x5 x6 x7 n_tstack n_gstack t_day t_near t_shows g_day g_near g_shows errs → W p l e (rmm 6 145) s m args below meth c H locs 0 0 Q (F0 m 79 ls [])), ∀ (x4 : Int32) (x5 : Int32) (x6 : Int32) (x7 : Int32) (n_tstack : Nat → Int32) (n_gstack : Nat → Int32) (t_day : Int32) (t_near : Nat → Int32) (t_shows : Nat → Int32) (g_day : Int32) (g_near : Nat → Int32) (g_shows : Nat → Int32) (errs : Nat → Int32) (H : Heap) (locs : List Loc) (ls : Array Slot), wo G A (wd_X6_21 G b images n_people n_taped n_waiting n_z n_kind n_em n_day n_near n_shows n_tmost n_tsize n_tsteps n_tstack n_gmost n_gsize n_gsteps n_gstack t_day t_near t_shows g_day g_near g_shows shb shs shn errs) H → va_S A s.heap H locs → lv_has ls 9 [(0, .ref (b 0)), (1, .int p1), (2, .int p2), (3, .int p3), (4, .int x4), (5, .int x5), (6, .int x6), (7, .int x7)] → j_X6_began_140 p1 p2 p3 n_people n_kind n_em n_day n_near n_shows n_tmost n_tsize n_tsteps n_gmost n_gsize n_gsteps shb shs shn B62 B79 K x4 x5 x6 x7 n_tstack n_gstack t_day t_near t_shows g_day g_near g_shows errs → W p l e (rmm 6 145) s m args below meth c H locs 0 0 Q (F0 m 140 ls []) := by
    intro B62 hB62 B79 hB79 x4 x5 x6 x7 n_tstack n_gstack t_day t_near t_shows g_day g_near g_shows errs H locs ls hW hS hl hv
    refine lv_iinc (v := (x7 + 1)) (lv' := [(7, .int (x7 + 1)), (0, .ref (b 0)), (1, .int p1), (2, .int p2), (3, .int p3), (4, .int x4), (5, .int x5), (6, .int x6)]) hx hb dX6_began_140 hl (k := 7) rfl rfl (by decide) rfl (fun ls hl => ?_)
    refine lv_goto (tgt := 79) hx hb dX6_began_143 (by decide) ?_
    exact hB79 x4 x5 x6 (x7 + 1) n_tstack n_gstack t_day t_near t_shows g_day g_near g_shows errs H locs ls hW hS (lv_sub hl [1, 2, 3, 4, 5, 6, 7, 0] rfl) hv
  have h_j_X6_began_135 : ∀ (B62 : Int32 → Int32 → Int32 → (Nat → Int32) → (Nat → Int32) → Int32 → (Nat → Int32) → (Nat → Int32) → Int32 → (Nat → Int32) → (Nat → Int32) → (Nat → Int32) → Prop) (hB62 : ∀ (x4 : Int32) (x5 : Int32) (x6 : Int32) (n_tstack : Nat → Int32) (n_gstack : Nat → Int32) (t_day : Int32) (t_near : Nat → Int32) (t_shows : Nat → Int32) (g_day : Int32) (g_near : Nat → Int32) (g_shows : Nat → Int32) (errs : Nat → Int32) (H : Heap) (locs : List Loc) (ls : Array Slot), wo G A (wd_X6_21 G b images n_people n_taped n_waiting n_z n_kind n_em n_day n_near n_shows n_tmost n_tsize n_tsteps n_tstack n_gmost n_gsize n_gsteps n_gstack t_day t_near t_shows g_day g_near g_shows shb shs shn errs) H → va_S A s.heap H locs → lv_has ls 9 [(0, .ref (b 0)), (1, .int p1), (2, .int p2), (3, .int p3), (4, .int x4), (5, .int x5), (6, .int x6)] → B62 x4 x5 x6 n_tstack n_gstack t_day t_near t_shows g_day g_near g_shows errs → W p l e (rmm 6 145) s m args below meth c H locs 0 0 Q (F0 m 62 ls [])) (B79 : Int32 → Int32 → Int32 → Int32 → (Nat → Int32) → (Nat → Int32) → Int32 → (Nat → Int32) → (Nat → Int32) → Int32 → (Nat → Int32) → (Nat → Int32) → (Nat → Int32) → Prop) (hB79 : ∀ (x4 : Int32) (x5 : Int32) (x6 : Int32) (x7 : Int32) (n_tstack : Nat → Int32) (n_gstack : Nat → Int32) (t_day : Int32) (t_near : Nat → Int32) (t_shows : Nat → Int32) (g_day : Int32) (g_near : Nat → Int32) (g_shows : Nat → Int32) (errs : Nat → Int32) (H : Heap) (locs : List Loc) (ls : Array Slot), wo G A (wd_X6_21 G b images n_people n_taped n_waiting n_z n_kind n_em n_day n_near n_shows n_tmost n_tsize n_tsteps n_tstack n_gmost n_gsize n_gsteps n_gstack t_day t_near t_shows g_day g_near g_shows shb shs shn errs) H → va_S A s.heap H locs → lv_has ls 9 [(0, .ref (b 0)), (1, .int p1), (2, .int p2), (3, .int p3), (4, .int x4), (5, .int x5), (6, .int x6), (7, .int x7)] → B79 x4 x5 x6 x7 n_tstack n_gstack t_day t_near t_shows g_day g_near g_shows errs → W p l e (rmm 6 145) s m args below meth c H locs 0 0 Q (F0 m 79 ls [])), ∀ (x4 : Int32) (x6 : Int32) (x7 : Int32) (t0 : Int32) (n_tstack : Nat → Int32) (n_gstack : Nat → Int32) (t_day : Int32) (t_near : Nat → Int32) (t_shows : Nat → Int32) (g_day : Int32) (g_near : Nat → Int32) (g_shows : Nat → Int32) (errs : Nat → Int32) (H : Heap) (locs : List Loc) (ls : Array Slot), wo G A (wd_X6_21 G b images n_people n_taped n_waiting n_z n_kind n_em n_day n_near n_shows n_tmost n_tsize n_tsteps n_tstack n_gmost n_gsize n_gsteps n_gstack t_day t_near t_shows g_day g_near g_shows shb shs shn errs) H → va_S A s.heap H locs → lv_has ls 9 [(0, .ref (b 0)), (1, .int p1), (2, .int p2), (3, .int p3), (4, .int x4), (6, .int x6), (7, .int x7)] → j_X6_began_135 p1 p2 p3 n_people n_kind n_em n_day n_near n_shows n_tmost n_tsize n_tsteps n_gmost n_gsize n_gsteps shb shs shn B62 B79 K x4 x6 x7 t0 n_tstack n_gstack t_day t_near t_shows g_day g_near g_shows errs → W p l e (rmm 6 145) s m args below meth c H locs 0 0 Q (F0 m 135 ls [.int t0]) := by
    intro B62 hB62 B79 hB79 x4 x6 x7 t0 n_tstack n_gstack t_day t_near t_shows g_day g_near g_shows errs H locs ls hW hS hl hv
    refine lv_istore (lv' := [(5, .int t0), (0, .ref (b 0)), (1, .int p1), (2, .int p2), (3, .int p3), (4, .int x4), (6, .int x6), (7, .int x7)]) hx hb dX6_began_135 hl (by decide) rfl (fun ls hl => ?_)
    refine lv_iinc (v := (x4 + 1)) (lv' := [(4, .int (x4 + 1)), (5, .int t0), (0, .ref (b 0)), (1, .int p1), (2, .int p2), (3, .int p3), (6, .int x6), (7, .int x7)]) hx hb dX6_began_137 hl (k := 5) rfl rfl (by decide) rfl (fun ls hl => ?_)
    exact h_j_X6_began_140 B62 hB62 B79 hB79 (x4 + 1) t0 x6 x7 n_tstack n_gstack t_day t_near t_shows g_day g_near g_shows errs H locs ls hW hS (lv_sub hl [2, 3, 4, 5, 0, 1, 6, 7] rfl) hv
  have h_l_X6_began_79 : ∀ (B62 : Int32 → Int32 → Int32 → (Nat → Int32) → (Nat → Int32) → Int32 → (Nat → Int32) → (Nat → Int32) → Int32 → (Nat → Int32) → (Nat → Int32) → (Nat → Int32) → Prop) (hB62 : ∀ (x4 : Int32) (x5 : Int32) (x6 : Int32) (n_tstack : Nat → Int32) (n_gstack : Nat → Int32) (t_day : Int32) (t_near : Nat → Int32) (t_shows : Nat → Int32) (g_day : Int32) (g_near : Nat → Int32) (g_shows : Nat → Int32) (errs : Nat → Int32) (H : Heap) (locs : List Loc) (ls : Array Slot), wo G A (wd_X6_21 G b images n_people n_taped n_waiting n_z n_kind n_em n_day n_near n_shows n_tmost n_tsize n_tsteps n_tstack n_gmost n_gsize n_gsteps n_gstack t_day t_near t_shows g_day g_near g_shows shb shs shn errs) H → va_S A s.heap H locs → lv_has ls 9 [(0, .ref (b 0)), (1, .int p1), (2, .int p2), (3, .int p3), (4, .int x4), (5, .int x5), (6, .int x6)] → B62 x4 x5 x6 n_tstack n_gstack t_day t_near t_shows g_day g_near g_shows errs → W p l e (rmm 6 145) s m args below meth c H locs 0 0 Q (F0 m 62 ls [])) (n : Nat), ∀ (x4 : Int32) (x5 : Int32) (x6 : Int32) (x7 : Int32) (n_tstack : Nat → Int32) (n_gstack : Nat → Int32) (t_day : Int32) (t_near : Nat → Int32) (t_shows : Nat → Int32) (g_day : Int32) (g_near : Nat → Int32) (g_shows : Nat → Int32) (errs : Nat → Int32) (H : Heap) (locs : List Loc) (ls : Array Slot), wo G A (wd_X6_21 G b images n_people n_taped n_waiting n_z n_kind n_em n_day n_near n_shows n_tmost n_tsize n_tsteps n_tstack n_gmost n_gsize n_gsteps n_gstack t_day t_near t_shows g_day g_near g_shows shb shs shn errs) H → va_S A s.heap H locs → lv_has ls 9 [(0, .ref (b 0)), (1, .int p1), (2, .int p2), (3, .int p3), (4, .int x4), (5, .int x5), (6, .int x6), (7, .int x7)] → l_X6_began_79 p1 p2 p3 n_people n_kind n_em n_day n_near n_shows n_tmost n_tsize n_tsteps n_gmost n_gsize n_gsteps shb shs shn B62 K n x4 x5 x6 x7 n_tstack n_gstack t_day t_near t_shows g_day g_near g_shows errs → W p l e (rmm 6 145) s m args below meth c H locs 0 0 Q (F0 m 79 ls []) := by
    intro B62 hB62 n
    induction n with
    | zero =>
      intro x4 x5 x6 x7 n_tstack n_gstack t_day t_near t_shows g_day g_near g_shows errs H locs ls hW hS hl hv
      exact False.elim hv
    | succ n ih =>
      intro x4 x5 x6 x7 n_tstack n_gstack t_day t_near t_shows g_day g_near g_shows errs H locs ls hW hS hl hv
      refine lv_iload hx hb dX6_began_79 (lv_at hl 7 rfl) ?_
      refine lv_aload_n hx hb dX6_began_81 rfl (lv_at hl 0 rfl) ?_
      refine q_get C kc6 hW 0 rfl 0 (by decide) fl_X6_10 rfl rfl dX6_began_82 ?_
      refine q_getN C kc4 hW 1 rfl 0 (by decide) nf_X6_68 rfl rfl dX6_began_85 ?_
      refine lv_icmp_ge (tgt := 146) hx hb dX6_began_88 (by decide) (fun c_26 => ?_) (fun c_26 => ?_)
      · replace hv := hv.1 c_26
        refine lv_iinc (v := (x6 + 1)) (lv' := [(6, .int (x6 + 1)), (0, .ref (b 0)), (1, .int p1), (2, .int p2), (3, .int p3), (4, .int x4), (5, .int x5), (7, .int x7)]) hx hb dX6_began_146 hl (k := 6) rfl rfl (by decide) rfl (fun ls hl => ?_)
        refine lv_goto (tgt := 62) hx hb dX6_began_149 (by decide) ?_
        exact hB62 x4 x5 (x6 + 1) n_tstack n_gstack t_day t_near t_shows g_day g_near g_shows errs H locs ls hW hS (lv_sub hl [1, 2, 3, 4, 5, 6, 0] rfl) hv
      · replace hv := hv.2 c_26
        refine lv_aload_n hx hb dX6_began_91 rfl (lv_at hl 0 rfl) ?_
        refine lv_aload_n hx hb dX6_began_92 rfl (lv_at hl 0 rfl) ?_
        refine q_get C kc6 hW 0 rfl 7 (by decide) fl_X6_46 rfl rfl dX6_began_93 ?_
        refine lv_iload_n hx hb dX6_began_96 rfl (lv_at hl 1 rfl) ?_
        obtain ⟨h_27, hv⟩ := hv
        refine va_aldq (D := G.1) (cl := GB_cl) (tys := tyG G) hx hb C.2.1 hW.1 19 2 rfl rfl h_27 dX6_began_97 ?_
        have hj_p1_toNatClampNeg : p1.toNatClampNeg < 4 := Nat.not_le.mp fun q => h_27 (Or.inr q)
        refine lv_iconst (v := 1) hx hb dX6_began_98 kic_1 ?_
        refine lv_iload hx hb dX6_began_99 (lv_at hl 7 rfl) ?_
        refine lv_ishl hx hb dX6_began_101 ?_
        refine q_callV (rest := []) (n := 2) C (c_X6_tellsMixed l G b (fun k => b (43 + 2 * p1.toNatClampNeg + k)) images n_people n_taped n_waiting n_z t_day t_near g_day g_near (shb p1.toNatClampNeg) (shs p1.toNatClampNeg) (shn p1.toNatClampNeg) ((1 : Int32) <<< (x7 &&& 31)) _ hv) ml_X6_194 kb_X6_tellsMixed rfl ⟨⟨rfl, rfl⟩, (Nat.le_of_ble_eq_true rfl), (Nat.le_of_ble_eq_true rfl)⟩ hW hS [0, 1, 13, 14, 16, 17, 20 + 2 * p1.toNatClampNeg, 21 + 2 * p1.toNatClampNeg] (co_4 (P := fun j => va_nd [0, 1, 13, 14, 16, 17, 20 + 2 * j, 21 + 2 * j] = true) rfl rfl rfl rfl hj_p1_toNatClampNeg) (co_4 (P := fun j => [0, 1, 13, 14, 16, 17, 20 + 2 * j, 21 + 2 * j].map (fun i => (wd_X6_21 G b images n_people n_taped n_waiting n_z n_kind n_em n_day n_near n_shows n_tmost n_tsize n_tsteps n_tstack n_gmost n_gsize n_gsteps n_gstack t_day t_near t_shows g_day g_near g_shows shb shs shn errs)[i]?) = (wd_X6_20 G b (fun k => b (43 + 2 * j + k)) images n_people n_taped n_waiting n_z t_day t_near g_day g_near (shb j) (shs j) (shn j)).map some) rfl rfl rfl rfl hj_p1_toNatClampNeg) kc6 (q0 := 0) rfl hl.1 rfl (Nat.le_of_ble_eq_true rfl) dX6_began_102 ⟨Nat.zero_le _, Nat.zero_le _⟩ (fun r_28 u_29 H locs hv hW hS => ?_)
        obtain ⟨hv_b_28, hv⟩ := hv
        try dsimp only at hv
        have e_30 := co_4 (P := fun j => mix (wd_X6_21 G b images n_people n_taped n_waiting n_z n_kind n_em n_day n_near n_shows n_tmost n_tsize n_tsteps n_tstack n_gmost n_gsize n_gsteps n_gstack t_day t_near t_shows g_day g_near g_shows shb shs shn errs) [0, 1, 13, 14, 16, 17, 20 + 2 * j, 21 + 2 * j] (wd_X6_20 G b (fun k => b (43 + 2 * j + k)) images n_people n_taped n_waiting n_z t_day t_near g_day g_near (shb j) (shs j) (shn j)) = (wd_X6_21 G b images n_people n_taped n_waiting n_z n_kind n_em n_day n_near n_shows n_tmost n_tsize n_tsteps n_tstack n_gmost n_gsize n_gsteps n_gstack t_day t_near t_shows g_day g_near g_shows shb shs shn errs)) rfl rfl rfl rfl hj_p1_toNatClampNeg
        have hW : wo G A (wd_X6_21 G b images n_people n_taped n_waiting n_z n_kind n_em n_day n_near n_shows n_tmost n_tsize n_tsteps n_tstack n_gmost n_gsize n_gsteps n_gstack t_day t_near t_shows g_day g_near g_shows shb shs shn errs) H := Eq.mp (congrArg (fun z => wo G A z H) e_30) hW
        refine lv_if_eq (tgt := 140) hx hb dX6_began_105 (by decide) (fun c_31 => ?_) (fun c_31 => ?_)
        · replace hv := hv.1 c_31
          exact h_j_X6_began_140 B62 hB62 (fun x4' x5' x6' x7' n_tstack' n_gstack' t_day' t_near' t_shows' g_day' g_near' g_shows' errs' => l_X6_began_79 p1 p2 p3 n_people n_kind n_em n_day n_near n_shows n_tmost n_tsize n_tsteps n_gmost n_gsize n_gsteps shb shs shn B62 K n x4' x5' x6' x7' n_tstack' n_gstack' t_day' t_near' t_shows' g_day' g_near' g_shows' errs') ih x4 x5 x6 x7 n_tstack n_gstack t_day t_near t_shows g_day g_near g_shows errs H locs ls hW hS (lv_sub hl [0, 1, 2, 3, 4, 5, 6, 7] rfl) hv
        · replace hv := hv.2 c_31
          refine lv_bipush (v := 10) hx hb dX6_began_108 kbp_10 ?_
          refine lv_iload hx hb dX6_began_110 (lv_at hl 7 rfl) ?_
          refine lv_imul hx hb dX6_began_112 ?_
          refine lv_iload hx hb dX6_began_113 (lv_at hl 6 rfl) ?_
          refine lv_iadd hx hb dX6_began_115 ?_
          refine lv_istore (lv' := [(8, .int (((10 : Int32) * x7) + x6)), (0, .ref (b 0)), (1, .int p1), (2, .int p2), (3, .int p3), (4, .int x4), (5, .int x5), (6, .int x6), (7, .int x7)]) hx hb dX6_began_116 hl (by decide) rfl (fun ls hl => ?_)
          refine lv_iload hx hb dX6_began_118 (lv_at hl 5 rfl) ?_
          refine lv_if_ne (tgt := 128) hx hb dX6_began_120 (by decide) (fun c_32 => ?_) (fun c_32 => ?_)
          · replace hv := hv.1 c_32
            refine lv_iload hx hb dX6_began_128 (lv_at hl 6 rfl) ?_
            refine lv_iload hx hb dX6_began_130 (lv_at hl 0 rfl) ?_
            refine va_mmin hx hb (C.1.2.2.1.trans hl.1.symm) C.1.2.2.2.1 (C.hts ml_X6_198) (C.hts st_mmin) (C.hts ini_javalangMath) (C.hts cd_mmin) (Nat.le_of_ble_eq_true rfl) (Nat.le_of_ble_eq_true rfl) (Nat.zero_le _) (Nat.zero_le _) dX6_began_132 ?_
            exact h_j_X6_began_135 B62 hB62 (fun x4' x5' x6' x7' n_tstack' n_gstack' t_day' t_near' t_shows' g_day' g_near' g_shows' errs' => l_X6_began_79 p1 p2 p3 n_people n_kind n_em n_day n_near n_shows n_tmost n_tsize n_tsteps n_gmost n_gsize n_gsteps shb shs shn B62 K n x4' x5' x6' x7' n_tstack' n_gstack' t_day' t_near' t_shows' g_day' g_near' g_shows' errs') ih x4 x6 x7 (if (((10 : Int32) * x7) + x6) < x5 then (((10 : Int32) * x7) + x6) else x5) n_tstack n_gstack t_day t_near t_shows g_day g_near g_shows errs H locs ls hW hS (lv_sub hl [1, 2, 3, 4, 5, 7, 8] rfl) hv
          · replace hv := hv.2 c_32
            refine lv_iload hx hb dX6_began_123 (lv_at hl 0 rfl) ?_
            refine lv_goto (tgt := 135) hx hb dX6_began_125 (by decide) ?_
            exact h_j_X6_began_135 B62 hB62 (fun x4' x5' x6' x7' n_tstack' n_gstack' t_day' t_near' t_shows' g_day' g_near' g_shows' errs' => l_X6_began_79 p1 p2 p3 n_people n_kind n_em n_day n_near n_shows n_tmost n_tsize n_tsteps n_gmost n_gsize n_gsteps shb shs shn B62 K n x4' x5' x6' x7' n_tstack' n_gstack' t_day' t_near' t_shows' g_day' g_near' g_shows' errs') ih x4 x6 x7 (((10 : Int32) * x7) + x6) n_tstack n_gstack t_day t_near t_shows g_day g_near g_shows errs H locs ls hW hS (lv_sub hl [1, 2, 3, 4, 5, 7, 8] rfl) hv
  have h_l_X6_began_62 : ∀ (n : Nat), ∀ (x4 : Int32) (x5 : Int32) (x6 : Int32) (n_tstack : Nat → Int32) (n_gstack : Nat → Int32) (t_day : Int32) (t_near : Nat → Int32) (t_shows : Nat → Int32) (g_day : Int32) (g_near : Nat → Int32) (g_shows : Nat → Int32) (errs : Nat → Int32) (H : Heap) (locs : List Loc) (ls : Array Slot), wo G A (wd_X6_21 G b images n_people n_taped n_waiting n_z n_kind n_em n_day n_near n_shows n_tmost n_tsize n_tsteps n_tstack n_gmost n_gsize n_gsteps n_gstack t_day t_near t_shows g_day g_near g_shows shb shs shn errs) H → va_S A s.heap H locs → lv_has ls 9 [(0, .ref (b 0)), (1, .int p1), (2, .int p2), (3, .int p3), (4, .int x4), (5, .int x5), (6, .int x6)] → l_X6_began_62 p1 p2 p3 n_people n_kind n_em n_day n_near n_shows n_tmost n_tsize n_tsteps n_gmost n_gsize n_gsteps shb shs shn K n x4 x5 x6 n_tstack n_gstack t_day t_near t_shows g_day g_near g_shows errs → W p l e (rmm 6 145) s m args below meth c H locs 0 0 Q (F0 m 62 ls []) := by
    intro n
    induction n with
    | zero =>
      intro x4 x5 x6 n_tstack n_gstack t_day t_near t_shows g_day g_near g_shows errs H locs ls hW hS hl hv
      exact False.elim hv
    | succ n ih =>
      intro x4 x5 x6 n_tstack n_gstack t_day t_near t_shows g_day g_near g_shows errs H locs ls hW hS hl hv
      refine lv_iload hx hb dX6_began_62 (lv_at hl 6 rfl) ?_
      refine lv_bipush (v := 9) hx hb dX6_began_64 kbp_9 ?_
      refine lv_icmp_gt (tgt := 152) hx hb dX6_began_66 (by decide) (fun c_19 => ?_) (fun c_19 => ?_)
      · replace hv := hv.1 c_19
        refine lv_iload_n hx hb dX6_began_152 rfl (lv_at hl 3 rfl) ?_
        refine lv_if_ne (tgt := 159) hx hb dX6_began_153 (by decide) (fun c_20 => ?_) (fun c_20 => ?_)
        · replace hv := hv.1 c_20
          refine lv_iload hx hb dX6_began_159 (lv_at hl 4 rfl) ?_
          refine lv_if_ne (tgt := 172) hx hb dX6_began_161 (by decide) (fun c_21 => ?_) (fun c_21 => ?_)
          · replace hv := hv.1 c_21
            refine lv_iload hx hb dX6_began_172 (lv_at hl 5 rfl) ?_
            exact ret (n_tstack, n_gstack, t_day, t_near, t_shows, g_day, g_near, g_shows, errs) x5 H locs ls _ rfl hW hS hv dX6_began_174
          · replace hv := hv.2 c_21
            refine lv_aload_n hx hb dX6_began_164 rfl (lv_at hl 0 rfl) ?_
            refine lv_iconst (v := 2) hx hb dX6_began_165 kic_2 ?_
            refine q_callV (rest := []) (n := 1) C (c_X6_error l G b images errs (2 : Int32) _ hv) ml_X6_64 kb_X6_error rfl ⟨⟨rfl, rfl⟩, (Nat.le_of_ble_eq_true rfl), (Nat.le_of_ble_eq_true rfl)⟩ hW hS [0, 28] rfl rfl kc6 (q0 := 0) rfl hl.1 rfl (Nat.le_of_ble_eq_true rfl) dX6_began_166 ⟨Nat.zero_le _, Nat.zero_le _⟩ (fun r_22 u_23 H locs hv hW hS => ?_)
            obtain ⟨errs_22, rfl⟩ : ∃ z, z = u_23 := ⟨_, rfl⟩
            try dsimp only at hv
            have hW : wo G A (wd_X6_21 G b images n_people n_taped n_waiting n_z n_kind n_em n_day n_near n_shows n_tmost n_tsize n_tsteps n_tstack n_gmost n_gsize n_gsteps n_gstack t_day t_near t_shows g_day g_near g_shows shb shs shn errs_22) H := hW
            refine lv_goto (tgt := 174) hx hb dX6_began_169 (by decide) ?_
            exact ret (n_tstack, n_gstack, t_day, t_near, t_shows, g_day, g_near, g_shows, errs_22) r_22 H locs ls _ rfl hW hS hv dX6_began_174
        · replace hv := hv.2 c_20
          refine lv_iload hx hb dX6_began_156 (lv_at hl 4 rfl) ?_
          exact ret (n_tstack, n_gstack, t_day, t_near, t_shows, g_day, g_near, g_shows, errs) x4 H locs ls _ rfl hW hS hv dX6_began_158
      · replace hv := hv.2 c_19
        refine lv_aload_n hx hb dX6_began_69 rfl (lv_at hl 0 rfl) ?_
        refine lv_iload hx hb dX6_began_70 (lv_at hl 6 rfl) ?_
        refine lv_iload_n hx hb dX6_began_72 rfl (lv_at hl 2 rfl) ?_
        refine q_callVv (rest := []) (n := 2) C (c_X6_thinkSigned l G b images n_people n_taped n_waiting n_z n_kind n_em n_day n_near n_shows n_tmost n_tsize n_tsteps n_tstack n_gmost n_gsize n_gsteps n_gstack g_day g_near g_shows x6 p2 _ hv) ml_X6_166 kb_X6_thinkSigned rfl ⟨⟨rfl, rfl⟩, (Nat.le_of_ble_eq_true rfl), (Nat.le_of_ble_eq_true rfl)⟩ hW hS [0, 1, 2, 3, 4, 5, 6, 7, 8, 9, 10, 11, 12, 16, 17, 18] rfl rfl kc6 (q0 := 0) rfl hl.1 rfl (Nat.le_of_ble_eq_true rfl) dX6_began_73 ⟨Nat.zero_le _, Nat.zero_le _⟩ (fun u_25 H locs hv hW hS => ?_)
        obtain ⟨n_tstack_24, n_gstack_24, g_day_24, g_near_24, g_shows_24⟩ := u_25
        try dsimp only at hv
        have hW : wo G A (wd_X6_21 G b images n_people n_taped n_waiting n_z n_kind n_em n_day n_near n_shows n_tmost n_tsize n_tsteps n_tstack_24 n_gmost n_gsize n_gsteps n_gstack_24 t_day t_near t_shows g_day_24 g_near_24 g_shows_24 shb shs shn errs) H := hW
        refine lv_iconst (v := 0) hx hb dX6_began_76 kic_0 ?_
        refine lv_istore (lv' := [(7, .int (0 : Int32)), (0, .ref (b 0)), (1, .int p1), (2, .int p2), (3, .int p3), (4, .int x4), (5, .int x5), (6, .int x6)]) hx hb dX6_began_77 hl (by decide) rfl (fun ls hl => ?_)
        obtain ⟨n_33, hv⟩ := hv
        exact h_l_X6_began_79 (fun x4' x5' x6' n_tstack' n_gstack' t_day' t_near' t_shows' g_day' g_near' g_shows' errs' => l_X6_began_62 p1 p2 p3 n_people n_kind n_em n_day n_near n_shows n_tmost n_tsize n_tsteps n_gmost n_gsize n_gsteps shb shs shn K n x4' x5' x6' n_tstack' n_gstack' t_day' t_near' t_shows' g_day' g_near' g_shows' errs') ih n_33 x4 x5 x6 (0 : Int32) n_tstack_24 n_gstack_24 t_day t_near t_shows g_day_24 g_near_24 g_shows_24 errs H locs ls hW hS (lv_sub hl [1, 2, 3, 4, 5, 6, 7, 0] rfl) hv
  refine lv_iload_n hx hb dX6_began_0 rfl (lv_at hl 1 rfl) ?_
  refine q_callS (rest := []) (n := 1) C (c_X6_isSheet l G p1 _ hv) ml_X6_187 kb_X6_isSheet rfl ⟨⟨rfl, rfl⟩, (Nat.le_of_ble_eq_true rfl), (Nat.le_of_ble_eq_true rfl)⟩ hW hS hl.1 rfl (Nat.le_of_ble_eq_true rfl) dX6_began_1 ⟨Nat.zero_le _, Nat.zero_le _⟩ (fun r_1 u_2 H locs hv hW hS => ?_)
  obtain ⟨hv_b_1, hv⟩ := hv
  try dsimp only at hv
  refine lv_if_eq (tgt := 24) hx hb dX6_began_4 (by decide) (fun c_3 => ?_) (fun c_3 => ?_)
  · replace hv := hv.1 c_3
    exact h_j_X6_began_24 n_tstack n_gstack t_day t_near t_shows g_day g_near g_shows errs H locs ls hW hS (lv_sub hl [0] rfl) hv
  · replace hv := hv.2 c_3
    refine lv_iload_n hx hb dX6_began_7 rfl (lv_at hl 2 rfl) ?_
    refine lv_bipush (v := 20) hx hb dX6_began_8 kbp_20 ?_
    refine q_callS (rest := []) (n := 2) C (c_X6_isWithin l G p2 (20 : Int32) _ hv) ml_X6_97 kb_X6_isWithin rfl ⟨⟨rfl, rfl⟩, (Nat.le_of_ble_eq_true rfl), (Nat.le_of_ble_eq_true rfl)⟩ hW hS hl.1 rfl (Nat.le_of_ble_eq_true rfl) dX6_began_10 ⟨Nat.zero_le _, Nat.zero_le _⟩ (fun r_6 u_7 H locs hv hW hS => ?_)
    obtain ⟨hv_b_6, hv⟩ := hv
    try dsimp only at hv
    refine lv_if_eq (tgt := 24) hx hb dX6_began_13 (by decide) (fun c_8 => ?_) (fun c_8 => ?_)
    · replace hv := hv.1 c_8
      exact h_j_X6_began_24 n_tstack n_gstack t_day t_near t_shows g_day g_near g_shows errs H locs ls hW hS (lv_sub hl [0] rfl) hv
    · replace hv := hv.2 c_8
      refine lv_iload_n hx hb dX6_began_16 rfl (lv_at hl 3 rfl) ?_
      refine lv_iconst (v := 1) hx hb dX6_began_17 kic_1 ?_
      refine q_callS (rest := []) (n := 2) C (c_X6_isWithin l G p3 (1 : Int32) _ hv) ml_X6_97 kb_X6_isWithin rfl ⟨⟨rfl, rfl⟩, (Nat.le_of_ble_eq_true rfl), (Nat.le_of_ble_eq_true rfl)⟩ hW hS hl.1 rfl (Nat.le_of_ble_eq_true rfl) dX6_began_18 ⟨Nat.zero_le _, Nat.zero_le _⟩ (fun r_9 u_10 H locs hv hW hS => ?_)
      obtain ⟨hv_b_9, hv⟩ := hv
      try dsimp only at hv
      refine lv_if_ne (tgt := 30) hx hb dX6_began_21 (by decide) (fun c_11 => ?_) (fun c_11 => ?_)
      · replace hv := hv.1 c_11
        refine lv_aload_n hx hb dX6_began_30 rfl (lv_at hl 0 rfl) ?_
        refine q_get C kc6 hW 0 rfl 7 (by decide) fl_X6_46 rfl rfl dX6_began_31 ?_
        refine lv_iload_n hx hb dX6_began_34 rfl (lv_at hl 1 rfl) ?_
        obtain ⟨h_12, hv⟩ := hv
        refine va_aldq (D := G.1) (cl := GB_cl) (tys := tyG G) hx hb C.2.1 hW.1 19 2 rfl rfl h_12 dX6_began_35 ?_
        have hj_p1_toNatClampNeg : p1.toNatClampNeg < 4 := Nat.not_le.mp fun q => h_12 (Or.inr q)
        refine q_callN (rest := []) (n := 0) C (c_X2_isMissing l G (fun k => b (43 + 2 * p1.toNatClampNeg + k)) (shb p1.toNatClampNeg) (shs p1.toNatClampNeg) _ hv) nm_X6_190 kb_X2_isMissing rfl ⟨⟨rfl, rfl⟩, (Nat.le_of_ble_eq_true rfl), (Nat.le_of_ble_eq_true rfl)⟩ hW hS [20 + 2 * p1.toNatClampNeg] (co_4 (P := fun j => va_nd [20 + 2 * j] = true) rfl rfl rfl rfl hj_p1_toNatClampNeg) (co_4 (P := fun j => [20 + 2 * j].map (fun i => (wd_X6_21 G b images n_people n_taped n_waiting n_z n_kind n_em n_day n_near n_shows n_tmost n_tsize n_tsteps n_tstack n_gmost n_gsize n_gsteps n_gstack t_day t_near t_shows g_day g_near g_shows shb shs shn errs)[i]?) = (wd_X2_0 G (fun k => b (43 + 2 * j + k)) (shb j) (shs j)).map some) rfl rfl rfl rfl hj_p1_toNatClampNeg) kc2 (q0 := 20 + 2 * p1.toNatClampNeg) (co_4 (P := fun j => (wd_X6_21 G b images n_people n_taped n_waiting n_z n_kind n_em n_day n_near n_shows n_tmost n_tsize n_tsteps n_tstack n_gmost n_gsize n_gsteps n_gstack t_day t_near t_shows g_day g_near g_shows shb shs shn errs)[20 + 2 * j]? = some (b (43 + 2 * j), .inr (2, [.int (shb j), .int (shs j), .ref (b (43 + 2 * j + 1))]))) rfl rfl rfl rfl hj_p1_toNatClampNeg) hl.1 rfl (Nat.le_of_ble_eq_true rfl) dX6_began_36 ⟨Nat.zero_le _, Nat.zero_le _⟩ (fun r_13 u_14 H locs hv hW hS => ?_)
        obtain ⟨hv_b_13, hv⟩ := hv
        try dsimp only at hv
        have e_15 := co_4 (P := fun j => mix (wd_X6_21 G b images n_people n_taped n_waiting n_z n_kind n_em n_day n_near n_shows n_tmost n_tsize n_tsteps n_tstack n_gmost n_gsize n_gsteps n_gstack t_day t_near t_shows g_day g_near g_shows shb shs shn errs) [20 + 2 * j] (wd_X2_0 G (fun k => b (43 + 2 * j + k)) (shb j) (shs j)) = (wd_X6_21 G b images n_people n_taped n_waiting n_z n_kind n_em n_day n_near n_shows n_tmost n_tsize n_tsteps n_tstack n_gmost n_gsize n_gsteps n_gstack t_day t_near t_shows g_day g_near g_shows shb shs shn errs)) rfl rfl rfl rfl hj_p1_toNatClampNeg
        have hW : wo G A (wd_X6_21 G b images n_people n_taped n_waiting n_z n_kind n_em n_day n_near n_shows n_tmost n_tsize n_tsteps n_tstack n_gmost n_gsize n_gsteps n_gstack t_day t_near t_shows g_day g_near g_shows shb shs shn errs) H := Eq.mp (congrArg (fun z => wo G A z H) e_15) hW
        refine lv_if_eq (tgt := 48) hx hb dX6_began_39 (by decide) (fun c_16 => ?_) (fun c_16 => ?_)
        · replace hv := hv.1 c_16
          refine lv_aload_n hx hb dX6_began_48 rfl (lv_at hl 0 rfl) ?_
          refine lv_iload_n hx hb dX6_began_49 rfl (lv_at hl 2 rfl) ?_
          refine q_callVv (rest := []) (n := 1) C (c_X6_think l G b images n_people n_taped n_waiting n_z n_kind n_em n_day n_near n_shows n_tmost n_tsize n_tsteps n_tstack n_gmost n_gsize n_gsteps n_gstack t_day t_near t_shows p2 _ hv) ml_X6_159 kb_X6_think rfl ⟨⟨rfl, rfl⟩, (Nat.le_of_ble_eq_true rfl), (Nat.le_of_ble_eq_true rfl)⟩ hW hS [0, 1, 2, 3, 4, 5, 6, 7, 8, 9, 10, 11, 12, 13, 14, 15] rfl rfl kc6 (q0 := 0) rfl hl.1 rfl (Nat.le_of_ble_eq_true rfl) dX6_began_50 ⟨Nat.zero_le _, Nat.zero_le _⟩ (fun u_18 H locs hv hW hS => ?_)
          obtain ⟨n_tstack_17, n_gstack_17, t_day_17, t_near_17, t_shows_17⟩ := u_18
          try dsimp only at hv
          have hW : wo G A (wd_X6_21 G b images n_people n_taped n_waiting n_z n_kind n_em n_day n_near n_shows n_tmost n_tsize n_tsteps n_tstack_17 n_gmost n_gsize n_gsteps n_gstack_17 t_day_17 t_near_17 t_shows_17 g_day g_near g_shows shb shs shn errs) H := hW
          refine lv_iconst (v := 0) hx hb dX6_began_53 kic_0 ?_
          refine lv_istore (lv' := [(4, .int (0 : Int32)), (0, .ref (b 0)), (1, .int p1), (2, .int p2), (3, .int p3)]) hx hb dX6_began_54 hl (by decide) rfl (fun ls hl => ?_)
          refine lv_iconst (v := 0) hx hb dX6_began_56 kic_0 ?_
          refine lv_istore (lv' := [(5, .int (0 : Int32)), (4, .int (0 : Int32)), (0, .ref (b 0)), (1, .int p1), (2, .int p2), (3, .int p3)]) hx hb dX6_began_57 hl (by decide) rfl (fun ls hl => ?_)
          refine lv_iconst (v := 1) hx hb dX6_began_59 kic_1 ?_
          refine lv_istore (lv' := [(6, .int (1 : Int32)), (5, .int (0 : Int32)), (4, .int (0 : Int32)), (0, .ref (b 0)), (1, .int p1), (2, .int p2), (3, .int p3)]) hx hb dX6_began_60 hl (by decide) rfl (fun ls hl => ?_)
          obtain ⟨n_34, hv⟩ := hv
          exact h_l_X6_began_62 n_34 (0 : Int32) (0 : Int32) (1 : Int32) n_tstack_17 n_gstack_17 t_day_17 t_near_17 t_shows_17 g_day g_near g_shows errs H locs ls hW hS (lv_sub hl [3, 4, 5, 6, 2, 1, 0] rfl) hv
        · replace hv := hv.2 c_16
          refine lv_aload_n hx hb dX6_began_42 rfl (lv_at hl 0 rfl) ?_
          refine lv_iconst (v := 2) hx hb dX6_began_43 kic_2 ?_
          refine q_callV (rest := []) (n := 1) C (c_X6_error l G b images errs (2 : Int32) _ hv) ml_X6_64 kb_X6_error rfl ⟨⟨rfl, rfl⟩, (Nat.le_of_ble_eq_true rfl), (Nat.le_of_ble_eq_true rfl)⟩ hW hS [0, 28] rfl rfl kc6 (q0 := 0) rfl hl.1 rfl (Nat.le_of_ble_eq_true rfl) dX6_began_44 ⟨Nat.zero_le _, Nat.zero_le _⟩ (fun r_35 u_36 H locs hv hW hS => ?_)
          obtain ⟨errs_35, rfl⟩ : ∃ z, z = u_36 := ⟨_, rfl⟩
          try dsimp only at hv
          have hW : wo G A (wd_X6_21 G b images n_people n_taped n_waiting n_z n_kind n_em n_day n_near n_shows n_tmost n_tsize n_tsteps n_tstack n_gmost n_gsize n_gsteps n_gstack t_day t_near t_shows g_day g_near g_shows shb shs shn errs_35) H := hW
          exact ret (n_tstack, n_gstack, t_day, t_near, t_shows, g_day, g_near, g_shows, errs_35) r_35 H locs ls _ rfl hW hS hv dX6_began_47
      · replace hv := hv.2 c_11
        exact h_j_X6_began_24 n_tstack n_gstack t_day t_near t_shows g_day g_near g_shows errs H locs ls hW hS (lv_sub hl [0] rfl) hv
set_option maxHeartbeats 4000000 in
set_option maxRecDepth 100000 in
theorem c_X6_fits (l : Launch) (G : Gt) (b : Nat → Nat) (images : Int32) (n_people : Int32) (n_taped : Int32) (n_waiting : Int32) (n_z : Int32) (n_kind : Nat → Int32) (n_em : Nat → Int32) (n_day : Int32) (n_near : Nat → Int32) (n_shows : Nat → Int32) (n_tmost : Int32) (n_tsize : Int32) (n_tsteps : Nat → Int32) (n_tstack : Nat → Int32) (n_gmost : Int32) (n_gsize : Int32) (n_gsteps : Nat → Int32) (n_gstack : Nat → Int32) (t_day : Int32) (t_near : Nat → Int32) (t_shows : Nat → Int32) (g_day : Int32) (g_near : Nat → Int32) (shb : Nat → Int32) (shs : Nat → Int32) (shn : Nat → Nat → Int32) (errs : Nat → Int32) (p1 : Int32) (K : Int32 → (Nat → Int32) → (Nat → Int32) → Int32 → (Nat → Int32) → (Nat → Int32) → (Nat → Int32) → Prop) (hv : v_X6_fits p1 n_people n_kind n_em n_day n_near n_shows n_tmost n_tsize n_tsteps n_tstack n_gmost n_gsize n_gsteps n_gstack t_day t_near t_shows g_near shb shs shn errs K) : CI l G yX6_fits (.code yX6_fits cX6_fits 3 (some .int) :: wsG) (rmm 6 144) [.ref (b 0), .int p1] (wd_X6_22 G b images n_people n_taped n_waiting n_z n_kind n_em n_day n_near n_shows n_tmost n_tsize n_tsteps n_tstack n_gmost n_gsize n_gsteps n_gstack t_day t_near t_shows g_day g_near shb shs shn errs) (S := (Nat → Int32) × (Nat → Int32) × Int32 × (Nat → Int32) × (Nat → Int32) × (Nat → Int32)) (fun u => wd_X6_22 G b images n_people n_taped n_waiting n_z n_kind n_em n_day n_near n_shows n_tmost n_tsize n_tsteps u.1 n_gmost n_gsize n_gsteps u.2.1 u.2.2.1 u.2.2.2.1 u.2.2.2.2.1 g_day g_near shb shs shn u.2.2.2.2.2) (fun r u => K r u.1 u.2.1 u.2.2.1 u.2.2.2.1 u.2.2.2.2.1 u.2.2.2.2.2) := by
  refine ci_intro (by decide) rfl (fun _ => rfl) (Nat.le_of_ble_eq_true rfl) ?_
  intro p e s m args below meth c A H ls Q C hW hS hl ret
  have hx := C.1.1
  have hb := C.1.2.1
  generalize hls : ([] : List Loc) = locs at hS ⊢
  have hl : lv_has ls 3 [(0, .ref (b 0)), (1, .int p1)] := hl
  have h_l_X6_fits_38 : ∀ (n : Nat), ∀ (x2 : Int32) (n_tstack : Nat → Int32) (n_gstack : Nat → Int32) (t_day : Int32) (t_near : Nat → Int32) (t_shows : Nat → Int32) (errs : Nat → Int32) (H : Heap) (locs : List Loc) (ls : Array Slot), wo G A (wd_X6_22 G b images n_people n_taped n_waiting n_z n_kind n_em n_day n_near n_shows n_tmost n_tsize n_tsteps n_tstack n_gmost n_gsize n_gsteps n_gstack t_day t_near t_shows g_day g_near shb shs shn errs) H → va_S A s.heap H locs → lv_has ls 3 [(0, .ref (b 0)), (1, .int p1), (2, .int x2)] → l_X6_fits_38 p1 n_people n_kind n_em n_day n_near n_shows n_tmost n_tsize n_tsteps n_gmost n_gsize n_gsteps g_near shb shs shn K n x2 n_tstack n_gstack t_day t_near t_shows errs → W p l e (rmm 6 144) s m args below meth c H locs 0 0 Q (F0 m 38 ls []) := by
    intro n
    induction n with
    | zero =>
      intro x2 n_tstack n_gstack t_day t_near t_shows errs H locs ls hW hS hl hv
      exact False.elim hv
    | succ n ih =>
      intro x2 n_tstack n_gstack t_day t_near t_shows errs H locs ls hW hS hl hv
      refine lv_iload_n hx hb dX6_fits_38 rfl (lv_at hl 2 rfl) ?_
      refine lv_bipush (v := 100) hx hb dX6_fits_39 kbp_100 ?_
      refine lv_icmp_gt (tgt := 78) hx hb dX6_fits_41 (by decide) (fun c_11 => ?_) (fun c_11 => ?_)
      · replace hv := hv.1 c_11
        refine lv_aload_n hx hb dX6_fits_78 rfl (lv_at hl 0 rfl) ?_
        refine lv_iconst (v := 2) hx hb dX6_fits_79 kic_2 ?_
        refine q_callV (rest := []) (n := 1) C (c_X6_error l G b images errs (2 : Int32) _ hv) ml_X6_64 kb_X6_error rfl ⟨⟨rfl, rfl⟩, (Nat.le_of_ble_eq_true rfl), (Nat.le_of_ble_eq_true rfl)⟩ hW hS [0, 27] rfl rfl kc6 (q0 := 0) rfl hl.1 rfl (Nat.le_of_ble_eq_true rfl) dX6_fits_80 ⟨Nat.zero_le _, Nat.zero_le _⟩ (fun r_12 u_13 H locs hv hW hS => ?_)
        obtain ⟨errs_12, rfl⟩ : ∃ z, z = u_13 := ⟨_, rfl⟩
        try dsimp only at hv
        have hW : wo G A (wd_X6_22 G b images n_people n_taped n_waiting n_z n_kind n_em n_day n_near n_shows n_tmost n_tsize n_tsteps n_tstack n_gmost n_gsize n_gsteps n_gstack t_day t_near t_shows g_day g_near shb shs shn errs_12) H := hW
        exact ret (n_tstack, n_gstack, t_day, t_near, t_shows, errs_12) r_12 H locs ls _ rfl hW hS hv dX6_fits_83
      · replace hv := hv.2 c_11
        refine lv_aload_n hx hb dX6_fits_44 rfl (lv_at hl 0 rfl) ?_
        refine lv_aload_n hx hb dX6_fits_45 rfl (lv_at hl 0 rfl) ?_
        refine q_get C kc6 hW 0 rfl 7 (by decide) fl_X6_46 rfl rfl dX6_fits_46 ?_
        refine lv_iload_n hx hb dX6_fits_49 rfl (lv_at hl 1 rfl) ?_
        obtain ⟨h_14, hv⟩ := hv
        refine va_aldq (D := G.1) (cl := GB_cl) (tys := tyG G) hx hb C.2.1 hW.1 18 2 rfl rfl h_14 dX6_fits_50 ?_
        have hj_p1_toNatClampNeg : p1.toNatClampNeg < 4 := Nat.not_le.mp fun q => h_14 (Or.inr q)
        refine lv_iconst (v := 0) hx hb dX6_fits_51 kic_0 ?_
        refine q_callV (rest := []) (n := 2) C (c_X6_tellsMixed l G b (fun k => b (43 + 2 * p1.toNatClampNeg + k)) images n_people n_taped n_waiting n_z t_day t_near g_day g_near (shb p1.toNatClampNeg) (shs p1.toNatClampNeg) (shn p1.toNatClampNeg) (0 : Int32) _ hv) ml_X6_194 kb_X6_tellsMixed rfl ⟨⟨rfl, rfl⟩, (Nat.le_of_ble_eq_true rfl), (Nat.le_of_ble_eq_true rfl)⟩ hW hS [0, 1, 13, 14, 16, 17, 19 + 2 * p1.toNatClampNeg, 20 + 2 * p1.toNatClampNeg] (co_4 (P := fun j => va_nd [0, 1, 13, 14, 16, 17, 19 + 2 * j, 20 + 2 * j] = true) rfl rfl rfl rfl hj_p1_toNatClampNeg) (co_4 (P := fun j => [0, 1, 13, 14, 16, 17, 19 + 2 * j, 20 + 2 * j].map (fun i => (wd_X6_22 G b images n_people n_taped n_waiting n_z n_kind n_em n_day n_near n_shows n_tmost n_tsize n_tsteps n_tstack n_gmost n_gsize n_gsteps n_gstack t_day t_near t_shows g_day g_near shb shs shn errs)[i]?) = (wd_X6_20 G b (fun k => b (43 + 2 * j + k)) images n_people n_taped n_waiting n_z t_day t_near g_day g_near (shb j) (shs j) (shn j)).map some) rfl rfl rfl rfl hj_p1_toNatClampNeg) kc6 (q0 := 0) rfl hl.1 rfl (Nat.le_of_ble_eq_true rfl) dX6_fits_52 ⟨Nat.zero_le _, Nat.zero_le _⟩ (fun r_15 u_16 H locs hv hW hS => ?_)
        obtain ⟨hv_b_15, hv⟩ := hv
        try dsimp only at hv
        have e_17 := co_4 (P := fun j => mix (wd_X6_22 G b images n_people n_taped n_waiting n_z n_kind n_em n_day n_near n_shows n_tmost n_tsize n_tsteps n_tstack n_gmost n_gsize n_gsteps n_gstack t_day t_near t_shows g_day g_near shb shs shn errs) [0, 1, 13, 14, 16, 17, 19 + 2 * j, 20 + 2 * j] (wd_X6_20 G b (fun k => b (43 + 2 * j + k)) images n_people n_taped n_waiting n_z t_day t_near g_day g_near (shb j) (shs j) (shn j)) = (wd_X6_22 G b images n_people n_taped n_waiting n_z n_kind n_em n_day n_near n_shows n_tmost n_tsize n_tsteps n_tstack n_gmost n_gsize n_gsteps n_gstack t_day t_near t_shows g_day g_near shb shs shn errs)) rfl rfl rfl rfl hj_p1_toNatClampNeg
        have hW : wo G A (wd_X6_22 G b images n_people n_taped n_waiting n_z n_kind n_em n_day n_near n_shows n_tmost n_tsize n_tsteps n_tstack n_gmost n_gsize n_gsteps n_gstack t_day t_near t_shows g_day g_near shb shs shn errs) H := Eq.mp (congrArg (fun z => wo G A z H) e_17) hW
        refine lv_if_eq (tgt := 60) hx hb dX6_fits_55 (by decide) (fun c_18 => ?_) (fun c_18 => ?_)
        · replace hv := hv.1 c_18
          refine lv_aload_n hx hb dX6_fits_60 rfl (lv_at hl 0 rfl) ?_
          refine q_get C kc6 hW 0 rfl 0 (by decide) fl_X6_10 rfl rfl dX6_fits_61 ?_
          refine lv_aload_n hx hb dX6_fits_64 rfl (lv_at hl 0 rfl) ?_
          refine q_get C kc6 hW 0 rfl 3 (by decide) fl_X6_22 rfl rfl dX6_fits_65 ?_
          refine q_callN (rest := []) (n := 1) C (c_X4_pass l G (fun k => b (k + 1)) (fun k => b (k + 31)) n_people n_taped n_waiting n_z n_kind n_em n_tmost n_tsize n_tsteps n_tstack n_gmost n_gsize n_gsteps n_gstack t_day t_near t_shows _ hv) nm_X6_145 kb_X4_pass rfl ⟨⟨rfl, rfl⟩, (Nat.le_of_ble_eq_true rfl), (Nat.le_of_ble_eq_true rfl)⟩ hW hS [1, 2, 3, 7, 8, 9, 10, 11, 12, 13, 14, 15] rfl rfl kc4 (q0 := 1) rfl hl.1 rfl (Nat.le_of_ble_eq_true rfl) dX6_fits_68 ⟨Nat.zero_le _, Nat.zero_le _⟩ (fun r_19 u_20 H locs hv hW hS => ?_)
          obtain ⟨n_tstack_19, n_gstack_19, t_day_19, t_near_19, t_shows_19⟩ := u_20
          obtain ⟨hv_b_19, hv⟩ := hv
          try dsimp only at hv
          have hW : wo G A (wd_X6_22 G b images n_people n_taped n_waiting n_z n_kind n_em n_day n_near n_shows n_tmost n_tsize n_tsteps n_tstack_19 n_gmost n_gsize n_gsteps n_gstack_19 t_day_19 t_near_19 t_shows_19 g_day g_near shb shs shn errs) H := hW
          refine lv_pop hx hb dX6_fits_71 rfl ?_
          refine lv_iinc (v := (x2 + 1)) (lv' := [(2, .int (x2 + 1)), (0, .ref (b 0)), (1, .int p1)]) hx hb dX6_fits_72 hl (k := 2) rfl rfl (by decide) rfl (fun ls hl => ?_)
          refine lv_goto (tgt := 38) hx hb dX6_fits_75 (by decide) ?_
          exact ih (x2 + 1) n_tstack_19 n_gstack_19 t_day_19 t_near_19 t_shows_19 errs H locs ls hW hS (lv_sub hl [1, 2, 0] rfl) hv
        · replace hv := hv.2 c_18
          refine lv_iload_n hx hb dX6_fits_58 rfl (lv_at hl 2 rfl) ?_
          exact ret (n_tstack, n_gstack, t_day, t_near, t_shows, errs) x2 H locs ls _ rfl hW hS hv dX6_fits_59
  refine lv_iload_n hx hb dX6_fits_0 rfl (lv_at hl 1 rfl) ?_
  refine q_callS (rest := []) (n := 1) C (c_X6_isSheet l G p1 _ hv) ml_X6_187 kb_X6_isSheet rfl ⟨⟨rfl, rfl⟩, (Nat.le_of_ble_eq_true rfl), (Nat.le_of_ble_eq_true rfl)⟩ hW hS hl.1 rfl (Nat.le_of_ble_eq_true rfl) dX6_fits_1 ⟨Nat.zero_le _, Nat.zero_le _⟩ (fun r_1 u_2 H locs hv hW hS => ?_)
  obtain ⟨hv_b_1, hv⟩ := hv
  try dsimp only at hv
  refine lv_if_ne (tgt := 13) hx hb dX6_fits_4 (by decide) (fun c_3 => ?_) (fun c_3 => ?_)
  · replace hv := hv.1 c_3
    refine lv_aload_n hx hb dX6_fits_13 rfl (lv_at hl 0 rfl) ?_
    refine q_get C kc6 hW 0 rfl 7 (by decide) fl_X6_46 rfl rfl dX6_fits_14 ?_
    refine lv_iload_n hx hb dX6_fits_17 rfl (lv_at hl 1 rfl) ?_
    obtain ⟨h_4, hv⟩ := hv
    refine va_aldq (D := G.1) (cl := GB_cl) (tys := tyG G) hx hb C.2.1 hW.1 18 2 rfl rfl h_4 dX6_fits_18 ?_
    have hj_p1_toNatClampNeg : p1.toNatClampNeg < 4 := Nat.not_le.mp fun q => h_4 (Or.inr q)
    refine q_callN (rest := []) (n := 0) C (c_X2_isMissing l G (fun k => b (43 + 2 * p1.toNatClampNeg + k)) (shb p1.toNatClampNeg) (shs p1.toNatClampNeg) _ hv) nm_X6_190 kb_X2_isMissing rfl ⟨⟨rfl, rfl⟩, (Nat.le_of_ble_eq_true rfl), (Nat.le_of_ble_eq_true rfl)⟩ hW hS [19 + 2 * p1.toNatClampNeg] (co_4 (P := fun j => va_nd [19 + 2 * j] = true) rfl rfl rfl rfl hj_p1_toNatClampNeg) (co_4 (P := fun j => [19 + 2 * j].map (fun i => (wd_X6_22 G b images n_people n_taped n_waiting n_z n_kind n_em n_day n_near n_shows n_tmost n_tsize n_tsteps n_tstack n_gmost n_gsize n_gsteps n_gstack t_day t_near t_shows g_day g_near shb shs shn errs)[i]?) = (wd_X2_0 G (fun k => b (43 + 2 * j + k)) (shb j) (shs j)).map some) rfl rfl rfl rfl hj_p1_toNatClampNeg) kc2 (q0 := 19 + 2 * p1.toNatClampNeg) (co_4 (P := fun j => (wd_X6_22 G b images n_people n_taped n_waiting n_z n_kind n_em n_day n_near n_shows n_tmost n_tsize n_tsteps n_tstack n_gmost n_gsize n_gsteps n_gstack t_day t_near t_shows g_day g_near shb shs shn errs)[19 + 2 * j]? = some (b (43 + 2 * j), .inr (2, [.int (shb j), .int (shs j), .ref (b (43 + 2 * j + 1))]))) rfl rfl rfl rfl hj_p1_toNatClampNeg) hl.1 rfl (Nat.le_of_ble_eq_true rfl) dX6_fits_19 ⟨Nat.zero_le _, Nat.zero_le _⟩ (fun r_5 u_6 H locs hv hW hS => ?_)
    obtain ⟨hv_b_5, hv⟩ := hv
    try dsimp only at hv
    have e_7 := co_4 (P := fun j => mix (wd_X6_22 G b images n_people n_taped n_waiting n_z n_kind n_em n_day n_near n_shows n_tmost n_tsize n_tsteps n_tstack n_gmost n_gsize n_gsteps n_gstack t_day t_near t_shows g_day g_near shb shs shn errs) [19 + 2 * j] (wd_X2_0 G (fun k => b (43 + 2 * j + k)) (shb j) (shs j)) = (wd_X6_22 G b images n_people n_taped n_waiting n_z n_kind n_em n_day n_near n_shows n_tmost n_tsize n_tsteps n_tstack n_gmost n_gsize n_gsteps n_gstack t_day t_near t_shows g_day g_near shb shs shn errs)) rfl rfl rfl rfl hj_p1_toNatClampNeg
    have hW : wo G A (wd_X6_22 G b images n_people n_taped n_waiting n_z n_kind n_em n_day n_near n_shows n_tmost n_tsize n_tsteps n_tstack n_gmost n_gsize n_gsteps n_gstack t_day t_near t_shows g_day g_near shb shs shn errs) H := Eq.mp (congrArg (fun z => wo G A z H) e_7) hW
    refine lv_if_eq (tgt := 31) hx hb dX6_fits_22 (by decide) (fun c_8 => ?_) (fun c_8 => ?_)
    · replace hv := hv.1 c_8
      refine lv_aload_n hx hb dX6_fits_31 rfl (lv_at hl 0 rfl) ?_
      refine lv_iconst (v := 0) hx hb dX6_fits_32 kic_0 ?_
      refine q_callVv (rest := []) (n := 1) C (c_X6_think l G b images n_people n_taped n_waiting n_z n_kind n_em n_day n_near n_shows n_tmost n_tsize n_tsteps n_tstack n_gmost n_gsize n_gsteps n_gstack t_day t_near t_shows (0 : Int32) _ hv) ml_X6_159 kb_X6_think rfl ⟨⟨rfl, rfl⟩, (Nat.le_of_ble_eq_true rfl), (Nat.le_of_ble_eq_true rfl)⟩ hW hS [0, 1, 2, 3, 4, 5, 6, 7, 8, 9, 10, 11, 12, 13, 14, 15] rfl rfl kc6 (q0 := 0) rfl hl.1 rfl (Nat.le_of_ble_eq_true rfl) dX6_fits_33 ⟨Nat.zero_le _, Nat.zero_le _⟩ (fun u_10 H locs hv hW hS => ?_)
      obtain ⟨n_tstack_9, n_gstack_9, t_day_9, t_near_9, t_shows_9⟩ := u_10
      try dsimp only at hv
      have hW : wo G A (wd_X6_22 G b images n_people n_taped n_waiting n_z n_kind n_em n_day n_near n_shows n_tmost n_tsize n_tsteps n_tstack_9 n_gmost n_gsize n_gsteps n_gstack_9 t_day_9 t_near_9 t_shows_9 g_day g_near shb shs shn errs) H := hW
      refine lv_iconst (v := 0) hx hb dX6_fits_36 kic_0 ?_
      refine lv_istore_n (lv' := [(2, .int (0 : Int32)), (0, .ref (b 0)), (1, .int p1)]) hx hb dX6_fits_37 rfl hl (by decide) rfl (fun ls hl => ?_)
      obtain ⟨n_21, hv⟩ := hv
      exact h_l_X6_fits_38 n_21 (0 : Int32) n_tstack_9 n_gstack_9 t_day_9 t_near_9 t_shows_9 errs H locs ls hW hS (lv_sub hl [1, 2, 0] rfl) hv
    · replace hv := hv.2 c_8
      refine lv_aload_n hx hb dX6_fits_25 rfl (lv_at hl 0 rfl) ?_
      refine lv_iconst (v := 2) hx hb dX6_fits_26 kic_2 ?_
      refine q_callV (rest := []) (n := 1) C (c_X6_error l G b images errs (2 : Int32) _ hv) ml_X6_64 kb_X6_error rfl ⟨⟨rfl, rfl⟩, (Nat.le_of_ble_eq_true rfl), (Nat.le_of_ble_eq_true rfl)⟩ hW hS [0, 27] rfl rfl kc6 (q0 := 0) rfl hl.1 rfl (Nat.le_of_ble_eq_true rfl) dX6_fits_27 ⟨Nat.zero_le _, Nat.zero_le _⟩ (fun r_22 u_23 H locs hv hW hS => ?_)
      obtain ⟨errs_22, rfl⟩ : ∃ z, z = u_23 := ⟨_, rfl⟩
      try dsimp only at hv
      have hW : wo G A (wd_X6_22 G b images n_people n_taped n_waiting n_z n_kind n_em n_day n_near n_shows n_tmost n_tsize n_tsteps n_tstack n_gmost n_gsize n_gsteps n_gstack t_day t_near t_shows g_day g_near shb shs shn errs_22) H := hW
      exact ret (n_tstack, n_gstack, t_day, t_near, t_shows, errs_22) r_22 H locs ls _ rfl hW hS hv dX6_fits_30
  · replace hv := hv.2 c_3
    refine lv_aload_n hx hb dX6_fits_7 rfl (lv_at hl 0 rfl) ?_
    refine lv_iconst (v := 1) hx hb dX6_fits_8 kic_1 ?_
    refine q_callV (rest := []) (n := 1) C (c_X6_error l G b images errs (1 : Int32) _ hv) ml_X6_64 kb_X6_error rfl ⟨⟨rfl, rfl⟩, (Nat.le_of_ble_eq_true rfl), (Nat.le_of_ble_eq_true rfl)⟩ hW hS [0, 27] rfl rfl kc6 (q0 := 0) rfl hl.1 rfl (Nat.le_of_ble_eq_true rfl) dX6_fits_9 ⟨Nat.zero_le _, Nat.zero_le _⟩ (fun r_24 u_25 H locs hv hW hS => ?_)
    obtain ⟨errs_24, rfl⟩ : ∃ z, z = u_25 := ⟨_, rfl⟩
    try dsimp only at hv
    have hW : wo G A (wd_X6_22 G b images n_people n_taped n_waiting n_z n_kind n_em n_day n_near n_shows n_tmost n_tsize n_tsteps n_tstack n_gmost n_gsize n_gsteps n_gstack t_day t_near t_shows g_day g_near shb shs shn errs_24) H := hW
    exact ret (n_tstack, n_gstack, t_day, t_near, t_shows, errs_24) r_24 H locs ls _ rfl hW hS hv dX6_fits_12
set_option maxHeartbeats 4000000 in
set_option maxRecDepth 100000 in
theorem c_X6_voice (l : Launch) (G : Gt) (b : Nat → Nat) (images : Int32) (n_people : Int32) (n_taped : Int32) (n_waiting : Int32) (n_z : Int32) (n_kind : Nat → Int32) (n_em : Nat → Int32) (v_traced : Int32) (v_parted : Int32) (v_yk : Int32) (v_ykind : Int32) (v_ym : Int32) (v_trace : Nat → Int32) (errs : Nat → Int32) (p1 : Int32) (p2 : Int32) (p3 : Int32) (K : Int32 → Int32 → Int32 → Int32 → Int32 → Int32 → (Nat → Int32) → (Nat → Int32) → Prop) (hv : v_X6_voice p1 p2 p3 n_people n_kind n_em v_traced v_parted v_yk v_ykind v_ym v_trace errs K) : CI l G yX6_voice (.code yX6_voice cX6_voice 5 (some .int) :: wsG) (rmm 38 939) [.ref (b 0), .int p1, .int p2, .int p3] (wd_X6_23 G b images n_people n_taped n_waiting n_z n_kind n_em v_traced v_parted v_yk v_ykind v_ym v_trace errs) (S := Int32 × Int32 × Int32 × Int32 × Int32 × (Nat → Int32) × (Nat → Int32)) (fun u => wd_X6_23 G b images n_people n_taped n_waiting n_z n_kind n_em u.1 u.2.1 u.2.2.1 u.2.2.2.1 u.2.2.2.2.1 u.2.2.2.2.2.1 u.2.2.2.2.2.2) (fun r u => K r u.1 u.2.1 u.2.2.1 u.2.2.2.1 u.2.2.2.2.1 u.2.2.2.2.2.1 u.2.2.2.2.2.2) := by
  refine ci_intro (by decide) rfl (fun _ => rfl) (Nat.le_of_ble_eq_true rfl) ?_
  intro p e s m args below meth c A H ls Q C hW hS hl ret
  have hx := C.1.1
  have hb := C.1.2.1
  generalize hls : ([] : List Loc) = locs at hS ⊢
  have hl : lv_has ls 5 [(0, .ref (b 0)), (1, .int p1), (2, .int p2), (3, .int p3)] := hl
  have h_j_X6_voice_19 : ∀ (v_traced : Int32) (v_parted : Int32) (v_yk : Int32) (v_ykind : Int32) (v_ym : Int32) (v_trace : Nat → Int32) (errs : Nat → Int32) (H : Heap) (locs : List Loc) (ls : Array Slot), wo G A (wd_X6_23 G b images n_people n_taped n_waiting n_z n_kind n_em v_traced v_parted v_yk v_ykind v_ym v_trace errs) H → va_S A s.heap H locs → lv_has ls 5 [(0, .ref (b 0))] → j_X6_voice_19 p1 p2 p3 n_people n_kind n_em K v_traced v_parted v_yk v_ykind v_ym v_trace errs → W p l e (rmm 38 939) s m args below meth c H locs 0 0 Q (F0 m 19 ls []) := by
    intro v_traced v_parted v_yk v_ykind v_ym v_trace errs H locs ls hW hS hl hv
    refine lv_aload_n hx hb dX6_voice_19 rfl (lv_at hl 0 rfl) ?_
    refine lv_iconst (v := 1) hx hb dX6_voice_20 kic_1 ?_
    refine q_callV (rest := []) (n := 1) C (c_X6_error l G b images errs (1 : Int32) _ hv) ml_X6_64 kb_X6_error rfl ⟨⟨rfl, rfl⟩, (Nat.le_of_ble_eq_true rfl), (Nat.le_of_ble_eq_true rfl)⟩ hW hS [0, 6] rfl rfl kc6 (q0 := 0) rfl hl.1 rfl (Nat.le_of_ble_eq_true rfl) dX6_voice_21 ⟨Nat.zero_le _, Nat.zero_le _⟩ (fun r_4 u_5 H locs hv hW hS => ?_)
    obtain ⟨errs_4, rfl⟩ : ∃ z, z = u_5 := ⟨_, rfl⟩
    try dsimp only at hv
    have hW : wo G A (wd_X6_23 G b images n_people n_taped n_waiting n_z n_kind n_em v_traced v_parted v_yk v_ykind v_ym v_trace errs_4) H := hW
    exact ret (v_traced, v_parted, v_yk, v_ykind, v_ym, v_trace, errs_4) r_4 H locs ls _ rfl hW hS hv dX6_voice_24
  refine lv_aload_n hx hb dX6_voice_0 rfl (lv_at hl 0 rfl) ?_
  refine q_get C kc6 hW 0 rfl 0 (by decide) fl_X6_10 rfl rfl dX6_voice_1 ?_
  refine lv_iload_n hx hb dX6_voice_4 rfl (lv_at hl 1 rfl) ?_
  refine q_callN (rest := []) (n := 1) C (c_X4_has l G (fun k => b (k + 1)) n_people n_taped n_waiting n_z p1 _ hv) nm_X6_76 kb_X4_has rfl ⟨⟨rfl, rfl⟩, (Nat.le_of_ble_eq_true rfl), (Nat.le_of_ble_eq_true rfl)⟩ hW hS [1] rfl rfl kc4 (q0 := 1) rfl hl.1 rfl (Nat.le_of_ble_eq_true rfl) dX6_voice_5 ⟨Nat.zero_le _, Nat.zero_le _⟩ (fun r_1 u_2 H locs hv hW hS => ?_)
  obtain ⟨hv_b_1, hv⟩ := hv
  try dsimp only at hv
  refine lv_if_eq (tgt := 19) hx hb dX6_voice_8 (by decide) (fun c_3 => ?_) (fun c_3 => ?_)
  · replace hv := hv.1 c_3
    exact h_j_X6_voice_19 v_traced v_parted v_yk v_ykind v_ym v_trace errs H locs ls hW hS (lv_sub hl [0] rfl) hv
  · replace hv := hv.2 c_3
    refine lv_iload_n hx hb dX6_voice_11 rfl (lv_at hl 2 rfl) ?_
    refine lv_iconst (v := 3) hx hb dX6_voice_12 kic_3 ?_
    refine q_callS (rest := []) (n := 2) C (c_X6_isWithin l G p2 (3 : Int32) _ hv) ml_X6_97 kb_X6_isWithin rfl ⟨⟨rfl, rfl⟩, (Nat.le_of_ble_eq_true rfl), (Nat.le_of_ble_eq_true rfl)⟩ hW hS hl.1 rfl (Nat.le_of_ble_eq_true rfl) dX6_voice_13 ⟨Nat.zero_le _, Nat.zero_le _⟩ (fun r_6 u_7 H locs hv hW hS => ?_)
    obtain ⟨hv_b_6, hv⟩ := hv
    try dsimp only at hv
    refine lv_if_ne (tgt := 25) hx hb dX6_voice_16 (by decide) (fun c_8 => ?_) (fun c_8 => ?_)
    · replace hv := hv.1 c_8
      refine lv_aload_n hx hb dX6_voice_25 rfl (lv_at hl 0 rfl) ?_
      refine q_get C kc6 hW 0 rfl 6 (by decide) fl_X6_39 rfl rfl dX6_voice_26 ?_
      refine lv_iload_n hx hb dX6_voice_29 rfl (lv_at hl 1 rfl) ?_
      refine lv_aload_n hx hb dX6_voice_30 rfl (lv_at hl 0 rfl) ?_
      refine q_get C kc6 hW 0 rfl 0 (by decide) fl_X6_10 rfl rfl dX6_voice_31 ?_
      refine q_getN C kc4 hW 1 rfl 1 (by decide) nf_X6_79 rfl rfl dX6_voice_34 ?_
      refine lv_iload_n hx hb dX6_voice_37 rfl (lv_at hl 1 rfl) ?_
      obtain ⟨h_9, hv⟩ := hv
      refine q_iald C hW 2 rfl h_9 dX6_voice_38 ?_
      refine lv_aload_n hx hb dX6_voice_39 rfl (lv_at hl 0 rfl) ?_
      refine q_get C kc6 hW 0 rfl 0 (by decide) fl_X6_10 rfl rfl dX6_voice_40 ?_
      refine q_getN C kc4 hW 1 rfl 2 (by decide) nf_X6_82 rfl rfl dX6_voice_43 ?_
      refine lv_iload_n hx hb dX6_voice_46 rfl (lv_at hl 1 rfl) ?_
      obtain ⟨h_10, hv⟩ := hv
      refine q_iald C hW 3 rfl h_10 dX6_voice_47 ?_
      refine lv_iload_n hx hb dX6_voice_48 rfl (lv_at hl 2 rfl) ?_
      refine lv_iload_n hx hb dX6_voice_49 rfl (lv_at hl 3 rfl) ?_
      refine q_callN (rest := []) (n := 5) C (c_X5_hear l G (fun k => b (k + 40)) v_traced v_parted v_yk v_ykind v_ym v_trace p1 (n_kind p1.toNatClampNeg) (n_em p1.toNatClampNeg) p2 p3 _ hv) nm_X6_203 kb_X5_hear rfl ⟨⟨rfl, rfl⟩, (Nat.le_of_ble_eq_true rfl), (Nat.le_of_ble_eq_true rfl)⟩ hW hS [4, 5] rfl rfl kc5 (q0 := 4) rfl hl.1 rfl (Nat.le_of_ble_eq_true rfl) dX6_voice_50 ⟨Nat.zero_le _, Nat.zero_le _⟩ (fun r_11 u_12 H locs hv hW hS => ?_)
      obtain ⟨v_traced_11, v_parted_11, v_yk_11, v_ykind_11, v_ym_11, v_trace_11⟩ := u_12
      try dsimp only at hv
      have hW : wo G A (wd_X6_23 G b images n_people n_taped n_waiting n_z n_kind n_em v_traced_11 v_parted_11 v_yk_11 v_ykind_11 v_ym_11 v_trace_11 errs) H := hW
      refine lv_istore (lv' := [(4, .int r_11), (0, .ref (b 0)), (1, .int p1), (2, .int p2), (3, .int p3)]) hx hb dX6_voice_53 hl (by decide) rfl (fun ls hl => ?_)
      refine lv_aload_n hx hb dX6_voice_55 rfl (lv_at hl 1 rfl) ?_
      refine q_get C kc6 hW 0 rfl 6 (by decide) fl_X6_39 rfl rfl dX6_voice_56 ?_
      refine q_getN C kc5 hW 4 rfl 2 (by decide) nf_X6_207 rfl rfl dX6_voice_59 ?_
      refine lv_if_eq (tgt := 74) hx hb dX6_voice_62 (by decide) (fun c_13 => ?_) (fun c_13 => ?_)
      · replace hv := hv.1 c_13
        refine lv_iload hx hb dX6_voice_74 (lv_at hl 0 rfl) ?_
        exact ret (v_traced_11, v_parted_11, v_yk_11, v_ykind_11, v_ym_11, v_trace_11, errs) r_11 H locs ls _ rfl hW hS hv dX6_voice_76
      · replace hv := hv.2 c_13
        refine lv_aload_n hx hb dX6_voice_65 rfl (lv_at hl 1 rfl) ?_
        refine lv_bipush (v := 6) hx hb dX6_voice_66 kbp_6 ?_
        refine q_callV (rest := []) (n := 1) C (c_X6_error l G b images errs (6 : Int32) _ hv) ml_X6_64 kb_X6_error rfl ⟨⟨rfl, rfl⟩, (Nat.le_of_ble_eq_true rfl), (Nat.le_of_ble_eq_true rfl)⟩ hW hS [0, 6] rfl rfl kc6 (q0 := 0) rfl hl.1 rfl (Nat.le_of_ble_eq_true rfl) dX6_voice_68 ⟨Nat.zero_le _, Nat.zero_le _⟩ (fun r_14 u_15 H locs hv hW hS => ?_)
        obtain ⟨errs_14, rfl⟩ : ∃ z, z = u_15 := ⟨_, rfl⟩
        try dsimp only at hv
        have hW : wo G A (wd_X6_23 G b images n_people n_taped n_waiting n_z n_kind n_em v_traced_11 v_parted_11 v_yk_11 v_ykind_11 v_ym_11 v_trace_11 errs_14) H := hW
        refine lv_goto (tgt := 76) hx hb dX6_voice_71 (by decide) ?_
        exact ret (v_traced_11, v_parted_11, v_yk_11, v_ykind_11, v_ym_11, v_trace_11, errs_14) r_14 H locs ls _ rfl hW hS hv dX6_voice_76
    · replace hv := hv.2 c_8
      exact h_j_X6_voice_19 v_traced v_parted v_yk v_ykind v_ym v_trace errs H locs ls hW hS (lv_sub hl [0] rfl) hv
set_option maxHeartbeats 4000000 in
set_option maxRecDepth 100000 in
theorem c_X6_body (l : Launch) (G : Gt) (b : Nat → Nat) (images : Int32) (v_traced : Int32) (v_parted : Int32) (v_yk : Int32) (v_ykind : Int32) (v_ym : Int32) (v_trace : Nat → Int32) (errs : Nat → Int32) (p1 : Int32) (K : Int32 → (Nat → Int32) → Prop) (hv : v_X6_body p1 v_traced v_trace errs K) : CI l G yX6_body (.code yX6_body cX6_body 2 (some .int) :: wsG) (rmm 1 21) [.ref (b 0), .int p1] (wd_X6_24 G b images v_traced v_parted v_yk v_ykind v_ym v_trace errs) (S := (Nat → Int32)) (fun u => wd_X6_24 G b images v_traced v_parted v_yk v_ykind v_ym v_trace u) (fun r u => K r u) := by
  refine ci_intro (by decide) rfl (fun _ => rfl) (Nat.le_of_ble_eq_true rfl) ?_
  intro p e s m args below meth c A H ls Q C hW hS hl ret
  have hx := C.1.1
  have hb := C.1.2.1
  generalize hls : ([] : List Loc) = locs at hS ⊢
  have hl : lv_has ls 2 [(0, .ref (b 0)), (1, .int p1)] := hl
  have h_j_X6_body_27 : ∀ (errs : Nat → Int32) (H : Heap) (locs : List Loc) (ls : Array Slot), wo G A (wd_X6_24 G b images v_traced v_parted v_yk v_ykind v_ym v_trace errs) H → va_S A s.heap H locs → lv_has ls 2 [(0, .ref (b 0))] → j_X6_body_27 p1 v_traced v_trace K errs → W p l e (rmm 1 21) s m args below meth c H locs 0 0 Q (F0 m 27 ls []) := by
    intro errs H locs ls hW hS hl hv
    refine lv_aload_n hx hb dX6_body_27 rfl (lv_at hl 0 rfl) ?_
    refine lv_iconst (v := 2) hx hb dX6_body_28 kic_2 ?_
    refine q_callV (rest := []) (n := 1) C (c_X6_error l G b images errs (2 : Int32) _ hv) ml_X6_64 kb_X6_error rfl ⟨⟨rfl, rfl⟩, (Nat.le_of_ble_eq_true rfl), (Nat.le_of_ble_eq_true rfl)⟩ hW hS [0, 3] rfl rfl kc6 (q0 := 0) rfl hl.1 rfl (Nat.le_of_ble_eq_true rfl) dX6_body_29 ⟨Nat.zero_le _, Nat.zero_le _⟩ (fun r_2 u_3 H locs hv hW hS => ?_)
    obtain ⟨errs_2, rfl⟩ : ∃ z, z = u_3 := ⟨_, rfl⟩
    try dsimp only at hv
    have hW : wo G A (wd_X6_24 G b images v_traced v_parted v_yk v_ykind v_ym v_trace errs_2) H := hW
    exact ret (errs_2) r_2 H locs ls _ rfl hW hS hv dX6_body_32
  refine lv_iload_n hx hb dX6_body_0 rfl (lv_at hl 1 rfl) ?_
  refine lv_if_lt (tgt := 27) hx hb dX6_body_1 (by decide) (fun c_1 => ?_) (fun c_1 => ?_)
  · replace hv := hv.1 c_1
    exact h_j_X6_body_27 errs H locs ls hW hS (lv_sub hl [0] rfl) hv
  · replace hv := hv.2 c_1
    refine lv_iload_n hx hb dX6_body_4 rfl (lv_at hl 1 rfl) ?_
    refine lv_aload_n hx hb dX6_body_5 rfl (lv_at hl 0 rfl) ?_
    refine q_get C kc6 hW 0 rfl 6 (by decide) fl_X6_39 rfl rfl dX6_body_6 ?_
    refine q_getN C kc5 hW 1 rfl 1 (by decide) nf_X6_211 rfl rfl dX6_body_9 ?_
    refine lv_icmp_ge (tgt := 27) hx hb dX6_body_12 (by decide) (fun c_4 => ?_) (fun c_4 => ?_)
    · replace hv := hv.1 c_4
      exact h_j_X6_body_27 errs H locs ls hW hS (lv_sub hl [0] rfl) hv
    · replace hv := hv.2 c_4
      refine lv_aload_n hx hb dX6_body_15 rfl (lv_at hl 0 rfl) ?_
      refine q_get C kc6 hW 0 rfl 6 (by decide) fl_X6_39 rfl rfl dX6_body_16 ?_
      refine q_getN C kc5 hW 1 rfl 0 (by decide) nf_X6_214 rfl rfl dX6_body_19 ?_
      refine lv_iload_n hx hb dX6_body_22 rfl (lv_at hl 1 rfl) ?_
      obtain ⟨h_5, hv⟩ := hv
      refine q_iald C hW 2 rfl h_5 dX6_body_23 ?_
      refine lv_goto (tgt := 32) hx hb dX6_body_24 (by decide) ?_
      exact ret (errs) (v_trace p1.toNatClampNeg) H locs ls _ rfl hW hS hv dX6_body_32
set_option maxHeartbeats 4000000 in
set_option maxRecDepth 100000 in
theorem c_X6_sheet (l : Launch) (G : Gt) (b : Nat → Nat) (images : Int32) (shb : Nat → Int32) (shs : Nat → Int32) (shn : Nat → Nat → Int32) (errs : Nat → Int32) (p1 : Int32) (p2 : Int32) (p3 : Int32) (K : Int32 → (Nat → Int32) → (Nat → Int32) → (Nat → Nat → Int32) → (Nat → Int32) → Prop) (hv : v_X6_sheet p1 p2 p3 shb shs shn errs K) : CI l G yX6_sheet (.code yX6_sheet cX6_sheet 4 (some .int) :: wsG) (rmm 2 44) [.ref (b 0), .int p1, .int p2, .int p3] (wd_X6_25 G b images shb shs shn errs) (S := (Nat → Int32) × (Nat → Int32) × (Nat → Nat → Int32) × (Nat → Int32)) (fun u => wd_X6_25 G b images u.1 u.2.1 u.2.2.1 u.2.2.2) (fun r u => K r u.1 u.2.1 u.2.2.1 u.2.2.2) := by
  refine ci_intro (by decide) rfl (fun _ => rfl) (Nat.le_of_ble_eq_true rfl) ?_
  intro p e s m args below meth c A H ls Q C hW hS hl ret
  have hx := C.1.1
  have hb := C.1.2.1
  generalize hls : ([] : List Loc) = locs at hS ⊢
  have hl : lv_has ls 4 [(0, .ref (b 0)), (1, .int p1), (2, .int p2), (3, .int p3)] := hl
  have h_j_X6_sheet_29 : ∀ (shb : Nat → Int32) (shs : Nat → Int32) (shn : Nat → Nat → Int32) (errs : Nat → Int32) (H : Heap) (locs : List Loc) (ls : Array Slot), wo G A (wd_X6_25 G b images shb shs shn errs) H → va_S A s.heap H locs → lv_has ls 4 [(0, .ref (b 0))] → j_X6_sheet_29 p1 p2 p3 K shb shs shn errs → W p l e (rmm 2 44) s m args below meth c H locs 0 0 Q (F0 m 29 ls []) := by
    intro shb shs shn errs H locs ls hW hS hl hv
    refine lv_aload_n hx hb dX6_sheet_29 rfl (lv_at hl 0 rfl) ?_
    refine lv_iconst (v := 1) hx hb dX6_sheet_30 kic_1 ?_
    refine q_callV (rest := []) (n := 1) C (c_X6_error l G b images errs (1 : Int32) _ hv) ml_X6_64 kb_X6_error rfl ⟨⟨rfl, rfl⟩, (Nat.le_of_ble_eq_true rfl), (Nat.le_of_ble_eq_true rfl)⟩ hW hS [0, 10] rfl rfl kc6 (q0 := 0) rfl hl.1 rfl (Nat.le_of_ble_eq_true rfl) dX6_sheet_31 ⟨Nat.zero_le _, Nat.zero_le _⟩ (fun r_4 u_5 H locs hv hW hS => ?_)
    obtain ⟨errs_4, rfl⟩ : ∃ z, z = u_5 := ⟨_, rfl⟩
    try dsimp only at hv
    have hW : wo G A (wd_X6_25 G b images shb shs shn errs_4) H := hW
    exact ret (shb, shs, shn, errs_4) r_4 H locs ls _ rfl hW hS hv dX6_sheet_34
  have h_j_X6_sheet_65 : ∀ (shb : Nat → Int32) (shs : Nat → Int32) (shn : Nat → Nat → Int32) (errs : Nat → Int32) (H : Heap) (locs : List Loc) (ls : Array Slot), wo G A (wd_X6_25 G b images shb shs shn errs) H → va_S A s.heap H locs → lv_has ls 4 [(0, .ref (b 0)), (1, .int p1), (2, .int p2), (3, .int p3)] → j_X6_sheet_65 p1 p2 p3 K shb shs shn errs → W p l e (rmm 2 44) s m args below meth c H locs 0 0 Q (F0 m 65 ls []) := by
    intro shb shs shn errs H locs ls hW hS hl hv
    refine lv_aload_n hx hb dX6_sheet_65 rfl (lv_at hl 0 rfl) ?_
    refine q_get C kc6 hW 0 rfl 7 (by decide) fl_X6_46 rfl rfl dX6_sheet_66 ?_
    refine lv_iload_n hx hb dX6_sheet_69 rfl (lv_at hl 1 rfl) ?_
    obtain ⟨h_9, hv⟩ := hv
    refine va_aldq (D := G.1) (cl := GB_cl) (tys := tyG G) hx hb C.2.1 hW.1 1 2 rfl rfl h_9 dX6_sheet_70 ?_
    have hj_p1_toNatClampNeg : p1.toNatClampNeg < 4 := Nat.not_le.mp fun q => h_9 (Or.inr q)
    refine lv_iload_n hx hb dX6_sheet_71 rfl (lv_at hl 2 rfl) ?_
    refine lv_iload_n hx hb dX6_sheet_72 rfl (lv_at hl 3 rfl) ?_
    refine q_callNv (rest := []) (n := 2) C (c_X2_lay l G (fun k => b (43 + 2 * p1.toNatClampNeg + k)) (shb p1.toNatClampNeg) (shs p1.toNatClampNeg) (shn p1.toNatClampNeg) p2 p3 _ hv) nm_X6_217 kb_X2_lay rfl ⟨⟨rfl, rfl⟩, (Nat.le_of_ble_eq_true rfl), (Nat.le_of_ble_eq_true rfl)⟩ hW hS [2 + 2 * p1.toNatClampNeg, 3 + 2 * p1.toNatClampNeg] (co_4 (P := fun j => va_nd [2 + 2 * j, 3 + 2 * j] = true) rfl rfl rfl rfl hj_p1_toNatClampNeg) (co_4 (P := fun j => [2 + 2 * j, 3 + 2 * j].map (fun i => (wd_X6_25 G b images shb shs shn errs)[i]?) = (wd_X2_1 G (fun k => b (43 + 2 * j + k)) (shb j) (shs j) (shn j)).map some) rfl rfl rfl rfl hj_p1_toNatClampNeg) kc2 (q0 := 2 + 2 * p1.toNatClampNeg) (co_4 (P := fun j => (wd_X6_25 G b images shb shs shn errs)[2 + 2 * j]? = some (b (43 + 2 * j), .inr (2, [.int (shb j), .int (shs j), .ref (b (43 + 2 * j + 1))]))) rfl rfl rfl rfl hj_p1_toNatClampNeg) hl.1 rfl (Nat.le_of_ble_eq_true rfl) dX6_sheet_73 ⟨Nat.zero_le _, Nat.zero_le _⟩ (fun u_11 H locs hv hW hS => ?_)
    obtain ⟨shb_10, shs_10, shn_10⟩ := u_11
    try dsimp only at hv
    have e_12 := co_4 (P := fun j => ∀ (shb_10 : Int32) (shs_10 : Int32) (shn_10 : Nat → Int32), mix (wd_X6_25 G b images shb shs shn errs) [2 + 2 * j, 3 + 2 * j] (wd_X2_1 G (fun k => b (43 + 2 * j + k)) shb_10 shs_10 shn_10) = (wd_X6_25 G b images (va_up shb j shb_10) (va_up shs j shs_10) (va_up shn j shn_10) errs)) (fun _ _ _ => rfl) (fun _ _ _ => rfl) (fun _ _ _ => rfl) (fun _ _ _ => rfl) hj_p1_toNatClampNeg shb_10 shs_10 shn_10
    have hW : wo G A (wd_X6_25 G b images (va_up shb p1.toNatClampNeg shb_10) (va_up shs p1.toNatClampNeg shs_10) (va_up shn p1.toNatClampNeg shn_10) errs) H := Eq.mp (congrArg (fun z => wo G A z H) e_12) hW
    refine lv_iconst (v := 1) hx hb dX6_sheet_76 kic_1 ?_
    exact ret ((va_up shb p1.toNatClampNeg shb_10), (va_up shs p1.toNatClampNeg shs_10), (va_up shn p1.toNatClampNeg shn_10), errs) (1 : Int32) H locs ls _ rfl hW hS hv dX6_sheet_77
  have h_j_X6_sheet_49 : ∀ (shb : Nat → Int32) (shs : Nat → Int32) (shn : Nat → Nat → Int32) (errs : Nat → Int32) (H : Heap) (locs : List Loc) (ls : Array Slot), wo G A (wd_X6_25 G b images shb shs shn errs) H → va_S A s.heap H locs → lv_has ls 4 [(0, .ref (b 0)), (1, .int p1), (2, .int p2), (3, .int p3)] → j_X6_sheet_49 p1 p2 p3 K shb shs shn errs → W p l e (rmm 2 44) s m args below meth c H locs 0 0 Q (F0 m 49 ls []) := by
    intro shb shs shn errs H locs ls hW hS hl hv
    refine lv_iload_n hx hb dX6_sheet_49 rfl (lv_at hl 2 rfl) ?_
    refine lv_if_eq (tgt := 65) hx hb dX6_sheet_50 (by decide) (fun c_8 => ?_) (fun c_8 => ?_)
    · replace hv := hv.1 c_8
      exact h_j_X6_sheet_65 shb shs shn errs H locs ls hW hS (lv_sub hl [0, 1, 2, 3] rfl) hv
    · replace hv := hv.2 c_8
      refine lv_iload_n hx hb dX6_sheet_53 rfl (lv_at hl 3 rfl) ?_
      refine lv_bipush (v := 24) hx hb dX6_sheet_54 kbp_24 ?_
      refine lv_icmp_le (tgt := 65) hx hb dX6_sheet_56 (by decide) (fun c_13 => ?_) (fun c_13 => ?_)
      · replace hv := hv.1 c_13
        exact h_j_X6_sheet_65 shb shs shn errs H locs ls hW hS (lv_sub hl [0, 1, 2, 3] rfl) hv
      · replace hv := hv.2 c_13
        refine lv_aload_n hx hb dX6_sheet_59 rfl (lv_at hl 0 rfl) ?_
        refine lv_iconst (v := 1) hx hb dX6_sheet_60 kic_1 ?_
        refine q_callV (rest := []) (n := 1) C (c_X6_error l G b images errs (1 : Int32) _ hv) ml_X6_64 kb_X6_error rfl ⟨⟨rfl, rfl⟩, (Nat.le_of_ble_eq_true rfl), (Nat.le_of_ble_eq_true rfl)⟩ hW hS [0, 10] rfl rfl kc6 (q0 := 0) rfl hl.1 rfl (Nat.le_of_ble_eq_true rfl) dX6_sheet_61 ⟨Nat.zero_le _, Nat.zero_le _⟩ (fun r_14 u_15 H locs hv hW hS => ?_)
        obtain ⟨errs_14, rfl⟩ : ∃ z, z = u_15 := ⟨_, rfl⟩
        try dsimp only at hv
        have hW : wo G A (wd_X6_25 G b images shb shs shn errs_14) H := hW
        exact ret (shb, shs, shn, errs_14) r_14 H locs ls _ rfl hW hS hv dX6_sheet_64
  have h_j_X6_sheet_35 : ∀ (shb : Nat → Int32) (shs : Nat → Int32) (shn : Nat → Nat → Int32) (errs : Nat → Int32) (H : Heap) (locs : List Loc) (ls : Array Slot), wo G A (wd_X6_25 G b images shb shs shn errs) H → va_S A s.heap H locs → lv_has ls 4 [(0, .ref (b 0)), (1, .int p1), (2, .int p2), (3, .int p3)] → j_X6_sheet_35 p1 p2 p3 K shb shs shn errs → W p l e (rmm 2 44) s m args below meth c H locs 0 0 Q (F0 m 35 ls []) := by
    intro shb shs shn errs H locs ls hW hS hl hv
    refine lv_iload_n hx hb dX6_sheet_35 rfl (lv_at hl 2 rfl) ?_
    refine lv_if_eq (tgt := 49) hx hb dX6_sheet_36 (by decide) (fun c_7 => ?_) (fun c_7 => ?_)
    · replace hv := hv.1 c_7
      exact h_j_X6_sheet_49 shb shs shn errs H locs ls hW hS (lv_sub hl [0, 1, 2, 3] rfl) hv
    · replace hv := hv.2 c_7
      refine lv_iload_n hx hb dX6_sheet_39 rfl (lv_at hl 3 rfl) ?_
      refine lv_if_ge (tgt := 49) hx hb dX6_sheet_40 (by decide) (fun c_16 => ?_) (fun c_16 => ?_)
      · replace hv := hv.1 c_16
        exact h_j_X6_sheet_49 shb shs shn errs H locs ls hW hS (lv_sub hl [0, 1, 2, 3] rfl) hv
      · replace hv := hv.2 c_16
        refine lv_aload_n hx hb dX6_sheet_43 rfl (lv_at hl 0 rfl) ?_
        refine lv_iconst (v := 3) hx hb dX6_sheet_44 kic_3 ?_
        refine q_callV (rest := []) (n := 1) C (c_X6_error l G b images errs (3 : Int32) _ hv) ml_X6_64 kb_X6_error rfl ⟨⟨rfl, rfl⟩, (Nat.le_of_ble_eq_true rfl), (Nat.le_of_ble_eq_true rfl)⟩ hW hS [0, 10] rfl rfl kc6 (q0 := 0) rfl hl.1 rfl (Nat.le_of_ble_eq_true rfl) dX6_sheet_45 ⟨Nat.zero_le _, Nat.zero_le _⟩ (fun r_17 u_18 H locs hv hW hS => ?_)
        obtain ⟨errs_17, rfl⟩ : ∃ z, z = u_18 := ⟨_, rfl⟩
        try dsimp only at hv
        have hW : wo G A (wd_X6_25 G b images shb shs shn errs_17) H := hW
        exact ret (shb, shs, shn, errs_17) r_17 H locs ls _ rfl hW hS hv dX6_sheet_48
  refine lv_iload_n hx hb dX6_sheet_0 rfl (lv_at hl 1 rfl) ?_
  refine q_callS (rest := []) (n := 1) C (c_X6_isSheet l G p1 _ hv) ml_X6_187 kb_X6_isSheet rfl ⟨⟨rfl, rfl⟩, (Nat.le_of_ble_eq_true rfl), (Nat.le_of_ble_eq_true rfl)⟩ hW hS hl.1 rfl (Nat.le_of_ble_eq_true rfl) dX6_sheet_1 ⟨Nat.zero_le _, Nat.zero_le _⟩ (fun r_1 u_2 H locs hv hW hS => ?_)
  obtain ⟨hv_b_1, hv⟩ := hv
  try dsimp only at hv
  refine lv_if_eq (tgt := 29) hx hb dX6_sheet_4 (by decide) (fun c_3 => ?_) (fun c_3 => ?_)
  · replace hv := hv.1 c_3
    exact h_j_X6_sheet_29 shb shs shn errs H locs ls hW hS (lv_sub hl [0] rfl) hv
  · replace hv := hv.2 c_3
    refine lv_iload_n hx hb dX6_sheet_7 rfl (lv_at hl 2 rfl) ?_
    refine lv_if_eq (tgt := 35) hx hb dX6_sheet_8 (by decide) (fun c_6 => ?_) (fun c_6 => ?_)
    · replace hv := hv.1 c_6
      exact h_j_X6_sheet_35 shb shs shn errs H locs ls hW hS (lv_sub hl [0, 1, 2, 3] rfl) hv
    · replace hv := hv.2 c_6
      refine lv_iload_n hx hb dX6_sheet_11 rfl (lv_at hl 2 rfl) ?_
      refine lv_bipush (v := 8) hx hb dX6_sheet_12 kbp_8 ?_
      refine lv_icmp_eq (tgt := 35) hx hb dX6_sheet_14 (by decide) (fun c_19 => ?_) (fun c_19 => ?_)
      · replace hv := hv.1 c_19
        exact h_j_X6_sheet_35 shb shs shn errs H locs ls hW hS (lv_sub hl [0, 1, 2, 3] rfl) hv
      · replace hv := hv.2 c_19
        refine lv_iload_n hx hb dX6_sheet_17 rfl (lv_at hl 2 rfl) ?_
        refine lv_bipush (v := 16) hx hb dX6_sheet_18 kbp_16 ?_
        refine lv_icmp_eq (tgt := 35) hx hb dX6_sheet_20 (by decide) (fun c_20 => ?_) (fun c_20 => ?_)
        · replace hv := hv.1 c_20
          exact h_j_X6_sheet_35 shb shs shn errs H locs ls hW hS (lv_sub hl [0, 1, 2, 3] rfl) hv
        · replace hv := hv.2 c_20
          refine lv_iload_n hx hb dX6_sheet_23 rfl (lv_at hl 2 rfl) ?_
          refine lv_bipush (v := 32) hx hb dX6_sheet_24 kbp_32 ?_
          refine lv_icmp_eq (tgt := 35) hx hb dX6_sheet_26 (by decide) (fun c_21 => ?_) (fun c_21 => ?_)
          · replace hv := hv.1 c_21
            exact h_j_X6_sheet_35 shb shs shn errs H locs ls hW hS (lv_sub hl [0, 1, 2, 3] rfl) hv
          · replace hv := hv.2 c_21
            exact h_j_X6_sheet_29 shb shs shn errs H locs ls hW hS (lv_sub hl [0] rfl) hv
set_option maxHeartbeats 4000000 in
set_option maxRecDepth 100000 in
theorem c_X6_put (l : Launch) (G : Gt) (b : Nat → Nat) (images : Int32) (shb : Nat → Int32) (shs : Nat → Int32) (shn : Nat → Nat → Int32) (errs : Nat → Int32) (p1 : Int32) (p2 : Int32) (p3 : Int32) (K : Int32 → (Nat → Nat → Int32) → (Nat → Int32) → Prop) (hv : v_X6_put p1 p2 p3 shb shs shn errs K) : CI l G yX6_put (.code yX6_put cX6_put 4 (some .int) :: wsG) (rmm 2 41) [.ref (b 0), .int p1, .int p2, .int p3] (wd_X6_25 G b images shb shs shn errs) (S := (Nat → Nat → Int32) × (Nat → Int32)) (fun u => wd_X6_25 G b images shb shs u.1 u.2) (fun r u => K r u.1 u.2) := by
  refine ci_intro (by decide) rfl (fun _ => rfl) (Nat.le_of_ble_eq_true rfl) ?_
  intro p e s m args below meth c A H ls Q C hW hS hl ret
  have hx := C.1.1
  have hb := C.1.2.1
  generalize hls : ([] : List Loc) = locs at hS ⊢
  have hl : lv_has ls 4 [(0, .ref (b 0)), (1, .int p1), (2, .int p2), (3, .int p3)] := hl
  have h_j_X6_put_48 : ∀ (shn : Nat → Nat → Int32) (errs : Nat → Int32) (H : Heap) (locs : List Loc) (ls : Array Slot), wo G A (wd_X6_25 G b images shb shs shn errs) H → va_S A s.heap H locs → lv_has ls 4 [(0, .ref (b 0))] → j_X6_put_48 p1 p2 p3 shb shs K shn errs → W p l e (rmm 2 41) s m args below meth c H locs 0 0 Q (F0 m 48 ls []) := by
    intro shn errs H locs ls hW hS hl hv
    refine lv_aload_n hx hb dX6_put_48 rfl (lv_at hl 0 rfl) ?_
    refine lv_iconst (v := 1) hx hb dX6_put_49 kic_1 ?_
    refine q_callV (rest := []) (n := 1) C (c_X6_error l G b images errs (1 : Int32) _ hv) ml_X6_64 kb_X6_error rfl ⟨⟨rfl, rfl⟩, (Nat.le_of_ble_eq_true rfl), (Nat.le_of_ble_eq_true rfl)⟩ hW hS [0, 10] rfl rfl kc6 (q0 := 0) rfl hl.1 rfl (Nat.le_of_ble_eq_true rfl) dX6_put_50 ⟨Nat.zero_le _, Nat.zero_le _⟩ (fun r_10 u_11 H locs hv hW hS => ?_)
    obtain ⟨errs_10, rfl⟩ : ∃ z, z = u_11 := ⟨_, rfl⟩
    try dsimp only at hv
    have hW : wo G A (wd_X6_25 G b images shb shs shn errs_10) H := hW
    exact ret (shn, errs_10) r_10 H locs ls _ rfl hW hS hv dX6_put_53
  refine lv_iload_n hx hb dX6_put_0 rfl (lv_at hl 1 rfl) ?_
  refine q_callS (rest := []) (n := 1) C (c_X6_isSheet l G p1 _ hv) ml_X6_187 kb_X6_isSheet rfl ⟨⟨rfl, rfl⟩, (Nat.le_of_ble_eq_true rfl), (Nat.le_of_ble_eq_true rfl)⟩ hW hS hl.1 rfl (Nat.le_of_ble_eq_true rfl) dX6_put_1 ⟨Nat.zero_le _, Nat.zero_le _⟩ (fun r_1 u_2 H locs hv hW hS => ?_)
  obtain ⟨hv_b_1, hv⟩ := hv
  try dsimp only at hv
  refine lv_if_ne (tgt := 13) hx hb dX6_put_4 (by decide) (fun c_3 => ?_) (fun c_3 => ?_)
  · replace hv := hv.1 c_3
    refine lv_aload_n hx hb dX6_put_13 rfl (lv_at hl 0 rfl) ?_
    refine q_get C kc6 hW 0 rfl 7 (by decide) fl_X6_46 rfl rfl dX6_put_14 ?_
    refine lv_iload_n hx hb dX6_put_17 rfl (lv_at hl 1 rfl) ?_
    obtain ⟨h_4, hv⟩ := hv
    refine va_aldq (D := G.1) (cl := GB_cl) (tys := tyG G) hx hb C.2.1 hW.1 1 2 rfl rfl h_4 dX6_put_18 ?_
    have hj_p1_toNatClampNeg : p1.toNatClampNeg < 4 := Nat.not_le.mp fun q => h_4 (Or.inr q)
    refine q_callN (rest := []) (n := 0) C (c_X2_isMissing l G (fun k => b (43 + 2 * p1.toNatClampNeg + k)) (shb p1.toNatClampNeg) (shs p1.toNatClampNeg) _ hv) nm_X6_190 kb_X2_isMissing rfl ⟨⟨rfl, rfl⟩, (Nat.le_of_ble_eq_true rfl), (Nat.le_of_ble_eq_true rfl)⟩ hW hS [2 + 2 * p1.toNatClampNeg] (co_4 (P := fun j => va_nd [2 + 2 * j] = true) rfl rfl rfl rfl hj_p1_toNatClampNeg) (co_4 (P := fun j => [2 + 2 * j].map (fun i => (wd_X6_25 G b images shb shs shn errs)[i]?) = (wd_X2_0 G (fun k => b (43 + 2 * j + k)) (shb j) (shs j)).map some) rfl rfl rfl rfl hj_p1_toNatClampNeg) kc2 (q0 := 2 + 2 * p1.toNatClampNeg) (co_4 (P := fun j => (wd_X6_25 G b images shb shs shn errs)[2 + 2 * j]? = some (b (43 + 2 * j), .inr (2, [.int (shb j), .int (shs j), .ref (b (43 + 2 * j + 1))]))) rfl rfl rfl rfl hj_p1_toNatClampNeg) hl.1 rfl (Nat.le_of_ble_eq_true rfl) dX6_put_19 ⟨Nat.zero_le _, Nat.zero_le _⟩ (fun r_5 u_6 H locs hv hW hS => ?_)
    obtain ⟨hv_b_5, hv⟩ := hv
    try dsimp only at hv
    have e_7 := co_4 (P := fun j => mix (wd_X6_25 G b images shb shs shn errs) [2 + 2 * j] (wd_X2_0 G (fun k => b (43 + 2 * j + k)) (shb j) (shs j)) = (wd_X6_25 G b images shb shs shn errs)) rfl rfl rfl rfl hj_p1_toNatClampNeg
    have hW : wo G A (wd_X6_25 G b images shb shs shn errs) H := Eq.mp (congrArg (fun z => wo G A z H) e_7) hW
    refine lv_if_eq (tgt := 31) hx hb dX6_put_22 (by decide) (fun c_8 => ?_) (fun c_8 => ?_)
    · replace hv := hv.1 c_8
      refine lv_iload_n hx hb dX6_put_31 rfl (lv_at hl 2 rfl) ?_
      refine lv_if_lt (tgt := 48) hx hb dX6_put_32 (by decide) (fun c_9 => ?_) (fun c_9 => ?_)
      · replace hv := hv.1 c_9
        exact h_j_X6_put_48 shn errs H locs ls hW hS (lv_sub hl [0] rfl) hv
      · replace hv := hv.2 c_9
        refine lv_iload_n hx hb dX6_put_35 rfl (lv_at hl 2 rfl) ?_
        refine lv_aload_n hx hb dX6_put_36 rfl (lv_at hl 0 rfl) ?_
        refine q_get C kc6 hW 0 rfl 7 (by decide) fl_X6_46 rfl rfl dX6_put_37 ?_
        refine lv_iload_n hx hb dX6_put_40 rfl (lv_at hl 1 rfl) ?_
        obtain ⟨h_12, hv⟩ := hv
        refine va_aldq (D := G.1) (cl := GB_cl) (tys := tyG G) hx hb C.2.1 hW.1 1 2 rfl rfl h_12 dX6_put_41 ?_
        have hj_p1_toNatClampNeg : p1.toNatClampNeg < 4 := Nat.not_le.mp fun q => h_12 (Or.inr q)
        refine q_getN C kc2 hW (2 + 2 * p1.toNatClampNeg) (co_4 (P := fun j => (wd_X6_25 G b images shb shs shn errs)[2 + 2 * j]? = some (b (43 + 2 * j), .inr (2, [.int (shb j), .int (shs j), .ref (b (43 + 2 * j + 1))]))) rfl rfl rfl rfl hj_p1_toNatClampNeg) 1 (by decide) nf_X6_220 rfl rfl dX6_put_42 ?_
        refine lv_icmp_lt (tgt := 54) hx hb dX6_put_45 (by decide) (fun c_13 => ?_) (fun c_13 => ?_)
        · replace hv := hv.1 c_13
          refine lv_aload_n hx hb dX6_put_54 rfl (lv_at hl 0 rfl) ?_
          refine q_get C kc6 hW 0 rfl 7 (by decide) fl_X6_46 rfl rfl dX6_put_55 ?_
          refine lv_iload_n hx hb dX6_put_58 rfl (lv_at hl 1 rfl) ?_
          obtain ⟨h_14, hv⟩ := hv
          refine va_aldq (D := G.1) (cl := GB_cl) (tys := tyG G) hx hb C.2.1 hW.1 1 2 rfl rfl h_14 dX6_put_59 ?_
          have hj_p1_toNatClampNeg : p1.toNatClampNeg < 4 := Nat.not_le.mp fun q => h_14 (Or.inr q)
          refine lv_iload_n hx hb dX6_put_60 rfl (lv_at hl 2 rfl) ?_
          refine lv_iload_n hx hb dX6_put_61 rfl (lv_at hl 3 rfl) ?_
          refine q_callNv (rest := []) (n := 2) C (c_X2_write l G (fun k => b (43 + 2 * p1.toNatClampNeg + k)) (shb p1.toNatClampNeg) (shs p1.toNatClampNeg) (shn p1.toNatClampNeg) p2 p3 _ hv) nm_X6_221 kb_X2_write rfl ⟨⟨rfl, rfl⟩, (Nat.le_of_ble_eq_true rfl), (Nat.le_of_ble_eq_true rfl)⟩ hW hS [2 + 2 * p1.toNatClampNeg, 3 + 2 * p1.toNatClampNeg] (co_4 (P := fun j => va_nd [2 + 2 * j, 3 + 2 * j] = true) rfl rfl rfl rfl hj_p1_toNatClampNeg) (co_4 (P := fun j => [2 + 2 * j, 3 + 2 * j].map (fun i => (wd_X6_25 G b images shb shs shn errs)[i]?) = (wd_X2_1 G (fun k => b (43 + 2 * j + k)) (shb j) (shs j) (shn j)).map some) rfl rfl rfl rfl hj_p1_toNatClampNeg) kc2 (q0 := 2 + 2 * p1.toNatClampNeg) (co_4 (P := fun j => (wd_X6_25 G b images shb shs shn errs)[2 + 2 * j]? = some (b (43 + 2 * j), .inr (2, [.int (shb j), .int (shs j), .ref (b (43 + 2 * j + 1))]))) rfl rfl rfl rfl hj_p1_toNatClampNeg) hl.1 rfl (Nat.le_of_ble_eq_true rfl) dX6_put_62 ⟨Nat.zero_le _, Nat.zero_le _⟩ (fun u_16 H locs hv hW hS => ?_)
          obtain ⟨shn_15, rfl⟩ : ∃ z, z = u_16 := ⟨_, rfl⟩
          try dsimp only at hv
          have e_17 := co_4 (P := fun j => ∀ (shn_15 : Nat → Int32), mix (wd_X6_25 G b images shb shs shn errs) [2 + 2 * j, 3 + 2 * j] (wd_X2_1 G (fun k => b (43 + 2 * j + k)) (shb j) (shs j) shn_15) = (wd_X6_25 G b images shb shs (va_up shn j shn_15) errs)) (fun _ => rfl) (fun _ => rfl) (fun _ => rfl) (fun _ => rfl) hj_p1_toNatClampNeg shn_15
          have hW : wo G A (wd_X6_25 G b images shb shs (va_up shn p1.toNatClampNeg shn_15) errs) H := Eq.mp (congrArg (fun z => wo G A z H) e_17) hW
          refine lv_iconst (v := 1) hx hb dX6_put_65 kic_1 ?_
          exact ret ((va_up shn p1.toNatClampNeg shn_15), errs) (1 : Int32) H locs ls _ rfl hW hS hv dX6_put_66
        · replace hv := hv.2 c_13
          exact h_j_X6_put_48 shn errs H locs ls hW hS (lv_sub hl [0] rfl) hv
    · replace hv := hv.2 c_8
      refine lv_aload_n hx hb dX6_put_25 rfl (lv_at hl 0 rfl) ?_
      refine lv_iconst (v := 2) hx hb dX6_put_26 kic_2 ?_
      refine q_callV (rest := []) (n := 1) C (c_X6_error l G b images errs (2 : Int32) _ hv) ml_X6_64 kb_X6_error rfl ⟨⟨rfl, rfl⟩, (Nat.le_of_ble_eq_true rfl), (Nat.le_of_ble_eq_true rfl)⟩ hW hS [0, 10] rfl rfl kc6 (q0 := 0) rfl hl.1 rfl (Nat.le_of_ble_eq_true rfl) dX6_put_27 ⟨Nat.zero_le _, Nat.zero_le _⟩ (fun r_18 u_19 H locs hv hW hS => ?_)
      obtain ⟨errs_18, rfl⟩ : ∃ z, z = u_19 := ⟨_, rfl⟩
      try dsimp only at hv
      have hW : wo G A (wd_X6_25 G b images shb shs shn errs_18) H := hW
      exact ret (shn, errs_18) r_18 H locs ls _ rfl hW hS hv dX6_put_30
  · replace hv := hv.2 c_3
    refine lv_aload_n hx hb dX6_put_7 rfl (lv_at hl 0 rfl) ?_
    refine lv_iconst (v := 1) hx hb dX6_put_8 kic_1 ?_
    refine q_callV (rest := []) (n := 1) C (c_X6_error l G b images errs (1 : Int32) _ hv) ml_X6_64 kb_X6_error rfl ⟨⟨rfl, rfl⟩, (Nat.le_of_ble_eq_true rfl), (Nat.le_of_ble_eq_true rfl)⟩ hW hS [0, 10] rfl rfl kc6 (q0 := 0) rfl hl.1 rfl (Nat.le_of_ble_eq_true rfl) dX6_put_9 ⟨Nat.zero_le _, Nat.zero_le _⟩ (fun r_20 u_21 H locs hv hW hS => ?_)
    obtain ⟨errs_20, rfl⟩ : ∃ z, z = u_21 := ⟨_, rfl⟩
    try dsimp only at hv
    have hW : wo G A (wd_X6_25 G b images shb shs shn errs_20) H := hW
    exact ret (shn, errs_20) r_20 H locs ls _ rfl hW hS hv dX6_put_12
set_option maxHeartbeats 4000000 in
set_option maxRecDepth 100000 in
theorem c_X6_move (l : Launch) (G : Gt) (b : Nat → Nat) (images : Int32) (shb : Nat → Int32) (shs : Nat → Int32) (shn : Nat → Nat → Int32) (errs : Nat → Int32) (p1 : Int32) (p2 : Int32) (p3 : Int32) (p4 : Int32) (p5 : Int32) (K : Int32 → (Nat → Nat → Int32) → (Nat → Int32) → Prop) (hv : v_X6_move p1 p2 p3 p4 p5 shb shs shn errs K) : CI l G yX6_move (.code yX6_move cX6_move 8 (some .int) :: wsG) (rmm 2 60) [.ref (b 0), .int p1, .int p2, .int p3, .int p4, .int p5] (wd_X6_25 G b images shb shs shn errs) (S := (Nat → Nat → Int32) × (Nat → Int32)) (fun u => wd_X6_25 G b images shb shs u.1 u.2) (fun r u => K r u.1 u.2) := by
  refine ci_intro (by decide) rfl (fun _ => rfl) (Nat.le_of_ble_eq_true rfl) ?_
  intro p e s m args below meth c A H ls Q C hW hS hl ret
  have hx := C.1.1
  have hb := C.1.2.1
  generalize hls : ([] : List Loc) = locs at hS ⊢
  have hl : lv_has ls 8 [(0, .ref (b 0)), (1, .int p1), (2, .int p2), (3, .int p3), (4, .int p4), (5, .int p5)] := hl
  have h_j_X6_move_14 : ∀ (shn : Nat → Nat → Int32) (errs : Nat → Int32) (H : Heap) (locs : List Loc) (ls : Array Slot), wo G A (wd_X6_25 G b images shb shs shn errs) H → va_S A s.heap H locs → lv_has ls 8 [(0, .ref (b 0))] → j_X6_move_14 p1 p2 p3 p4 p5 shb shs K shn errs → W p l e (rmm 2 60) s m args below meth c H locs 0 0 Q (F0 m 14 ls []) := by
    intro shn errs H locs ls hW hS hl hv
    refine lv_aload_n hx hb dX6_move_14 rfl (lv_at hl 0 rfl) ?_
    refine lv_iconst (v := 1) hx hb dX6_move_15 kic_1 ?_
    refine q_callV (rest := []) (n := 1) C (c_X6_error l G b images errs (1 : Int32) _ hv) ml_X6_64 kb_X6_error rfl ⟨⟨rfl, rfl⟩, (Nat.le_of_ble_eq_true rfl), (Nat.le_of_ble_eq_true rfl)⟩ hW hS [0, 10] rfl rfl kc6 (q0 := 0) rfl hl.1 rfl (Nat.le_of_ble_eq_true rfl) dX6_move_16 ⟨Nat.zero_le _, Nat.zero_le _⟩ (fun r_4 u_5 H locs hv hW hS => ?_)
    obtain ⟨errs_4, rfl⟩ : ∃ z, z = u_5 := ⟨_, rfl⟩
    try dsimp only at hv
    have hW : wo G A (wd_X6_25 G b images shb shs shn errs_4) H := hW
    exact ret (shn, errs_4) r_4 H locs ls _ rfl hW hS hv dX6_move_19
  have h_j_X6_move_52 : ∀ (shn : Nat → Nat → Int32) (errs : Nat → Int32) (H : Heap) (locs : List Loc) (ls : Array Slot), wo G A (wd_X6_25 G b images shb shs shn errs) H → va_S A s.heap H locs → lv_has ls 8 [(0, .ref (b 0))] → j_X6_move_52 p1 p2 p3 p4 p5 shb shs K shn errs → W p l e (rmm 2 60) s m args below meth c H locs 0 0 Q (F0 m 52 ls []) := by
    intro shn errs H locs ls hW hS hl hv
    refine lv_aload_n hx hb dX6_move_52 rfl (lv_at hl 0 rfl) ?_
    refine lv_iconst (v := 2) hx hb dX6_move_53 kic_2 ?_
    refine q_callV (rest := []) (n := 1) C (c_X6_error l G b images errs (2 : Int32) _ hv) ml_X6_64 kb_X6_error rfl ⟨⟨rfl, rfl⟩, (Nat.le_of_ble_eq_true rfl), (Nat.le_of_ble_eq_true rfl)⟩ hW hS [0, 10] rfl rfl kc6 (q0 := 0) rfl hl.1 rfl (Nat.le_of_ble_eq_true rfl) dX6_move_54 ⟨Nat.zero_le _, Nat.zero_le _⟩ (fun r_15 u_16 H locs hv hW hS => ?_)
    obtain ⟨errs_15, rfl⟩ : ∃ z, z = u_16 := ⟨_, rfl⟩
    try dsimp only at hv
    have hW : wo G A (wd_X6_25 G b images shb shs shn errs_15) H := hW
    exact ret (shn, errs_15) r_15 H locs ls _ rfl hW hS hv dX6_move_57
  have h_j_X6_move_100 : ∀ (shn : Nat → Nat → Int32) (errs : Nat → Int32) (H : Heap) (locs : List Loc) (ls : Array Slot), wo G A (wd_X6_25 G b images shb shs shn errs) H → va_S A s.heap H locs → lv_has ls 8 [(0, .ref (b 0))] → j_X6_move_100 p1 p2 p3 p4 p5 shb shs K shn errs → W p l e (rmm 2 60) s m args below meth c H locs 0 0 Q (F0 m 100 ls []) := by
    intro shn errs H locs ls hW hS hl hv
    refine lv_aload_n hx hb dX6_move_100 rfl (lv_at hl 0 rfl) ?_
    refine lv_iconst (v := 1) hx hb dX6_move_101 kic_1 ?_
    refine q_callV (rest := []) (n := 1) C (c_X6_error l G b images errs (1 : Int32) _ hv) ml_X6_64 kb_X6_error rfl ⟨⟨rfl, rfl⟩, (Nat.le_of_ble_eq_true rfl), (Nat.le_of_ble_eq_true rfl)⟩ hW hS [0, 10] rfl rfl kc6 (q0 := 0) rfl hl.1 rfl (Nat.le_of_ble_eq_true rfl) dX6_move_102 ⟨Nat.zero_le _, Nat.zero_le _⟩ (fun r_26 u_27 H locs hv hW hS => ?_)
    obtain ⟨errs_26, rfl⟩ : ∃ z, z = u_27 := ⟨_, rfl⟩
    try dsimp only at hv
    have hW : wo G A (wd_X6_25 G b images shb shs shn errs_26) H := hW
    exact ret (shn, errs_26) r_26 H locs ls _ rfl hW hS hv dX6_move_105
  refine lv_iload_n hx hb dX6_move_0 rfl (lv_at hl 1 rfl) ?_
  refine q_callS (rest := []) (n := 1) C (c_X6_isSheet l G p1 _ hv) ml_X6_187 kb_X6_isSheet rfl ⟨⟨rfl, rfl⟩, (Nat.le_of_ble_eq_true rfl), (Nat.le_of_ble_eq_true rfl)⟩ hW hS hl.1 rfl (Nat.le_of_ble_eq_true rfl) dX6_move_1 ⟨Nat.zero_le _, Nat.zero_le _⟩ (fun r_1 u_2 H locs hv hW hS => ?_)
  obtain ⟨hv_b_1, hv⟩ := hv
  try dsimp only at hv
  refine lv_if_eq (tgt := 14) hx hb dX6_move_4 (by decide) (fun c_3 => ?_) (fun c_3 => ?_)
  · replace hv := hv.1 c_3
    exact h_j_X6_move_14 shn errs H locs ls hW hS (lv_sub hl [0] rfl) hv
  · replace hv := hv.2 c_3
    refine lv_iload_n hx hb dX6_move_7 rfl (lv_at hl 3 rfl) ?_
    refine q_callS (rest := []) (n := 1) C (c_X6_isSheet l G p3 _ hv) ml_X6_187 kb_X6_isSheet rfl ⟨⟨rfl, rfl⟩, (Nat.le_of_ble_eq_true rfl), (Nat.le_of_ble_eq_true rfl)⟩ hW hS hl.1 rfl (Nat.le_of_ble_eq_true rfl) dX6_move_8 ⟨Nat.zero_le _, Nat.zero_le _⟩ (fun r_6 u_7 H locs hv hW hS => ?_)
    obtain ⟨hv_b_6, hv⟩ := hv
    try dsimp only at hv
    refine lv_if_ne (tgt := 20) hx hb dX6_move_11 (by decide) (fun c_8 => ?_) (fun c_8 => ?_)
    · replace hv := hv.1 c_8
      refine lv_aload_n hx hb dX6_move_20 rfl (lv_at hl 0 rfl) ?_
      refine q_get C kc6 hW 0 rfl 7 (by decide) fl_X6_46 rfl rfl dX6_move_21 ?_
      refine lv_iload_n hx hb dX6_move_24 rfl (lv_at hl 1 rfl) ?_
      obtain ⟨h_9, hv⟩ := hv
      refine va_aldq (D := G.1) (cl := GB_cl) (tys := tyG G) hx hb C.2.1 hW.1 1 2 rfl rfl h_9 dX6_move_25 ?_
      have hj_p1_toNatClampNeg : p1.toNatClampNeg < 4 := Nat.not_le.mp fun q => h_9 (Or.inr q)
      refine lv_astore (lv' := [(6, .ref (b (43 + 2 * p1.toNatClampNeg))), (0, .ref (b 0)), (1, .int p1), (2, .int p2), (3, .int p3), (4, .int p4), (5, .int p5)]) hx hb dX6_move_26 hl (by decide) rfl (fun ls hl => ?_)
      refine lv_aload_n hx hb dX6_move_28 rfl (lv_at hl 1 rfl) ?_
      refine q_get C kc6 hW 0 rfl 7 (by decide) fl_X6_46 rfl rfl dX6_move_29 ?_
      refine lv_iload_n hx hb dX6_move_32 rfl (lv_at hl 4 rfl) ?_
      obtain ⟨h_10, hv⟩ := hv
      refine va_aldq (D := G.1) (cl := GB_cl) (tys := tyG G) hx hb C.2.1 hW.1 1 2 rfl rfl h_10 dX6_move_33 ?_
      have hj_p3_toNatClampNeg : p3.toNatClampNeg < 4 := Nat.not_le.mp fun q => h_10 (Or.inr q)
      refine lv_astore (lv' := [(7, .ref (b (43 + 2 * p3.toNatClampNeg))), (6, .ref (b (43 + 2 * p1.toNatClampNeg))), (0, .ref (b 0)), (1, .int p1), (2, .int p2), (3, .int p3), (4, .int p4), (5, .int p5)]) hx hb dX6_move_34 hl (by decide) rfl (fun ls hl => ?_)
      refine lv_aload hx hb dX6_move_36 (lv_at hl 1 rfl) ?_
      refine q_callN (rest := []) (n := 0) C (c_X2_isMissing l G (fun k => b (43 + 2 * p1.toNatClampNeg + k)) (shb p1.toNatClampNeg) (shs p1.toNatClampNeg) _ hv) nm_X6_190 kb_X2_isMissing rfl ⟨⟨rfl, rfl⟩, (Nat.le_of_ble_eq_true rfl), (Nat.le_of_ble_eq_true rfl)⟩ hW hS [2 + 2 * p1.toNatClampNeg] (co_4 (P := fun j => va_nd [2 + 2 * j] = true) rfl rfl rfl rfl hj_p1_toNatClampNeg) (co_4 (P := fun j => [2 + 2 * j].map (fun i => (wd_X6_25 G b images shb shs shn errs)[i]?) = (wd_X2_0 G (fun k => b (43 + 2 * j + k)) (shb j) (shs j)).map some) rfl rfl rfl rfl hj_p1_toNatClampNeg) kc2 (q0 := 2 + 2 * p1.toNatClampNeg) (co_4 (P := fun j => (wd_X6_25 G b images shb shs shn errs)[2 + 2 * j]? = some (b (43 + 2 * j), .inr (2, [.int (shb j), .int (shs j), .ref (b (43 + 2 * j + 1))]))) rfl rfl rfl rfl hj_p1_toNatClampNeg) hl.1 rfl (Nat.le_of_ble_eq_true rfl) dX6_move_38 ⟨Nat.zero_le _, Nat.zero_le _⟩ (fun r_11 u_12 H locs hv hW hS => ?_)
      obtain ⟨hv_b_11, hv⟩ := hv
      try dsimp only at hv
      have e_13 := co_4 (P := fun j => mix (wd_X6_25 G b images shb shs shn errs) [2 + 2 * j] (wd_X2_0 G (fun k => b (43 + 2 * j + k)) (shb j) (shs j)) = (wd_X6_25 G b images shb shs shn errs)) rfl rfl rfl rfl hj_p1_toNatClampNeg
      have hW : wo G A (wd_X6_25 G b images shb shs shn errs) H := Eq.mp (congrArg (fun z => wo G A z H) e_13) hW
      refine lv_if_ne (tgt := 52) hx hb dX6_move_41 (by decide) (fun c_14 => ?_) (fun c_14 => ?_)
      · replace hv := hv.1 c_14
        exact h_j_X6_move_52 shn errs H locs ls hW hS (lv_sub hl [2] rfl) hv
      · replace hv := hv.2 c_14
        refine lv_aload hx hb dX6_move_44 (lv_at hl 0 rfl) ?_
        refine q_callN (rest := []) (n := 0) C (c_X2_isMissing l G (fun k => b (43 + 2 * p3.toNatClampNeg + k)) (shb p3.toNatClampNeg) (shs p3.toNatClampNeg) _ hv) nm_X6_190 kb_X2_isMissing rfl ⟨⟨rfl, rfl⟩, (Nat.le_of_ble_eq_true rfl), (Nat.le_of_ble_eq_true rfl)⟩ hW hS [2 + 2 * p3.toNatClampNeg] (co_4 (P := fun j => va_nd [2 + 2 * j] = true) rfl rfl rfl rfl hj_p3_toNatClampNeg) (co_4 (P := fun j => [2 + 2 * j].map (fun i => (wd_X6_25 G b images shb shs shn errs)[i]?) = (wd_X2_0 G (fun k => b (43 + 2 * j + k)) (shb j) (shs j)).map some) rfl rfl rfl rfl hj_p3_toNatClampNeg) kc2 (q0 := 2 + 2 * p3.toNatClampNeg) (co_4 (P := fun j => (wd_X6_25 G b images shb shs shn errs)[2 + 2 * j]? = some (b (43 + 2 * j), .inr (2, [.int (shb j), .int (shs j), .ref (b (43 + 2 * j + 1))]))) rfl rfl rfl rfl hj_p3_toNatClampNeg) hl.1 rfl (Nat.le_of_ble_eq_true rfl) dX6_move_46 ⟨Nat.zero_le _, Nat.zero_le _⟩ (fun r_17 u_18 H locs hv hW hS => ?_)
        obtain ⟨hv_b_17, hv⟩ := hv
        try dsimp only at hv
        have e_19 := co_4 (P := fun j => mix (wd_X6_25 G b images shb shs shn errs) [2 + 2 * j] (wd_X2_0 G (fun k => b (43 + 2 * j + k)) (shb j) (shs j)) = (wd_X6_25 G b images shb shs shn errs)) rfl rfl rfl rfl hj_p3_toNatClampNeg
        have hW : wo G A (wd_X6_25 G b images shb shs shn errs) H := Eq.mp (congrArg (fun z => wo G A z H) e_19) hW
        refine lv_if_eq (tgt := 58) hx hb dX6_move_49 (by decide) (fun c_20 => ?_) (fun c_20 => ?_)
        · replace hv := hv.1 c_20
          refine lv_aload hx hb dX6_move_58 (lv_at hl 1 rfl) ?_
          refine q_getN C kc2 hW (2 + 2 * p1.toNatClampNeg) (co_4 (P := fun j => (wd_X6_25 G b images shb shs shn errs)[2 + 2 * j]? = some (b (43 + 2 * j), .inr (2, [.int (shb j), .int (shs j), .ref (b (43 + 2 * j + 1))]))) rfl rfl rfl rfl hj_p1_toNatClampNeg) 0 (by decide) nf_X6_224 rfl rfl dX6_move_60 ?_
          refine lv_aload hx hb dX6_move_63 (lv_at hl 0 rfl) ?_
          refine q_getN C kc2 hW (2 + 2 * p3.toNatClampNeg) (co_4 (P := fun j => (wd_X6_25 G b images shb shs shn errs)[2 + 2 * j]? = some (b (43 + 2 * j), .inr (2, [.int (shb j), .int (shs j), .ref (b (43 + 2 * j + 1))]))) rfl rfl rfl rfl hj_p3_toNatClampNeg) 0 (by decide) nf_X6_224 rfl rfl dX6_move_65 ?_
          refine lv_icmp_eq (tgt := 77) hx hb dX6_move_68 (by decide) (fun c_21 => ?_) (fun c_21 => ?_)
          · replace hv := hv.1 c_21
            refine lv_aload hx hb dX6_move_77 (lv_at hl 1 rfl) ?_
            refine lv_iload_n hx hb dX6_move_79 rfl (lv_at hl 4 rfl) ?_
            refine lv_iload hx hb dX6_move_80 (lv_at hl 7 rfl) ?_
            refine q_callN (rest := []) (n := 2) C (c_X2_holds l G (fun k => b (43 + 2 * p1.toNatClampNeg + k)) (shb p1.toNatClampNeg) (shs p1.toNatClampNeg) p2 p5 _ hv) nm_X6_227 kb_X2_holds rfl ⟨⟨rfl, rfl⟩, (Nat.le_of_ble_eq_true rfl), (Nat.le_of_ble_eq_true rfl)⟩ hW hS [2 + 2 * p1.toNatClampNeg] (co_4 (P := fun j => va_nd [2 + 2 * j] = true) rfl rfl rfl rfl hj_p1_toNatClampNeg) (co_4 (P := fun j => [2 + 2 * j].map (fun i => (wd_X6_25 G b images shb shs shn errs)[i]?) = (wd_X2_0 G (fun k => b (43 + 2 * j + k)) (shb j) (shs j)).map some) rfl rfl rfl rfl hj_p1_toNatClampNeg) kc2 (q0 := 2 + 2 * p1.toNatClampNeg) (co_4 (P := fun j => (wd_X6_25 G b images shb shs shn errs)[2 + 2 * j]? = some (b (43 + 2 * j), .inr (2, [.int (shb j), .int (shs j), .ref (b (43 + 2 * j + 1))]))) rfl rfl rfl rfl hj_p1_toNatClampNeg) hl.1 rfl (Nat.le_of_ble_eq_true rfl) dX6_move_82 ⟨Nat.zero_le _, Nat.zero_le _⟩ (fun r_22 u_23 H locs hv hW hS => ?_)
            obtain ⟨hv_b_22, hv⟩ := hv
            try dsimp only at hv
            have e_24 := co_4 (P := fun j => mix (wd_X6_25 G b images shb shs shn errs) [2 + 2 * j] (wd_X2_0 G (fun k => b (43 + 2 * j + k)) (shb j) (shs j)) = (wd_X6_25 G b images shb shs shn errs)) rfl rfl rfl rfl hj_p1_toNatClampNeg
            have hW : wo G A (wd_X6_25 G b images shb shs shn errs) H := Eq.mp (congrArg (fun z => wo G A z H) e_24) hW
            refine lv_if_eq (tgt := 100) hx hb dX6_move_85 (by decide) (fun c_25 => ?_) (fun c_25 => ?_)
            · replace hv := hv.1 c_25
              exact h_j_X6_move_100 shn errs H locs ls hW hS (lv_sub hl [2] rfl) hv
            · replace hv := hv.2 c_25
              refine lv_aload hx hb dX6_move_88 (lv_at hl 0 rfl) ?_
              refine lv_iload hx hb dX6_move_90 (lv_at hl 6 rfl) ?_
              refine lv_iload hx hb dX6_move_92 (lv_at hl 7 rfl) ?_
              refine q_callN (rest := []) (n := 2) C (c_X2_holds l G (fun k => b (43 + 2 * p3.toNatClampNeg + k)) (shb p3.toNatClampNeg) (shs p3.toNatClampNeg) p4 p5 _ hv) nm_X6_227 kb_X2_holds rfl ⟨⟨rfl, rfl⟩, (Nat.le_of_ble_eq_true rfl), (Nat.le_of_ble_eq_true rfl)⟩ hW hS [2 + 2 * p3.toNatClampNeg] (co_4 (P := fun j => va_nd [2 + 2 * j] = true) rfl rfl rfl rfl hj_p3_toNatClampNeg) (co_4 (P := fun j => [2 + 2 * j].map (fun i => (wd_X6_25 G b images shb shs shn errs)[i]?) = (wd_X2_0 G (fun k => b (43 + 2 * j + k)) (shb j) (shs j)).map some) rfl rfl rfl rfl hj_p3_toNatClampNeg) kc2 (q0 := 2 + 2 * p3.toNatClampNeg) (co_4 (P := fun j => (wd_X6_25 G b images shb shs shn errs)[2 + 2 * j]? = some (b (43 + 2 * j), .inr (2, [.int (shb j), .int (shs j), .ref (b (43 + 2 * j + 1))]))) rfl rfl rfl rfl hj_p3_toNatClampNeg) hl.1 rfl (Nat.le_of_ble_eq_true rfl) dX6_move_94 ⟨Nat.zero_le _, Nat.zero_le _⟩ (fun r_28 u_29 H locs hv hW hS => ?_)
              obtain ⟨hv_b_28, hv⟩ := hv
              try dsimp only at hv
              have e_30 := co_4 (P := fun j => mix (wd_X6_25 G b images shb shs shn errs) [2 + 2 * j] (wd_X2_0 G (fun k => b (43 + 2 * j + k)) (shb j) (shs j)) = (wd_X6_25 G b images shb shs shn errs)) rfl rfl rfl rfl hj_p3_toNatClampNeg
              have hW : wo G A (wd_X6_25 G b images shb shs shn errs) H := Eq.mp (congrArg (fun z => wo G A z H) e_30) hW
              refine lv_if_ne (tgt := 106) hx hb dX6_move_97 (by decide) (fun c_31 => ?_) (fun c_31 => ?_)
              · replace hv := hv.1 c_31
                refine lv_aload hx hb dX6_move_106 (lv_at hl 1 rfl) ?_
                refine q_getN C kc2 hW (2 + 2 * p1.toNatClampNeg) (co_4 (P := fun j => (wd_X6_25 G b images shb shs shn errs)[2 + 2 * j]? = some (b (43 + 2 * j), .inr (2, [.int (shb j), .int (shs j), .ref (b (43 + 2 * j + 1))]))) rfl rfl rfl rfl hj_p1_toNatClampNeg) 2 (by decide) nf_X6_230 rfl rfl dX6_move_108 ?_
                refine lv_iload_n hx hb dX6_move_111 rfl (lv_at hl 4 rfl) ?_
                refine lv_aload hx hb dX6_move_112 (lv_at hl 0 rfl) ?_
                refine q_getN C kc2 hW (2 + 2 * p3.toNatClampNeg) (co_4 (P := fun j => (wd_X6_25 G b images shb shs shn errs)[2 + 2 * j]? = some (b (43 + 2 * j), .inr (2, [.int (shb j), .int (shs j), .ref (b (43 + 2 * j + 1))]))) rfl rfl rfl rfl hj_p3_toNatClampNeg) 2 (by decide) nf_X6_230 rfl rfl dX6_move_114 ?_
                refine lv_iload hx hb dX6_move_117 (lv_at hl 6 rfl) ?_
                refine lv_iload hx hb dX6_move_119 (lv_at hl 7 rfl) ?_
                obtain ⟨h_32, hv⟩ := hv
                obtain ⟨h_33, hv⟩ := hv
                obtain ⟨h_34, hv⟩ := hv
                obtain ⟨h_35, hv⟩ := hv
                obtain ⟨h_36, hv⟩ := hv
                refine va_copyi (D := G.1) (cl := GB_cl) (tys := tyG G) hx hb (C.1.2.2.1.trans hl.1.symm) C.1.2.2.2.1 (C.hts ml_X6_233) (C.hts nat_copy) (C.hts st_copy) (C.hts ini_javalangSystem) C.2.1 hW.1 hW.2 hS (3 + 2 * p1.toNatClampNeg) (3 + 2 * p3.toNatClampNeg) 0 0 (co_4 (P := fun j => (wd_X6_25 G b images shb shs shn errs)[3 + 2 * j]? = some (b (43 + 2 * j + 1), .inl (G.2.1, 24, .inl (shn j)))) rfl rfl rfl rfl hj_p1_toNatClampNeg) (co_4 (P := fun j => (wd_X6_25 G b images shb shs shn errs)[3 + 2 * j]? = some (b (43 + 2 * j + 1), .inl (G.2.1, 24, .inl (shn j)))) rfl rfl rfl rfl hj_p3_toNatClampNeg) rfl rfl rfl h_32 h_33 h_34 h_35 h_36 (fun _ _ => rfl) (Nat.le_of_ble_eq_true rfl) (Nat.le_of_ble_eq_true rfl) dX6_move_121 (fun H locs hP hD hS => ?_)
                have e_37 := co_4 (P := fun j => ∀ v : Nat → Int32, List.set (wd_X6_25 G b images shb shs shn errs) (3 + 2 * j) (b (43 + 2 * j + 1), .inl (G.2.1, 24, .inl v)) = (wd_X6_25 G b images shb shs (va_up shn j v) errs)) (fun _ => rfl) (fun _ => rfl) (fun _ => rfl) (fun _ => rfl) hj_p3_toNatClampNeg (va_cpy (shn p1.toNatClampNeg) (shn p3.toNatClampNeg) p2.toNatClampNeg p4.toNatClampNeg p5.toNatClampNeg)
                have hW : wo G A (wd_X6_25 G b images shb shs (va_up shn p3.toNatClampNeg (va_cpy (shn p1.toNatClampNeg) (shn p3.toNatClampNeg) p2.toNatClampNeg p4.toNatClampNeg p5.toNatClampNeg)) errs) H := Eq.mp (congrArg (fun z => wo G A z H) e_37) ⟨hP, hD⟩
                refine lv_iload hx hb dX6_move_124 (lv_at hl 7 rfl) ?_
                exact ret ((va_up shn p3.toNatClampNeg (va_cpy (shn p1.toNatClampNeg) (shn p3.toNatClampNeg) p2.toNatClampNeg p4.toNatClampNeg p5.toNatClampNeg)), errs) p5 H locs ls _ rfl hW hS hv dX6_move_126
              · replace hv := hv.2 c_31
                exact h_j_X6_move_100 shn errs H locs ls hW hS (lv_sub hl [2] rfl) hv
          · replace hv := hv.2 c_21
            refine lv_aload_n hx hb dX6_move_71 rfl (lv_at hl 2 rfl) ?_
            refine lv_iconst (v := 5) hx hb dX6_move_72 kic_5 ?_
            refine q_callV (rest := []) (n := 1) C (c_X6_error l G b images errs (5 : Int32) _ hv) ml_X6_64 kb_X6_error rfl ⟨⟨rfl, rfl⟩, (Nat.le_of_ble_eq_true rfl), (Nat.le_of_ble_eq_true rfl)⟩ hW hS [0, 10] rfl rfl kc6 (q0 := 0) rfl hl.1 rfl (Nat.le_of_ble_eq_true rfl) dX6_move_73 ⟨Nat.zero_le _, Nat.zero_le _⟩ (fun r_38 u_39 H locs hv hW hS => ?_)
            obtain ⟨errs_38, rfl⟩ : ∃ z, z = u_39 := ⟨_, rfl⟩
            try dsimp only at hv
            have hW : wo G A (wd_X6_25 G b images shb shs shn errs_38) H := hW
            exact ret (shn, errs_38) r_38 H locs ls _ rfl hW hS hv dX6_move_76
        · replace hv := hv.2 c_20
          exact h_j_X6_move_52 shn errs H locs ls hW hS (lv_sub hl [2] rfl) hv
    · replace hv := hv.2 c_8
      exact h_j_X6_move_14 shn errs H locs ls hW hS (lv_sub hl [0] rfl) hv
