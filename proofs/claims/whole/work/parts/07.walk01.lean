set_option maxHeartbeats 4000000 in
set_option maxRecDepth 100000 in
theorem c_X4_takenBy (l : Launch) (G : Gt) (b : Nat → Nat) (people : Int32) (taped : Int32) (waiting : Int32) (z : Int32) (kind : Nat → Int32) (em : Nat → Int32) (tmost : Int32) (tsize : Int32) (tsteps : Nat → Int32) (tstack : Nat → Int32) (p1 : Int32) (p2 : Int32) (p3 : Int32) (p4 : Int32) (K : Int32 → (Nat → Int32) → Prop) (hv : v_X4_takenBy p1 p2 p3 p4 kind em tmost tsize tsteps tstack K) : CI l G yX4_takenBy (.code yX4_takenBy cX4_takenBy 5 (some .int) :: wsG) (rmm 2 49) [.ref (b 0), .int p1, .int p2, .int p3, .int p4] (wd_X4_6 G b people taped waiting z kind em tmost tsize tsteps tstack) (S := (Nat → Int32)) (fun u => wd_X4_6 G b people taped waiting z kind em tmost tsize tsteps u) (fun r u => K r u) := by
  refine ci_intro (by decide) rfl (fun _ => rfl) (Nat.le_of_ble_eq_true rfl) ?_
  intro p e s m args below meth c A H ls Q C hW hS hl ret
  have hx := C.1.1
  have hb := C.1.2.1
  generalize hls : ([] : List Loc) = locs at hS ⊢
  have hl : lv_has ls 5 [(0, .ref (b 0)), (1, .int p1), (2, .int p2), (3, .int p3), (4, .int p4)] := hl
  refine lv_aload_n hx hb dX4_takenBy_0 rfl (lv_at hl 0 rfl) ?_
  refine q_get C kc4 hW 0 rfl 5 (by decide) fl_X4_33 rfl rfl dX4_takenBy_1 ?_
  refine lv_aload_n hx hb dX4_takenBy_4 rfl (lv_at hl 0 rfl) ?_
  refine q_get C kc4 hW 0 rfl 1 (by decide) fl_X4_9 rfl rfl dX4_takenBy_5 ?_
  refine lv_iload_n hx hb dX4_takenBy_8 rfl (lv_at hl 1 rfl) ?_
  obtain ⟨h_1, hv⟩ := hv
  refine q_iald C hW 1 rfl h_1 dX4_takenBy_9 ?_
  refine lv_aload_n hx hb dX4_takenBy_10 rfl (lv_at hl 0 rfl) ?_
  refine q_get C kc4 hW 0 rfl 2 (by decide) fl_X4_15 rfl rfl dX4_takenBy_11 ?_
  refine lv_iload_n hx hb dX4_takenBy_14 rfl (lv_at hl 1 rfl) ?_
  obtain ⟨h_2, hv⟩ := hv
  refine q_iald C hW 2 rfl h_2 dX4_takenBy_15 ?_
  refine lv_iload_n hx hb dX4_takenBy_16 rfl (lv_at hl 2 rfl) ?_
  refine lv_iload_n hx hb dX4_takenBy_17 rfl (lv_at hl 3 rfl) ?_
  refine lv_iload hx hb dX4_takenBy_18 (lv_at hl 4 rfl) ?_
  refine q_callS (rest := [.ref (b 7)]) (n := 5) C (c_X4_readsOf l G (kind p1.toNatClampNeg) (em p1.toNatClampNeg) p2 p3 p4 _ hv) ml_X4_99 kb_X4_readsOf rfl ⟨⟨rfl, rfl⟩, (Nat.le_of_ble_eq_true rfl), (Nat.le_of_ble_eq_true rfl)⟩ hW hS hl.1 rfl (Nat.le_of_ble_eq_true rfl) dX4_takenBy_20 ⟨Nat.zero_le _, Nat.zero_le _⟩ (fun r_3 u_4 H locs hv hW hS => ?_)
  try dsimp only at hv
  refine lv_iload_n hx hb dX4_takenBy_23 rfl (lv_at hl 2 rfl) ?_
  refine lv_iload_n hx hb dX4_takenBy_24 rfl (lv_at hl 3 rfl) ?_
  refine q_callN (rest := []) (n := 3) C (c_X0_gives l G (fun k => b (k + 7)) tmost tsize tsteps tstack r_3 p2 p3 _ hv) nm_X4_103 kb_X0_gives rfl ⟨⟨rfl, rfl⟩, (Nat.le_of_ble_eq_true rfl), (Nat.le_of_ble_eq_true rfl)⟩ hW hS [3, 4, 5] rfl rfl kc0 (q0 := 3) rfl hl.1 rfl (Nat.le_of_ble_eq_true rfl) dX4_takenBy_25 ⟨Nat.zero_le _, Nat.zero_le _⟩ (fun r_5 u_6 H locs hv hW hS => ?_)
  obtain ⟨tstack_5, rfl⟩ : ∃ z, z = u_6 := ⟨_, rfl⟩
  try dsimp only at hv
  have hW : wo G A (wd_X4_6 G b people taped waiting z kind em tmost tsize tsteps tstack_5) H := hW
  exact ret (tstack_5) r_5 H locs ls _ rfl hW hS hv dX4_takenBy_28
set_option maxHeartbeats 4000000 in
set_option maxRecDepth 100000 in
theorem c_X4_tellsOf (l : Launch) (G : Gt) (p1 : Int32) (p2 : Int32) (p3 : Int32) (p4 : Int32) (K : Int32 → Prop) (hv : v_X4_tellsOf p1 p2 p3 p4 K) : CI l G yX4_tellsOf (.code yX4_tellsOf cX4_tellsOf 5 (some .int) :: wsG) (rmm 0 0) [.int p1, .int p2, .int p3, .int p4] [] (S := Unit) (fun _ => []) (fun r u => K r) := by
  refine ci_intro (by decide) rfl (fun _ => rfl) (Nat.le_of_ble_eq_true rfl) ?_
  intro p e s m args below meth c A H ls Q C hW hS hl ret
  have hx := C.1.1
  have hb := C.1.2.1
  generalize hls : ([] : List Loc) = locs at hS ⊢
  have hl : lv_has ls 5 [(0, .int p1), (1, .int p2), (2, .int p3), (3, .int p4)] := hl
  have h_j_X4_tellsOf_12 : ∀ (t0 : Int32) (t1 : Int32) (H : Heap) (locs : List Loc) (ls : Array Slot), t1 = 0 ∨ t1 = 1 → wo G A (wd_X4_7 G) H → va_S A s.heap H locs → lv_has ls 5 [(0, .int p1), (1, .int p2), (2, .int p3), (3, .int p4)] → j_X4_tellsOf_12 p1 p2 p3 p4 K t0 t1 → W p l e (rmm 0 0) s m args below meth c H locs 0 0 Q (F0 m 12 ls [.int t1, .int t0]) := by
    intro t0 t1 H locs ls hz_t1 hW hS hl hv
    refine lv_iadd hx hb dX4_tellsOf_12 ?_
    refine lv_istore (lv' := [(4, .int (t0 + t1)), (0, .int p1), (1, .int p2), (2, .int p3), (3, .int p4)]) hx hb dX4_tellsOf_13 hl (by decide) rfl (fun ls hl => ?_)
    refine lv_iload_n hx hb dX4_tellsOf_15 rfl (lv_at hl 1 rfl) ?_
    by_cases c_2_0 : p1 = 1
    · replace hv := hv.1 c_2_0
      refine lv_tableIn (tgt := 56) hx hb dX4_tellsOf_16 (by rw [c_2_0]; decide) (by rw [c_2_0]; decide) (by rw [c_2_0]; rfl) (by decide) ?_
      refine lv_iload hx hb dX4_tellsOf_56 (lv_at hl 0 rfl) ?_
      exact ret () (t0 + t1) H locs ls _ rfl hW hS hv dX4_tellsOf_58
    · replace hv := hv.2 c_2_0
      by_cases c_2_1 : p1 = 2
      · replace hv := hv.1 c_2_1
        refine lv_tableIn (tgt := 59) hx hb dX4_tellsOf_16 (by rw [c_2_1]; decide) (by rw [c_2_1]; decide) (by rw [c_2_1]; rfl) (by decide) ?_
        refine lv_iload_n hx hb dX4_tellsOf_59 rfl (lv_at hl 3 rfl) ?_
        refine lv_iconst (v := 1) hx hb dX4_tellsOf_60 kic_1 ?_
        refine lv_isub hx hb dX4_tellsOf_61 ?_
        exact ret () (p3 - (1 : Int32)) H locs ls _ rfl hW hS hv dX4_tellsOf_62
      · replace hv := hv.2 c_2_1
        by_cases c_2_2 : p1 = 4
        · replace hv := hv.1 c_2_2
          refine lv_tableIn (tgt := 63) hx hb dX4_tellsOf_16 (by rw [c_2_2]; decide) (by rw [c_2_2]; decide) (by rw [c_2_2]; rfl) (by decide) ?_
          refine lv_iload hx hb dX4_tellsOf_63 (lv_at hl 0 rfl) ?_
          refine lv_iload_n hx hb dX4_tellsOf_65 rfl (lv_at hl 4 rfl) ?_
          refine lv_iconst (v := 3) hx hb dX4_tellsOf_66 kic_3 ?_
          obtain ⟨h_3, hv⟩ := hv
          refine lv_irem hx hb dX4_tellsOf_67 h_3 ?_
          refine lv_if_ne (tgt := 75) hx hb dX4_tellsOf_68 (by decide) (fun c_4 => ?_) (fun c_4 => ?_)
          · replace hv := hv.1 c_4
            refine lv_iconst (v := 0) hx hb dX4_tellsOf_75 kic_0 ?_
            refine lv_iadd hx hb dX4_tellsOf_76 ?_
            exact ret () ((t0 + t1) + (0 : Int32)) H locs ls _ rfl hW hS hv dX4_tellsOf_77
          · replace hv := hv.2 c_4
            refine lv_iconst (v := 1) hx hb dX4_tellsOf_71 kic_1 ?_
            refine lv_goto (tgt := 76) hx hb dX4_tellsOf_72 (by decide) ?_
            refine lv_iadd hx hb dX4_tellsOf_76 ?_
            exact ret () ((t0 + t1) + (1 : Int32)) H locs ls _ rfl hW hS hv dX4_tellsOf_77
        · replace hv := hv.2 c_2_2
          by_cases c_2_3 : p1 = 5
          · replace hv := hv.1 c_2_3
            refine lv_tableIn (tgt := 78) hx hb dX4_tellsOf_16 (by rw [c_2_3]; decide) (by rw [c_2_3]; decide) (by rw [c_2_3]; rfl) (by decide) ?_
            refine lv_iload_n hx hb dX4_tellsOf_78 rfl (lv_at hl 2 rfl) ?_
            refine lv_bipush (v := 10) hx hb dX4_tellsOf_79 kbp_10 ?_
            obtain ⟨h_5, hv⟩ := hv
            refine lv_idiv hx hb dX4_tellsOf_81 h_5 ?_
            exact ret () (p2 / (10 : Int32)) H locs ls _ rfl hW hS hv dX4_tellsOf_82
          · replace hv := hv.2 c_2_3
            by_cases c_2_4 : p1 = 6
            · replace hv := hv.1 c_2_4
              refine lv_tableIn (tgt := 83) hx hb dX4_tellsOf_16 (by rw [c_2_4]; decide) (by rw [c_2_4]; decide) (by rw [c_2_4]; rfl) (by decide) ?_
              refine lv_iconst (v := 0) hx hb dX4_tellsOf_83 kic_0 ?_
              exact ret () (0 : Int32) H locs ls _ rfl hW hS hv dX4_tellsOf_84
            · replace hv := hv.2 c_2_4
              refine sw_row (tgt := 85) hx hb dX4_tellsOf_16 rfl (lt_s (lt_s (lt_s (lt_s (lt_s (lt_s lt_0 (Or.inr (lv_neT c_2_0 rfl))) (Or.inr (lv_neT c_2_1 rfl))) (Or.inl rfl)) (Or.inr (lv_neT c_2_2 rfl))) (Or.inr (lv_neT c_2_3 rfl))) (Or.inr (lv_neT c_2_4 rfl))) (by decide) ?_
              refine lv_iload_n hx hb dX4_tellsOf_85 rfl (lv_at hl 3 rfl) ?_
              exact ret () p3 H locs ls _ rfl hW hS hv dX4_tellsOf_86
  refine lv_iload_n hx hb dX4_tellsOf_0 rfl (lv_at hl 2 rfl) ?_
  refine lv_iload_n hx hb dX4_tellsOf_1 rfl (lv_at hl 1 rfl) ?_
  refine lv_bipush (v := 50) hx hb dX4_tellsOf_2 kbp_50 ?_
  refine lv_icmp_le (tgt := 11) hx hb dX4_tellsOf_4 (by decide) (fun c_1 => ?_) (fun c_1 => ?_)
  · replace hv := hv.1 c_1
    refine lv_iconst (v := 0) hx hb dX4_tellsOf_11 kic_0 ?_
    exact h_j_X4_tellsOf_12 p3 (0 : Int32) H locs ls (Or.inl rfl) hW hS (lv_sub hl [0, 1, 2, 3] rfl) hv
  · replace hv := hv.2 c_1
    refine lv_iconst (v := 1) hx hb dX4_tellsOf_7 kic_1 ?_
    refine lv_goto (tgt := 12) hx hb dX4_tellsOf_8 (by decide) ?_
    exact h_j_X4_tellsOf_12 p3 (1 : Int32) H locs ls (Or.inr rfl) hW hS (lv_sub hl [0, 1, 2, 3] rfl) hv
set_option maxHeartbeats 4000000 in
set_option maxRecDepth 100000 in
theorem c_X4_signOf (l : Launch) (G : Gt) (b : Nat → Nat) (bc : Nat → Nat) (people : Int32) (taped : Int32) (waiting : Int32) (z : Int32) (kind : Nat → Int32) (gmost : Int32) (gsize : Int32) (gsteps : Nat → Int32) (gstack : Nat → Int32) (c_day : Int32) (c_near : Nat → Int32) (c_shows : Nat → Int32) (p1 : Int32) (K : Int32 → (Nat → Int32) → Prop) (hv : v_X4_signOf p1 kind gmost gsize gsteps gstack c_day c_near c_shows K) : CI l G yX4_signOf (.code yX4_signOf cX4_signOf 4 (some .int) :: wsG) (rmm 2 49) [.ref (b 0), .int p1, .ref (bc 0)] (wd_X4_8 G b bc people taped waiting z kind gmost gsize gsteps gstack c_day c_near c_shows) (S := (Nat → Int32)) (fun u => wd_X4_8 G b bc people taped waiting z kind gmost gsize gsteps u c_day c_near c_shows) (fun r u => K r u) := by
  refine ci_intro (by decide) rfl (fun _ => rfl) (Nat.le_of_ble_eq_true rfl) ?_
  intro p e s m args below meth c A H ls Q C hW hS hl ret
  have hx := C.1.1
  have hb := C.1.2.1
  generalize hls : ([] : List Loc) = locs at hS ⊢
  have hl : lv_has ls 4 [(0, .ref (b 0)), (1, .int p1), (2, .ref (bc 0))] := hl
  refine lv_aload_n hx hb dX4_signOf_0 rfl (lv_at hl 0 rfl) ?_
  refine q_get C kc4 hW 0 rfl 1 (by decide) fl_X4_9 rfl rfl dX4_signOf_1 ?_
  refine lv_iload_n hx hb dX4_signOf_4 rfl (lv_at hl 1 rfl) ?_
  obtain ⟨h_1, hv⟩ := hv
  refine q_iald C hW 1 rfl h_1 dX4_signOf_5 ?_
  refine lv_aload_n hx hb dX4_signOf_6 rfl (lv_at hl 2 rfl) ?_
  refine q_getN C kc3 hW 5 rfl 0 (by decide) nf_X4_79 rfl rfl dX4_signOf_7 ?_
  refine lv_iload_n hx hb dX4_signOf_10 rfl (lv_at hl 1 rfl) ?_
  obtain ⟨h_2, hv⟩ := hv
  refine q_iald C hW 6 rfl h_2 dX4_signOf_11 ?_
  refine lv_aload_n hx hb dX4_signOf_12 rfl (lv_at hl 2 rfl) ?_
  refine q_getN C kc3 hW 5 rfl 1 (by decide) nf_X4_82 rfl rfl dX4_signOf_13 ?_
  refine lv_iload_n hx hb dX4_signOf_16 rfl (lv_at hl 1 rfl) ?_
  obtain ⟨h_3, hv⟩ := hv
  refine q_iald C hW 7 rfl h_3 dX4_signOf_17 ?_
  refine lv_aload_n hx hb dX4_signOf_18 rfl (lv_at hl 2 rfl) ?_
  refine q_getN C kc3 hW 5 rfl 2 (by decide) nf_X4_107 rfl rfl dX4_signOf_19 ?_
  refine q_callS (rest := []) (n := 4) C (c_X4_tellsOf l G (kind p1.toNatClampNeg) (c_near p1.toNatClampNeg) (c_shows p1.toNatClampNeg) c_day _ hv) ml_X4_110 kb_X4_tellsOf rfl ⟨⟨rfl, rfl⟩, (Nat.le_of_ble_eq_true rfl), (Nat.le_of_ble_eq_true rfl)⟩ hW hS hl.1 rfl (Nat.le_of_ble_eq_true rfl) dX4_signOf_22 ⟨Nat.zero_le _, Nat.zero_le _⟩ (fun r_4 u_5 H locs hv hW hS => ?_)
  try dsimp only at hv
  refine lv_istore_n (lv' := [(3, .int r_4), (0, .ref (b 0)), (1, .int p1), (2, .ref (bc 0))]) hx hb dX4_signOf_25 rfl hl (by decide) rfl (fun ls hl => ?_)
  refine lv_aload_n hx hb dX4_signOf_26 rfl (lv_at hl 1 rfl) ?_
  refine q_get C kc4 hW 0 rfl 6 (by decide) fl_X4_37 rfl rfl dX4_signOf_27 ?_
  refine lv_iload_n hx hb dX4_signOf_30 rfl (lv_at hl 0 rfl) ?_
  refine lv_aload_n hx hb dX4_signOf_31 rfl (lv_at hl 3 rfl) ?_
  refine q_getN C kc3 hW 5 rfl 0 (by decide) nf_X4_79 rfl rfl dX4_signOf_32 ?_
  refine lv_iload_n hx hb dX4_signOf_35 rfl (lv_at hl 2 rfl) ?_
  obtain ⟨h_6, hv⟩ := hv
  refine q_iald C hW 6 rfl h_6 dX4_signOf_36 ?_
  refine lv_aload_n hx hb dX4_signOf_37 rfl (lv_at hl 3 rfl) ?_
  refine q_getN C kc3 hW 5 rfl 2 (by decide) nf_X4_107 rfl rfl dX4_signOf_38 ?_
  refine lv_bipush (v := 7) hx hb dX4_signOf_41 kbp_7 ?_
  obtain ⟨h_7, hv⟩ := hv
  refine lv_irem hx hb dX4_signOf_43 h_7 ?_
  refine q_callN (rest := []) (n := 3) C (c_X0_gives l G (fun k => b (k + 10)) gmost gsize gsteps gstack r_4 (c_near p1.toNatClampNeg) (c_day - c_day / (7 : Int32) * (7 : Int32)) _ hv) nm_X4_103 kb_X0_gives rfl ⟨⟨rfl, rfl⟩, (Nat.le_of_ble_eq_true rfl), (Nat.le_of_ble_eq_true rfl)⟩ hW hS [2, 3, 4] rfl rfl kc0 (q0 := 2) rfl hl.1 rfl (Nat.le_of_ble_eq_true rfl) dX4_signOf_44 ⟨Nat.zero_le _, Nat.zero_le _⟩ (fun r_8 u_9 H locs hv hW hS => ?_)
  obtain ⟨gstack_8, rfl⟩ : ∃ z, z = u_9 := ⟨_, rfl⟩
  try dsimp only at hv
  have hW : wo G A (wd_X4_8 G b bc people taped waiting z kind gmost gsize gsteps gstack_8 c_day c_near c_shows) H := hW
  exact ret (gstack_8) r_8 H locs ls _ rfl hW hS hv dX4_signOf_47
set_option maxHeartbeats 4000000 in
set_option maxRecDepth 100000 in
theorem c_X4_nearAfter (l : Launch) (G : Gt) (b : Nat → Nat) (bc : Nat → Nat) (people : Int32) (taped : Int32) (waiting : Int32) (z : Int32) (kind : Nat → Int32) (em : Nat → Int32) (tmost : Int32) (tsize : Int32) (tsteps : Nat → Int32) (tstack : Nat → Int32) (c_day : Int32) (c_near : Nat → Int32) (c_shows : Nat → Int32) (p1 : Int32) (K : Int32 → (Nat → Int32) → Prop) (hv : v_X4_nearAfter p1 people kind em tmost tsize tsteps tstack c_day c_near c_shows K) : CI l G yX4_nearAfter (.code yX4_nearAfter cX4_nearAfter 5 (some .int) :: wsG) (rmm 3 73) [.ref (b 0), .int p1, .ref (bc 0)] (wd_X4_9 G b bc people taped waiting z kind em tmost tsize tsteps tstack c_day c_near c_shows) (S := (Nat → Int32)) (fun u => wd_X4_9 G b bc people taped waiting z kind em tmost tsize tsteps u c_day c_near c_shows) (fun r u => K r u) := by
  refine ci_intro (by decide) rfl (fun _ => rfl) (Nat.le_of_ble_eq_true rfl) ?_
  intro p e s m args below meth c A H ls Q C hW hS hl ret
  have hx := C.1.1
  have hb := C.1.2.1
  generalize hls : ([] : List Loc) = locs at hS ⊢
  have hl : lv_has ls 5 [(0, .ref (b 0)), (1, .int p1), (2, .ref (bc 0))] := hl
  have h_j_X4_nearAfter_60 : ∀ (B20 : Int32 → Int32 → (Nat → Int32) → Prop) (hB20 : ∀ (x3 : Int32) (x4 : Int32) (tstack : Nat → Int32) (H : Heap) (locs : List Loc) (ls : Array Slot), wo G A (wd_X4_9 G b bc people taped waiting z kind em tmost tsize tsteps tstack c_day c_near c_shows) H → va_S A s.heap H locs → lv_has ls 5 [(0, .ref (b 0)), (1, .int p1), (2, .ref (bc 0)), (3, .int x3), (4, .int x4)] → B20 x3 x4 tstack → W p l e (rmm 3 73) s m args below meth c H locs 0 0 Q (F0 m 20 ls [])), ∀ (x3 : Int32) (x4 : Int32) (tstack : Nat → Int32) (H : Heap) (locs : List Loc) (ls : Array Slot), wo G A (wd_X4_9 G b bc people taped waiting z kind em tmost tsize tsteps tstack c_day c_near c_shows) H → va_S A s.heap H locs → lv_has ls 5 [(0, .ref (b 0)), (1, .int p1), (2, .ref (bc 0)), (3, .int x3), (4, .int x4)] → j_X4_nearAfter_60 p1 people kind em tmost tsize tsteps c_day c_near c_shows B20 K x3 x4 tstack → W p l e (rmm 3 73) s m args below meth c H locs 0 0 Q (F0 m 60 ls []) := by
    intro B20 hB20 x3 x4 tstack H locs ls hW hS hl hv
    refine lv_iinc (v := (x4 + 1)) (lv' := [(4, .int (x4 + 1)), (0, .ref (b 0)), (1, .int p1), (2, .ref (bc 0)), (3, .int x3)]) hx hb dX4_nearAfter_60 hl (k := 4) rfl rfl (by decide) rfl (fun ls hl => ?_)
    refine lv_goto (tgt := 20) hx hb dX4_nearAfter_63 (by decide) ?_
    exact hB20 x3 (x4 + 1) tstack H locs ls hW hS (lv_sub hl [1, 2, 3, 4, 0] rfl) hv
  have h_l_X4_nearAfter_20 : ∀ (n : Nat), ∀ (x3 : Int32) (x4 : Int32) (tstack : Nat → Int32) (H : Heap) (locs : List Loc) (ls : Array Slot), wo G A (wd_X4_9 G b bc people taped waiting z kind em tmost tsize tsteps tstack c_day c_near c_shows) H → va_S A s.heap H locs → lv_has ls 5 [(0, .ref (b 0)), (1, .int p1), (2, .ref (bc 0)), (3, .int x3), (4, .int x4)] → l_X4_nearAfter_20 p1 people kind em tmost tsize tsteps c_day c_near c_shows K n x3 x4 tstack → W p l e (rmm 3 73) s m args below meth c H locs 0 0 Q (F0 m 20 ls []) := by
    intro n
    induction n with
    | zero =>
      intro x3 x4 tstack H locs ls hW hS hl hv
      exact False.elim hv
    | succ n ih =>
      intro x3 x4 tstack H locs ls hW hS hl hv
      refine lv_iload hx hb dX4_nearAfter_20 (lv_at hl 4 rfl) ?_
      refine lv_aload_n hx hb dX4_nearAfter_22 rfl (lv_at hl 0 rfl) ?_
      refine q_get C kc4 hW 0 rfl 0 (by decide) fl_X4_51 rfl rfl dX4_nearAfter_23 ?_
      refine lv_icmp_ge (tgt := 66) hx hb dX4_nearAfter_26 (by decide) (fun c_2 => ?_) (fun c_2 => ?_)
      · replace hv := hv.1 c_2
        refine lv_iload_n hx hb dX4_nearAfter_66 rfl (lv_at hl 3 rfl) ?_
        refine lv_aload_n hx hb dX4_nearAfter_67 rfl (lv_at hl 0 rfl) ?_
        refine q_get C kc4 hW 0 rfl 0 (by decide) fl_X4_51 rfl rfl dX4_nearAfter_68 ?_
        refine lv_iconst (v := 1) hx hb dX4_nearAfter_71 kic_1 ?_
        refine lv_isub hx hb dX4_nearAfter_72 ?_
        obtain ⟨h_3, hv⟩ := hv
        refine lv_idiv hx hb dX4_nearAfter_73 h_3 ?_
        exact ret (tstack) (x3 / (people - (1 : Int32))) H locs ls _ rfl hW hS hv dX4_nearAfter_74
      · replace hv := hv.2 c_2
        refine lv_iload hx hb dX4_nearAfter_29 (lv_at hl 4 rfl) ?_
        refine lv_iload_n hx hb dX4_nearAfter_31 rfl (lv_at hl 1 rfl) ?_
        refine lv_icmp_eq (tgt := 60) hx hb dX4_nearAfter_32 (by decide) (fun c_4 => ?_) (fun c_4 => ?_)
        · replace hv := hv.1 c_4
          exact h_j_X4_nearAfter_60 (fun x3' x4' tstack' => l_X4_nearAfter_20 p1 people kind em tmost tsize tsteps c_day c_near c_shows K n x3' x4' tstack') ih x3 x4 tstack H locs ls hW hS (lv_sub hl [0, 1, 2, 3, 4] rfl) hv
        · replace hv := hv.2 c_4
          refine lv_iload_n hx hb dX4_nearAfter_35 rfl (lv_at hl 3 rfl) ?_
          refine lv_aload_n hx hb dX4_nearAfter_36 rfl (lv_at hl 0 rfl) ?_
          refine lv_iload hx hb dX4_nearAfter_37 (lv_at hl 4 rfl) ?_
          refine lv_aload_n hx hb dX4_nearAfter_39 rfl (lv_at hl 2 rfl) ?_
          refine q_getN C kc3 hW 6 rfl 0 (by decide) nf_X4_79 rfl rfl dX4_nearAfter_40 ?_
          refine lv_iload_n hx hb dX4_nearAfter_43 rfl (lv_at hl 1 rfl) ?_
          obtain ⟨h_5, hv⟩ := hv
          refine q_iald C hW 7 rfl h_5 dX4_nearAfter_44 ?_
          refine lv_aload_n hx hb dX4_nearAfter_45 rfl (lv_at hl 2 rfl) ?_
          refine q_getN C kc3 hW 6 rfl 1 (by decide) nf_X4_82 rfl rfl dX4_nearAfter_46 ?_
          refine lv_iload_n hx hb dX4_nearAfter_49 rfl (lv_at hl 1 rfl) ?_
          obtain ⟨h_6, hv⟩ := hv
          refine q_iald C hW 8 rfl h_6 dX4_nearAfter_50 ?_
          refine lv_aload_n hx hb dX4_nearAfter_51 rfl (lv_at hl 2 rfl) ?_
          refine q_getN C kc3 hW 6 rfl 2 (by decide) nf_X4_107 rfl rfl dX4_nearAfter_52 ?_
          refine q_callV (rest := [.int x3]) (n := 4) C (c_X4_takenBy l G b people taped waiting z kind em tmost tsize tsteps tstack x4 (c_near p1.toNatClampNeg) (c_shows p1.toNatClampNeg) c_day _ hv) ml_X4_114 kb_X4_takenBy rfl ⟨⟨rfl, rfl⟩, (Nat.le_of_ble_eq_true rfl), (Nat.le_of_ble_eq_true rfl)⟩ hW hS [0, 1, 2, 3, 4, 5] rfl rfl kc4 (q0 := 0) rfl hl.1 rfl (Nat.le_of_ble_eq_true rfl) dX4_nearAfter_55 ⟨Nat.zero_le _, Nat.zero_le _⟩ (fun r_7 u_8 H locs hv hW hS => ?_)
          obtain ⟨tstack_7, rfl⟩ : ∃ z, z = u_8 := ⟨_, rfl⟩
          try dsimp only at hv
          have hW : wo G A (wd_X4_9 G b bc people taped waiting z kind em tmost tsize tsteps tstack_7 c_day c_near c_shows) H := hW
          refine lv_iadd hx hb dX4_nearAfter_58 ?_
          refine lv_istore_n (lv' := [(3, .int (x3 + r_7)), (0, .ref (b 0)), (1, .int p1), (2, .ref (bc 0)), (4, .int x4)]) hx hb dX4_nearAfter_59 rfl hl (by decide) rfl (fun ls hl => ?_)
          exact h_j_X4_nearAfter_60 (fun x3' x4' tstack' => l_X4_nearAfter_20 p1 people kind em tmost tsize tsteps c_day c_near c_shows K n x3' x4' tstack') ih (x3 + r_7) x4 tstack_7 H locs ls hW hS (lv_sub hl [1, 2, 3, 0, 4] rfl) hv
  refine lv_aload_n hx hb dX4_nearAfter_0 rfl (lv_at hl 0 rfl) ?_
  refine q_get C kc4 hW 0 rfl 0 (by decide) fl_X4_51 rfl rfl dX4_nearAfter_1 ?_
  refine lv_iconst (v := 2) hx hb dX4_nearAfter_4 kic_2 ?_
  refine lv_icmp_ge (tgt := 15) hx hb dX4_nearAfter_5 (by decide) (fun c_1 => ?_) (fun c_1 => ?_)
  · replace hv := hv.1 c_1
    refine lv_iconst (v := 0) hx hb dX4_nearAfter_15 kic_0 ?_
    refine lv_istore_n (lv' := [(3, .int (0 : Int32)), (0, .ref (b 0)), (1, .int p1), (2, .ref (bc 0))]) hx hb dX4_nearAfter_16 rfl hl (by decide) rfl (fun ls hl => ?_)
    refine lv_iconst (v := 0) hx hb dX4_nearAfter_17 kic_0 ?_
    refine lv_istore (lv' := [(4, .int (0 : Int32)), (3, .int (0 : Int32)), (0, .ref (b 0)), (1, .int p1), (2, .ref (bc 0))]) hx hb dX4_nearAfter_18 hl (by decide) rfl (fun ls hl => ?_)
    obtain ⟨n_9, hv⟩ := hv
    exact h_l_X4_nearAfter_20 n_9 (0 : Int32) (0 : Int32) tstack H locs ls hW hS (lv_sub hl [2, 3, 4, 1, 0] rfl) hv
  · replace hv := hv.2 c_1
    refine lv_aload_n hx hb dX4_nearAfter_8 rfl (lv_at hl 2 rfl) ?_
    refine q_getN C kc3 hW 6 rfl 0 (by decide) nf_X4_79 rfl rfl dX4_nearAfter_9 ?_
    refine lv_iload_n hx hb dX4_nearAfter_12 rfl (lv_at hl 1 rfl) ?_
    obtain ⟨h_10, hv⟩ := hv
    refine q_iald C hW 7 rfl h_10 dX4_nearAfter_13 ?_
    exact ret (tstack) (c_near p1.toNatClampNeg) H locs ls _ rfl hW hS hv dX4_nearAfter_14
set_option maxHeartbeats 4000000 in
set_option maxRecDepth 100000 in
theorem c_X4_pass (l : Launch) (G : Gt) (b : Nat → Nat) (bc : Nat → Nat) (people : Int32) (taped : Int32) (waiting : Int32) (z : Int32) (kind : Nat → Int32) (em : Nat → Int32) (tmost : Int32) (tsize : Int32) (tsteps : Nat → Int32) (tstack : Nat → Int32) (gmost : Int32) (gsize : Int32) (gsteps : Nat → Int32) (gstack : Nat → Int32) (c_day : Int32) (c_near : Nat → Int32) (c_shows : Nat → Int32) (K : Int32 → (Nat → Int32) → (Nat → Int32) → Int32 → (Nat → Int32) → (Nat → Int32) → Prop) (hv : v_X4_pass people kind em tmost tsize tsteps tstack gmost gsize gsteps gstack c_day c_near c_shows K) : CI l G yX4_pass (.code yX4_pass cX4_pass 6 (some .boolean) :: wsG) (rmm 4 97) [.ref (b 0), .ref (bc 0)] (wd_X4_10 G b bc people taped waiting z kind em tmost tsize tsteps tstack gmost gsize gsteps gstack c_day c_near c_shows) (S := (Nat → Int32) × (Nat → Int32) × Int32 × (Nat → Int32) × (Nat → Int32)) (fun u => wd_X4_10 G b bc people taped waiting z kind em tmost tsize tsteps u.1 gmost gsize gsteps u.2.1 u.2.2.1 u.2.2.2.1 u.2.2.2.2) (fun r u => (r = 0 ∨ r = 1) ∧ K r u.1 u.2.1 u.2.2.1 u.2.2.2.1 u.2.2.2.2) := by
  refine ci_intro (by decide) rfl (fun _ => rfl) (Nat.le_of_ble_eq_true rfl) ?_
  intro p e s m args below meth c A H ls Q C hW hS hl ret
  have hx := C.1.1
  have hb := C.1.2.1
  generalize hls : ([] : List Loc) = locs at hS ⊢
  have hl : lv_has ls 6 [(0, .ref (b 0)), (1, .ref (bc 0))] := hl
  have h_j_X4_pass_56 : ∀ (B4 : Int32 → Int32 → (Nat → Int32) → (Nat → Int32) → Int32 → (Nat → Int32) → (Nat → Int32) → Prop) (hB4 : ∀ (x2 : Int32) (x3 : Int32) (tstack : Nat → Int32) (gstack : Nat → Int32) (c_day : Int32) (c_near : Nat → Int32) (c_shows : Nat → Int32) (H : Heap) (locs : List Loc) (ls : Array Slot), x2 = 0 ∨ x2 = 1 → wo G A (wd_X4_10 G b bc people taped waiting z kind em tmost tsize tsteps tstack gmost gsize gsteps gstack c_day c_near c_shows) H → va_S A s.heap H locs → lv_has ls 6 [(0, .ref (b 0)), (1, .ref (bc 0)), (2, .int x2), (3, .int x3)] → B4 x2 x3 tstack gstack c_day c_near c_shows → W p l e (rmm 4 97) s m args below meth c H locs 0 0 Q (F0 m 4 ls [])), ∀ (x3 : Int32) (x4 : Int32) (x5 : Int32) (t0 : Int32) (t1 : Int32) (tstack : Nat → Int32) (gstack : Nat → Int32) (c_day : Int32) (c_near : Nat → Int32) (c_shows : Nat → Int32) (H : Heap) (locs : List Loc) (ls : Array Slot), t0 = 0 ∨ t0 = 1 → t1 = 0 ∨ t1 = 1 → wo G A (wd_X4_10 G b bc people taped waiting z kind em tmost tsize tsteps tstack gmost gsize gsteps gstack c_day c_near c_shows) H → va_S A s.heap H locs → lv_has ls 6 [(0, .ref (b 0)), (1, .ref (bc 0)), (3, .int x3), (4, .int x4), (5, .int x5)] → j_X4_pass_56 people kind em tmost tsize tsteps gmost gsize gsteps B4 K x3 x4 x5 t0 t1 tstack gstack c_day c_near c_shows → W p l e (rmm 4 97) s m args below meth c H locs 0 0 Q (F0 m 56 ls [.int t1, .int t0]) := by
    intro B4 hB4 x3 x4 x5 t0 t1 tstack gstack c_day c_near c_shows H locs ls hz_t0 hz_t1 hW hS hl hv
    refine lv_ior hx hb dX4_pass_56 ?_
    refine lv_istore_n (lv' := [(2, .int (t0 ||| t1)), (0, .ref (b 0)), (1, .ref (bc 0)), (3, .int x3), (4, .int x4), (5, .int x5)]) hx hb dX4_pass_57 rfl hl (by decide) rfl (fun ls hl => ?_)
    refine lv_aload_n hx hb dX4_pass_58 rfl (lv_at hl 2 rfl) ?_
    refine q_getN C kc3 hW 9 rfl 0 (by decide) nf_X4_79 rfl rfl dX4_pass_59 ?_
    refine lv_iload_n hx hb dX4_pass_62 rfl (lv_at hl 3 rfl) ?_
    refine lv_iload hx hb dX4_pass_63 (lv_at hl 4 rfl) ?_
    obtain ⟨h_8, hv⟩ := hv
    refine q_iast C hW hS 10 rfl h_8 dX4_pass_65 (fun H locs hW hS => ?_)
    have hW : wo G A (wd_X4_10 G b bc people taped waiting z kind em tmost tsize tsteps tstack gmost gsize gsteps gstack c_day (upd c_near x3.toNatClampNeg x4) c_shows) H := hW
    refine lv_aload_n hx hb dX4_pass_66 rfl (lv_at hl 2 rfl) ?_
    refine q_getN C kc3 hW 9 rfl 1 (by decide) nf_X4_82 rfl rfl dX4_pass_67 ?_
    refine lv_iload_n hx hb dX4_pass_70 rfl (lv_at hl 3 rfl) ?_
    refine lv_iload hx hb dX4_pass_71 (lv_at hl 5 rfl) ?_
    obtain ⟨h_9, hv⟩ := hv
    refine q_iast C hW hS 11 rfl h_9 dX4_pass_73 (fun H locs hW hS => ?_)
    have hW : wo G A (wd_X4_10 G b bc people taped waiting z kind em tmost tsize tsteps tstack gmost gsize gsteps gstack c_day (upd c_near x3.toNatClampNeg x4) (upd c_shows x3.toNatClampNeg x5)) H := hW
    refine lv_iinc (v := (x3 + 1)) (lv' := [(3, .int (x3 + 1)), (2, .int (t0 ||| t1)), (0, .ref (b 0)), (1, .ref (bc 0)), (4, .int x4), (5, .int x5)]) hx hb dX4_pass_74 hl (k := 3) rfl rfl (by decide) rfl (fun ls hl => ?_)
    refine lv_goto (tgt := 4) hx hb dX4_pass_77 (by decide) ?_
    exact hB4 (t0 ||| t1) (x3 + 1) tstack gstack c_day (upd c_near x3.toNatClampNeg x4) (upd c_shows x3.toNatClampNeg x5) H locs ls (bl_or hz_t0 hz_t1) hW hS (lv_sub hl [2, 3, 1, 0] rfl) hv
  have h_j_X4_pass_51 : ∀ (B4 : Int32 → Int32 → (Nat → Int32) → (Nat → Int32) → Int32 → (Nat → Int32) → (Nat → Int32) → Prop) (hB4 : ∀ (x2 : Int32) (x3 : Int32) (tstack : Nat → Int32) (gstack : Nat → Int32) (c_day : Int32) (c_near : Nat → Int32) (c_shows : Nat → Int32) (H : Heap) (locs : List Loc) (ls : Array Slot), x2 = 0 ∨ x2 = 1 → wo G A (wd_X4_10 G b bc people taped waiting z kind em tmost tsize tsteps tstack gmost gsize gsteps gstack c_day c_near c_shows) H → va_S A s.heap H locs → lv_has ls 6 [(0, .ref (b 0)), (1, .ref (bc 0)), (2, .int x2), (3, .int x3)] → B4 x2 x3 tstack gstack c_day c_near c_shows → W p l e (rmm 4 97) s m args below meth c H locs 0 0 Q (F0 m 4 ls [])), ∀ (x3 : Int32) (x4 : Int32) (x5 : Int32) (t0 : Int32) (tstack : Nat → Int32) (gstack : Nat → Int32) (c_day : Int32) (c_near : Nat → Int32) (c_shows : Nat → Int32) (H : Heap) (locs : List Loc) (ls : Array Slot), t0 = 0 ∨ t0 = 1 → wo G A (wd_X4_10 G b bc people taped waiting z kind em tmost tsize tsteps tstack gmost gsize gsteps gstack c_day c_near c_shows) H → va_S A s.heap H locs → lv_has ls 6 [(0, .ref (b 0)), (1, .ref (bc 0)), (3, .int x3), (4, .int x4), (5, .int x5)] → j_X4_pass_51 people kind em tmost tsize tsteps gmost gsize gsteps B4 K x3 x4 x5 t0 tstack gstack c_day c_near c_shows → W p l e (rmm 4 97) s m args below meth c H locs 0 0 Q (F0 m 51 ls [.int t0]) := by
    intro B4 hB4 x3 x4 x5 t0 tstack gstack c_day c_near c_shows H locs ls hz_t0 hW hS hl hv
    refine lv_iconst (v := 1) hx hb dX4_pass_51 kic_1 ?_
    refine lv_goto (tgt := 56) hx hb dX4_pass_52 (by decide) ?_
    exact h_j_X4_pass_56 B4 hB4 x3 x4 x5 t0 (1 : Int32) tstack gstack c_day c_near c_shows H locs ls hz_t0 (Or.inr rfl) hW hS (lv_sub hl [0, 1, 2, 3, 4] rfl) hv
  have h_l_X4_pass_4 : ∀ (n : Nat), ∀ (x2 : Int32) (x3 : Int32) (tstack : Nat → Int32) (gstack : Nat → Int32) (c_day : Int32) (c_near : Nat → Int32) (c_shows : Nat → Int32) (H : Heap) (locs : List Loc) (ls : Array Slot), x2 = 0 ∨ x2 = 1 → wo G A (wd_X4_10 G b bc people taped waiting z kind em tmost tsize tsteps tstack gmost gsize gsteps gstack c_day c_near c_shows) H → va_S A s.heap H locs → lv_has ls 6 [(0, .ref (b 0)), (1, .ref (bc 0)), (2, .int x2), (3, .int x3)] → l_X4_pass_4 people kind em tmost tsize tsteps gmost gsize gsteps K n x2 x3 tstack gstack c_day c_near c_shows → W p l e (rmm 4 97) s m args below meth c H locs 0 0 Q (F0 m 4 ls []) := by
    intro n
    induction n with
    | zero =>
      intro x2 x3 tstack gstack c_day c_near c_shows H locs ls hz_x2 hW hS hl hv
      exact False.elim hv
    | succ n ih =>
      intro x2 x3 tstack gstack c_day c_near c_shows H locs ls hz_x2 hW hS hl hv
      refine lv_iload_n hx hb dX4_pass_4 rfl (lv_at hl 3 rfl) ?_
      refine lv_aload_n hx hb dX4_pass_5 rfl (lv_at hl 0 rfl) ?_
      refine q_get C kc4 hW 0 rfl 0 (by decide) fl_X4_51 rfl rfl dX4_pass_6 ?_
      refine lv_icmp_ge (tgt := 80) hx hb dX4_pass_9 (by decide) (fun c_1 => ?_) (fun c_1 => ?_)
      · replace hv := hv.1 c_1
        refine lv_aload_n hx hb dX4_pass_80 rfl (lv_at hl 1 rfl) ?_
        refine lv_dup hx hb dX4_pass_81 rfl ?_
        refine q_getN C kc3 hW 9 rfl 2 (by decide) nf_X4_107 rfl rfl dX4_pass_82 ?_
        refine lv_iconst (v := 1) hx hb dX4_pass_85 kic_1 ?_
        refine lv_iadd hx hb dX4_pass_86 ?_
        refine q_putN C kc3 hW hS 9 rfl 2 (by decide) nf_X4_107 rfl rfl rfl rfl (Nat.le_of_ble_eq_true rfl) dX4_pass_87 (fun H locs hW hS => ?_)
        have hW : wo G A (wd_X4_10 G b bc people taped waiting z kind em tmost tsize tsteps tstack gmost gsize gsteps gstack (c_day + (1 : Int32)) c_near c_shows) H := hW
        refine lv_iload_n hx hb dX4_pass_90 rfl (lv_at hl 2 rfl) ?_
        exact ret (tstack, gstack, (c_day + (1 : Int32)), c_near, c_shows) x2 H locs ls _ (bl_narrow hz_x2) hW hS ⟨hz_x2, hv⟩ dX4_pass_91
      · replace hv := hv.2 c_1
        refine lv_aload_n hx hb dX4_pass_12 rfl (lv_at hl 0 rfl) ?_
        refine lv_iload_n hx hb dX4_pass_13 rfl (lv_at hl 3 rfl) ?_
        refine lv_aload_n hx hb dX4_pass_14 rfl (lv_at hl 1 rfl) ?_
        refine q_callV (rest := []) (n := 2) C (c_X4_nearAfter l G b bc people taped waiting z kind em tmost tsize tsteps tstack c_day c_near c_shows x3 _ hv) ml_X4_117 kb_X4_nearAfter rfl ⟨⟨rfl, rfl⟩, (Nat.le_of_ble_eq_true rfl), (Nat.le_of_ble_eq_true rfl)⟩ hW hS [0, 1, 2, 3, 4, 5, 9, 10, 11] rfl rfl kc4 (q0 := 0) rfl hl.1 rfl (Nat.le_of_ble_eq_true rfl) dX4_pass_15 ⟨Nat.zero_le _, Nat.zero_le _⟩ (fun r_2 u_3 H locs hv hW hS => ?_)
        obtain ⟨tstack_2, rfl⟩ : ∃ z, z = u_3 := ⟨_, rfl⟩
        try dsimp only at hv
        have hW : wo G A (wd_X4_10 G b bc people taped waiting z kind em tmost tsize tsteps tstack_2 gmost gsize gsteps gstack c_day c_near c_shows) H := hW
        refine lv_istore (lv' := [(4, .int r_2), (0, .ref (b 0)), (1, .ref (bc 0)), (2, .int x2), (3, .int x3)]) hx hb dX4_pass_18 hl (by decide) rfl (fun ls hl => ?_)
        refine lv_aload_n hx hb dX4_pass_20 rfl (lv_at hl 1 rfl) ?_
        refine lv_iload_n hx hb dX4_pass_21 rfl (lv_at hl 4 rfl) ?_
        refine lv_aload_n hx hb dX4_pass_22 rfl (lv_at hl 2 rfl) ?_
        refine q_callV (rest := []) (n := 2) C (c_X4_signOf l G b bc people taped waiting z kind gmost gsize gsteps gstack c_day c_near c_shows x3 _ hv) ml_X4_121 kb_X4_signOf rfl ⟨⟨rfl, rfl⟩, (Nat.le_of_ble_eq_true rfl), (Nat.le_of_ble_eq_true rfl)⟩ hW hS [0, 1, 6, 7, 8, 9, 10, 11] rfl rfl kc4 (q0 := 0) rfl hl.1 rfl (Nat.le_of_ble_eq_true rfl) dX4_pass_23 ⟨Nat.zero_le _, Nat.zero_le _⟩ (fun r_4 u_5 H locs hv hW hS => ?_)
        obtain ⟨gstack_4, rfl⟩ : ∃ z, z = u_5 := ⟨_, rfl⟩
        try dsimp only at hv
        have hW : wo G A (wd_X4_10 G b bc people taped waiting z kind em tmost tsize tsteps tstack_2 gmost gsize gsteps gstack_4 c_day c_near c_shows) H := hW
        refine lv_istore (lv' := [(5, .int r_4), (4, .int r_2), (0, .ref (b 0)), (1, .ref (bc 0)), (2, .int x2), (3, .int x3)]) hx hb dX4_pass_26 hl (by decide) rfl (fun ls hl => ?_)
        refine lv_iload_n hx hb dX4_pass_28 rfl (lv_at hl 4 rfl) ?_
        refine lv_iload hx hb dX4_pass_29 (lv_at hl 1 rfl) ?_
        refine lv_aload_n hx hb dX4_pass_31 rfl (lv_at hl 3 rfl) ?_
        refine q_getN C kc3 hW 9 rfl 0 (by decide) nf_X4_79 rfl rfl dX4_pass_32 ?_
        refine lv_iload_n hx hb dX4_pass_35 rfl (lv_at hl 5 rfl) ?_
        obtain ⟨h_6, hv⟩ := hv
        refine q_iald C hW 10 rfl h_6 dX4_pass_36 ?_
        refine lv_icmp_ne (tgt := 51) hx hb dX4_pass_37 (by decide) (fun c_7 => ?_) (fun c_7 => ?_)
        · replace hv := hv.1 c_7
          exact h_j_X4_pass_51 (fun x2' x3' tstack' gstack' c_day' c_near' c_shows' => l_X4_pass_4 people kind em tmost tsize tsteps gmost gsize gsteps K n x2' x3' tstack' gstack' c_day' c_near' c_shows') ih x3 r_2 r_4 x2 tstack_2 gstack_4 c_day c_near c_shows H locs ls hz_x2 hW hS (lv_sub hl [2, 3, 5, 1, 0] rfl) hv
        · replace hv := hv.2 c_7
          refine lv_iload hx hb dX4_pass_40 (lv_at hl 0 rfl) ?_
          refine lv_aload_n hx hb dX4_pass_42 rfl (lv_at hl 3 rfl) ?_
          refine q_getN C kc3 hW 9 rfl 1 (by decide) nf_X4_82 rfl rfl dX4_pass_43 ?_
          refine lv_iload_n hx hb dX4_pass_46 rfl (lv_at hl 5 rfl) ?_
          obtain ⟨h_10, hv⟩ := hv
          refine q_iald C hW 11 rfl h_10 dX4_pass_47 ?_
          refine lv_icmp_eq (tgt := 55) hx hb dX4_pass_48 (by decide) (fun c_11 => ?_) (fun c_11 => ?_)
          · replace hv := hv.1 c_11
            refine lv_iconst (v := 0) hx hb dX4_pass_55 kic_0 ?_
            exact h_j_X4_pass_56 (fun x2' x3' tstack' gstack' c_day' c_near' c_shows' => l_X4_pass_4 people kind em tmost tsize tsteps gmost gsize gsteps K n x2' x3' tstack' gstack' c_day' c_near' c_shows') ih x3 r_2 r_4 x2 (0 : Int32) tstack_2 gstack_4 c_day c_near c_shows H locs ls hz_x2 (Or.inl rfl) hW hS (lv_sub hl [2, 3, 5, 1, 0] rfl) hv
          · replace hv := hv.2 c_11
            exact h_j_X4_pass_51 (fun x2' x3' tstack' gstack' c_day' c_near' c_shows' => l_X4_pass_4 people kind em tmost tsize tsteps gmost gsize gsteps K n x2' x3' tstack' gstack' c_day' c_near' c_shows') ih x3 r_2 r_4 x2 tstack_2 gstack_4 c_day c_near c_shows H locs ls hz_x2 hW hS (lv_sub hl [2, 3, 5, 1, 0] rfl) hv
  refine lv_iconst (v := 0) hx hb dX4_pass_0 kic_0 ?_
  refine lv_istore_n (lv' := [(2, .int (0 : Int32)), (0, .ref (b 0)), (1, .ref (bc 0))]) hx hb dX4_pass_1 rfl hl (by decide) rfl (fun ls hl => ?_)
  refine lv_iconst (v := 0) hx hb dX4_pass_2 kic_0 ?_
  refine lv_istore_n (lv' := [(3, .int (0 : Int32)), (2, .int (0 : Int32)), (0, .ref (b 0)), (1, .ref (bc 0))]) hx hb dX4_pass_3 rfl hl (by decide) rfl (fun ls hl => ?_)
  obtain ⟨n_12, hv⟩ := hv
  exact h_l_X4_pass_4 n_12 (0 : Int32) (0 : Int32) tstack gstack c_day c_near c_shows H locs ls (Or.inl rfl) hW hS (lv_sub hl [2, 3, 1, 0] rfl) hv
set_option maxHeartbeats 4000000 in
set_option maxRecDepth 100000 in
theorem c_X4_nearestIn (l : Launch) (G : Gt) (b : Nat → Nat) (bc : Nat → Nat) (people : Int32) (taped : Int32) (waiting : Int32) (z : Int32) (c_day : Int32) (c_near : Nat → Int32) (K : Int32 → Prop) (hv : v_X4_nearestIn people c_near K) : CI l G yX4_nearestIn (.code yX4_nearestIn cX4_nearestIn 4 (some .int) :: wsG) (rmm 0 0) [.ref (b 0), .ref (bc 0)] (wd_X4_11 G b bc people taped waiting z c_day c_near) (S := Unit) (fun u => wd_X4_11 G b bc people taped waiting z c_day c_near) (fun r u => K r) := by
  refine ci_intro (by decide) rfl (fun _ => rfl) (Nat.le_of_ble_eq_true rfl) ?_
  intro p e s m args below meth c A H ls Q C hW hS hl ret
  have hx := C.1.1
  have hb := C.1.2.1
  generalize hls : ([] : List Loc) = locs at hS ⊢
  have hl : lv_has ls 4 [(0, .ref (b 0)), (1, .ref (bc 0))] := hl
  have h_j_X4_nearestIn_33 : ∀ (B4 : Int32 → Int32 → Prop) (hB4 : ∀ (x2 : Int32) (x3 : Int32) (H : Heap) (locs : List Loc) (ls : Array Slot), wo G A (wd_X4_11 G b bc people taped waiting z c_day c_near) H → va_S A s.heap H locs → lv_has ls 4 [(0, .ref (b 0)), (1, .ref (bc 0)), (2, .int x2), (3, .int x3)] → B4 x2 x3 → W p l e (rmm 0 0) s m args below meth c H locs 0 0 Q (F0 m 4 ls [])), ∀ (x2 : Int32) (x3 : Int32) (H : Heap) (locs : List Loc) (ls : Array Slot), wo G A (wd_X4_11 G b bc people taped waiting z c_day c_near) H → va_S A s.heap H locs → lv_has ls 4 [(0, .ref (b 0)), (1, .ref (bc 0)), (2, .int x2), (3, .int x3)] → j_X4_nearestIn_33 people c_near B4 K x2 x3 → W p l e (rmm 0 0) s m args below meth c H locs 0 0 Q (F0 m 33 ls []) := by
    intro B4 hB4 x2 x3 H locs ls hW hS hl hv
    refine lv_iinc (v := (x3 + 1)) (lv' := [(3, .int (x3 + 1)), (0, .ref (b 0)), (1, .ref (bc 0)), (2, .int x2)]) hx hb dX4_nearestIn_33 hl (k := 3) rfl rfl (by decide) rfl (fun ls hl => ?_)
    refine lv_goto (tgt := 4) hx hb dX4_nearestIn_36 (by decide) ?_
    exact hB4 x2 (x3 + 1) H locs ls hW hS (lv_sub hl [1, 2, 3, 0] rfl) hv
  have h_j_X4_nearestIn_31 : ∀ (B4 : Int32 → Int32 → Prop) (hB4 : ∀ (x2 : Int32) (x3 : Int32) (H : Heap) (locs : List Loc) (ls : Array Slot), wo G A (wd_X4_11 G b bc people taped waiting z c_day c_near) H → va_S A s.heap H locs → lv_has ls 4 [(0, .ref (b 0)), (1, .ref (bc 0)), (2, .int x2), (3, .int x3)] → B4 x2 x3 → W p l e (rmm 0 0) s m args below meth c H locs 0 0 Q (F0 m 4 ls [])), ∀ (x3 : Int32) (H : Heap) (locs : List Loc) (ls : Array Slot), wo G A (wd_X4_11 G b bc people taped waiting z c_day c_near) H → va_S A s.heap H locs → lv_has ls 4 [(0, .ref (b 0)), (1, .ref (bc 0)), (3, .int x3)] → j_X4_nearestIn_31 people c_near B4 K x3 → W p l e (rmm 0 0) s m args below meth c H locs 0 0 Q (F0 m 31 ls []) := by
    intro B4 hB4 x3 H locs ls hW hS hl hv
    refine lv_iload_n hx hb dX4_nearestIn_31 rfl (lv_at hl 2 rfl) ?_
    refine lv_istore_n (lv' := [(2, .int x3), (0, .ref (b 0)), (1, .ref (bc 0)), (3, .int x3)]) hx hb dX4_nearestIn_32 rfl hl (by decide) rfl (fun ls hl => ?_)
    exact h_j_X4_nearestIn_33 B4 hB4 x3 x3 H locs ls hW hS (lv_sub hl [1, 2, 0, 3] rfl) hv
  have h_l_X4_nearestIn_4 : ∀ (n : Nat), ∀ (x2 : Int32) (x3 : Int32) (H : Heap) (locs : List Loc) (ls : Array Slot), wo G A (wd_X4_11 G b bc people taped waiting z c_day c_near) H → va_S A s.heap H locs → lv_has ls 4 [(0, .ref (b 0)), (1, .ref (bc 0)), (2, .int x2), (3, .int x3)] → l_X4_nearestIn_4 people c_near K n x2 x3 → W p l e (rmm 0 0) s m args below meth c H locs 0 0 Q (F0 m 4 ls []) := by
    intro n
    induction n with
    | zero =>
      intro x2 x3 H locs ls hW hS hl hv
      exact False.elim hv
    | succ n ih =>
      intro x2 x3 H locs ls hW hS hl hv
      refine lv_iload_n hx hb dX4_nearestIn_4 rfl (lv_at hl 3 rfl) ?_
      refine lv_aload_n hx hb dX4_nearestIn_5 rfl (lv_at hl 0 rfl) ?_
      refine q_get C kc4 hW 0 rfl 0 (by decide) fl_X4_51 rfl rfl dX4_nearestIn_6 ?_
      refine lv_icmp_ge (tgt := 39) hx hb dX4_nearestIn_9 (by decide) (fun c_1 => ?_) (fun c_1 => ?_)
      · replace hv := hv.1 c_1
        refine lv_iload_n hx hb dX4_nearestIn_39 rfl (lv_at hl 2 rfl) ?_
        exact ret () x2 H locs ls _ rfl hW hS hv dX4_nearestIn_40
      · replace hv := hv.2 c_1
        refine lv_iload_n hx hb dX4_nearestIn_12 rfl (lv_at hl 2 rfl) ?_
        refine lv_if_lt (tgt := 31) hx hb dX4_nearestIn_13 (by decide) (fun c_2 => ?_) (fun c_2 => ?_)
        · replace hv := hv.1 c_2
          exact h_j_X4_nearestIn_31 (fun x2' x3' => l_X4_nearestIn_4 people c_near K n x2' x3') ih x3 H locs ls hW hS (lv_sub hl [0, 1, 3] rfl) hv
        · replace hv := hv.2 c_2
          refine lv_aload_n hx hb dX4_nearestIn_16 rfl (lv_at hl 1 rfl) ?_
          refine q_getN C kc3 hW 1 rfl 0 (by decide) nf_X4_79 rfl rfl dX4_nearestIn_17 ?_
          refine lv_iload_n hx hb dX4_nearestIn_20 rfl (lv_at hl 3 rfl) ?_
          obtain ⟨h_3, hv⟩ := hv
          refine q_iald C hW 2 rfl h_3 dX4_nearestIn_21 ?_
          refine lv_aload_n hx hb dX4_nearestIn_22 rfl (lv_at hl 1 rfl) ?_
          refine q_getN C kc3 hW 1 rfl 0 (by decide) nf_X4_79 rfl rfl dX4_nearestIn_23 ?_
          refine lv_iload_n hx hb dX4_nearestIn_26 rfl (lv_at hl 2 rfl) ?_
          obtain ⟨h_4, hv⟩ := hv
          refine q_iald C hW 2 rfl h_4 dX4_nearestIn_27 ?_
          refine lv_icmp_le (tgt := 33) hx hb dX4_nearestIn_28 (by decide) (fun c_5 => ?_) (fun c_5 => ?_)
          · replace hv := hv.1 c_5
            exact h_j_X4_nearestIn_33 (fun x2' x3' => l_X4_nearestIn_4 people c_near K n x2' x3') ih x2 x3 H locs ls hW hS (lv_sub hl [0, 1, 2, 3] rfl) hv
          · replace hv := hv.2 c_5
            exact h_j_X4_nearestIn_31 (fun x2' x3' => l_X4_nearestIn_4 people c_near K n x2' x3') ih x3 H locs ls hW hS (lv_sub hl [0, 1, 3] rfl) hv
  refine lv_iconst (v := (-1)) hx hb dX4_nearestIn_0 kic_m1 ?_
  refine lv_istore_n (lv' := [(2, .int (-1 : Int32)), (0, .ref (b 0)), (1, .ref (bc 0))]) hx hb dX4_nearestIn_1 rfl hl (by decide) rfl (fun ls hl => ?_)
  refine lv_iconst (v := 0) hx hb dX4_nearestIn_2 kic_0 ?_
  refine lv_istore_n (lv' := [(3, .int (0 : Int32)), (2, .int (-1 : Int32)), (0, .ref (b 0)), (1, .ref (bc 0))]) hx hb dX4_nearestIn_3 rfl hl (by decide) rfl (fun ls hl => ?_)
  obtain ⟨n_6, hv⟩ := hv
  exact h_l_X4_nearestIn_4 n_6 (-1 : Int32) (0 : Int32) H locs ls hW hS (lv_sub hl [2, 3, 1, 0] rfl) hv
set_option maxHeartbeats 4000000 in
set_option maxRecDepth 100000 in
theorem c_X4_countNearer (l : Launch) (G : Gt) (b : Nat → Nat) (people : Int32) (taped : Int32) (waiting : Int32) (z : Int32) (day : Int32) (near : Nat → Int32) (p1 : Int32) (K : Int32 → Prop) (hv : v_X4_countNearer p1 people near K) : CI l G yX4_countNearer (.code yX4_countNearer cX4_countNearer 4 (some .int) :: wsG) (rmm 0 0) [.ref (b 0), .int p1] (wd_X4_12 G b people taped waiting z day near) (S := Unit) (fun u => wd_X4_12 G b people taped waiting z day near) (fun r u => K r) := by
  refine ci_intro (by decide) rfl (fun _ => rfl) (Nat.le_of_ble_eq_true rfl) ?_
  intro p e s m args below meth c A H ls Q C hW hS hl ret
  have hx := C.1.1
  have hb := C.1.2.1
  generalize hls : ([] : List Loc) = locs at hS ⊢
  have hl : lv_has ls 4 [(0, .ref (b 0)), (1, .int p1)] := hl
  have h_j_X4_countNearer_36 : ∀ (B4 : Int32 → Int32 → Prop) (hB4 : ∀ (x2 : Int32) (x3 : Int32) (H : Heap) (locs : List Loc) (ls : Array Slot), wo G A (wd_X4_12 G b people taped waiting z day near) H → va_S A s.heap H locs → lv_has ls 4 [(0, .ref (b 0)), (1, .int p1), (2, .int x2), (3, .int x3)] → B4 x2 x3 → W p l e (rmm 0 0) s m args below meth c H locs 0 0 Q (F0 m 4 ls [])), ∀ (x2 : Int32) (x3 : Int32) (H : Heap) (locs : List Loc) (ls : Array Slot), wo G A (wd_X4_12 G b people taped waiting z day near) H → va_S A s.heap H locs → lv_has ls 4 [(0, .ref (b 0)), (1, .int p1), (2, .int x2), (3, .int x3)] → j_X4_countNearer_36 p1 people near B4 K x2 x3 → W p l e (rmm 0 0) s m args below meth c H locs 0 0 Q (F0 m 36 ls []) := by
    intro B4 hB4 x2 x3 H locs ls hW hS hl hv
    refine lv_iinc (v := (x3 + 1)) (lv' := [(3, .int (x3 + 1)), (0, .ref (b 0)), (1, .int p1), (2, .int x2)]) hx hb dX4_countNearer_36 hl (k := 3) rfl rfl (by decide) rfl (fun ls hl => ?_)
    refine lv_goto (tgt := 4) hx hb dX4_countNearer_39 (by decide) ?_
    exact hB4 x2 (x3 + 1) H locs ls hW hS (lv_sub hl [1, 2, 3, 0] rfl) hv
  have h_l_X4_countNearer_4 : ∀ (n : Nat), ∀ (x2 : Int32) (x3 : Int32) (H : Heap) (locs : List Loc) (ls : Array Slot), wo G A (wd_X4_12 G b people taped waiting z day near) H → va_S A s.heap H locs → lv_has ls 4 [(0, .ref (b 0)), (1, .int p1), (2, .int x2), (3, .int x3)] → l_X4_countNearer_4 p1 people near K n x2 x3 → W p l e (rmm 0 0) s m args below meth c H locs 0 0 Q (F0 m 4 ls []) := by
    intro n
    induction n with
    | zero =>
      intro x2 x3 H locs ls hW hS hl hv
      exact False.elim hv
    | succ n ih =>
      intro x2 x3 H locs ls hW hS hl hv
      refine lv_iload_n hx hb dX4_countNearer_4 rfl (lv_at hl 3 rfl) ?_
      refine lv_aload_n hx hb dX4_countNearer_5 rfl (lv_at hl 0 rfl) ?_
      refine q_get C kc4 hW 0 rfl 0 (by decide) fl_X4_51 rfl rfl dX4_countNearer_6 ?_
      refine lv_icmp_ge (tgt := 42) hx hb dX4_countNearer_9 (by decide) (fun c_1 => ?_) (fun c_1 => ?_)
      · replace hv := hv.1 c_1
        refine lv_iload_n hx hb dX4_countNearer_42 rfl (lv_at hl 2 rfl) ?_
        exact ret () x2 H locs ls _ rfl hW hS hv dX4_countNearer_43
      · replace hv := hv.2 c_1
        refine lv_aload_n hx hb dX4_countNearer_12 rfl (lv_at hl 0 rfl) ?_
        refine q_get C kc4 hW 0 rfl 4 (by decide) fl_X4_24 rfl rfl dX4_countNearer_13 ?_
        refine q_getN C kc3 hW 1 rfl 0 (by decide) nf_X4_79 rfl rfl dX4_countNearer_16 ?_
        refine lv_iload_n hx hb dX4_countNearer_19 rfl (lv_at hl 3 rfl) ?_
        obtain ⟨h_2, hv⟩ := hv
        refine q_iald C hW 2 rfl h_2 dX4_countNearer_20 ?_
        refine lv_aload_n hx hb dX4_countNearer_21 rfl (lv_at hl 0 rfl) ?_
        refine q_get C kc4 hW 0 rfl 4 (by decide) fl_X4_24 rfl rfl dX4_countNearer_22 ?_
        refine q_getN C kc3 hW 1 rfl 0 (by decide) nf_X4_79 rfl rfl dX4_countNearer_25 ?_
        refine lv_iload_n hx hb dX4_countNearer_28 rfl (lv_at hl 1 rfl) ?_
        obtain ⟨h_3, hv⟩ := hv
        refine q_iald C hW 2 rfl h_3 dX4_countNearer_29 ?_
        refine lv_icmp_le (tgt := 36) hx hb dX4_countNearer_30 (by decide) (fun c_4 => ?_) (fun c_4 => ?_)
        · replace hv := hv.1 c_4
          exact h_j_X4_countNearer_36 (fun x2' x3' => l_X4_countNearer_4 p1 people near K n x2' x3') ih x2 x3 H locs ls hW hS (lv_sub hl [0, 1, 2, 3] rfl) hv
        · replace hv := hv.2 c_4
          refine lv_iinc (v := (x2 + 1)) (lv' := [(2, .int (x2 + 1)), (0, .ref (b 0)), (1, .int p1), (3, .int x3)]) hx hb dX4_countNearer_33 hl (k := 2) rfl rfl (by decide) rfl (fun ls hl => ?_)
          exact h_j_X4_countNearer_36 (fun x2' x3' => l_X4_countNearer_4 p1 people near K n x2' x3') ih (x2 + 1) x3 H locs ls hW hS (lv_sub hl [1, 2, 0, 3] rfl) hv
  refine lv_iconst (v := 0) hx hb dX4_countNearer_0 kic_0 ?_
  refine lv_istore_n (lv' := [(2, .int (0 : Int32)), (0, .ref (b 0)), (1, .int p1)]) hx hb dX4_countNearer_1 rfl hl (by decide) rfl (fun ls hl => ?_)
  refine lv_iconst (v := 0) hx hb dX4_countNearer_2 kic_0 ?_
  refine lv_istore_n (lv' := [(3, .int (0 : Int32)), (2, .int (0 : Int32)), (0, .ref (b 0)), (1, .int p1)]) hx hb dX4_countNearer_3 rfl hl (by decide) rfl (fun ls hl => ?_)
  obtain ⟨n_5, hv⟩ := hv
  exact h_l_X4_countNearer_4 n_5 (0 : Int32) (0 : Int32) H locs ls hW hS (lv_sub hl [2, 3, 1, 0] rfl) hv
set_option maxHeartbeats 4000000 in
set_option maxRecDepth 100000 in
theorem c_X4_countTakenNearer (l : Launch) (G : Gt) (b : Nat → Nat) (people : Int32) (taped : Int32) (waiting : Int32) (z : Int32) (kind : Nat → Int32) (em : Nat → Int32) (day : Int32) (near : Nat → Int32) (shows : Nat → Int32) (tmost : Int32) (tsize : Int32) (tsteps : Nat → Int32) (tstack : Nat → Int32) (p1 : Int32) (K : Int32 → (Nat → Int32) → Prop) (hv : v_X4_countTakenNearer p1 people kind em day near shows tmost tsize tsteps tstack K) : CI l G yX4_countTakenNearer (.code yX4_countTakenNearer cX4_countTakenNearer 4 (some .int) :: wsG) (rmm 3 73) [.ref (b 0), .int p1] (wd_X4_13 G b people taped waiting z kind em day near shows tmost tsize tsteps tstack) (S := (Nat → Int32)) (fun u => wd_X4_13 G b people taped waiting z kind em day near shows tmost tsize tsteps u) (fun r u => K r u) := by
  refine ci_intro (by decide) rfl (fun _ => rfl) (Nat.le_of_ble_eq_true rfl) ?_
  intro p e s m args below meth c A H ls Q C hW hS hl ret
  have hx := C.1.1
  have hb := C.1.2.1
  generalize hls : ([] : List Loc) = locs at hS ⊢
  have hl : lv_has ls 4 [(0, .ref (b 0)), (1, .int p1)] := hl
  have h_j_X4_countTakenNearer_62 : ∀ (B4 : Int32 → Int32 → (Nat → Int32) → Prop) (hB4 : ∀ (x2 : Int32) (x3 : Int32) (tstack : Nat → Int32) (H : Heap) (locs : List Loc) (ls : Array Slot), wo G A (wd_X4_13 G b people taped waiting z kind em day near shows tmost tsize tsteps tstack) H → va_S A s.heap H locs → lv_has ls 4 [(0, .ref (b 0)), (1, .int p1), (2, .int x2), (3, .int x3)] → B4 x2 x3 tstack → W p l e (rmm 3 73) s m args below meth c H locs 0 0 Q (F0 m 4 ls [])), ∀ (x2 : Int32) (x3 : Int32) (tstack : Nat → Int32) (H : Heap) (locs : List Loc) (ls : Array Slot), wo G A (wd_X4_13 G b people taped waiting z kind em day near shows tmost tsize tsteps tstack) H → va_S A s.heap H locs → lv_has ls 4 [(0, .ref (b 0)), (1, .int p1), (2, .int x2), (3, .int x3)] → j_X4_countTakenNearer_62 p1 people kind em day near shows tmost tsize tsteps B4 K x2 x3 tstack → W p l e (rmm 3 73) s m args below meth c H locs 0 0 Q (F0 m 62 ls []) := by
    intro B4 hB4 x2 x3 tstack H locs ls hW hS hl hv
    refine lv_iinc (v := (x3 + 1)) (lv' := [(3, .int (x3 + 1)), (0, .ref (b 0)), (1, .int p1), (2, .int x2)]) hx hb dX4_countTakenNearer_62 hl (k := 3) rfl rfl (by decide) rfl (fun ls hl => ?_)
    refine lv_goto (tgt := 4) hx hb dX4_countTakenNearer_65 (by decide) ?_
    exact hB4 x2 (x3 + 1) tstack H locs ls hW hS (lv_sub hl [1, 2, 3, 0] rfl) hv
  have h_l_X4_countTakenNearer_4 : ∀ (n : Nat), ∀ (x2 : Int32) (x3 : Int32) (tstack : Nat → Int32) (H : Heap) (locs : List Loc) (ls : Array Slot), wo G A (wd_X4_13 G b people taped waiting z kind em day near shows tmost tsize tsteps tstack) H → va_S A s.heap H locs → lv_has ls 4 [(0, .ref (b 0)), (1, .int p1), (2, .int x2), (3, .int x3)] → l_X4_countTakenNearer_4 p1 people kind em day near shows tmost tsize tsteps K n x2 x3 tstack → W p l e (rmm 3 73) s m args below meth c H locs 0 0 Q (F0 m 4 ls []) := by
    intro n
    induction n with
    | zero =>
      intro x2 x3 tstack H locs ls hW hS hl hv
      exact False.elim hv
    | succ n ih =>
      intro x2 x3 tstack H locs ls hW hS hl hv
      refine lv_iload_n hx hb dX4_countTakenNearer_4 rfl (lv_at hl 3 rfl) ?_
      refine lv_aload_n hx hb dX4_countTakenNearer_5 rfl (lv_at hl 0 rfl) ?_
      refine q_get C kc4 hW 0 rfl 0 (by decide) fl_X4_51 rfl rfl dX4_countTakenNearer_6 ?_
      refine lv_icmp_ge (tgt := 68) hx hb dX4_countTakenNearer_9 (by decide) (fun c_1 => ?_) (fun c_1 => ?_)
      · replace hv := hv.1 c_1
        refine lv_iload_n hx hb dX4_countTakenNearer_68 rfl (lv_at hl 2 rfl) ?_
        exact ret (tstack) x2 H locs ls _ rfl hW hS hv dX4_countTakenNearer_69
      · replace hv := hv.2 c_1
        refine lv_iload_n hx hb dX4_countTakenNearer_12 rfl (lv_at hl 3 rfl) ?_
        refine lv_iload_n hx hb dX4_countTakenNearer_13 rfl (lv_at hl 1 rfl) ?_
        refine lv_icmp_eq (tgt := 62) hx hb dX4_countTakenNearer_14 (by decide) (fun c_2 => ?_) (fun c_2 => ?_)
        · replace hv := hv.1 c_2
          exact h_j_X4_countTakenNearer_62 (fun x2' x3' tstack' => l_X4_countTakenNearer_4 p1 people kind em day near shows tmost tsize tsteps K n x2' x3' tstack') ih x2 x3 tstack H locs ls hW hS (lv_sub hl [0, 1, 2, 3] rfl) hv
        · replace hv := hv.2 c_2
          refine lv_aload_n hx hb dX4_countTakenNearer_17 rfl (lv_at hl 0 rfl) ?_
          refine lv_iload_n hx hb dX4_countTakenNearer_18 rfl (lv_at hl 3 rfl) ?_
          refine lv_aload_n hx hb dX4_countTakenNearer_19 rfl (lv_at hl 0 rfl) ?_
          refine q_get C kc4 hW 0 rfl 4 (by decide) fl_X4_24 rfl rfl dX4_countTakenNearer_20 ?_
          refine q_getN C kc3 hW 3 rfl 0 (by decide) nf_X4_79 rfl rfl dX4_countTakenNearer_23 ?_
          refine lv_iload_n hx hb dX4_countTakenNearer_26 rfl (lv_at hl 1 rfl) ?_
          obtain ⟨h_3, hv⟩ := hv
          refine q_iald C hW 4 rfl h_3 dX4_countTakenNearer_27 ?_
          refine lv_aload_n hx hb dX4_countTakenNearer_28 rfl (lv_at hl 0 rfl) ?_
          refine q_get C kc4 hW 0 rfl 4 (by decide) fl_X4_24 rfl rfl dX4_countTakenNearer_29 ?_
          refine q_getN C kc3 hW 3 rfl 1 (by decide) nf_X4_82 rfl rfl dX4_countTakenNearer_32 ?_
          refine lv_iload_n hx hb dX4_countTakenNearer_35 rfl (lv_at hl 1 rfl) ?_
          obtain ⟨h_4, hv⟩ := hv
          refine q_iald C hW 5 rfl h_4 dX4_countTakenNearer_36 ?_
          refine lv_aload_n hx hb dX4_countTakenNearer_37 rfl (lv_at hl 0 rfl) ?_
          refine q_get C kc4 hW 0 rfl 4 (by decide) fl_X4_24 rfl rfl dX4_countTakenNearer_38 ?_
          refine q_getN C kc3 hW 3 rfl 2 (by decide) nf_X4_107 rfl rfl dX4_countTakenNearer_41 ?_
          refine q_callV (rest := []) (n := 4) C (c_X4_takenBy l G b people taped waiting z kind em tmost tsize tsteps tstack x3 (near p1.toNatClampNeg) (shows p1.toNatClampNeg) day _ hv) ml_X4_114 kb_X4_takenBy rfl ⟨⟨rfl, rfl⟩, (Nat.le_of_ble_eq_true rfl), (Nat.le_of_ble_eq_true rfl)⟩ hW hS [0, 1, 2, 6, 7, 8] rfl rfl kc4 (q0 := 0) rfl hl.1 rfl (Nat.le_of_ble_eq_true rfl) dX4_countTakenNearer_44 ⟨Nat.zero_le _, Nat.zero_le _⟩ (fun r_5 u_6 H locs hv hW hS => ?_)
          obtain ⟨tstack_5, rfl⟩ : ∃ z, z = u_6 := ⟨_, rfl⟩
          try dsimp only at hv
          have hW : wo G A (wd_X4_13 G b people taped waiting z kind em day near shows tmost tsize tsteps tstack_5) H := hW
          refine lv_aload_n hx hb dX4_countTakenNearer_47 rfl (lv_at hl 0 rfl) ?_
          refine q_get C kc4 hW 0 rfl 4 (by decide) fl_X4_24 rfl rfl dX4_countTakenNearer_48 ?_
          refine q_getN C kc3 hW 3 rfl 0 (by decide) nf_X4_79 rfl rfl dX4_countTakenNearer_51 ?_
          refine lv_iload_n hx hb dX4_countTakenNearer_54 rfl (lv_at hl 1 rfl) ?_
          obtain ⟨h_7, hv⟩ := hv
          refine q_iald C hW 4 rfl h_7 dX4_countTakenNearer_55 ?_
          refine lv_icmp_le (tgt := 62) hx hb dX4_countTakenNearer_56 (by decide) (fun c_8 => ?_) (fun c_8 => ?_)
          · replace hv := hv.1 c_8
            exact h_j_X4_countTakenNearer_62 (fun x2' x3' tstack' => l_X4_countTakenNearer_4 p1 people kind em day near shows tmost tsize tsteps K n x2' x3' tstack') ih x2 x3 tstack_5 H locs ls hW hS (lv_sub hl [0, 1, 2, 3] rfl) hv
          · replace hv := hv.2 c_8
            refine lv_iinc (v := (x2 + 1)) (lv' := [(2, .int (x2 + 1)), (0, .ref (b 0)), (1, .int p1), (3, .int x3)]) hx hb dX4_countTakenNearer_59 hl (k := 2) rfl rfl (by decide) rfl (fun ls hl => ?_)
            exact h_j_X4_countTakenNearer_62 (fun x2' x3' tstack' => l_X4_countTakenNearer_4 p1 people kind em day near shows tmost tsize tsteps K n x2' x3' tstack') ih (x2 + 1) x3 tstack_5 H locs ls hW hS (lv_sub hl [1, 2, 0, 3] rfl) hv
  refine lv_iconst (v := 0) hx hb dX4_countTakenNearer_0 kic_0 ?_
  refine lv_istore_n (lv' := [(2, .int (0 : Int32)), (0, .ref (b 0)), (1, .int p1)]) hx hb dX4_countTakenNearer_1 rfl hl (by decide) rfl (fun ls hl => ?_)
  refine lv_iconst (v := 0) hx hb dX4_countTakenNearer_2 kic_0 ?_
  refine lv_istore_n (lv' := [(3, .int (0 : Int32)), (2, .int (0 : Int32)), (0, .ref (b 0)), (1, .int p1)]) hx hb dX4_countTakenNearer_3 rfl hl (by decide) rfl (fun ls hl => ?_)
  obtain ⟨n_9, hv⟩ := hv
  exact h_l_X4_countTakenNearer_4 n_9 (0 : Int32) (0 : Int32) tstack H locs ls hW hS (lv_sub hl [2, 3, 1, 0] rfl) hv
set_option maxHeartbeats 4000000 in
set_option maxRecDepth 100000 in
theorem c_X4_comeToFrom (l : Launch) (G : Gt) (b : Nat → Nat) (people : Int32) (taped : Int32) (waiting : Int32) (z : Int32) (called : Nat → Int32) (p1 : Int32) (K : Int32 → Prop) (hv : v_X4_comeToFrom p1 people called K) : CI l G yX4_comeToFrom (.code yX4_comeToFrom cX4_comeToFrom 5 (some .int) :: wsG) (rmm 0 0) [.ref (b 0), .int p1] (wd_X4_14 G b people taped waiting z called) (S := Unit) (fun u => wd_X4_14 G b people taped waiting z called) (fun r u => K r) := by
  refine ci_intro (by decide) rfl (fun _ => rfl) (Nat.le_of_ble_eq_true rfl) ?_
  intro p e s m args below meth c A H ls Q C hW hS hl ret
  have hx := C.1.1
  have hb := C.1.2.1
  generalize hls : ([] : List Loc) = locs at hS ⊢
  have hl : lv_has ls 5 [(0, .ref (b 0)), (1, .int p1)] := hl
  have h_j_X4_comeToFrom_45 : ∀ (B6 : Int32 → Int32 → Prop) (hB6 : ∀ (x2 : Int32) (x3 : Int32) (H : Heap) (locs : List Loc) (ls : Array Slot), wo G A (wd_X4_14 G b people taped waiting z called) H → va_S A s.heap H locs → lv_has ls 5 [(0, .ref (b 0)), (2, .int x2), (3, .int x3)] → B6 x2 x3 → W p l e (rmm 0 0) s m args below meth c H locs 0 0 Q (F0 m 6 ls [])) (B17 : Int32 → Int32 → Int32 → Prop) (hB17 : ∀ (x2 : Int32) (x3 : Int32) (x4 : Int32) (H : Heap) (locs : List Loc) (ls : Array Slot), wo G A (wd_X4_14 G b people taped waiting z called) H → va_S A s.heap H locs → lv_has ls 5 [(0, .ref (b 0)), (2, .int x2), (3, .int x3), (4, .int x4)] → B17 x2 x3 x4 → W p l e (rmm 0 0) s m args below meth c H locs 0 0 Q (F0 m 17 ls [])), ∀ (x2 : Int32) (x3 : Int32) (x4 : Int32) (H : Heap) (locs : List Loc) (ls : Array Slot), wo G A (wd_X4_14 G b people taped waiting z called) H → va_S A s.heap H locs → lv_has ls 5 [(0, .ref (b 0)), (2, .int x2), (3, .int x3), (4, .int x4)] → j_X4_comeToFrom_45 p1 people called B6 B17 K x2 x3 x4 → W p l e (rmm 0 0) s m args below meth c H locs 0 0 Q (F0 m 45 ls []) := by
    intro B6 hB6 B17 hB17 x2 x3 x4 H locs ls hW hS hl hv
    refine lv_iinc (v := (x4 + 1)) (lv' := [(4, .int (x4 + 1)), (0, .ref (b 0)), (2, .int x2), (3, .int x3)]) hx hb dX4_comeToFrom_45 hl (k := 3) rfl rfl (by decide) rfl (fun ls hl => ?_)
    refine lv_goto (tgt := 17) hx hb dX4_comeToFrom_48 (by decide) ?_
    exact hB17 x2 x3 (x4 + 1) H locs ls hW hS (lv_sub hl [1, 2, 3, 0] rfl) hv
  have h_l_X4_comeToFrom_17 : ∀ (B6 : Int32 → Int32 → Prop) (hB6 : ∀ (x2 : Int32) (x3 : Int32) (H : Heap) (locs : List Loc) (ls : Array Slot), wo G A (wd_X4_14 G b people taped waiting z called) H → va_S A s.heap H locs → lv_has ls 5 [(0, .ref (b 0)), (2, .int x2), (3, .int x3)] → B6 x2 x3 → W p l e (rmm 0 0) s m args below meth c H locs 0 0 Q (F0 m 6 ls [])) (n : Nat), ∀ (x2 : Int32) (x3 : Int32) (x4 : Int32) (H : Heap) (locs : List Loc) (ls : Array Slot), wo G A (wd_X4_14 G b people taped waiting z called) H → va_S A s.heap H locs → lv_has ls 5 [(0, .ref (b 0)), (2, .int x2), (3, .int x3), (4, .int x4)] → l_X4_comeToFrom_17 p1 people called B6 K n x2 x3 x4 → W p l e (rmm 0 0) s m args below meth c H locs 0 0 Q (F0 m 17 ls []) := by
    intro B6 hB6 n
    induction n with
    | zero =>
      intro x2 x3 x4 H locs ls hW hS hl hv
      exact False.elim hv
    | succ n ih =>
      intro x2 x3 x4 H locs ls hW hS hl hv
      refine lv_iload hx hb dX4_comeToFrom_17 (lv_at hl 3 rfl) ?_
      refine lv_aload_n hx hb dX4_comeToFrom_19 rfl (lv_at hl 0 rfl) ?_
      refine q_get C kc4 hW 0 rfl 0 (by decide) fl_X4_51 rfl rfl dX4_comeToFrom_20 ?_
      refine lv_icmp_ge (tgt := 51) hx hb dX4_comeToFrom_23 (by decide) (fun c_2 => ?_) (fun c_2 => ?_)
      · replace hv := hv.1 c_2
        refine lv_iinc (v := (x3 + 1)) (lv' := [(3, .int (x3 + 1)), (0, .ref (b 0)), (2, .int x2), (4, .int x4)]) hx hb dX4_comeToFrom_51 hl (k := 2) rfl rfl (by decide) rfl (fun ls hl => ?_)
        refine lv_goto (tgt := 6) hx hb dX4_comeToFrom_54 (by decide) ?_
        exact hB6 x2 (x3 + 1) H locs ls hW hS (lv_sub hl [1, 2, 0] rfl) hv
      · replace hv := hv.2 c_2
        refine lv_iload_n hx hb dX4_comeToFrom_26 rfl (lv_at hl 1 rfl) ?_
        refine lv_iload hx hb dX4_comeToFrom_27 (lv_at hl 3 rfl) ?_
        refine lv_ishr hx hb dX4_comeToFrom_29 ?_
        refine lv_iconst (v := 1) hx hb dX4_comeToFrom_30 kic_1 ?_
        refine lv_iand hx hb dX4_comeToFrom_31 ?_
        refine lv_if_eq (tgt := 45) hx hb dX4_comeToFrom_32 (by decide) (fun c_3 => ?_) (fun c_3 => ?_)
        · replace hv := hv.1 c_3
          exact h_j_X4_comeToFrom_45 B6 hB6 (fun x2' x3' x4' => l_X4_comeToFrom_17 p1 people called B6 K n x2' x3' x4') ih x2 x3 x4 H locs ls hW hS (lv_sub hl [0, 1, 2, 3] rfl) hv
        · replace hv := hv.2 c_3
          refine lv_iload_n hx hb dX4_comeToFrom_35 rfl (lv_at hl 1 rfl) ?_
          refine lv_aload_n hx hb dX4_comeToFrom_36 rfl (lv_at hl 0 rfl) ?_
          refine q_get C kc4 hW 0 rfl 3 (by decide) fl_X4_18 rfl rfl dX4_comeToFrom_37 ?_
          refine lv_iload hx hb dX4_comeToFrom_40 (lv_at hl 3 rfl) ?_
          obtain ⟨h_4, hv⟩ := hv
          refine q_iald C hW 1 rfl h_4 dX4_comeToFrom_42 ?_
          refine lv_ior hx hb dX4_comeToFrom_43 ?_
          refine lv_istore_n (lv' := [(2, .int (x2 ||| (called x4.toNatClampNeg))), (0, .ref (b 0)), (3, .int x3), (4, .int x4)]) hx hb dX4_comeToFrom_44 rfl hl (by decide) rfl (fun ls hl => ?_)
          exact h_j_X4_comeToFrom_45 B6 hB6 (fun x2' x3' x4' => l_X4_comeToFrom_17 p1 people called B6 K n x2' x3' x4') ih (x2 ||| (called x4.toNatClampNeg)) x3 x4 H locs ls hW hS (lv_sub hl [1, 0, 2, 3] rfl) hv
  have h_l_X4_comeToFrom_6 : ∀ (n : Nat), ∀ (x2 : Int32) (x3 : Int32) (H : Heap) (locs : List Loc) (ls : Array Slot), wo G A (wd_X4_14 G b people taped waiting z called) H → va_S A s.heap H locs → lv_has ls 5 [(0, .ref (b 0)), (2, .int x2), (3, .int x3)] → l_X4_comeToFrom_6 p1 people called K n x2 x3 → W p l e (rmm 0 0) s m args below meth c H locs 0 0 Q (F0 m 6 ls []) := by
    intro n
    induction n with
    | zero =>
      intro x2 x3 H locs ls hW hS hl hv
      exact False.elim hv
    | succ n ih =>
      intro x2 x3 H locs ls hW hS hl hv
      refine lv_iload_n hx hb dX4_comeToFrom_6 rfl (lv_at hl 2 rfl) ?_
      refine lv_aload_n hx hb dX4_comeToFrom_7 rfl (lv_at hl 0 rfl) ?_
      refine q_get C kc4 hW 0 rfl 0 (by decide) fl_X4_51 rfl rfl dX4_comeToFrom_8 ?_
      refine lv_icmp_ge (tgt := 57) hx hb dX4_comeToFrom_11 (by decide) (fun c_1 => ?_) (fun c_1 => ?_)
      · replace hv := hv.1 c_1
        refine lv_iload_n hx hb dX4_comeToFrom_57 rfl (lv_at hl 1 rfl) ?_
        exact ret () x2 H locs ls _ rfl hW hS hv dX4_comeToFrom_58
      · replace hv := hv.2 c_1
        refine lv_iconst (v := 0) hx hb dX4_comeToFrom_14 kic_0 ?_
        refine lv_istore (lv' := [(4, .int (0 : Int32)), (0, .ref (b 0)), (2, .int x2), (3, .int x3)]) hx hb dX4_comeToFrom_15 hl (by decide) rfl (fun ls hl => ?_)
        obtain ⟨n_5, hv⟩ := hv
        exact h_l_X4_comeToFrom_17 (fun x2' x3' => l_X4_comeToFrom_6 p1 people called K n x2' x3') ih n_5 x2 x3 (0 : Int32) H locs ls hW hS (lv_sub hl [1, 2, 3, 0] rfl) hv
  refine lv_iconst (v := 1) hx hb dX4_comeToFrom_0 kic_1 ?_
  refine lv_iload_n hx hb dX4_comeToFrom_1 rfl (lv_at hl 1 rfl) ?_
  refine lv_ishl hx hb dX4_comeToFrom_2 ?_
  refine lv_istore_n (lv' := [(2, .int ((1 : Int32) <<< (p1 &&& 31))), (0, .ref (b 0)), (1, .int p1)]) hx hb dX4_comeToFrom_3 rfl hl (by decide) rfl (fun ls hl => ?_)
  refine lv_iconst (v := 0) hx hb dX4_comeToFrom_4 kic_0 ?_
  refine lv_istore_n (lv' := [(3, .int (0 : Int32)), (2, .int ((1 : Int32) <<< (p1 &&& 31))), (0, .ref (b 0)), (1, .int p1)]) hx hb dX4_comeToFrom_5 rfl hl (by decide) rfl (fun ls hl => ?_)
  obtain ⟨n_6, hv⟩ := hv
  exact h_l_X4_comeToFrom_6 n_6 ((1 : Int32) <<< (p1 &&& 31)) (0 : Int32) H locs ls hW hS (lv_sub hl [2, 1, 0] rfl) hv
set_option maxHeartbeats 4000000 in
set_option maxRecDepth 100000 in
theorem c_X6_isWithin (l : Launch) (G : Gt) (p1 : Int32) (p2 : Int32) (K : Int32 → Prop) (hv : v_X6_isWithin p1 p2 K) : CI l G yX6_isWithin (.code yX6_isWithin cX6_isWithin 2 (some .boolean) :: wsG) (rmm 0 0) [.int p1, .int p2] [] (S := Unit) (fun _ => []) (fun r u => (r = 0 ∨ r = 1) ∧ K r) := by
  refine ci_intro (by decide) rfl (fun _ => rfl) (Nat.le_of_ble_eq_true rfl) ?_
  intro p e s m args below meth c A H ls Q C hW hS hl ret
  have hx := C.1.1
  have hb := C.1.2.1
  generalize hls : ([] : List Loc) = locs at hS ⊢
  have hl : lv_has ls 2 [(0, .int p1), (1, .int p2)] := hl
  refine lv_iload_n hx hb dX6_isWithin_0 rfl (lv_at hl 0 rfl) ?_
  refine lv_if_lt (tgt := 13) hx hb dX6_isWithin_1 (by decide) (fun c_1 => ?_) (fun c_1 => ?_)
  · replace hv := hv.1 c_1
    refine lv_iconst (v := 0) hx hb dX6_isWithin_13 kic_0 ?_
    exact ret () (0 : Int32) H locs ls _ (bl_narrow (Or.inl rfl)) hW hS ⟨(Or.inl rfl), hv⟩ dX6_isWithin_14
  · replace hv := hv.2 c_1
    refine lv_iload_n hx hb dX6_isWithin_4 rfl (lv_at hl 0 rfl) ?_
    refine lv_iload_n hx hb dX6_isWithin_5 rfl (lv_at hl 1 rfl) ?_
    refine lv_icmp_gt (tgt := 13) hx hb dX6_isWithin_6 (by decide) (fun c_2 => ?_) (fun c_2 => ?_)
    · replace hv := hv.1 c_2
      refine lv_iconst (v := 0) hx hb dX6_isWithin_13 kic_0 ?_
      exact ret () (0 : Int32) H locs ls _ (bl_narrow (Or.inl rfl)) hW hS ⟨(Or.inl rfl), hv⟩ dX6_isWithin_14
    · replace hv := hv.2 c_2
      refine lv_iconst (v := 1) hx hb dX6_isWithin_9 kic_1 ?_
      refine lv_goto (tgt := 14) hx hb dX6_isWithin_10 (by decide) ?_
      exact ret () (1 : Int32) H locs ls _ (bl_narrow (Or.inr rfl)) hW hS ⟨(Or.inr rfl), hv⟩ dX6_isWithin_14
set_option maxHeartbeats 4000000 in
set_option maxRecDepth 100000 in
theorem c_X5_part (l : Launch) (G : Gt) (b : Nat → Nat) (traced : Int32) (parted : Int32) (yk : Int32) (ykind : Int32) (ym : Int32) (p1 : Int32) (K : Int32 → Int32 → Prop) (hv : v_X5_part p1 parted yk ym K) : CI l G yX5_part (.code yX5_part cX5_part 3 (some .int) :: wsG) (rmm 0 0) [.ref (b 0), .int p1] (wd_X5_0 G b traced parted yk ykind ym) (S := Int32) (fun u => wd_X5_0 G b traced u yk ykind ym) (fun r u => K r u) := by
  refine ci_intro (by decide) rfl (fun _ => rfl) (Nat.le_of_ble_eq_true rfl) ?_
  intro p e s m args below meth c A H ls Q C hW hS hl ret
  have hx := C.1.1
  have hb := C.1.2.1
  generalize hls : ([] : List Loc) = locs at hS ⊢
  have hl : lv_has ls 3 [(0, .ref (b 0)), (1, .int p1)] := hl
  refine lv_aload_n hx hb dX5_part_0 rfl (lv_at hl 0 rfl) ?_
  refine q_get C kc5 hW 0 rfl 5 (by decide) fl_X5_22 rfl rfl dX5_part_1 ?_
  refine lv_aload_n hx hb dX5_part_4 rfl (lv_at hl 0 rfl) ?_
  refine q_get C kc5 hW 0 rfl 3 (by decide) fl_X5_15 rfl rfl dX5_part_5 ?_
  refine lv_isub hx hb dX5_part_8 ?_
  refine lv_istore_n (lv' := [(2, .int (ym - yk)), (0, .ref (b 0)), (1, .int p1)]) hx hb dX5_part_9 rfl hl (by decide) rfl (fun ls hl => ?_)
  refine lv_iload_n hx hb dX5_part_10 rfl (lv_at hl 0 rfl) ?_
  refine lv_if_ne (tgt := 21) hx hb dX5_part_11 (by decide) (fun c_1 => ?_) (fun c_1 => ?_)
  · replace hv := hv.1 c_1
    refine lv_iload_n hx hb dX5_part_21 rfl (lv_at hl 2 rfl) ?_
    refine lv_iload_n hx hb dX5_part_22 rfl (lv_at hl 0 rfl) ?_
    obtain ⟨h_2, hv⟩ := hv
    refine lv_idiv hx hb dX5_part_23 h_2 ?_
    exact ret (parted) (p1 / (ym - yk)) H locs ls _ rfl hW hS hv dX5_part_24
  · replace hv := hv.2 c_1
    refine lv_aload_n hx hb dX5_part_14 rfl (lv_at hl 1 rfl) ?_
    refine lv_iconst (v := 1) hx hb dX5_part_15 kic_1 ?_
    refine q_put C kc5 hW hS 0 rfl 2 (by decide) fl_X5_28 rfl rfl (bl_narrow (Or.inr rfl)) (bl_fits (Or.inr rfl)) (Nat.le_of_ble_eq_true rfl) dX5_part_16 (fun H locs hW hS => ?_)
    have hW : wo G A (wd_X5_0 G b traced (1 : Int32) yk ykind ym) H := hW
    refine lv_iconst (v := 0) hx hb dX5_part_19 kic_0 ?_
    exact ret ((1 : Int32)) (0 : Int32) H locs ls _ rfl hW hS hv dX5_part_20
set_option maxHeartbeats 4000000 in
set_option maxRecDepth 100000 in
theorem c_X5_partAndStir (l : Launch) (f o : Nat) (O_X5_speak : Int32 → Int32 → Int32 → Int32 → Int32 → Int32 → Int32 → Int32 → Int32 → (Nat → Int32) → (Int32 → Int32 → Int32 → (Nat → Int32) → Prop) → Prop) (hO_X5_speak : ∀ (G : Gt) (b : Nat → Nat) (traced : Int32) (parted : Int32) (yk : Int32) (ykind : Int32) (ym : Int32) (trace : Nat → Int32) (p1 : Int32) (p2 : Int32) (p3 : Int32) (p4 : Int32) (K : Int32 → Int32 → Int32 → (Nat → Int32) → Prop), O_X5_speak p1 p2 p3 p4 traced parted yk ykind ym trace K → CI l G yX5_speak (.code yX5_speak cX5_speak 7 (some .int) :: wsG) (rmm f o) [.ref (b 0), .int p1, .int p2, .int p3, .int p4] (wd_X5_1 G b traced parted yk ykind ym trace) (S := Int32 × Int32 × (Nat → Int32)) (fun u => wd_X5_1 G b u.1 u.2.1 yk ykind ym u.2.2) (fun r u => K r u.1 u.2.1 u.2.2)) (G : Gt) (b : Nat → Nat) (traced : Int32) (parted : Int32) (yk : Int32) (ykind : Int32) (ym : Int32) (trace : Nat → Int32) (p1 : Int32) (p2 : Int32) (p3 : Int32) (K : Int32 → Int32 → Int32 → (Nat → Int32) → Prop) (hv : v_X5_partAndStir O_X5_speak p1 p2 p3 traced parted yk ykind ym trace K) : CI l G yX5_partAndStir (.code yX5_partAndStir cX5_partAndStir 5 (some .int) :: wsG) (rmm (f + 1) (o + 26)) [.ref (b 0), .int p1, .int p2, .int p3] (wd_X5_1 G b traced parted yk ykind ym trace) (S := Int32 × Int32 × (Nat → Int32)) (fun u => wd_X5_1 G b u.1 u.2.1 yk ykind ym u.2.2) (fun r u => K r u.1 u.2.1 u.2.2) := by
  refine ci_intro (by decide) rfl (fun _ => rfl) (Nat.le_of_ble_eq_true rfl) ?_
  intro p e s m args below meth c A H ls Q C hW hS hl ret
  have hx := C.1.1
  have hb := C.1.2.1
  generalize hls : ([] : List Loc) = locs at hS ⊢
  have hl : lv_has ls 5 [(0, .ref (b 0)), (1, .int p1), (2, .int p2), (3, .int p3)] := hl
  refine lv_aload_n hx hb dX5_partAndStir_0 rfl (lv_at hl 0 rfl) ?_
  refine lv_iload_n hx hb dX5_partAndStir_1 rfl (lv_at hl 1 rfl) ?_
  refine lv_iconst (v := 3) hx hb dX5_partAndStir_2 kic_3 ?_
  refine lv_iload_n hx hb dX5_partAndStir_3 rfl (lv_at hl 2 rfl) ?_
  refine lv_iload_n hx hb dX5_partAndStir_4 rfl (lv_at hl 3 rfl) ?_
  refine q_callV (rest := []) (n := 4) C (hO_X5_speak G b traced parted yk ykind ym trace p1 (3 : Int32) p2 p3 _ hv) ml_X5_32 kb_X5_speak rfl ⟨⟨rfl, rfl⟩, (by show f + 1 ≤ f + 1; omega), (by show 8 + (7 + 11) + o ≤ o + 26; omega)⟩ hW hS [0, 1] rfl rfl kc5 (q0 := 0) rfl hl.1 rfl (Nat.le_of_ble_eq_true rfl) dX5_partAndStir_5 ⟨Nat.zero_le _, Nat.zero_le _⟩ (fun r_1 u_2 H locs hv hW hS => ?_)
  obtain ⟨traced_1, parted_1, trace_1⟩ := u_2
  try dsimp only at hv
  have hW : wo G A (wd_X5_1 G b traced_1 parted_1 yk ykind ym trace_1) H := hW
  refine lv_istore (lv' := [(4, .int r_1), (0, .ref (b 0)), (1, .int p1), (2, .int p2), (3, .int p3)]) hx hb dX5_partAndStir_8 hl (by decide) rfl (fun ls hl => ?_)
  refine lv_aload_n hx hb dX5_partAndStir_10 rfl (lv_at hl 1 rfl) ?_
  refine q_get C kc5 hW 0 rfl 2 (by decide) fl_X5_28 rfl rfl dX5_partAndStir_11 ?_
  refine lv_if_eq (tgt := 21) hx hb dX5_partAndStir_14 (by decide) (fun c_3 => ?_) (fun c_3 => ?_)
  · replace hv := hv.1 c_3
    refine lv_iload hx hb dX5_partAndStir_21 (lv_at hl 0 rfl) ?_
    refine lv_aload_n hx hb dX5_partAndStir_23 rfl (lv_at hl 1 rfl) ?_
    refine lv_aload_n hx hb dX5_partAndStir_24 rfl (lv_at hl 1 rfl) ?_
    refine q_get C kc5 hW 0 rfl 4 (by decide) fl_X5_19 rfl rfl dX5_partAndStir_25 ?_
    refine lv_iconst (v := 1) hx hb dX5_partAndStir_28 kic_1 ?_
    refine lv_iconst (v := 1) hx hb dX5_partAndStir_29 kic_1 ?_
    refine lv_iload_n hx hb dX5_partAndStir_30 rfl (lv_at hl 4 rfl) ?_
    refine q_callV (rest := [.int r_1]) (n := 4) C (hO_X5_speak G b traced_1 parted_1 yk ykind ym trace_1 ykind (1 : Int32) (1 : Int32) p3 _ hv) ml_X5_32 kb_X5_speak rfl ⟨⟨rfl, rfl⟩, (by show f + 1 ≤ f + 1; omega), (by show 8 + (7 + 11) + o ≤ o + 26; omega)⟩ hW hS [0, 1] rfl rfl kc5 (q0 := 0) rfl hl.1 rfl (Nat.le_of_ble_eq_true rfl) dX5_partAndStir_31 ⟨Nat.zero_le _, Nat.zero_le _⟩ (fun r_4 u_5 H locs hv hW hS => ?_)
    obtain ⟨traced_4, parted_4, trace_4⟩ := u_5
    try dsimp only at hv
    have hW : wo G A (wd_X5_1 G b traced_4 parted_4 yk ykind ym trace_4) H := hW
    refine lv_iadd hx hb dX5_partAndStir_34 ?_
    exact ret (traced_4, parted_4, trace_4) (r_1 + r_4) H locs ls _ rfl hW hS hv dX5_partAndStir_35
  · replace hv := hv.2 c_3
    refine lv_iconst (v := 0) hx hb dX5_partAndStir_17 kic_0 ?_
    refine lv_goto (tgt := 35) hx hb dX5_partAndStir_18 (by decide) ?_
    exact ret (traced_1, parted_1, trace_1) (0 : Int32) H locs ls _ rfl hW hS hv dX5_partAndStir_35
set_option maxHeartbeats 4000000 in
set_option maxRecDepth 100000 in
theorem c_X5_workOut (l : Launch) (f o : Nat) (O_X5_speak : Int32 → Int32 → Int32 → Int32 → Int32 → Int32 → Int32 → Int32 → Int32 → (Nat → Int32) → (Int32 → Int32 → Int32 → (Nat → Int32) → Prop) → Prop) (hO_X5_speak : ∀ (G : Gt) (b : Nat → Nat) (traced : Int32) (parted : Int32) (yk : Int32) (ykind : Int32) (ym : Int32) (trace : Nat → Int32) (p1 : Int32) (p2 : Int32) (p3 : Int32) (p4 : Int32) (K : Int32 → Int32 → Int32 → (Nat → Int32) → Prop), O_X5_speak p1 p2 p3 p4 traced parted yk ykind ym trace K → CI l G yX5_speak (.code yX5_speak cX5_speak 7 (some .int) :: wsG) (rmm f o) [.ref (b 0), .int p1, .int p2, .int p3, .int p4] (wd_X5_1 G b traced parted yk ykind ym trace) (S := Int32 × Int32 × (Nat → Int32)) (fun u => wd_X5_1 G b u.1 u.2.1 yk ykind ym u.2.2) (fun r u => K r u.1 u.2.1 u.2.2)) (G : Gt) (b : Nat → Nat) (traced : Int32) (parted : Int32) (yk : Int32) (ykind : Int32) (ym : Int32) (trace : Nat → Int32) (p1 : Int32) (p2 : Int32) (p3 : Int32) (p4 : Int32) (K : Int32 → Int32 → Int32 → (Nat → Int32) → Prop) (hv : v_X5_workOut O_X5_speak p1 p2 p3 p4 traced parted yk ykind ym trace K) : CI l G yX5_workOut (.code yX5_workOut cX5_workOut 5 (some .int) :: wsG) (rmm (f + 2) (o + 50)) [.ref (b 0), .int p1, .int p2, .int p3, .int p4] (wd_X5_1 G b traced parted yk ykind ym trace) (S := Int32 × Int32 × (Nat → Int32)) (fun u => wd_X5_1 G b u.1 u.2.1 yk ykind ym u.2.2) (fun r u => K r u.1 u.2.1 u.2.2) := by
  refine ci_intro (by decide) rfl (fun _ => rfl) (Nat.le_of_ble_eq_true rfl) ?_
  intro p e s m args below meth c A H ls Q C hW hS hl ret
  have hx := C.1.1
  have hb := C.1.2.1
  generalize hls : ([] : List Loc) = locs at hS ⊢
  have hl : lv_has ls 5 [(0, .ref (b 0)), (1, .int p1), (2, .int p2), (3, .int p3), (4, .int p4)] := hl
  refine lv_iload_n hx hb dX5_workOut_0 rfl (lv_at hl 1 rfl) ?_
  by_cases c_1_0 : p1 = 10
  · replace hv := hv.1 c_1_0
    refine lv_lookup (off := 115) (tgt := 116) hx hb dX5_workOut_1 (by decide) (by rw [c_1_0] <;> rfl) (by decide) ?_
    refine lv_iload_n hx hb dX5_workOut_116 rfl (lv_at hl 3 rfl) ?_
    refine lv_aload_n hx hb dX5_workOut_117 rfl (lv_at hl 0 rfl) ?_
    refine q_get C kc5 hW 0 rfl 3 (by decide) fl_X5_15 rfl rfl dX5_workOut_118 ?_
    refine lv_iadd hx hb dX5_workOut_121 ?_
    exact ret (traced, parted, trace) (p3 + yk) H locs ls _ rfl hW hS hv dX5_workOut_122
  · replace hv := hv.2 c_1_0
    by_cases c_1_1 : p1 = 11
    · replace hv := hv.1 c_1_1
      refine lv_lookup (off := 122) (tgt := 123) hx hb dX5_workOut_1 (by decide) (by rw [c_1_1] <;> rfl) (by decide) ?_
      refine lv_aload_n hx hb dX5_workOut_123 rfl (lv_at hl 0 rfl) ?_
      refine lv_aload_n hx hb dX5_workOut_124 rfl (lv_at hl 0 rfl) ?_
      refine q_get C kc5 hW 0 rfl 4 (by decide) fl_X5_19 rfl rfl dX5_workOut_125 ?_
      refine lv_iconst (v := 0) hx hb dX5_workOut_128 kic_0 ?_
      refine lv_iload_n hx hb dX5_workOut_129 rfl (lv_at hl 3 rfl) ?_
      refine lv_iload hx hb dX5_workOut_130 (lv_at hl 4 rfl) ?_
      refine q_callV (rest := []) (n := 4) C (hO_X5_speak G b traced parted yk ykind ym trace ykind (0 : Int32) p3 p4 _ hv) ml_X5_32 kb_X5_speak rfl ⟨⟨rfl, rfl⟩, (by show f + 1 ≤ f + 2; omega), (by show 8 + (7 + 11) + o ≤ o + 50; omega)⟩ hW hS [0, 1] rfl rfl kc5 (q0 := 0) rfl hl.1 rfl (Nat.le_of_ble_eq_true rfl) dX5_workOut_132 ⟨Nat.zero_le _, Nat.zero_le _⟩ (fun r_2 u_3 H locs hv hW hS => ?_)
      obtain ⟨traced_2, parted_2, trace_2⟩ := u_3
      try dsimp only at hv
      have hW : wo G A (wd_X5_1 G b traced_2 parted_2 yk ykind ym trace_2) H := hW
      refine lv_iconst (v := 2) hx hb dX5_workOut_135 kic_2 ?_
      refine lv_imul hx hb dX5_workOut_136 ?_
      exact ret (traced_2, parted_2, trace_2) (r_2 * (2 : Int32)) H locs ls _ rfl hW hS hv dX5_workOut_137
    · replace hv := hv.2 c_1_1
      by_cases c_1_2 : p1 = 12
      · replace hv := hv.1 c_1_2
        refine lv_lookup (off := 137) (tgt := 138) hx hb dX5_workOut_1 (by decide) (by rw [c_1_2] <;> rfl) (by decide) ?_
        refine lv_aload_n hx hb dX5_workOut_138 rfl (lv_at hl 0 rfl) ?_
        refine lv_aload_n hx hb dX5_workOut_139 rfl (lv_at hl 0 rfl) ?_
        refine q_get C kc5 hW 0 rfl 4 (by decide) fl_X5_19 rfl rfl dX5_workOut_140 ?_
        refine lv_iconst (v := 1) hx hb dX5_workOut_143 kic_1 ?_
        refine lv_iload_n hx hb dX5_workOut_144 rfl (lv_at hl 3 rfl) ?_
        refine lv_iload hx hb dX5_workOut_145 (lv_at hl 4 rfl) ?_
        refine q_callV (rest := []) (n := 4) C (hO_X5_speak G b traced parted yk ykind ym trace ykind (1 : Int32) p3 p4 _ hv) ml_X5_32 kb_X5_speak rfl ⟨⟨rfl, rfl⟩, (by show f + 1 ≤ f + 2; omega), (by show 8 + (7 + 11) + o ≤ o + 50; omega)⟩ hW hS [0, 1] rfl rfl kc5 (q0 := 0) rfl hl.1 rfl (Nat.le_of_ble_eq_true rfl) dX5_workOut_147 ⟨Nat.zero_le _, Nat.zero_le _⟩ (fun r_4 u_5 H locs hv hW hS => ?_)
        obtain ⟨traced_4, parted_4, trace_4⟩ := u_5
        try dsimp only at hv
        have hW : wo G A (wd_X5_1 G b traced_4 parted_4 yk ykind ym trace_4) H := hW
        refine lv_aload_n hx hb dX5_workOut_150 rfl (lv_at hl 0 rfl) ?_
        refine q_get C kc5 hW 0 rfl 5 (by decide) fl_X5_22 rfl rfl dX5_workOut_151 ?_
        refine lv_isub hx hb dX5_workOut_154 ?_
        exact ret (traced_4, parted_4, trace_4) (r_4 - ym) H locs ls _ rfl hW hS hv dX5_workOut_155
      · replace hv := hv.2 c_1_2
        by_cases c_1_3 : p1 = 13
        · replace hv := hv.1 c_1_3
          refine lv_lookup (off := 155) (tgt := 156) hx hb dX5_workOut_1 (by decide) (by rw [c_1_3] <;> rfl) (by decide) ?_
          refine lv_aload_n hx hb dX5_workOut_156 rfl (lv_at hl 0 rfl) ?_
          refine lv_iload_n hx hb dX5_workOut_157 rfl (lv_at hl 3 rfl) ?_
          refine q_callV (rest := []) (n := 1) C (c_X5_part l G b traced parted yk ykind ym p3 _ hv) ml_X5_49 kb_X5_part rfl ⟨⟨rfl, rfl⟩, (by show 0 + 1 ≤ f + 2; omega), (by show 8 + (3 + 11) + 0 ≤ o + 50; omega)⟩ hW hS [0] rfl rfl kc5 (q0 := 0) rfl hl.1 rfl (Nat.le_of_ble_eq_true rfl) dX5_workOut_158 ⟨Nat.zero_le _, Nat.zero_le _⟩ (fun r_6 u_7 H locs hv hW hS => ?_)
          obtain ⟨parted_6, rfl⟩ : ∃ z, z = u_7 := ⟨_, rfl⟩
          try dsimp only at hv
          have hW : wo G A (wd_X5_1 G b traced parted_6 yk ykind ym trace) H := hW
          exact ret (traced, parted_6, trace) r_6 H locs ls _ rfl hW hS hv dX5_workOut_161
        · replace hv := hv.2 c_1_3
          by_cases c_1_4 : p1 = 20
          · replace hv := hv.1 c_1_4
            refine lv_lookup (off := 161) (tgt := 162) hx hb dX5_workOut_1 (by decide) (by rw [c_1_4] <;> rfl) (by decide) ?_
            refine lv_aload_n hx hb dX5_workOut_162 rfl (lv_at hl 0 rfl) ?_
            refine lv_iload_n hx hb dX5_workOut_163 rfl (lv_at hl 2 rfl) ?_
            refine lv_iconst (v := 0) hx hb dX5_workOut_164 kic_0 ?_
            refine lv_iload_n hx hb dX5_workOut_165 rfl (lv_at hl 3 rfl) ?_
            refine lv_iload hx hb dX5_workOut_166 (lv_at hl 4 rfl) ?_
            refine q_callV (rest := []) (n := 4) C (hO_X5_speak G b traced parted yk ykind ym trace p2 (0 : Int32) p3 p4 _ hv) ml_X5_32 kb_X5_speak rfl ⟨⟨rfl, rfl⟩, (by show f + 1 ≤ f + 2; omega), (by show 8 + (7 + 11) + o ≤ o + 50; omega)⟩ hW hS [0, 1] rfl rfl kc5 (q0 := 0) rfl hl.1 rfl (Nat.le_of_ble_eq_true rfl) dX5_workOut_168 ⟨Nat.zero_le _, Nat.zero_le _⟩ (fun r_8 u_9 H locs hv hW hS => ?_)
            obtain ⟨traced_8, parted_8, trace_8⟩ := u_9
            try dsimp only at hv
            have hW : wo G A (wd_X5_1 G b traced_8 parted_8 yk ykind ym trace_8) H := hW
            refine lv_iconst (v := 4) hx hb dX5_workOut_171 kic_4 ?_
            refine lv_isub hx hb dX5_workOut_172 ?_
            exact ret (traced_8, parted_8, trace_8) (r_8 - (4 : Int32)) H locs ls _ rfl hW hS hv dX5_workOut_173
          · replace hv := hv.2 c_1_4
            by_cases c_1_5 : p1 = 21
            · replace hv := hv.1 c_1_5
              refine lv_lookup (off := 173) (tgt := 174) hx hb dX5_workOut_1 (by decide) (by rw [c_1_5] <;> rfl) (by decide) ?_
              refine lv_aload_n hx hb dX5_workOut_174 rfl (lv_at hl 0 rfl) ?_
              refine lv_iload_n hx hb dX5_workOut_175 rfl (lv_at hl 2 rfl) ?_
              refine lv_iload_n hx hb dX5_workOut_176 rfl (lv_at hl 3 rfl) ?_
              refine lv_iload hx hb dX5_workOut_177 (lv_at hl 4 rfl) ?_
              refine q_callV (rest := []) (n := 3) C (c_X5_partAndStir l f o O_X5_speak hO_X5_speak G b traced parted yk ykind ym trace p2 p3 p4 _ hv) ml_X5_53 kb_X5_partAndStir rfl ⟨⟨rfl, rfl⟩, (by show f + 1 + 1 ≤ f + 2; omega), (by show 8 + (5 + 11) + (o + 26) ≤ o + 50; omega)⟩ hW hS [0, 1] rfl rfl kc5 (q0 := 0) rfl hl.1 rfl (Nat.le_of_ble_eq_true rfl) dX5_workOut_179 ⟨Nat.zero_le _, Nat.zero_le _⟩ (fun r_10 u_11 H locs hv hW hS => ?_)
              obtain ⟨traced_10, parted_10, trace_10⟩ := u_11
              try dsimp only at hv
              have hW : wo G A (wd_X5_1 G b traced_10 parted_10 yk ykind ym trace_10) H := hW
              exact ret (traced_10, parted_10, trace_10) r_10 H locs ls _ rfl hW hS hv dX5_workOut_182
            · replace hv := hv.2 c_1_5
              by_cases c_1_6 : p1 = 30
              · replace hv := hv.1 c_1_6
                refine lv_lookup (off := 182) (tgt := 183) hx hb dX5_workOut_1 (by decide) (by rw [c_1_6] <;> rfl) (by decide) ?_
                refine lv_iconst (v := 0) hx hb dX5_workOut_183 kic_0 ?_
                refine lv_aload_n hx hb dX5_workOut_184 rfl (lv_at hl 0 rfl) ?_
                refine lv_iload_n hx hb dX5_workOut_185 rfl (lv_at hl 2 rfl) ?_
                refine lv_iconst (v := 1) hx hb dX5_workOut_186 kic_1 ?_
                refine lv_iload_n hx hb dX5_workOut_187 rfl (lv_at hl 3 rfl) ?_
                refine lv_iload hx hb dX5_workOut_188 (lv_at hl 4 rfl) ?_
                refine q_callV (rest := [.int (0 : Int32)]) (n := 4) C (hO_X5_speak G b traced parted yk ykind ym trace p2 (1 : Int32) p3 p4 _ hv) ml_X5_32 kb_X5_speak rfl ⟨⟨rfl, rfl⟩, (by show f + 1 ≤ f + 2; omega), (by show 8 + (7 + 11) + o ≤ o + 50; omega)⟩ hW hS [0, 1] rfl rfl kc5 (q0 := 0) rfl hl.1 rfl (Nat.le_of_ble_eq_true rfl) dX5_workOut_190 ⟨Nat.zero_le _, Nat.zero_le _⟩ (fun r_12 u_13 H locs hv hW hS => ?_)
                obtain ⟨traced_12, parted_12, trace_12⟩ := u_13
                try dsimp only at hv
                have hW : wo G A (wd_X5_1 G b traced_12 parted_12 yk ykind ym trace_12) H := hW
                refine lv_isub hx hb dX5_workOut_193 ?_
                exact ret (traced_12, parted_12, trace_12) ((0 : Int32) - r_12) H locs ls _ rfl hW hS hv dX5_workOut_194
              · replace hv := hv.2 c_1_6
                by_cases c_1_7 : p1 = 40
                · replace hv := hv.1 c_1_7
                  refine lv_lookup (off := 194) (tgt := 195) hx hb dX5_workOut_1 (by decide) (by rw [c_1_7] <;> rfl) (by decide) ?_
                  refine lv_aload_n hx hb dX5_workOut_195 rfl (lv_at hl 0 rfl) ?_
                  refine lv_iload_n hx hb dX5_workOut_196 rfl (lv_at hl 2 rfl) ?_
                  refine lv_iconst (v := 2) hx hb dX5_workOut_197 kic_2 ?_
                  refine lv_iload_n hx hb dX5_workOut_198 rfl (lv_at hl 3 rfl) ?_
                  refine lv_iconst (v := 2) hx hb dX5_workOut_199 kic_2 ?_
                  obtain ⟨h_14, hv⟩ := hv
                  refine lv_idiv hx hb dX5_workOut_200 h_14 ?_
                  refine lv_iload hx hb dX5_workOut_201 (lv_at hl 4 rfl) ?_
                  refine q_callV (rest := []) (n := 4) C (hO_X5_speak G b traced parted yk ykind ym trace p2 (2 : Int32) (p3 / (2 : Int32)) p4 _ hv) ml_X5_32 kb_X5_speak rfl ⟨⟨rfl, rfl⟩, (by show f + 1 ≤ f + 2; omega), (by show 8 + (7 + 11) + o ≤ o + 50; omega)⟩ hW hS [0, 1] rfl rfl kc5 (q0 := 0) rfl hl.1 rfl (Nat.le_of_ble_eq_true rfl) dX5_workOut_203 ⟨Nat.zero_le _, Nat.zero_le _⟩ (fun r_15 u_16 H locs hv hW hS => ?_)
                  obtain ⟨traced_15, parted_15, trace_15⟩ := u_16
                  try dsimp only at hv
                  have hW : wo G A (wd_X5_1 G b traced_15 parted_15 yk ykind ym trace_15) H := hW
                  exact ret (traced_15, parted_15, trace_15) r_15 H locs ls _ rfl hW hS hv dX5_workOut_206
                · replace hv := hv.2 c_1_7
                  by_cases c_1_8 : p1 = 50
                  · replace hv := hv.1 c_1_8
                    refine lv_lookup (off := 206) (tgt := 207) hx hb dX5_workOut_1 (by decide) (by rw [c_1_8] <;> rfl) (by decide) ?_
                    refine lv_aload_n hx hb dX5_workOut_207 rfl (lv_at hl 0 rfl) ?_
                    refine lv_iload_n hx hb dX5_workOut_208 rfl (lv_at hl 2 rfl) ?_
                    refine lv_iconst (v := 0) hx hb dX5_workOut_209 kic_0 ?_
                    refine lv_iload_n hx hb dX5_workOut_210 rfl (lv_at hl 3 rfl) ?_
                    refine lv_iload hx hb dX5_workOut_211 (lv_at hl 4 rfl) ?_
                    refine q_callV (rest := []) (n := 4) C (hO_X5_speak G b traced parted yk ykind ym trace p2 (0 : Int32) p3 p4 _ hv) ml_X5_32 kb_X5_speak rfl ⟨⟨rfl, rfl⟩, (by show f + 1 ≤ f + 2; omega), (by show 8 + (7 + 11) + o ≤ o + 50; omega)⟩ hW hS [0, 1] rfl rfl kc5 (q0 := 0) rfl hl.1 rfl (Nat.le_of_ble_eq_true rfl) dX5_workOut_213 ⟨Nat.zero_le _, Nat.zero_le _⟩ (fun r_17 u_18 H locs hv hW hS => ?_)
                    obtain ⟨traced_17, parted_17, trace_17⟩ := u_18
                    try dsimp only at hv
                    have hW : wo G A (wd_X5_1 G b traced_17 parted_17 yk ykind ym trace_17) H := hW
                    refine lv_iconst (v := 3) hx hb dX5_workOut_216 kic_3 ?_
                    refine lv_imul hx hb dX5_workOut_217 ?_
                    exact ret (traced_17, parted_17, trace_17) (r_17 * (3 : Int32)) H locs ls _ rfl hW hS hv dX5_workOut_218
                  · replace hv := hv.2 c_1_8
                    by_cases c_1_9 : p1 = 51
                    · replace hv := hv.1 c_1_9
                      refine lv_lookup (off := 218) (tgt := 219) hx hb dX5_workOut_1 (by decide) (by rw [c_1_9] <;> rfl) (by decide) ?_
                      refine lv_aload_n hx hb dX5_workOut_219 rfl (lv_at hl 0 rfl) ?_
                      refine lv_iload_n hx hb dX5_workOut_220 rfl (lv_at hl 2 rfl) ?_
                      refine lv_iconst (v := 2) hx hb dX5_workOut_221 kic_2 ?_
                      refine lv_iload_n hx hb dX5_workOut_222 rfl (lv_at hl 3 rfl) ?_
                      refine lv_iload hx hb dX5_workOut_223 (lv_at hl 4 rfl) ?_
                      refine q_callV (rest := []) (n := 4) C (hO_X5_speak G b traced parted yk ykind ym trace p2 (2 : Int32) p3 p4 _ hv) ml_X5_32 kb_X5_speak rfl ⟨⟨rfl, rfl⟩, (by show f + 1 ≤ f + 2; omega), (by show 8 + (7 + 11) + o ≤ o + 50; omega)⟩ hW hS [0, 1] rfl rfl kc5 (q0 := 0) rfl hl.1 rfl (Nat.le_of_ble_eq_true rfl) dX5_workOut_225 ⟨Nat.zero_le _, Nat.zero_le _⟩ (fun r_19 u_20 H locs hv hW hS => ?_)
                      obtain ⟨traced_19, parted_19, trace_19⟩ := u_20
                      try dsimp only at hv
                      have hW : wo G A (wd_X5_1 G b traced_19 parted_19 yk ykind ym trace_19) H := hW
                      refine lv_aload_n hx hb dX5_workOut_228 rfl (lv_at hl 0 rfl) ?_
                      refine q_get C kc5 hW 0 rfl 3 (by decide) fl_X5_15 rfl rfl dX5_workOut_229 ?_
                      refine lv_ixor hx hb dX5_workOut_232 ?_
                      exact ret (traced_19, parted_19, trace_19) (r_19 ^^^ yk) H locs ls _ rfl hW hS hv dX5_workOut_233
                    · replace hv := hv.2 c_1_9
                      by_cases c_1_10 : p1 = 60
                      · replace hv := hv.1 c_1_10
                        refine lv_lookup (off := 233) (tgt := 234) hx hb dX5_workOut_1 (by decide) (by rw [c_1_10] <;> rfl) (by decide) ?_
                        refine lv_aload_n hx hb dX5_workOut_234 rfl (lv_at hl 0 rfl) ?_
                        refine lv_iload_n hx hb dX5_workOut_235 rfl (lv_at hl 2 rfl) ?_
                        refine lv_iconst (v := 1) hx hb dX5_workOut_236 kic_1 ?_
                        refine lv_iload_n hx hb dX5_workOut_237 rfl (lv_at hl 3 rfl) ?_
                        refine lv_iconst (v := 1) hx hb dX5_workOut_238 kic_1 ?_
                        refine lv_iadd hx hb dX5_workOut_239 ?_
                        refine lv_iload hx hb dX5_workOut_240 (lv_at hl 4 rfl) ?_
                        refine q_callV (rest := []) (n := 4) C (hO_X5_speak G b traced parted yk ykind ym trace p2 (1 : Int32) (p3 + (1 : Int32)) p4 _ hv) ml_X5_32 kb_X5_speak rfl ⟨⟨rfl, rfl⟩, (by show f + 1 ≤ f + 2; omega), (by show 8 + (7 + 11) + o ≤ o + 50; omega)⟩ hW hS [0, 1] rfl rfl kc5 (q0 := 0) rfl hl.1 rfl (Nat.le_of_ble_eq_true rfl) dX5_workOut_242 ⟨Nat.zero_le _, Nat.zero_le _⟩ (fun r_21 u_22 H locs hv hW hS => ?_)
                        obtain ⟨traced_21, parted_21, trace_21⟩ := u_22
                        try dsimp only at hv
                        have hW : wo G A (wd_X5_1 G b traced_21 parted_21 yk ykind ym trace_21) H := hW
                        exact ret (traced_21, parted_21, trace_21) r_21 H locs ls _ rfl hW hS hv dX5_workOut_245
                      · replace hv := hv.2 c_1_10
                        by_cases c_1_11 : p1 = 70
                        · replace hv := hv.1 c_1_11
                          refine lv_lookup (off := 245) (tgt := 246) hx hb dX5_workOut_1 (by decide) (by rw [c_1_11] <;> rfl) (by decide) ?_
                          refine lv_bipush (v := 9) hx hb dX5_workOut_246 kbp_9 ?_
                          exact ret (traced, parted, trace) (9 : Int32) H locs ls _ rfl hW hS hv dX5_workOut_248
                        · replace hv := hv.2 c_1_11
                          by_cases c_1_12 : p1 = 71
                          · replace hv := hv.1 c_1_12
                            refine lv_lookup (off := 248) (tgt := 249) hx hb dX5_workOut_1 (by decide) (by rw [c_1_12] <;> rfl) (by decide) ?_
                            refine lv_aload_n hx hb dX5_workOut_249 rfl (lv_at hl 0 rfl) ?_
                            refine lv_iload_n hx hb dX5_workOut_250 rfl (lv_at hl 2 rfl) ?_
                            refine lv_iconst (v := 1) hx hb dX5_workOut_251 kic_1 ?_
                            refine lv_iload_n hx hb dX5_workOut_252 rfl (lv_at hl 3 rfl) ?_
                            refine lv_iload hx hb dX5_workOut_253 (lv_at hl 4 rfl) ?_
                            refine q_callV (rest := []) (n := 4) C (hO_X5_speak G b traced parted yk ykind ym trace p2 (1 : Int32) p3 p4 _ hv) ml_X5_32 kb_X5_speak rfl ⟨⟨rfl, rfl⟩, (by show f + 1 ≤ f + 2; omega), (by show 8 + (7 + 11) + o ≤ o + 50; omega)⟩ hW hS [0, 1] rfl rfl kc5 (q0 := 0) rfl hl.1 rfl (Nat.le_of_ble_eq_true rfl) dX5_workOut_255 ⟨Nat.zero_le _, Nat.zero_le _⟩ (fun r_23 u_24 H locs hv hW hS => ?_)
                            obtain ⟨traced_23, parted_23, trace_23⟩ := u_24
                            try dsimp only at hv
                            have hW : wo G A (wd_X5_1 G b traced_23 parted_23 yk ykind ym trace_23) H := hW
                            refine lv_aload_n hx hb dX5_workOut_258 rfl (lv_at hl 0 rfl) ?_
                            refine q_get C kc5 hW 0 rfl 5 (by decide) fl_X5_22 rfl rfl dX5_workOut_259 ?_
                            refine lv_iadd hx hb dX5_workOut_262 ?_
                            exact ret (traced_23, parted_23, trace_23) (r_23 + ym) H locs ls _ rfl hW hS hv dX5_workOut_263
                          · replace hv := hv.2 c_1_12
                            refine lv_lookup (off := 263) (tgt := 264) hx hb dX5_workOut_1 (by decide) ((lv_osw c_1_0 rfl).trans ((lv_osw c_1_1 rfl).trans ((lv_osw c_1_2 rfl).trans ((lv_osw c_1_3 rfl).trans ((lv_osw c_1_4 rfl).trans ((lv_osw c_1_5 rfl).trans ((lv_osw c_1_6 rfl).trans ((lv_osw c_1_7 rfl).trans ((lv_osw c_1_8 rfl).trans ((lv_osw c_1_9 rfl).trans ((lv_osw c_1_10 rfl).trans ((lv_osw c_1_11 rfl).trans ((lv_osw c_1_12 rfl).trans rfl))))))))))))) (by decide) ?_
                            refine lv_iconst (v := 0) hx hb dX5_workOut_264 kic_0 ?_
                            exact ret (traced, parted, trace) (0 : Int32) H locs ls _ rfl hW hS hv dX5_workOut_265
set_option maxHeartbeats 4000000 in
set_option maxRecDepth 100000 in
theorem cb_X5_speak (l : Launch) (f o : Nat) (O_X5_speak : Int32 → Int32 → Int32 → Int32 → Int32 → Int32 → Int32 → Int32 → Int32 → (Nat → Int32) → (Int32 → Int32 → Int32 → (Nat → Int32) → Prop) → Prop) (hO_X5_speak : ∀ (G : Gt) (b : Nat → Nat) (traced : Int32) (parted : Int32) (yk : Int32) (ykind : Int32) (ym : Int32) (trace : Nat → Int32) (p1 : Int32) (p2 : Int32) (p3 : Int32) (p4 : Int32) (K : Int32 → Int32 → Int32 → (Nat → Int32) → Prop), O_X5_speak p1 p2 p3 p4 traced parted yk ykind ym trace K → CI l G yX5_speak (.code yX5_speak cX5_speak 7 (some .int) :: wsG) (rmm f o) [.ref (b 0), .int p1, .int p2, .int p3, .int p4] (wd_X5_1 G b traced parted yk ykind ym trace) (S := Int32 × Int32 × (Nat → Int32)) (fun u => wd_X5_1 G b u.1 u.2.1 yk ykind ym u.2.2) (fun r u => K r u.1 u.2.1 u.2.2)) (G : Gt) (b : Nat → Nat) (traced : Int32) (parted : Int32) (yk : Int32) (ykind : Int32) (ym : Int32) (trace : Nat → Int32) (p1 : Int32) (p2 : Int32) (p3 : Int32) (p4 : Int32) (K : Int32 → Int32 → Int32 → (Nat → Int32) → Prop) (hv : b_X5_speak O_X5_speak p1 p2 p3 p4 traced parted yk ykind ym trace K) : CI l G yX5_speak (.code yX5_speak cX5_speak 7 (some .int) :: wsG) (rmm (f + 3) (o + 74)) [.ref (b 0), .int p1, .int p2, .int p3, .int p4] (wd_X5_1 G b traced parted yk ykind ym trace) (S := Int32 × Int32 × (Nat → Int32)) (fun u => wd_X5_1 G b u.1 u.2.1 yk ykind ym u.2.2) (fun r u => K r u.1 u.2.1 u.2.2) := by
  refine ci_intro (by decide) rfl (fun _ => rfl) (Nat.le_of_ble_eq_true rfl) ?_
  intro p e s m args below meth c A H ls Q C hW hS hl ret
  have hx := C.1.1
  have hb := C.1.2.1
  generalize hls : ([] : List Loc) = locs at hS ⊢
  have hl : lv_has ls 7 [(0, .ref (b 0)), (1, .int p1), (2, .int p2), (3, .int p3), (4, .int p4)] := hl
  have h_j_X5_speak_116 : ∀ (x5 : Int32) (x6 : Int32) (traced : Int32) (parted : Int32) (trace : Nat → Int32) (H : Heap) (locs : List Loc) (ls : Array Slot), wo G A (wd_X5_1 G b traced parted yk ykind ym trace) H → va_S A s.heap H locs → lv_has ls 7 [(0, .ref (b 0)), (3, .int p3), (4, .int p4), (5, .int x5), (6, .int x6)] → j_X5_speak_116 O_X5_speak p1 p2 p3 p4 yk ykind ym K x5 x6 traced parted trace → W p l e (rmm (f + 3) (o + 74)) s m args below meth c H locs 0 0 Q (F0 m 116 ls []) := by
    intro x5 x6 traced parted trace H locs ls hW hS hl hv
    refine lv_aload_n hx hb dX5_speak_116 rfl (lv_at hl 0 rfl) ?_
    refine lv_iload hx hb dX5_speak_117 (lv_at hl 4 rfl) ?_
    obtain ⟨t_ABOVE, hz_ABOVE, ht_ABOVE⟩ := C.2.2.1.2.1.1
    refine va_getsN hx hb hz_ABOVE hS C.1.2.2.2.1 (va_Nw.use rfl (C.2.2.1.1 _ nf_X5_43)) (fun _ h => h) dX5_speak_119 ?_
    refine lv_iload hx hb dX5_speak_122 (lv_at hl 3 rfl) ?_
    obtain ⟨h_10, hv⟩ := hv
    refine va_ti hx hb ht_ABOVE hS h_10 rfl dX5_speak_124 ?_
    refine lv_iload_n hx hb dX5_speak_125 rfl (lv_at hl 1 rfl) ?_
    refine lv_iload hx hb dX5_speak_126 (lv_at hl 2 rfl) ?_
    refine lv_iconst (v := 1) hx hb dX5_speak_128 kic_1 ?_
    refine lv_iadd hx hb dX5_speak_129 ?_
    refine q_callV (rest := []) (n := 4) C (c_X5_workOut l f o O_X5_speak hO_X5_speak G b traced parted yk ykind ym trace x6 (f_above x5.toNatClampNeg) p3 (p4 + (1 : Int32)) _ hv) ml_X5_46 kb_X5_workOut rfl ⟨⟨rfl, rfl⟩, (by show f + 2 + 1 ≤ f + 3; omega), (by show 8 + (5 + 11) + (o + 50) ≤ o + 74; omega)⟩ hW hS [0, 1] rfl rfl kc5 (q0 := 0) rfl hl.1 rfl (Nat.le_of_ble_eq_true rfl) dX5_speak_130 ⟨Nat.zero_le _, Nat.zero_le _⟩ (fun r_11 u_12 H locs hv hW hS => ?_)
    obtain ⟨traced_11, parted_11, trace_11⟩ := u_12
    try dsimp only at hv
    have hW : wo G A (wd_X5_1 G b traced_11 parted_11 yk ykind ym trace_11) H := hW
    exact ret (traced_11, parted_11, trace_11) r_11 H locs ls _ rfl hW hS hv dX5_speak_133
  have h_j_X5_speak_74 : ∀ (x5 : Int32) (traced : Int32) (parted : Int32) (trace : Nat → Int32) (H : Heap) (locs : List Loc) (ls : Array Slot), wo G A (wd_X5_1 G b traced parted yk ykind ym trace) H → va_S A s.heap H locs → lv_has ls 7 [(0, .ref (b 0)), (2, .int p2), (3, .int p3), (4, .int p4), (5, .int x5)] → j_X5_speak_74 O_X5_speak p1 p2 p3 p4 yk ykind ym K x5 traced parted trace → W p l e (rmm (f + 3) (o + 74)) s m args below meth c H locs 0 0 Q (F0 m 74 ls []) := by
    intro x5 traced parted trace H locs ls hW hS hl hv
    obtain ⟨t_BODIES, hz_BODIES, ht_BODIES⟩ := C.2.2.1.2.1.2.1
    refine va_gets hx hb hz_BODIES hS C.1.2.2.2.1 (C.hts fl_X5_40) (fun _ h => h) dX5_speak_74 ?_
    refine lv_iload hx hb dX5_speak_77 (lv_at hl 4 rfl) ?_
    refine lv_iconst (v := 4) hx hb dX5_speak_79 kic_4 ?_
    refine lv_imul hx hb dX5_speak_80 ?_
    refine lv_iload_n hx hb dX5_speak_81 rfl (lv_at hl 1 rfl) ?_
    refine lv_iadd hx hb dX5_speak_82 ?_
    obtain ⟨h_8, hv⟩ := hv
    refine va_ti hx hb ht_BODIES hS h_8 rfl dX5_speak_83 ?_
    refine lv_istore (lv' := [(6, .int (f_bodies ((x5 * (4 : Int32)) + p2).toNatClampNeg)), (0, .ref (b 0)), (2, .int p2), (3, .int p3), (4, .int p4), (5, .int x5)]) hx hb dX5_speak_84 hl (by decide) rfl (fun ls hl => ?_)
    refine lv_aload_n hx hb dX5_speak_86 rfl (lv_at hl 1 rfl) ?_
    refine q_get C kc5 hW 0 rfl 1 (by decide) fl_X5_25 rfl rfl dX5_speak_87 ?_
    refine lv_bipush (v := 30) hx hb dX5_speak_90 kbp_30 ?_
    refine lv_icmp_ge (tgt := 116) hx hb dX5_speak_92 (by decide) (fun c_9 => ?_) (fun c_9 => ?_)
    · replace hv := hv.1 c_9
      exact h_j_X5_speak_116 x5 (f_bodies ((x5 * (4 : Int32)) + p2).toNatClampNeg) traced parted trace H locs ls hW hS (lv_sub hl [1, 3, 4, 5, 0] rfl) hv
    · replace hv := hv.2 c_9
      refine lv_aload_n hx hb dX5_speak_95 rfl (lv_at hl 1 rfl) ?_
      refine q_get C kc5 hW 0 rfl 0 (by decide) fl_X5_11 rfl rfl dX5_speak_96 ?_
      refine lv_aload_n hx hb dX5_speak_99 rfl (lv_at hl 1 rfl) ?_
      refine q_get C kc5 hW 0 rfl 1 (by decide) fl_X5_25 rfl rfl dX5_speak_100 ?_
      refine lv_iload hx hb dX5_speak_103 (lv_at hl 0 rfl) ?_
      obtain ⟨h_13, hv⟩ := hv
      refine q_iast C hW hS 1 rfl h_13 dX5_speak_105 (fun H locs hW hS => ?_)
      have hW : wo G A (wd_X5_1 G b traced parted yk ykind ym (upd trace traced.toNatClampNeg (f_bodies ((x5 * (4 : Int32)) + p2).toNatClampNeg))) H := hW
      refine lv_aload_n hx hb dX5_speak_106 rfl (lv_at hl 1 rfl) ?_
      refine lv_dup hx hb dX5_speak_107 rfl ?_
      refine q_get C kc5 hW 0 rfl 1 (by decide) fl_X5_25 rfl rfl dX5_speak_108 ?_
      refine lv_iconst (v := 1) hx hb dX5_speak_111 kic_1 ?_
      refine lv_iadd hx hb dX5_speak_112 ?_
      refine q_put C kc5 hW hS 0 rfl 1 (by decide) fl_X5_25 rfl rfl rfl rfl (Nat.le_of_ble_eq_true rfl) dX5_speak_113 (fun H locs hW hS => ?_)
      have hW : wo G A (wd_X5_1 G b (traced + (1 : Int32)) parted yk ykind ym (upd trace traced.toNatClampNeg (f_bodies ((x5 * (4 : Int32)) + p2).toNatClampNeg))) H := hW
      exact h_j_X5_speak_116 x5 (f_bodies ((x5 * (4 : Int32)) + p2).toNatClampNeg) (traced + (1 : Int32)) parted (upd trace traced.toNatClampNeg (f_bodies ((x5 * (4 : Int32)) + p2).toNatClampNeg)) H locs ls hW hS (lv_sub hl [1, 3, 4, 5, 0] rfl) hv
  have h_l_X5_speak_35 : ∀ (n : Nat), ∀ (x5 : Int32) (x6 : Int32) (traced : Int32) (parted : Int32) (trace : Nat → Int32) (H : Heap) (locs : List Loc) (ls : Array Slot), wo G A (wd_X5_1 G b traced parted yk ykind ym trace) H → va_S A s.heap H locs → lv_has ls 7 [(0, .ref (b 0)), (2, .int p2), (3, .int p3), (4, .int p4), (5, .int x5), (6, .int x6)] → l_X5_speak_35 O_X5_speak p1 p2 p3 p4 yk ykind ym K n x5 x6 traced parted trace → W p l e (rmm (f + 3) (o + 74)) s m args below meth c H locs 0 0 Q (F0 m 35 ls []) := by
    intro n
    induction n with
    | zero =>
      intro x5 x6 traced parted trace H locs ls hW hS hl hv
      exact False.elim hv
    | succ n ih =>
      intro x5 x6 traced parted trace H locs ls hW hS hl hv
      refine lv_iload hx hb dX5_speak_35 (lv_at hl 5 rfl) ?_
      refine lv_bipush (v := 7) hx hb dX5_speak_37 kbp_7 ?_
      refine lv_icmp_ge (tgt := 74) hx hb dX5_speak_39 (by decide) (fun c_7 => ?_) (fun c_7 => ?_)
      · replace hv := hv.1 c_7
        exact h_j_X5_speak_74 x5 traced parted trace H locs ls hW hS (lv_sub hl [0, 1, 2, 3, 4] rfl) hv
      · replace hv := hv.2 c_7
        refine lv_iload hx hb dX5_speak_42 (lv_at hl 4 rfl) ?_
        refine lv_if_le (tgt := 74) hx hb dX5_speak_44 (by decide) (fun c_14 => ?_) (fun c_14 => ?_)
        · replace hv := hv.1 c_14
          exact h_j_X5_speak_74 x5 traced parted trace H locs ls hW hS (lv_sub hl [0, 1, 2, 3, 4] rfl) hv
        · replace hv := hv.2 c_14
          obtain ⟨t_BODIES, hz_BODIES, ht_BODIES⟩ := C.2.2.1.2.1.2.1
          refine va_gets hx hb hz_BODIES hS C.1.2.2.2.1 (C.hts fl_X5_40) (fun _ h => h) dX5_speak_47 ?_
          refine lv_iload hx hb dX5_speak_50 (lv_at hl 4 rfl) ?_
          refine lv_iconst (v := 4) hx hb dX5_speak_52 kic_4 ?_
          refine lv_imul hx hb dX5_speak_53 ?_
          refine lv_iload_n hx hb dX5_speak_54 rfl (lv_at hl 1 rfl) ?_
          refine lv_iadd hx hb dX5_speak_55 ?_
          obtain ⟨h_15, hv⟩ := hv
          refine va_ti hx hb ht_BODIES hS h_15 rfl dX5_speak_56 ?_
          refine lv_if_ne (tgt := 74) hx hb dX5_speak_57 (by decide) (fun c_16 => ?_) (fun c_16 => ?_)
          · replace hv := hv.1 c_16
            exact h_j_X5_speak_74 x5 traced parted trace H locs ls hW hS (lv_sub hl [0, 1, 2, 3, 4] rfl) hv
          · replace hv := hv.2 c_16
            obtain ⟨t_ABOVE, hz_ABOVE, ht_ABOVE⟩ := C.2.2.1.2.1.1
            refine va_getsN hx hb hz_ABOVE hS C.1.2.2.2.1 (va_Nw.use rfl (C.2.2.1.1 _ nf_X5_43)) (fun _ h => h) dX5_speak_60 ?_
            refine lv_iload hx hb dX5_speak_63 (lv_at hl 4 rfl) ?_
            obtain ⟨h_17, hv⟩ := hv
            refine va_ti hx hb ht_ABOVE hS h_17 rfl dX5_speak_65 ?_
            refine lv_istore (lv' := [(5, .int (f_above x5.toNatClampNeg)), (0, .ref (b 0)), (2, .int p2), (3, .int p3), (4, .int p4), (6, .int x6)]) hx hb dX5_speak_66 hl (by decide) rfl (fun ls hl => ?_)
            refine lv_iinc (v := (x6 + 1)) (lv' := [(6, .int (x6 + 1)), (5, .int (f_above x5.toNatClampNeg)), (0, .ref (b 0)), (2, .int p2), (3, .int p3), (4, .int p4)]) hx hb dX5_speak_68 hl (k := 5) rfl rfl (by decide) rfl (fun ls hl => ?_)
            refine lv_goto (tgt := 35) hx hb dX5_speak_71 (by decide) ?_
            exact ih (f_above x5.toNatClampNeg) (x6 + 1) traced parted trace H locs ls hW hS (lv_sub hl [2, 3, 4, 5, 1, 0] rfl) hv
  refine lv_iload_n hx hb dX5_speak_0 rfl (lv_at hl 1 rfl) ?_
  refine lv_istore (lv' := [(5, .int p1), (0, .ref (b 0)), (1, .int p1), (2, .int p2), (3, .int p3), (4, .int p4)]) hx hb dX5_speak_1 hl (by decide) rfl (fun ls hl => ?_)
  refine lv_iload hx hb dX5_speak_3 (lv_at hl 0 rfl) ?_
  refine lv_if_lt (tgt := 30) hx hb dX5_speak_5 (by decide) (fun c_1 => ?_) (fun c_1 => ?_)
  · replace hv := hv.1 c_1
    refine lv_iconst (v := 0) hx hb dX5_speak_30 kic_0 ?_
    exact ret (traced, parted, trace) (0 : Int32) H locs ls _ rfl hW hS hv dX5_speak_31
  · replace hv := hv.2 c_1
    refine lv_iload hx hb dX5_speak_8 (lv_at hl 0 rfl) ?_
    refine lv_bipush (v := 7) hx hb dX5_speak_10 kbp_7 ?_
    refine lv_icmp_ge (tgt := 30) hx hb dX5_speak_12 (by decide) (fun c_2 => ?_) (fun c_2 => ?_)
    · replace hv := hv.1 c_2
      refine lv_iconst (v := 0) hx hb dX5_speak_30 kic_0 ?_
      exact ret (traced, parted, trace) (0 : Int32) H locs ls _ rfl hW hS hv dX5_speak_31
    · replace hv := hv.2 c_2
      refine lv_iload_n hx hb dX5_speak_15 rfl (lv_at hl 3 rfl) ?_
      refine lv_iconst (v := 3) hx hb dX5_speak_16 kic_3 ?_
      refine q_callSN (rest := []) (n := 2) C (c_X6_isWithin l G p2 (3 : Int32) _ hv) nm_X5_36 kb_X6_isWithin rfl ⟨⟨rfl, rfl⟩, (by show 0 + 1 ≤ f + 3; omega), (by show 8 + (2 + 11) + 0 ≤ o + 74; omega)⟩ hW hS hl.1 rfl (Nat.le_of_ble_eq_true rfl) dX5_speak_17 ⟨Nat.zero_le _, Nat.zero_le _⟩ (fun r_3 u_4 H locs hv hW hS => ?_)
      obtain ⟨hv_b_3, hv⟩ := hv
      try dsimp only at hv
      refine lv_if_eq (tgt := 30) hx hb dX5_speak_20 (by decide) (fun c_5 => ?_) (fun c_5 => ?_)
      · replace hv := hv.1 c_5
        refine lv_iconst (v := 0) hx hb dX5_speak_30 kic_0 ?_
        exact ret (traced, parted, trace) (0 : Int32) H locs ls _ rfl hW hS hv dX5_speak_31
      · replace hv := hv.2 c_5
        refine lv_iload hx hb dX5_speak_23 (lv_at hl 5 rfl) ?_
        refine lv_bipush (v := 20) hx hb dX5_speak_25 kbp_20 ?_
        refine lv_icmp_le (tgt := 32) hx hb dX5_speak_27 (by decide) (fun c_6 => ?_) (fun c_6 => ?_)
        · replace hv := hv.1 c_6
          refine lv_iconst (v := 0) hx hb dX5_speak_32 kic_0 ?_
          refine lv_istore (lv' := [(6, .int (0 : Int32)), (5, .int p1), (0, .ref (b 0)), (1, .int p1), (2, .int p2), (3, .int p3), (4, .int p4)]) hx hb dX5_speak_33 hl (by decide) rfl (fun ls hl => ?_)
          obtain ⟨n_18, hv⟩ := hv
          exact h_l_X5_speak_35 n_18 p1 (0 : Int32) traced parted trace H locs ls hW hS (lv_sub hl [2, 4, 5, 6, 1, 0] rfl) hv
        · replace hv := hv.2 c_6
          refine lv_iconst (v := 0) hx hb dX5_speak_30 kic_0 ?_
          exact ret (traced, parted, trace) (0 : Int32) H locs ls _ rfl hW hS hv dX5_speak_31
