set_option maxHeartbeats 4000000 in
set_option maxRecDepth 100000 in
theorem c_J0_coder_7d493k0 (l : Launch) (G : Gt) (K : Int32 → Prop) (hv : v_J0_coder_7d493k0 K) : CI l G yJ0_coder_7d493 (.code yJ0_coder_7d493 cJ0_coder_7d493 1 (some .byte) :: wsG) (rmm 0 0) [.ref (G.2.2.2.2.1 0)] [] (S := Unit) (fun _ => []) (fun r u => K r) := by
  refine ci_intro (by decide) rfl (fun _ => rfl) (Nat.le_of_ble_eq_true rfl) ?_
  intro p e s m args below meth c A H ls Q C hW hS hl ret
  have hx := C.1.1
  have hb := C.1.2.1
  generalize hls : ([] : List Loc) = locs at hS ⊢
  have hl : lv_has ls 1 [(0, .ref (G.2.2.2.2.1 0))] := hl
  refine va_gets hx hb C.2.2.1.2.1.2.2.2 hS C.1.2.2.2.1 (C.hts fl_J0_38) (fun _ h => h) dJ0_coder_7d493_0 ?_
  refine lv_if_eq (tgt := 13) hx hb dJ0_coder_7d493_3 (by decide) (fun c_1 => ?_) (fun c_1 => ?_)
  · exact absurd c_1 (by decide)
  · refine lv_aload_n hx hb dJ0_coder_7d493_6 rfl (lv_at hl 0 rfl) ?_
    refine vk_getf hx hb (C.2.2.1.2.1.2.2.1.1 0 (by decide)).2.1 hS C.1.2.2.2.1 (C.hts fl_J0_15) (fun _ h => h) dJ0_coder_7d493_7 ?_
    refine lv_goto (tgt := 14) hx hb dJ0_coder_7d493_10 (by decide) ?_
    exact ret () (0 : Int32) H locs ls _ rfl hW hS hv dJ0_coder_7d493_14
set_option maxHeartbeats 4000000 in
set_option maxRecDepth 100000 in
theorem c_J0_isLatin1_aae02k0 (l : Launch) (G : Gt) (K : Int32 → Prop) (hv : v_J0_isLatin1_aae02k0 K) : CI l G yJ0_isLatin1_aae02 (.code yJ0_isLatin1_aae02 cJ0_isLatin1_aae02 1 (some .boolean) :: wsG) (rmm 0 0) [.ref (G.2.2.2.2.1 0)] [] (S := Unit) (fun _ => []) (fun r u => (r = 0 ∨ r = 1) ∧ K r) := by
  refine ci_intro (by decide) rfl (fun _ => rfl) (Nat.le_of_ble_eq_true rfl) ?_
  intro p e s m args below meth c A H ls Q C hW hS hl ret
  have hx := C.1.1
  have hb := C.1.2.1
  generalize hls : ([] : List Loc) = locs at hS ⊢
  have hl : lv_has ls 1 [(0, .ref (G.2.2.2.2.1 0))] := hl
  refine va_gets hx hb C.2.2.1.2.1.2.2.2 hS C.1.2.2.2.1 (C.hts fl_J0_38) (fun _ h => h) dJ0_isLatin1_aae02_0 ?_
  refine lv_if_eq (tgt := 17) hx hb dJ0_isLatin1_aae02_3 (by decide) (fun c_1 => ?_) (fun c_1 => ?_)
  · exact absurd c_1 (by decide)
  · refine lv_aload_n hx hb dJ0_isLatin1_aae02_6 rfl (lv_at hl 0 rfl) ?_
    refine vk_getf hx hb (C.2.2.1.2.1.2.2.1.1 0 (by decide)).2.1 hS C.1.2.2.2.1 (C.hts fl_J0_15) (fun _ h => h) dJ0_isLatin1_aae02_7 ?_
    refine lv_if_ne (tgt := 17) hx hb dJ0_isLatin1_aae02_10 (by decide) (fun c_2 => ?_) (fun c_2 => ?_)
    · exact absurd c_2 (by decide)
    · refine lv_iconst (v := 1) hx hb dJ0_isLatin1_aae02_13 kic_1 ?_
      refine lv_goto (tgt := 18) hx hb dJ0_isLatin1_aae02_14 (by decide) ?_
      exact ret () (1 : Int32) H locs ls _ (bl_narrow (Or.inr rfl)) hW hS ⟨(Or.inr rfl), hv⟩ dJ0_isLatin1_aae02_18
set_option maxHeartbeats 4000000 in
set_option maxRecDepth 100000 in
theorem c_J0_length_8abf5k0 (l : Launch) (G : Gt) (K : Int32 → Prop) (hv : v_J0_length_8abf5k0 K) : CI l G yJ0_length_8abf5 (.code yJ0_length_8abf5 cJ0_length_8abf5 1 (some .int) :: wsG) (rmm 1 20) [.ref (G.2.2.2.2.1 0)] [] (S := Unit) (fun _ => []) (fun r u => K r) := by
  refine ci_intro (by decide) rfl (fun _ => rfl) (Nat.le_of_ble_eq_true rfl) ?_
  intro p e s m args below meth c A H ls Q C hW hS hl ret
  have hx := C.1.1
  have hb := C.1.2.1
  generalize hls : ([] : List Loc) = locs at hS ⊢
  have hl : lv_has ls 1 [(0, .ref (G.2.2.2.2.1 0))] := hl
  refine lv_aload_n hx hb dJ0_length_8abf5_0 rfl (lv_at hl 0 rfl) ?_
  refine vk_getf hx hb (C.2.2.1.2.1.2.2.1.1 0 (by decide)).2.2.1 hS C.1.2.2.2.1 (C.hts fl_J0_9) (fun _ h => h) dJ0_length_8abf5_1 ?_
  refine va_tlen (v := 3) hx hb (C.2.2.1.2.1.2.2.1.1 0 (by decide)).2.2.2 hS kal_3 dJ0_length_8abf5_4 ?_
  refine lv_aload_n hx hb dJ0_length_8abf5_5 rfl (lv_at hl 0 rfl) ?_
  refine q_callVs (i := 0) (rest := [.int (3 : Int32)]) (n := 0) C (c_J0_coder_7d493k0 l G (fun r => r = (0 : Int32)) rfl) ml_J0_335 kb_J0_coder_7d493 rfl ⟨⟨rfl, rfl⟩, (Nat.le_of_ble_eq_true rfl), (Nat.le_of_ble_eq_true rfl)⟩ hW hS (by decide) rfl hl.1 rfl (Nat.le_of_ble_eq_true rfl) dJ0_length_8abf5_6 ⟨Nat.zero_le _, Nat.zero_le _⟩ (fun r_1 u_2 H locs hv9 hW hS => ?_)
  subst hv9
  refine lv_ishr hx hb dJ0_length_8abf5_9 ?_
  exact ret () ((3 : Int32) >>> ((0 : Int32) &&& 31)) H locs ls _ rfl hW hS hv dJ0_length_8abf5_10
set_option maxHeartbeats 4000000 in
set_option maxRecDepth 100000 in
theorem c_J1_canEncode_9a6ad (l : Launch) (G : Gt) (p1 : Int32) (K : Int32 → Prop) (hv : v_J1_canEncode_9a6ad p1 K) : CI l G yJ1_canEncode_9a6ad (.code yJ1_canEncode_9a6ad cJ1_canEncode_9a6ad 1 (some .boolean) :: wsG) (rmm 0 0) [.int p1] [] (S := Unit) (fun _ => []) (fun r u => (r = 0 ∨ r = 1) ∧ K r) := by
  refine ci_intro (by decide) rfl (fun _ => rfl) (Nat.le_of_ble_eq_true rfl) ?_
  intro p e s m args below meth c A H ls Q C hW hS hl ret
  have hx := C.1.1
  have hb := C.1.2.1
  generalize hls : ([] : List Loc) = locs at hS ⊢
  have hl : lv_has ls 1 [(0, .int p1)] := hl
  refine lv_iload_n hx hb dJ1_canEncode_9a6ad_0 rfl (lv_at hl 0 rfl) ?_
  refine lv_if_lt (tgt := 15) hx hb dJ1_canEncode_9a6ad_1 (by decide) (fun c_1 => ?_) (fun c_1 => ?_)
  · replace hv := hv.1 c_1
    refine lv_iconst (v := 0) hx hb dJ1_canEncode_9a6ad_15 kic_0 ?_
    exact ret () (0 : Int32) H locs ls _ (bl_narrow (Or.inl rfl)) hW hS ⟨(Or.inl rfl), hv⟩ dJ1_canEncode_9a6ad_16
  · replace hv := hv.2 c_1
    refine lv_iload_n hx hb dJ1_canEncode_9a6ad_4 rfl (lv_at hl 0 rfl) ?_
    refine lv_sipush (v := 255) hx hb dJ1_canEncode_9a6ad_5 ksp_255 ?_
    refine lv_icmp_gt (tgt := 15) hx hb dJ1_canEncode_9a6ad_8 (by decide) (fun c_2 => ?_) (fun c_2 => ?_)
    · replace hv := hv.1 c_2
      refine lv_iconst (v := 0) hx hb dJ1_canEncode_9a6ad_15 kic_0 ?_
      exact ret () (0 : Int32) H locs ls _ (bl_narrow (Or.inl rfl)) hW hS ⟨(Or.inl rfl), hv⟩ dJ1_canEncode_9a6ad_16
    · replace hv := hv.2 c_2
      refine lv_iconst (v := 1) hx hb dJ1_canEncode_9a6ad_11 kic_1 ?_
      refine lv_goto (tgt := 16) hx hb dJ1_canEncode_9a6ad_12 (by decide) ?_
      exact ret () (1 : Int32) H locs ls _ (bl_narrow (Or.inr rfl)) hW hS ⟨(Or.inr rfl), hv⟩ dJ1_canEncode_9a6ad_16
set_option maxHeartbeats 4000000 in
set_option maxRecDepth 100000 in
theorem c_J1_indexOfChar_4cfefk0 (l : Launch) (G : Gt) (p2 : Int32) (p3 : Int32) (p4 : Int32) (K : Int32 → Prop) (hv : v_J1_indexOfChar_4cfefk0 p2 p3 p4 K) : CI l G yJ1_indexOfChar_4cfef (.code yJ1_indexOfChar_4cfef cJ1_indexOfChar_4cfef 6 (some .int) :: wsG) (rmm 0 0) [.ref (G.2.2.2.2.2 0), .int p2, .int p3, .int p4] [] (S := Unit) (fun _ => []) (fun r u => K r) := by
  refine ci_intro (by decide) rfl (fun _ => rfl) (Nat.le_of_ble_eq_true rfl) ?_
  intro p e s m args below meth c A H ls Q C hW hS hl ret
  have hx := C.1.1
  have hb := C.1.2.1
  generalize hls : ([] : List Loc) = locs at hS ⊢
  have hl : lv_has ls 6 [(0, .ref (G.2.2.2.2.2 0)), (1, .int p2), (2, .int p3), (3, .int p4)] := hl
  have h_l_J1_indexOfChar_4cfefk0_7 : ∀ (n : Nat), ∀ (x4 : Int32) (x5 : Int32) (H : Heap) (locs : List Loc) (ls : Array Slot), wo G A (wd_J1_0 G) H → va_S A s.heap H locs → lv_has ls 6 [(0, .ref (G.2.2.2.2.2 0)), (3, .int p4), (4, .int x4), (5, .int x5)] → l_J1_indexOfChar_4cfefk0_7 p2 p3 p4 K n x4 x5 → W p l e (rmm 0 0) s m args below meth c H locs 0 0 Q (F0 m 7 ls []) := by
    intro n
    induction n with
    | zero =>
      intro x4 x5 H locs ls hW hS hl hv
      exact False.elim hv
    | succ n ih =>
      intro x4 x5 H locs ls hW hS hl hv
      refine lv_iload hx hb dJ1_indexOfChar_4cfef_7 (lv_at hl 3 rfl) ?_
      refine lv_iload_n hx hb dJ1_indexOfChar_4cfef_9 rfl (lv_at hl 1 rfl) ?_
      refine lv_icmp_ge (tgt := 31) hx hb dJ1_indexOfChar_4cfef_10 (by decide) (fun c_1 => ?_) (fun c_1 => ?_)
      · replace hv := hv.1 c_1
        refine lv_iconst (v := (-1)) hx hb dJ1_indexOfChar_4cfef_31 kic_m1 ?_
        exact ret () (-1 : Int32) H locs ls _ rfl hW hS hv dJ1_indexOfChar_4cfef_32
      · replace hv := hv.2 c_1
        refine lv_aload_n hx hb dJ1_indexOfChar_4cfef_13 rfl (lv_at hl 0 rfl) ?_
        refine lv_iload hx hb dJ1_indexOfChar_4cfef_14 (lv_at hl 3 rfl) ?_
        obtain ⟨h_2, hv⟩ := hv
        refine va_tb (v := .int (f_str 0 x5.toNatClampNeg)) hx hb (C.2.2.1.2.1.2.2.1.1 0 (by decide)).2.2.2 hS h_2 rfl dJ1_indexOfChar_4cfef_16 ?_
        refine lv_iload hx hb dJ1_indexOfChar_4cfef_17 (lv_at hl 2 rfl) ?_
        refine lv_icmp_ne (tgt := 25) hx hb dJ1_indexOfChar_4cfef_19 (by decide) (fun c_3 => ?_) (fun c_3 => ?_)
        · replace hv := hv.1 c_3
          refine lv_iinc (v := (x5 + 1)) (lv' := [(5, .int (x5 + 1)), (0, .ref (G.2.2.2.2.2 0)), (3, .int p4), (4, .int x4)]) hx hb dJ1_indexOfChar_4cfef_25 hl (k := 3) rfl rfl (by decide) rfl (fun ls hl => ?_)
          refine lv_goto (tgt := 7) hx hb dJ1_indexOfChar_4cfef_28 (by decide) ?_
          exact ih x4 (x5 + 1) H locs ls hW hS (lv_sub hl [1, 2, 3, 0] rfl) hv
        · replace hv := hv.2 c_3
          refine lv_iload hx hb dJ1_indexOfChar_4cfef_22 (lv_at hl 3 rfl) ?_
          exact ret () x5 H locs ls _ rfl hW hS hv dJ1_indexOfChar_4cfef_24
  refine lv_iload_n hx hb dJ1_indexOfChar_4cfef_0 rfl (lv_at hl 1 rfl) ?_
  refine lv_i2b hx hb dJ1_indexOfChar_4cfef_1 rfl ?_
  refine lv_istore (lv' := [(4, .int p2.toInt8.toInt32), (0, .ref (G.2.2.2.2.2 0)), (1, .int p2), (2, .int p3), (3, .int p4)]) hx hb dJ1_indexOfChar_4cfef_2 hl (by decide) rfl (fun ls hl => ?_)
  refine lv_iload_n hx hb dJ1_indexOfChar_4cfef_4 rfl (lv_at hl 3 rfl) ?_
  refine lv_istore (lv' := [(5, .int p3), (4, .int p2.toInt8.toInt32), (0, .ref (G.2.2.2.2.2 0)), (1, .int p2), (2, .int p3), (3, .int p4)]) hx hb dJ1_indexOfChar_4cfef_5 hl (by decide) rfl (fun ls hl => ?_)
  obtain ⟨n_4, hv⟩ := hv
  exact h_l_J1_indexOfChar_4cfefk0_7 n_4 p2.toInt8.toInt32 p3 H locs ls hW hS (lv_sub hl [2, 5, 1, 0] rfl) hv
set_option maxHeartbeats 4000000 in
set_option maxRecDepth 100000 in
theorem c_J1_indexOf_4cfefk0 (l : Launch) (G : Gt) (p2 : Int32) (p3 : Int32) (p4 : Int32) (K : Int32 → Prop) (hv : v_J1_indexOf_4cfefk0 p2 p3 p4 K) : CI l G yJ1_indexOf_4cfef (.code yJ1_indexOf_4cfef cJ1_indexOf_4cfef 4 (some .int) :: wsG) (rmm 1 25) [.ref (G.2.2.2.2.2 0), .int p2, .int p3, .int p4] [] (S := Unit) (fun _ => []) (fun r u => K r) := by
  refine ci_intro (by decide) rfl (fun _ => rfl) (Nat.le_of_ble_eq_true rfl) ?_
  intro p e s m args below meth c A H ls Q C hW hS hl ret
  have hx := C.1.1
  have hb := C.1.2.1
  generalize hls : ([] : List Loc) = locs at hS ⊢
  have hl : lv_has ls 4 [(0, .ref (G.2.2.2.2.2 0)), (1, .int p2), (2, .int p3), (3, .int p4)] := hl
  refine lv_iload_n hx hb dJ1_indexOf_4cfef_0 rfl (lv_at hl 1 rfl) ?_
  refine q_callS (rest := []) (n := 1) C (c_J1_canEncode_9a6ad l G p2 _ hv) ml_J1_88 kb_J1_canEncode_9a6ad rfl ⟨⟨rfl, rfl⟩, (Nat.le_of_ble_eq_true rfl), (Nat.le_of_ble_eq_true rfl)⟩ hW hS hl.1 rfl (Nat.le_of_ble_eq_true rfl) dJ1_indexOf_4cfef_1 ⟨Nat.zero_le _, Nat.zero_le _⟩ (fun r_1 u_2 H locs hv hW hS => ?_)
  obtain ⟨hv_b_1, hv⟩ := hv
  try dsimp only at hv
  refine lv_if_ne (tgt := 9) hx hb dJ1_indexOf_4cfef_4 (by decide) (fun c_3 => ?_) (fun c_3 => ?_)
  · replace hv := hv.1 c_3
    refine lv_iload_n hx hb dJ1_indexOf_4cfef_9 rfl (lv_at hl 2 rfl) ?_
    refine lv_iconst (v := 0) hx hb dJ1_indexOf_4cfef_10 kic_0 ?_
    refine va_mmax hx hb (C.1.2.2.1.trans hl.1.symm) C.1.2.2.2.1 (C.hts ml_J1_92) (C.hts st_mmax) (C.hts ini_javalangMath) (C.hts cd_mmax) (Nat.le_of_ble_eq_true rfl) (Nat.le_of_ble_eq_true rfl) (Nat.zero_le _) (Nat.zero_le _) dJ1_indexOf_4cfef_11 ?_
    refine lv_istore_n (lv' := [(2, .int (if p3 < (0 : Int32) then (0 : Int32) else p3)), (0, .ref (G.2.2.2.2.2 0)), (1, .int p2), (3, .int p4)]) hx hb dJ1_indexOf_4cfef_14 rfl hl (by decide) rfl (fun ls hl => ?_)
    refine lv_iload_n hx hb dJ1_indexOf_4cfef_15 rfl (lv_at hl 3 rfl) ?_
    refine lv_aload_n hx hb dJ1_indexOf_4cfef_16 rfl (lv_at hl 1 rfl) ?_
    refine va_tlen (v := 3) hx hb (C.2.2.1.2.1.2.2.1.1 0 (by decide)).2.2.2 hS kal_3 dJ1_indexOf_4cfef_17 ?_
    refine va_mmin hx hb (C.1.2.2.1.trans hl.1.symm) C.1.2.2.2.1 (C.hts ml_J1_38) (C.hts st_mmin) (C.hts ini_javalangMath) (C.hts cd_mmin) (Nat.le_of_ble_eq_true rfl) (Nat.le_of_ble_eq_true rfl) (Nat.zero_le _) (Nat.zero_le _) dJ1_indexOf_4cfef_18 ?_
    refine lv_istore_n (lv' := [(3, .int (if (3 : Int32) < p4 then (3 : Int32) else p4)), (2, .int (if p3 < (0 : Int32) then (0 : Int32) else p3)), (0, .ref (G.2.2.2.2.2 0)), (1, .int p2)]) hx hb dJ1_indexOf_4cfef_21 rfl hl (by decide) rfl (fun ls hl => ?_)
    refine lv_iload_n hx hb dJ1_indexOf_4cfef_22 rfl (lv_at hl 1 rfl) ?_
    refine lv_iload_n hx hb dJ1_indexOf_4cfef_23 rfl (lv_at hl 0 rfl) ?_
    refine lv_icmp_lt (tgt := 29) hx hb dJ1_indexOf_4cfef_24 (by decide) (fun c_4 => ?_) (fun c_4 => ?_)
    · replace hv := hv.1 c_4
      refine lv_aload_n hx hb dJ1_indexOf_4cfef_29 rfl (lv_at hl 2 rfl) ?_
      refine lv_iload_n hx hb dJ1_indexOf_4cfef_30 rfl (lv_at hl 3 rfl) ?_
      refine lv_iload_n hx hb dJ1_indexOf_4cfef_31 rfl (lv_at hl 1 rfl) ?_
      refine lv_iload_n hx hb dJ1_indexOf_4cfef_32 rfl (lv_at hl 0 rfl) ?_
      refine q_callS (rest := []) (n := 4) C (c_J1_indexOfChar_4cfefk0 l G p2 (if p3 < (0 : Int32) then (0 : Int32) else p3) (if (3 : Int32) < p4 then (3 : Int32) else p4) _ hv) ml_J1_95 kb_J1_indexOfChar_4cfef rfl ⟨⟨rfl, rfl⟩, (Nat.le_of_ble_eq_true rfl), (Nat.le_of_ble_eq_true rfl)⟩ hW hS hl.1 rfl (Nat.le_of_ble_eq_true rfl) dJ1_indexOf_4cfef_33 ⟨Nat.zero_le _, Nat.zero_le _⟩ (fun r_5 u_6 H locs hv hW hS => ?_)
      try dsimp only at hv
      exact ret () r_5 H locs ls _ rfl hW hS hv dJ1_indexOf_4cfef_36
    · replace hv := hv.2 c_4
      refine lv_iconst (v := (-1)) hx hb dJ1_indexOf_4cfef_27 kic_m1 ?_
      exact ret () (-1 : Int32) H locs ls _ rfl hW hS hv dJ1_indexOf_4cfef_28
  · replace hv := hv.2 c_3
    refine lv_iconst (v := (-1)) hx hb dJ1_indexOf_4cfef_7 kic_m1 ?_
    exact ret () (-1 : Int32) H locs ls _ rfl hW hS hv dJ1_indexOf_4cfef_8
set_option maxHeartbeats 4000000 in
set_option maxRecDepth 100000 in
theorem c_J0_indexOf_7cf53k0 (l : Launch) (G : Gt) (p1 : Int32) (p2 : Int32) (K : Int32 → Prop) (hv : v_J0_indexOf_7cf53k0 p1 p2 K) : CI l G yJ0_indexOf_7cf53 (.code yJ0_indexOf_7cf53 cJ0_indexOf_7cf53 3 (some .int) :: wsG) (rmm 2 48) [.ref (G.2.2.2.2.1 0), .int p1, .int p2] [] (S := Unit) (fun _ => []) (fun r u => K r) := by
  refine ci_intro (by decide) rfl (fun _ => rfl) (Nat.le_of_ble_eq_true rfl) ?_
  intro p e s m args below meth c A H ls Q C hW hS hl ret
  have hx := C.1.1
  have hb := C.1.2.1
  generalize hls : ([] : List Loc) = locs at hS ⊢
  have hl : lv_has ls 3 [(0, .ref (G.2.2.2.2.1 0)), (1, .int p1), (2, .int p2)] := hl
  refine lv_aload_n hx hb dJ0_indexOf_7cf53_0 rfl (lv_at hl 0 rfl) ?_
  refine q_callVs (i := 0) (rest := []) (n := 0) C (c_J0_isLatin1_aae02k0 l G (fun r => r = (1 : Int32)) rfl) ml_J0_492 kb_J0_isLatin1_aae02 rfl ⟨⟨rfl, rfl⟩, (Nat.le_of_ble_eq_true rfl), (Nat.le_of_ble_eq_true rfl)⟩ hW hS (by decide) rfl hl.1 rfl (Nat.le_of_ble_eq_true rfl) dJ0_indexOf_7cf53_1 ⟨Nat.zero_le _, Nat.zero_le _⟩ (fun r_1 u_2 H locs hv9 hW hS => ?_)
  obtain ⟨hv_b_1, hv9⟩ := hv9
  subst hv9
  refine lv_if_eq (tgt := 23) hx hb dJ0_indexOf_7cf53_4 (by decide) (fun c_3 => ?_) (fun c_3 => ?_)
  · exact absurd c_3 (by decide)
  · refine lv_aload_n hx hb dJ0_indexOf_7cf53_7 rfl (lv_at hl 0 rfl) ?_
    refine vk_getf hx hb (C.2.2.1.2.1.2.2.1.1 0 (by decide)).2.2.1 hS C.1.2.2.2.1 (C.hts fl_J0_9) (fun _ h => h) dJ0_indexOf_7cf53_8 ?_
    refine lv_iload_n hx hb dJ0_indexOf_7cf53_11 rfl (lv_at hl 1 rfl) ?_
    refine lv_iload_n hx hb dJ0_indexOf_7cf53_12 rfl (lv_at hl 2 rfl) ?_
    refine lv_aload_n hx hb dJ0_indexOf_7cf53_13 rfl (lv_at hl 0 rfl) ?_
    refine q_callVs (i := 0) (rest := [.int p2, .int p1, .ref (G.2.2.2.2.2 0)]) (n := 0) C (c_J0_length_8abf5k0 l G (fun r => r = (3 : Int32)) rfl) ml_J0_505 kb_J0_length_8abf5 rfl ⟨⟨rfl, rfl⟩, (Nat.le_of_ble_eq_true rfl), (Nat.le_of_ble_eq_true rfl)⟩ hW hS (by decide) rfl hl.1 rfl (Nat.le_of_ble_eq_true rfl) dJ0_indexOf_7cf53_14 ⟨Nat.zero_le _, Nat.zero_le _⟩ (fun r_4 u_5 H locs hv9 hW hS => ?_)
    subst hv9
    refine q_callS (rest := []) (n := 4) C (c_J1_indexOf_4cfefk0 l G p1 p2 (3 : Int32) _ hv) ml_J0_637 kb_J1_indexOf_4cfef rfl ⟨⟨rfl, rfl⟩, (Nat.le_of_ble_eq_true rfl), (Nat.le_of_ble_eq_true rfl)⟩ hW hS hl.1 rfl (Nat.le_of_ble_eq_true rfl) dJ0_indexOf_7cf53_17 ⟨Nat.zero_le _, Nat.zero_le _⟩ (fun r_6 u_7 H locs hv hW hS => ?_)
    try dsimp only at hv
    refine lv_goto (tgt := 36) hx hb dJ0_indexOf_7cf53_20 (by decide) ?_
    exact ret () r_6 H locs ls _ rfl hW hS hv dJ0_indexOf_7cf53_36
set_option maxHeartbeats 4000000 in
set_option maxRecDepth 100000 in
theorem c_J0_indexOf_0f7a4k0 (l : Launch) (G : Gt) (p1 : Int32) (K : Int32 → Prop) (hv : v_J0_indexOf_0f7a4k0 p1 K) : CI l G yJ0_indexOf_0f7a4 (.code yJ0_indexOf_0f7a4 cJ0_indexOf_0f7a4 2 (some .int) :: wsG) (rmm 3 70) [.ref (G.2.2.2.2.1 0), .int p1] [] (S := Unit) (fun _ => []) (fun r u => K r) := by
  refine ci_intro (by decide) rfl (fun _ => rfl) (Nat.le_of_ble_eq_true rfl) ?_
  intro p e s m args below meth c A H ls Q C hW hS hl ret
  have hx := C.1.1
  have hb := C.1.2.1
  generalize hls : ([] : List Loc) = locs at hS ⊢
  have hl : lv_has ls 2 [(0, .ref (G.2.2.2.2.1 0)), (1, .int p1)] := hl
  refine lv_aload_n hx hb dJ0_indexOf_0f7a4_0 rfl (lv_at hl 0 rfl) ?_
  refine lv_iload_n hx hb dJ0_indexOf_0f7a4_1 rfl (lv_at hl 1 rfl) ?_
  refine lv_iconst (v := 0) hx hb dJ0_indexOf_0f7a4_2 kic_0 ?_
  refine q_callVs (i := 0) (rest := []) (n := 2) C (c_J0_indexOf_7cf53k0 l G p1 (0 : Int32) _ hv) ml_J0_633 kb_J0_indexOf_7cf53 rfl ⟨⟨rfl, rfl⟩, (Nat.le_of_ble_eq_true rfl), (Nat.le_of_ble_eq_true rfl)⟩ hW hS (by decide) rfl hl.1 rfl (Nat.le_of_ble_eq_true rfl) dJ0_indexOf_0f7a4_3 ⟨Nat.zero_le _, Nat.zero_le _⟩ (fun r_1 u_2 H locs hv hW hS => ?_)
  try dsimp only at hv
  exact ret () r_1 H locs ls _ rfl hW hS hv dJ0_indexOf_0f7a4_6
set_option maxHeartbeats 4000000 in
set_option maxRecDepth 100000 in
theorem c_J0_coder_7d493k1 (l : Launch) (G : Gt) (K : Int32 → Prop) (hv : v_J0_coder_7d493k1 K) : CI l G yJ0_coder_7d493 (.code yJ0_coder_7d493 cJ0_coder_7d493 1 (some .byte) :: wsG) (rmm 0 0) [.ref (G.2.2.2.2.1 1)] [] (S := Unit) (fun _ => []) (fun r u => K r) := by
  refine ci_intro (by decide) rfl (fun _ => rfl) (Nat.le_of_ble_eq_true rfl) ?_
  intro p e s m args below meth c A H ls Q C hW hS hl ret
  have hx := C.1.1
  have hb := C.1.2.1
  generalize hls : ([] : List Loc) = locs at hS ⊢
  have hl : lv_has ls 1 [(0, .ref (G.2.2.2.2.1 1))] := hl
  refine va_gets hx hb C.2.2.1.2.1.2.2.2 hS C.1.2.2.2.1 (C.hts fl_J0_38) (fun _ h => h) dJ0_coder_7d493_0 ?_
  refine lv_if_eq (tgt := 13) hx hb dJ0_coder_7d493_3 (by decide) (fun c_1 => ?_) (fun c_1 => ?_)
  · exact absurd c_1 (by decide)
  · refine lv_aload_n hx hb dJ0_coder_7d493_6 rfl (lv_at hl 0 rfl) ?_
    refine vk_getf hx hb (C.2.2.1.2.1.2.2.1.1 1 (by decide)).2.1 hS C.1.2.2.2.1 (C.hts fl_J0_15) (fun _ h => h) dJ0_coder_7d493_7 ?_
    refine lv_goto (tgt := 14) hx hb dJ0_coder_7d493_10 (by decide) ?_
    exact ret () (0 : Int32) H locs ls _ rfl hW hS hv dJ0_coder_7d493_14
set_option maxHeartbeats 4000000 in
set_option maxRecDepth 100000 in
theorem c_J0_isLatin1_aae02k1 (l : Launch) (G : Gt) (K : Int32 → Prop) (hv : v_J0_isLatin1_aae02k1 K) : CI l G yJ0_isLatin1_aae02 (.code yJ0_isLatin1_aae02 cJ0_isLatin1_aae02 1 (some .boolean) :: wsG) (rmm 0 0) [.ref (G.2.2.2.2.1 1)] [] (S := Unit) (fun _ => []) (fun r u => (r = 0 ∨ r = 1) ∧ K r) := by
  refine ci_intro (by decide) rfl (fun _ => rfl) (Nat.le_of_ble_eq_true rfl) ?_
  intro p e s m args below meth c A H ls Q C hW hS hl ret
  have hx := C.1.1
  have hb := C.1.2.1
  generalize hls : ([] : List Loc) = locs at hS ⊢
  have hl : lv_has ls 1 [(0, .ref (G.2.2.2.2.1 1))] := hl
  refine va_gets hx hb C.2.2.1.2.1.2.2.2 hS C.1.2.2.2.1 (C.hts fl_J0_38) (fun _ h => h) dJ0_isLatin1_aae02_0 ?_
  refine lv_if_eq (tgt := 17) hx hb dJ0_isLatin1_aae02_3 (by decide) (fun c_1 => ?_) (fun c_1 => ?_)
  · exact absurd c_1 (by decide)
  · refine lv_aload_n hx hb dJ0_isLatin1_aae02_6 rfl (lv_at hl 0 rfl) ?_
    refine vk_getf hx hb (C.2.2.1.2.1.2.2.1.1 1 (by decide)).2.1 hS C.1.2.2.2.1 (C.hts fl_J0_15) (fun _ h => h) dJ0_isLatin1_aae02_7 ?_
    refine lv_if_ne (tgt := 17) hx hb dJ0_isLatin1_aae02_10 (by decide) (fun c_2 => ?_) (fun c_2 => ?_)
    · exact absurd c_2 (by decide)
    · refine lv_iconst (v := 1) hx hb dJ0_isLatin1_aae02_13 kic_1 ?_
      refine lv_goto (tgt := 18) hx hb dJ0_isLatin1_aae02_14 (by decide) ?_
      exact ret () (1 : Int32) H locs ls _ (bl_narrow (Or.inr rfl)) hW hS ⟨(Or.inr rfl), hv⟩ dJ0_isLatin1_aae02_18
set_option maxHeartbeats 4000000 in
set_option maxRecDepth 100000 in
theorem c_J0_length_8abf5k1 (l : Launch) (G : Gt) (K : Int32 → Prop) (hv : v_J0_length_8abf5k1 K) : CI l G yJ0_length_8abf5 (.code yJ0_length_8abf5 cJ0_length_8abf5 1 (some .int) :: wsG) (rmm 1 20) [.ref (G.2.2.2.2.1 1)] [] (S := Unit) (fun _ => []) (fun r u => K r) := by
  refine ci_intro (by decide) rfl (fun _ => rfl) (Nat.le_of_ble_eq_true rfl) ?_
  intro p e s m args below meth c A H ls Q C hW hS hl ret
  have hx := C.1.1
  have hb := C.1.2.1
  generalize hls : ([] : List Loc) = locs at hS ⊢
  have hl : lv_has ls 1 [(0, .ref (G.2.2.2.2.1 1))] := hl
  refine lv_aload_n hx hb dJ0_length_8abf5_0 rfl (lv_at hl 0 rfl) ?_
  refine vk_getf hx hb (C.2.2.1.2.1.2.2.1.1 1 (by decide)).2.2.1 hS C.1.2.2.2.1 (C.hts fl_J0_9) (fun _ h => h) dJ0_length_8abf5_1 ?_
  refine va_tlen (v := 3) hx hb (C.2.2.1.2.1.2.2.1.1 1 (by decide)).2.2.2 hS kal_3 dJ0_length_8abf5_4 ?_
  refine lv_aload_n hx hb dJ0_length_8abf5_5 rfl (lv_at hl 0 rfl) ?_
  refine q_callVs (i := 1) (rest := [.int (3 : Int32)]) (n := 0) C (c_J0_coder_7d493k1 l G (fun r => r = (0 : Int32)) rfl) ml_J0_335 kb_J0_coder_7d493 rfl ⟨⟨rfl, rfl⟩, (Nat.le_of_ble_eq_true rfl), (Nat.le_of_ble_eq_true rfl)⟩ hW hS (by decide) rfl hl.1 rfl (Nat.le_of_ble_eq_true rfl) dJ0_length_8abf5_6 ⟨Nat.zero_le _, Nat.zero_le _⟩ (fun r_1 u_2 H locs hv9 hW hS => ?_)
  subst hv9
  refine lv_ishr hx hb dJ0_length_8abf5_9 ?_
  exact ret () ((3 : Int32) >>> ((0 : Int32) &&& 31)) H locs ls _ rfl hW hS hv dJ0_length_8abf5_10
set_option maxHeartbeats 4000000 in
set_option maxRecDepth 100000 in
theorem c_J1_indexOfChar_4cfefk1 (l : Launch) (G : Gt) (p2 : Int32) (p3 : Int32) (p4 : Int32) (K : Int32 → Prop) (hv : v_J1_indexOfChar_4cfefk1 p2 p3 p4 K) : CI l G yJ1_indexOfChar_4cfef (.code yJ1_indexOfChar_4cfef cJ1_indexOfChar_4cfef 6 (some .int) :: wsG) (rmm 0 0) [.ref (G.2.2.2.2.2 1), .int p2, .int p3, .int p4] [] (S := Unit) (fun _ => []) (fun r u => K r) := by
  refine ci_intro (by decide) rfl (fun _ => rfl) (Nat.le_of_ble_eq_true rfl) ?_
  intro p e s m args below meth c A H ls Q C hW hS hl ret
  have hx := C.1.1
  have hb := C.1.2.1
  generalize hls : ([] : List Loc) = locs at hS ⊢
  have hl : lv_has ls 6 [(0, .ref (G.2.2.2.2.2 1)), (1, .int p2), (2, .int p3), (3, .int p4)] := hl
  have h_l_J1_indexOfChar_4cfefk1_7 : ∀ (n : Nat), ∀ (x4 : Int32) (x5 : Int32) (H : Heap) (locs : List Loc) (ls : Array Slot), wo G A (wd_J1_0 G) H → va_S A s.heap H locs → lv_has ls 6 [(0, .ref (G.2.2.2.2.2 1)), (3, .int p4), (4, .int x4), (5, .int x5)] → l_J1_indexOfChar_4cfefk1_7 p2 p3 p4 K n x4 x5 → W p l e (rmm 0 0) s m args below meth c H locs 0 0 Q (F0 m 7 ls []) := by
    intro n
    induction n with
    | zero =>
      intro x4 x5 H locs ls hW hS hl hv
      exact False.elim hv
    | succ n ih =>
      intro x4 x5 H locs ls hW hS hl hv
      refine lv_iload hx hb dJ1_indexOfChar_4cfef_7 (lv_at hl 3 rfl) ?_
      refine lv_iload_n hx hb dJ1_indexOfChar_4cfef_9 rfl (lv_at hl 1 rfl) ?_
      refine lv_icmp_ge (tgt := 31) hx hb dJ1_indexOfChar_4cfef_10 (by decide) (fun c_1 => ?_) (fun c_1 => ?_)
      · replace hv := hv.1 c_1
        refine lv_iconst (v := (-1)) hx hb dJ1_indexOfChar_4cfef_31 kic_m1 ?_
        exact ret () (-1 : Int32) H locs ls _ rfl hW hS hv dJ1_indexOfChar_4cfef_32
      · replace hv := hv.2 c_1
        refine lv_aload_n hx hb dJ1_indexOfChar_4cfef_13 rfl (lv_at hl 0 rfl) ?_
        refine lv_iload hx hb dJ1_indexOfChar_4cfef_14 (lv_at hl 3 rfl) ?_
        obtain ⟨h_2, hv⟩ := hv
        refine va_tb (v := .int (f_str 1 x5.toNatClampNeg)) hx hb (C.2.2.1.2.1.2.2.1.1 1 (by decide)).2.2.2 hS h_2 rfl dJ1_indexOfChar_4cfef_16 ?_
        refine lv_iload hx hb dJ1_indexOfChar_4cfef_17 (lv_at hl 2 rfl) ?_
        refine lv_icmp_ne (tgt := 25) hx hb dJ1_indexOfChar_4cfef_19 (by decide) (fun c_3 => ?_) (fun c_3 => ?_)
        · replace hv := hv.1 c_3
          refine lv_iinc (v := (x5 + 1)) (lv' := [(5, .int (x5 + 1)), (0, .ref (G.2.2.2.2.2 1)), (3, .int p4), (4, .int x4)]) hx hb dJ1_indexOfChar_4cfef_25 hl (k := 3) rfl rfl (by decide) rfl (fun ls hl => ?_)
          refine lv_goto (tgt := 7) hx hb dJ1_indexOfChar_4cfef_28 (by decide) ?_
          exact ih x4 (x5 + 1) H locs ls hW hS (lv_sub hl [1, 2, 3, 0] rfl) hv
        · replace hv := hv.2 c_3
          refine lv_iload hx hb dJ1_indexOfChar_4cfef_22 (lv_at hl 3 rfl) ?_
          exact ret () x5 H locs ls _ rfl hW hS hv dJ1_indexOfChar_4cfef_24
  refine lv_iload_n hx hb dJ1_indexOfChar_4cfef_0 rfl (lv_at hl 1 rfl) ?_
  refine lv_i2b hx hb dJ1_indexOfChar_4cfef_1 rfl ?_
  refine lv_istore (lv' := [(4, .int p2.toInt8.toInt32), (0, .ref (G.2.2.2.2.2 1)), (1, .int p2), (2, .int p3), (3, .int p4)]) hx hb dJ1_indexOfChar_4cfef_2 hl (by decide) rfl (fun ls hl => ?_)
  refine lv_iload_n hx hb dJ1_indexOfChar_4cfef_4 rfl (lv_at hl 3 rfl) ?_
  refine lv_istore (lv' := [(5, .int p3), (4, .int p2.toInt8.toInt32), (0, .ref (G.2.2.2.2.2 1)), (1, .int p2), (2, .int p3), (3, .int p4)]) hx hb dJ1_indexOfChar_4cfef_5 hl (by decide) rfl (fun ls hl => ?_)
  obtain ⟨n_4, hv⟩ := hv
  exact h_l_J1_indexOfChar_4cfefk1_7 n_4 p2.toInt8.toInt32 p3 H locs ls hW hS (lv_sub hl [2, 5, 1, 0] rfl) hv
set_option maxHeartbeats 4000000 in
set_option maxRecDepth 100000 in
theorem c_J1_indexOf_4cfefk1 (l : Launch) (G : Gt) (p2 : Int32) (p3 : Int32) (p4 : Int32) (K : Int32 → Prop) (hv : v_J1_indexOf_4cfefk1 p2 p3 p4 K) : CI l G yJ1_indexOf_4cfef (.code yJ1_indexOf_4cfef cJ1_indexOf_4cfef 4 (some .int) :: wsG) (rmm 1 25) [.ref (G.2.2.2.2.2 1), .int p2, .int p3, .int p4] [] (S := Unit) (fun _ => []) (fun r u => K r) := by
  refine ci_intro (by decide) rfl (fun _ => rfl) (Nat.le_of_ble_eq_true rfl) ?_
  intro p e s m args below meth c A H ls Q C hW hS hl ret
  have hx := C.1.1
  have hb := C.1.2.1
  generalize hls : ([] : List Loc) = locs at hS ⊢
  have hl : lv_has ls 4 [(0, .ref (G.2.2.2.2.2 1)), (1, .int p2), (2, .int p3), (3, .int p4)] := hl
  refine lv_iload_n hx hb dJ1_indexOf_4cfef_0 rfl (lv_at hl 1 rfl) ?_
  refine q_callS (rest := []) (n := 1) C (c_J1_canEncode_9a6ad l G p2 _ hv) ml_J1_88 kb_J1_canEncode_9a6ad rfl ⟨⟨rfl, rfl⟩, (Nat.le_of_ble_eq_true rfl), (Nat.le_of_ble_eq_true rfl)⟩ hW hS hl.1 rfl (Nat.le_of_ble_eq_true rfl) dJ1_indexOf_4cfef_1 ⟨Nat.zero_le _, Nat.zero_le _⟩ (fun r_1 u_2 H locs hv hW hS => ?_)
  obtain ⟨hv_b_1, hv⟩ := hv
  try dsimp only at hv
  refine lv_if_ne (tgt := 9) hx hb dJ1_indexOf_4cfef_4 (by decide) (fun c_3 => ?_) (fun c_3 => ?_)
  · replace hv := hv.1 c_3
    refine lv_iload_n hx hb dJ1_indexOf_4cfef_9 rfl (lv_at hl 2 rfl) ?_
    refine lv_iconst (v := 0) hx hb dJ1_indexOf_4cfef_10 kic_0 ?_
    refine va_mmax hx hb (C.1.2.2.1.trans hl.1.symm) C.1.2.2.2.1 (C.hts ml_J1_92) (C.hts st_mmax) (C.hts ini_javalangMath) (C.hts cd_mmax) (Nat.le_of_ble_eq_true rfl) (Nat.le_of_ble_eq_true rfl) (Nat.zero_le _) (Nat.zero_le _) dJ1_indexOf_4cfef_11 ?_
    refine lv_istore_n (lv' := [(2, .int (if p3 < (0 : Int32) then (0 : Int32) else p3)), (0, .ref (G.2.2.2.2.2 1)), (1, .int p2), (3, .int p4)]) hx hb dJ1_indexOf_4cfef_14 rfl hl (by decide) rfl (fun ls hl => ?_)
    refine lv_iload_n hx hb dJ1_indexOf_4cfef_15 rfl (lv_at hl 3 rfl) ?_
    refine lv_aload_n hx hb dJ1_indexOf_4cfef_16 rfl (lv_at hl 1 rfl) ?_
    refine va_tlen (v := 3) hx hb (C.2.2.1.2.1.2.2.1.1 1 (by decide)).2.2.2 hS kal_3 dJ1_indexOf_4cfef_17 ?_
    refine va_mmin hx hb (C.1.2.2.1.trans hl.1.symm) C.1.2.2.2.1 (C.hts ml_J1_38) (C.hts st_mmin) (C.hts ini_javalangMath) (C.hts cd_mmin) (Nat.le_of_ble_eq_true rfl) (Nat.le_of_ble_eq_true rfl) (Nat.zero_le _) (Nat.zero_le _) dJ1_indexOf_4cfef_18 ?_
    refine lv_istore_n (lv' := [(3, .int (if (3 : Int32) < p4 then (3 : Int32) else p4)), (2, .int (if p3 < (0 : Int32) then (0 : Int32) else p3)), (0, .ref (G.2.2.2.2.2 1)), (1, .int p2)]) hx hb dJ1_indexOf_4cfef_21 rfl hl (by decide) rfl (fun ls hl => ?_)
    refine lv_iload_n hx hb dJ1_indexOf_4cfef_22 rfl (lv_at hl 1 rfl) ?_
    refine lv_iload_n hx hb dJ1_indexOf_4cfef_23 rfl (lv_at hl 0 rfl) ?_
    refine lv_icmp_lt (tgt := 29) hx hb dJ1_indexOf_4cfef_24 (by decide) (fun c_4 => ?_) (fun c_4 => ?_)
    · replace hv := hv.1 c_4
      refine lv_aload_n hx hb dJ1_indexOf_4cfef_29 rfl (lv_at hl 2 rfl) ?_
      refine lv_iload_n hx hb dJ1_indexOf_4cfef_30 rfl (lv_at hl 3 rfl) ?_
      refine lv_iload_n hx hb dJ1_indexOf_4cfef_31 rfl (lv_at hl 1 rfl) ?_
      refine lv_iload_n hx hb dJ1_indexOf_4cfef_32 rfl (lv_at hl 0 rfl) ?_
      refine q_callS (rest := []) (n := 4) C (c_J1_indexOfChar_4cfefk1 l G p2 (if p3 < (0 : Int32) then (0 : Int32) else p3) (if (3 : Int32) < p4 then (3 : Int32) else p4) _ hv) ml_J1_95 kb_J1_indexOfChar_4cfef rfl ⟨⟨rfl, rfl⟩, (Nat.le_of_ble_eq_true rfl), (Nat.le_of_ble_eq_true rfl)⟩ hW hS hl.1 rfl (Nat.le_of_ble_eq_true rfl) dJ1_indexOf_4cfef_33 ⟨Nat.zero_le _, Nat.zero_le _⟩ (fun r_5 u_6 H locs hv hW hS => ?_)
      try dsimp only at hv
      exact ret () r_5 H locs ls _ rfl hW hS hv dJ1_indexOf_4cfef_36
    · replace hv := hv.2 c_4
      refine lv_iconst (v := (-1)) hx hb dJ1_indexOf_4cfef_27 kic_m1 ?_
      exact ret () (-1 : Int32) H locs ls _ rfl hW hS hv dJ1_indexOf_4cfef_28
  · replace hv := hv.2 c_3
    refine lv_iconst (v := (-1)) hx hb dJ1_indexOf_4cfef_7 kic_m1 ?_
    exact ret () (-1 : Int32) H locs ls _ rfl hW hS hv dJ1_indexOf_4cfef_8
set_option maxHeartbeats 4000000 in
set_option maxRecDepth 100000 in
theorem c_J0_indexOf_7cf53k1 (l : Launch) (G : Gt) (p1 : Int32) (p2 : Int32) (K : Int32 → Prop) (hv : v_J0_indexOf_7cf53k1 p1 p2 K) : CI l G yJ0_indexOf_7cf53 (.code yJ0_indexOf_7cf53 cJ0_indexOf_7cf53 3 (some .int) :: wsG) (rmm 2 48) [.ref (G.2.2.2.2.1 1), .int p1, .int p2] [] (S := Unit) (fun _ => []) (fun r u => K r) := by
  refine ci_intro (by decide) rfl (fun _ => rfl) (Nat.le_of_ble_eq_true rfl) ?_
  intro p e s m args below meth c A H ls Q C hW hS hl ret
  have hx := C.1.1
  have hb := C.1.2.1
  generalize hls : ([] : List Loc) = locs at hS ⊢
  have hl : lv_has ls 3 [(0, .ref (G.2.2.2.2.1 1)), (1, .int p1), (2, .int p2)] := hl
  refine lv_aload_n hx hb dJ0_indexOf_7cf53_0 rfl (lv_at hl 0 rfl) ?_
  refine q_callVs (i := 1) (rest := []) (n := 0) C (c_J0_isLatin1_aae02k1 l G (fun r => r = (1 : Int32)) rfl) ml_J0_492 kb_J0_isLatin1_aae02 rfl ⟨⟨rfl, rfl⟩, (Nat.le_of_ble_eq_true rfl), (Nat.le_of_ble_eq_true rfl)⟩ hW hS (by decide) rfl hl.1 rfl (Nat.le_of_ble_eq_true rfl) dJ0_indexOf_7cf53_1 ⟨Nat.zero_le _, Nat.zero_le _⟩ (fun r_1 u_2 H locs hv9 hW hS => ?_)
  obtain ⟨hv_b_1, hv9⟩ := hv9
  subst hv9
  refine lv_if_eq (tgt := 23) hx hb dJ0_indexOf_7cf53_4 (by decide) (fun c_3 => ?_) (fun c_3 => ?_)
  · exact absurd c_3 (by decide)
  · refine lv_aload_n hx hb dJ0_indexOf_7cf53_7 rfl (lv_at hl 0 rfl) ?_
    refine vk_getf hx hb (C.2.2.1.2.1.2.2.1.1 1 (by decide)).2.2.1 hS C.1.2.2.2.1 (C.hts fl_J0_9) (fun _ h => h) dJ0_indexOf_7cf53_8 ?_
    refine lv_iload_n hx hb dJ0_indexOf_7cf53_11 rfl (lv_at hl 1 rfl) ?_
    refine lv_iload_n hx hb dJ0_indexOf_7cf53_12 rfl (lv_at hl 2 rfl) ?_
    refine lv_aload_n hx hb dJ0_indexOf_7cf53_13 rfl (lv_at hl 0 rfl) ?_
    refine q_callVs (i := 1) (rest := [.int p2, .int p1, .ref (G.2.2.2.2.2 1)]) (n := 0) C (c_J0_length_8abf5k1 l G (fun r => r = (3 : Int32)) rfl) ml_J0_505 kb_J0_length_8abf5 rfl ⟨⟨rfl, rfl⟩, (Nat.le_of_ble_eq_true rfl), (Nat.le_of_ble_eq_true rfl)⟩ hW hS (by decide) rfl hl.1 rfl (Nat.le_of_ble_eq_true rfl) dJ0_indexOf_7cf53_14 ⟨Nat.zero_le _, Nat.zero_le _⟩ (fun r_4 u_5 H locs hv9 hW hS => ?_)
    subst hv9
    refine q_callS (rest := []) (n := 4) C (c_J1_indexOf_4cfefk1 l G p1 p2 (3 : Int32) _ hv) ml_J0_637 kb_J1_indexOf_4cfef rfl ⟨⟨rfl, rfl⟩, (Nat.le_of_ble_eq_true rfl), (Nat.le_of_ble_eq_true rfl)⟩ hW hS hl.1 rfl (Nat.le_of_ble_eq_true rfl) dJ0_indexOf_7cf53_17 ⟨Nat.zero_le _, Nat.zero_le _⟩ (fun r_6 u_7 H locs hv hW hS => ?_)
    try dsimp only at hv
    refine lv_goto (tgt := 36) hx hb dJ0_indexOf_7cf53_20 (by decide) ?_
    exact ret () r_6 H locs ls _ rfl hW hS hv dJ0_indexOf_7cf53_36
set_option maxHeartbeats 4000000 in
set_option maxRecDepth 100000 in
theorem c_J0_indexOf_0f7a4k1 (l : Launch) (G : Gt) (p1 : Int32) (K : Int32 → Prop) (hv : v_J0_indexOf_0f7a4k1 p1 K) : CI l G yJ0_indexOf_0f7a4 (.code yJ0_indexOf_0f7a4 cJ0_indexOf_0f7a4 2 (some .int) :: wsG) (rmm 3 70) [.ref (G.2.2.2.2.1 1), .int p1] [] (S := Unit) (fun _ => []) (fun r u => K r) := by
  refine ci_intro (by decide) rfl (fun _ => rfl) (Nat.le_of_ble_eq_true rfl) ?_
  intro p e s m args below meth c A H ls Q C hW hS hl ret
  have hx := C.1.1
  have hb := C.1.2.1
  generalize hls : ([] : List Loc) = locs at hS ⊢
  have hl : lv_has ls 2 [(0, .ref (G.2.2.2.2.1 1)), (1, .int p1)] := hl
  refine lv_aload_n hx hb dJ0_indexOf_0f7a4_0 rfl (lv_at hl 0 rfl) ?_
  refine lv_iload_n hx hb dJ0_indexOf_0f7a4_1 rfl (lv_at hl 1 rfl) ?_
  refine lv_iconst (v := 0) hx hb dJ0_indexOf_0f7a4_2 kic_0 ?_
  refine q_callVs (i := 1) (rest := []) (n := 2) C (c_J0_indexOf_7cf53k1 l G p1 (0 : Int32) _ hv) ml_J0_633 kb_J0_indexOf_7cf53 rfl ⟨⟨rfl, rfl⟩, (Nat.le_of_ble_eq_true rfl), (Nat.le_of_ble_eq_true rfl)⟩ hW hS (by decide) rfl hl.1 rfl (Nat.le_of_ble_eq_true rfl) dJ0_indexOf_0f7a4_3 ⟨Nat.zero_le _, Nat.zero_le _⟩ (fun r_1 u_2 H locs hv hW hS => ?_)
  try dsimp only at hv
  exact ret () r_1 H locs ls _ rfl hW hS hv dJ0_indexOf_0f7a4_6
theorem ix_eq : ∀ n, n < 256 → ∀ v ∈ ([114, 110, 115, 103, 100] : List Int32), (v = (nI n).toInt8.toInt32 ↔ nI n = v) := by decide +kernel

theorem px_0 (c : Int32) (K : Int32 → Prop) (h0 : 0 ≤ c) (h1 : c < 65536) (hk : K (f_index 0 c)) : v_J0_indexOf_0f7a4k0 c K := by
  have hn : ¬ c < 0 := fun z => absurd (Int32.lt_of_lt_of_le z h0) Int32.lt_irrefl
  by_cases hb : (255 : Int32) < c
  · have o : ∀ v : Int32, v ≤ 255 → ¬ c = v := fun v hv e => Int32.lt_irrefl (Int32.lt_of_le_of_lt (show c ≤ 255 from by rw [e]; exact hv) hb)
    have e : f_index 0 c = -1 := by
      unfold f_index
      rw [if_neg (o _ (by decide)), if_neg (o _ (by decide)), if_neg (o _ (by decide))]
    rw [e] at hk
    exact ⟨fun z => absurd z hn, fun _ => ⟨fun _ => ⟨fun z => absurd rfl z, fun _ => hk⟩, fun z => absurd hb z⟩⟩
  · obtain ⟨n, hn2, rfl⟩ := nI_of hn
    have h256 : n < 256 := by
      rcases Nat.lt_or_ge n 256 with q | q
      · exact q
      · exact absurd (nI_lt (a := 255) (b := n) (by omega) hn2) hb
    have q0 := ix_eq n h256 (f_str 0 0) (by decide)
    have q1 := ix_eq n h256 (f_str 0 1) (by decide)
    have q2 := ix_eq n h256 (f_str 0 2) (by decide)
    refine ⟨fun z => absurd z hn, fun _ => ⟨fun z => absurd z hb, fun _ => ⟨fun _ => ⟨fun _ => ⟨4, ?_⟩, fun z => absurd (by decide) z⟩, fun z => absurd z (by decide)⟩⟩⟩
    unfold f_index at hk
    refine ⟨fun z => absurd z (by decide), fun _ => ⟨by unfold vp_in; decide, fun g0 => ?_, fun g0 => ?_⟩⟩
    · have g0 : ¬ nI n = f_str 0 0 := fun z => g0 (q0.mpr z)
      rw [if_neg g0] at hk
      refine ⟨fun z => absurd z (by decide), fun _ => ⟨by unfold vp_in; decide, fun g1 => ?_, fun g1 => ?_⟩⟩
      · have g1 : ¬ nI n = f_str 0 1 := fun z => g1 (q1.mpr z)
        rw [if_neg g1] at hk
        refine ⟨fun z => absurd z (by decide), fun _ => ⟨by unfold vp_in; decide, fun g2 => ?_, fun g2 => ?_⟩⟩
        · have g2 : ¬ nI n = f_str 0 2 := fun z => g2 (q2.mpr z)
          rw [if_neg g2] at hk
          exact ⟨fun _ => hk, fun z => absurd (by decide) z⟩
        · have g2 : nI n = f_str 0 2 := q2.mp g2
          rw [if_pos g2] at hk
          exact hk
      · have g1 : nI n = f_str 0 1 := q1.mp g1
        rw [if_pos g1] at hk
        exact hk
    · have g0 : nI n = f_str 0 0 := q0.mp g0
      rw [if_pos g0] at hk
      exact hk

theorem px_1 (c : Int32) (K : Int32 → Prop) (h0 : 0 ≤ c) (h1 : c < 65536) (hk : K (f_index 1 c)) : v_J0_indexOf_0f7a4k1 c K := by
  have hn : ¬ c < 0 := fun z => absurd (Int32.lt_of_lt_of_le z h0) Int32.lt_irrefl
  by_cases hb : (255 : Int32) < c
  · have o : ∀ v : Int32, v ≤ 255 → ¬ c = v := fun v hv e => Int32.lt_irrefl (Int32.lt_of_le_of_lt (show c ≤ 255 from by rw [e]; exact hv) hb)
    have e : f_index 1 c = -1 := by
      unfold f_index
      rw [if_neg (o _ (by decide)), if_neg (o _ (by decide)), if_neg (o _ (by decide))]
    rw [e] at hk
    exact ⟨fun z => absurd z hn, fun _ => ⟨fun _ => ⟨fun z => absurd rfl z, fun _ => hk⟩, fun z => absurd hb z⟩⟩
  · obtain ⟨n, hn2, rfl⟩ := nI_of hn
    have h256 : n < 256 := by
      rcases Nat.lt_or_ge n 256 with q | q
      · exact q
      · exact absurd (nI_lt (a := 255) (b := n) (by omega) hn2) hb
    have q0 := ix_eq n h256 (f_str 1 0) (by decide)
    have q1 := ix_eq n h256 (f_str 1 1) (by decide)
    have q2 := ix_eq n h256 (f_str 1 2) (by decide)
    refine ⟨fun z => absurd z hn, fun _ => ⟨fun z => absurd z hb, fun _ => ⟨fun _ => ⟨fun _ => ⟨4, ?_⟩, fun z => absurd (by decide) z⟩, fun z => absurd z (by decide)⟩⟩⟩
    unfold f_index at hk
    refine ⟨fun z => absurd z (by decide), fun _ => ⟨by unfold vp_in; decide, fun g0 => ?_, fun g0 => ?_⟩⟩
    · have g0 : ¬ nI n = f_str 1 0 := fun z => g0 (q0.mpr z)
      rw [if_neg g0] at hk
      refine ⟨fun z => absurd z (by decide), fun _ => ⟨by unfold vp_in; decide, fun g1 => ?_, fun g1 => ?_⟩⟩
      · have g1 : ¬ nI n = f_str 1 1 := fun z => g1 (q1.mpr z)
        rw [if_neg g1] at hk
        refine ⟨fun z => absurd z (by decide), fun _ => ⟨by unfold vp_in; decide, fun g2 => ?_, fun g2 => ?_⟩⟩
        · have g2 : ¬ nI n = f_str 1 2 := fun z => g2 (q2.mpr z)
          rw [if_neg g2] at hk
          exact ⟨fun _ => hk, fun z => absurd (by decide) z⟩
        · have g2 : nI n = f_str 1 2 := q2.mp g2
          rw [if_pos g2] at hk
          exact hk
      · have g1 : nI n = f_str 1 1 := q1.mp g1
        rw [if_pos g1] at hk
        exact hk
    · have g0 : nI n = f_str 1 0 := q0.mp g0
      rw [if_pos g0] at hk
      exact hk

section IX
variable {p : Program} {l : Launch} {e : Env} {R : Room} {s : State} {m : MethodId} {args : Array Value} {below : List Frame} {meth : Method} {c : Code} {H : Heap} {locs : List Loc} {cells slots : Nat} {Q : State → Prop}
variable {own : String} {cc : ByteArray} {nL : Nat} {c0 : Cond} {G : Gt} {A : Nat → Prop} {rt : Option FieldType} {pc : Nat} {ls : Array Slot} {rest : List Value} {ws : va_W} {index : Nat}
theorem q_indexOf (C : Cx p s m args meth c own cc nL c0 G A rt) {k : Nat} {ch : Int32} (h1 : Cond.methodLink own index yJ0_indexOf_0f7a4 ∈ wsG) (hk : k < 2) (hc : 0 ≤ ch ∧ ch < 65536) (hR : ((rmm 3 70).cells = 0 ∧ (rmm 3 70).slots = 0) ∧ (rmm 3 70).frames + 1 ≤ R.frames ∧ 8 + (2 + 11) + (rmm 3 70).locals ≤ R.locals)
    (hW : wo G A ws H) (hS : va_S A s.heap H locs) (hsz : ls.size = nL) {st : List Value} (hst : st = .int ch :: .ref (G.2.2.2.2.1 k) :: rest) (hroom : (rest.map fun v => v.category).sum ≤ 8) (hdg : decode cc pc = .ok (.invokevirtual index, 3)) (hcs : cells ≤ R.cells ∧ slots ≤ R.slots)
    (kk : ∀ (H1 : Heap) (locs1 : List Loc), wo G A ws H1 → va_S A s.heap H1 locs1 → W p l e R s m args below meth c H1 locs1 cells slots Q (F0 m (pc + 3) ls (.int (f_index k ch) :: rest))) : W p l e R s m args below meth c H locs cells slots Q (F0 m pc ls st) := by
  subst hst
  rcases (show k = 0 ∨ k = 1 by omega) with rfl | rfl
  · refine q_callVs (rest := rest) (n := 1) (i := 0) C (c_J0_indexOf_0f7a4k0 l G ch (fun r => r = f_index 0 ch) (px_0 ch _ hc.1 hc.2 rfl)) h1 kb_J0_indexOf_0f7a4 rfl hR hW hS (by decide) rfl hsz rfl hroom hdg hcs (fun r u H1 locs1 hr hW1 hS1 => ?_)
    have hr : r = f_index 0 ch := hr
    subst hr
    exact kk H1 locs1 hW1 hS1
  · refine q_callVs (rest := rest) (n := 1) (i := 1) C (c_J0_indexOf_0f7a4k1 l G ch (fun r => r = f_index 1 ch) (px_1 ch _ hc.1 hc.2 rfl)) h1 kb_J0_indexOf_0f7a4 rfl hR hW hS (by decide) rfl hsz rfl hroom hdg hcs (fun r u H1 locs1 hr hW1 hS1 => ?_)
    have hr : r = f_index 1 ch := hr
    subst hr
    exact kk H1 locs1 hW1 hS1
end IX

set_option maxHeartbeats 4000000 in
set_option maxRecDepth 100000 in
theorem c_X0_copy (l : Launch) (G : Gt) (b : Nat → Nat) (f0 : Nat) (most : Int32) (size : Int32) (steps : Nat → Int32) (f_a : Nat → Int32) (p2 : Int32) (K : Int32 → (Nat → Int32) → Prop) (hv : v_X0_copy p2 size steps f_a K) : CV l G yX0_copy (.code yX0_copy cX0_copy 3 none :: wsG) (rmm 1 60) [.ref (b 0), .ref f0, .int p2] (wd_X0_0 G b f0 most size steps f_a) (S := Int32 × (Nat → Int32)) (fun u => wd_X0_0 G b f0 most u.1 u.2 f_a) (fun u => K u.1 u.2) := by
  refine cv_intro (by decide) rfl (fun _ => rfl) (Nat.le_of_ble_eq_true rfl) ?_
  intro p e s m args below meth c A H ls Q C hW hS hl ret
  have hx := C.1.1
  have hb := C.1.2.1
  generalize hls : ([] : List Loc) = locs at hS ⊢
  have hl : lv_has ls 3 [(0, .ref (b 0)), (1, .ref f0), (2, .int p2)] := hl
  refine lv_aload_n hx hb dX0_copy_0 rfl (lv_at hl 0 rfl) ?_
  refine lv_iconst (v := 0) hx hb dX0_copy_1 kic_0 ?_
  refine lv_iload_n hx hb dX0_copy_2 rfl (lv_at hl 2 rfl) ?_
  refine lv_aload_n hx hb dX0_copy_3 rfl (lv_at hl 1 rfl) ?_
  refine va_alen (D := G.1) (cl := GB_cl) (tys := tyG G) (v := 60) hx hb C.2.1 hW.1 2 0 rfl rfl kal_60 dX0_copy_4 ?_
  refine lv_bipush (v := 60) hx hb dX0_copy_5 kbp_60 ?_
  refine va_mmin hx hb (C.1.2.2.1.trans hl.1.symm) C.1.2.2.2.1 (C.hts ml_X0_22) (C.hts st_mmin) (C.hts ini_javalangMath) (C.hts cd_mmin) (Nat.le_of_ble_eq_true rfl) (Nat.le_of_ble_eq_true rfl) (Nat.zero_le _) (Nat.zero_le _) dX0_copy_7 ?_
  refine va_mmin hx hb (C.1.2.2.1.trans hl.1.symm) C.1.2.2.2.1 (C.hts ml_X0_22) (C.hts st_mmin) (C.hts ini_javalangMath) (C.hts cd_mmin) (Nat.le_of_ble_eq_true rfl) (Nat.le_of_ble_eq_true rfl) (Nat.zero_le _) (Nat.zero_le _) dX0_copy_10 ?_
  refine va_mmax hx hb (C.1.2.2.1.trans hl.1.symm) C.1.2.2.2.1 (C.hts ml_X0_28) (C.hts st_mmax) (C.hts ini_javalangMath) (C.hts cd_mmax) (Nat.le_of_ble_eq_true rfl) (Nat.le_of_ble_eq_true rfl) (Nat.zero_le _) (Nat.zero_le _) dX0_copy_13 ?_
  refine q_put C kc0 hW hS 0 rfl 2 (by decide) fl_X0_31 rfl rfl rfl rfl (Nat.le_of_ble_eq_true rfl) dX0_copy_16 (fun H locs hW hS => ?_)
  have hW : wo G A (wd_X0_0 G b f0 most (if (0 : Int32) < (if (if (60 : Int32) < (60 : Int32) then (60 : Int32) else (60 : Int32)) < p2 then (if (60 : Int32) < (60 : Int32) then (60 : Int32) else (60 : Int32)) else p2) then (if (if (60 : Int32) < (60 : Int32) then (60 : Int32) else (60 : Int32)) < p2 then (if (60 : Int32) < (60 : Int32) then (60 : Int32) else (60 : Int32)) else p2) else (0 : Int32)) steps f_a) H := hW
  refine lv_aload_n hx hb dX0_copy_19 rfl (lv_at hl 1 rfl) ?_
  refine lv_iconst (v := 0) hx hb dX0_copy_20 kic_0 ?_
  refine lv_aload_n hx hb dX0_copy_21 rfl (lv_at hl 0 rfl) ?_
  refine q_get C kc0 hW 0 rfl 1 (by decide) fl_X0_9 rfl rfl dX0_copy_22 ?_
  refine lv_iconst (v := 0) hx hb dX0_copy_25 kic_0 ?_
  refine lv_aload_n hx hb dX0_copy_26 rfl (lv_at hl 0 rfl) ?_
  refine q_get C kc0 hW 0 rfl 2 (by decide) fl_X0_31 rfl rfl dX0_copy_27 ?_
  obtain ⟨h_1, hv⟩ := hv
  obtain ⟨h_2, hv⟩ := hv
  obtain ⟨h_3, hv⟩ := hv
  obtain ⟨h_4, hv⟩ := hv
  obtain ⟨h_5, hv⟩ := hv
  refine va_copyi (D := G.1) (cl := GB_cl) (tys := tyG G) hx hb (C.1.2.2.1.trans hl.1.symm) C.1.2.2.2.1 (C.hts ml_X0_34) (C.hts nat_copy) (C.hts st_copy) (C.hts ini_javalangSystem) C.2.1 hW.1 hW.2 hS 2 1 0 0 rfl rfl rfl rfl rfl h_1 h_2 h_3 h_4 h_5 (fun _ _ => rfl) (Nat.le_of_ble_eq_true rfl) (Nat.le_of_ble_eq_true rfl) dX0_copy_30 (fun H locs hP hD hS => ?_)
  have hW : wo G A (wd_X0_0 G b f0 most (if (0 : Int32) < (if (if (60 : Int32) < (60 : Int32) then (60 : Int32) else (60 : Int32)) < p2 then (if (60 : Int32) < (60 : Int32) then (60 : Int32) else (60 : Int32)) else p2) then (if (if (60 : Int32) < (60 : Int32) then (60 : Int32) else (60 : Int32)) < p2 then (if (60 : Int32) < (60 : Int32) then (60 : Int32) else (60 : Int32)) else p2) else (0 : Int32)) (va_cpy f_a steps (0 : Int32).toNatClampNeg (0 : Int32).toNatClampNeg (if (0 : Int32) < (if (if (60 : Int32) < (60 : Int32) then (60 : Int32) else (60 : Int32)) < p2 then (if (60 : Int32) < (60 : Int32) then (60 : Int32) else (60 : Int32)) else p2) then (if (if (60 : Int32) < (60 : Int32) then (60 : Int32) else (60 : Int32)) < p2 then (if (60 : Int32) < (60 : Int32) then (60 : Int32) else (60 : Int32)) else p2) else (0 : Int32)).toNatClampNeg) f_a) H := ⟨hP, hD⟩
  exact ret ((if (0 : Int32) < (if (if (60 : Int32) < (60 : Int32) then (60 : Int32) else (60 : Int32)) < p2 then (if (60 : Int32) < (60 : Int32) then (60 : Int32) else (60 : Int32)) else p2) then (if (if (60 : Int32) < (60 : Int32) then (60 : Int32) else (60 : Int32)) < p2 then (if (60 : Int32) < (60 : Int32) then (60 : Int32) else (60 : Int32)) else p2) else (0 : Int32)), (va_cpy f_a steps (0 : Int32).toNatClampNeg (0 : Int32).toNatClampNeg (if (0 : Int32) < (if (if (60 : Int32) < (60 : Int32) then (60 : Int32) else (60 : Int32)) < p2 then (if (60 : Int32) < (60 : Int32) then (60 : Int32) else (60 : Int32)) else p2) then (if (if (60 : Int32) < (60 : Int32) then (60 : Int32) else (60 : Int32)) < p2 then (if (60 : Int32) < (60 : Int32) then (60 : Int32) else (60 : Int32)) else p2) else (0 : Int32)).toNatClampNeg)) H locs ls _ hW hS hv dX0_copy_33
set_option maxHeartbeats 4000000 in
set_option maxRecDepth 100000 in
theorem c_X0_named (l : Launch) (G : Gt) (p1 : Int32) (p2 : Int32) (p3 : Int32) (p4 : Int32) (K : Int32 → Prop) (hv : v_X0_named p1 p2 p3 p4 K) : CI l G yX0_named (.code yX0_named cX0_named 4 (some .int) :: wsG) (rmm 0 0) [.int p1, .int p2, .int p3, .int p4] [] (S := Unit) (fun _ => []) (fun r u => K r) := by
  refine ci_intro (by decide) rfl (fun _ => rfl) (Nat.le_of_ble_eq_true rfl) ?_
  intro p e s m args below meth c A H ls Q C hW hS hl ret
  have hx := C.1.1
  have hb := C.1.2.1
  generalize hls : ([] : List Loc) = locs at hS ⊢
  have hl : lv_has ls 4 [(0, .int p1), (1, .int p2), (2, .int p3), (3, .int p4)] := hl
  refine lv_iload_n hx hb dX0_named_0 rfl (lv_at hl 0 rfl) ?_
  refine lv_iconst (v := (-1)) hx hb dX0_named_1 kic_m1 ?_
  refine lv_icmp_ne (tgt := 7) hx hb dX0_named_2 (by decide) (fun c_1 => ?_) (fun c_1 => ?_)
  · replace hv := hv.1 c_1
    refine lv_iload_n hx hb dX0_named_7 rfl (lv_at hl 0 rfl) ?_
    refine lv_bipush (v := (-2)) hx hb dX0_named_8 kbp_m2 ?_
    refine lv_icmp_ne (tgt := 17) hx hb dX0_named_10 (by decide) (fun c_2 => ?_) (fun c_2 => ?_)
    · replace hv := hv.1 c_2
      refine lv_iload_n hx hb dX0_named_17 rfl (lv_at hl 3 rfl) ?_
      exact ret () p4 H locs ls _ rfl hW hS hv dX0_named_18
    · replace hv := hv.2 c_2
      refine lv_iload_n hx hb dX0_named_13 rfl (lv_at hl 2 rfl) ?_
      refine lv_goto (tgt := 18) hx hb dX0_named_14 (by decide) ?_
      exact ret () p3 H locs ls _ rfl hW hS hv dX0_named_18
  · replace hv := hv.2 c_1
    refine lv_iload_n hx hb dX0_named_5 rfl (lv_at hl 1 rfl) ?_
    exact ret () p2 H locs ls _ rfl hW hS hv dX0_named_6
set_option maxHeartbeats 4000000 in
set_option maxRecDepth 100000 in
theorem c_X0_joined (l : Launch) (G : Gt) (p1 : Int32) (p2 : Int32) (p3 : Int32) (K : Int32 → Prop) (hv : v_X0_joined p1 p2 p3 K) : CI l G yX0_joined (.code yX0_joined cX0_joined 3 (some .int) :: wsG) (rmm 0 0) [.int p1, .int p2, .int p3] [] (S := Unit) (fun _ => []) (fun r u => K r) := by
  refine ci_intro (by decide) rfl (fun _ => rfl) (Nat.le_of_ble_eq_true rfl) ?_
  intro p e s m args below meth c A H ls Q C hW hS hl ret
  have hx := C.1.1
  have hb := C.1.2.1
  generalize hls : ([] : List Loc) = locs at hS ⊢
  have hl : lv_has ls 3 [(0, .int p1), (1, .int p2), (2, .int p3)] := hl
  refine lv_iload_n hx hb dX0_joined_0 rfl (lv_at hl 0 rfl) ?_
  by_cases c_1_0 : p1 = 37
  · replace hv := hv.1 c_1_0
    refine lv_lookup (off := 115) (tgt := 116) hx hb dX0_joined_1 (by decide) (by rw [c_1_0] <;> rfl) (by decide) ?_
    refine lv_iload_n hx hb dX0_joined_116 rfl (lv_at hl 2 rfl) ?_
    refine lv_if_ne (tgt := 124) hx hb dX0_joined_117 (by decide) (fun c_2 => ?_) (fun c_2 => ?_)
    · replace hv := hv.1 c_2
      refine lv_iload_n hx hb dX0_joined_124 rfl (lv_at hl 1 rfl) ?_
      refine lv_iload_n hx hb dX0_joined_125 rfl (lv_at hl 2 rfl) ?_
      obtain ⟨h_3, hv⟩ := hv
      refine lv_irem hx hb dX0_joined_126 h_3 ?_
      exact ret () (p2 - p2 / p3 * p3) H locs ls _ rfl hW hS hv dX0_joined_127
    · replace hv := hv.2 c_2
      refine lv_iconst (v := 0) hx hb dX0_joined_120 kic_0 ?_
      refine lv_goto (tgt := 127) hx hb dX0_joined_121 (by decide) ?_
      exact ret () (0 : Int32) H locs ls _ rfl hW hS hv dX0_joined_127
  · replace hv := hv.2 c_1_0
    by_cases c_1_1 : p1 = 38
    · replace hv := hv.1 c_1_1
      refine lv_lookup (off := 160) (tgt := 161) hx hb dX0_joined_1 (by decide) (by rw [c_1_1] <;> rfl) (by decide) ?_
      refine lv_iload_n hx hb dX0_joined_161 rfl (lv_at hl 1 rfl) ?_
      refine lv_if_eq (tgt := 173) hx hb dX0_joined_162 (by decide) (fun c_4 => ?_) (fun c_4 => ?_)
      · replace hv := hv.1 c_4
        refine lv_iconst (v := 0) hx hb dX0_joined_173 kic_0 ?_
        exact ret () (0 : Int32) H locs ls _ rfl hW hS hv dX0_joined_174
      · replace hv := hv.2 c_4
        refine lv_iload_n hx hb dX0_joined_165 rfl (lv_at hl 2 rfl) ?_
        refine lv_if_eq (tgt := 173) hx hb dX0_joined_166 (by decide) (fun c_5 => ?_) (fun c_5 => ?_)
        · replace hv := hv.1 c_5
          refine lv_iconst (v := 0) hx hb dX0_joined_173 kic_0 ?_
          exact ret () (0 : Int32) H locs ls _ rfl hW hS hv dX0_joined_174
        · replace hv := hv.2 c_5
          refine lv_iconst (v := 1) hx hb dX0_joined_169 kic_1 ?_
          refine lv_goto (tgt := 174) hx hb dX0_joined_170 (by decide) ?_
          exact ret () (1 : Int32) H locs ls _ rfl hW hS hv dX0_joined_174
    · replace hv := hv.2 c_1_1
      by_cases c_1_2 : p1 = 42
      · replace hv := hv.1 c_1_2
        refine lv_lookup (off := 99) (tgt := 100) hx hb dX0_joined_1 (by decide) (by rw [c_1_2] <;> rfl) (by decide) ?_
        refine lv_iload_n hx hb dX0_joined_100 rfl (lv_at hl 1 rfl) ?_
        refine lv_iload_n hx hb dX0_joined_101 rfl (lv_at hl 2 rfl) ?_
        refine lv_imul hx hb dX0_joined_102 ?_
        exact ret () (p2 * p3) H locs ls _ rfl hW hS hv dX0_joined_103
      · replace hv := hv.2 c_1_2
        by_cases c_1_3 : p1 = 43
        · replace hv := hv.1 c_1_3
          refine lv_lookup (off := 91) (tgt := 92) hx hb dX0_joined_1 (by decide) (by rw [c_1_3] <;> rfl) (by decide) ?_
          refine lv_iload_n hx hb dX0_joined_92 rfl (lv_at hl 1 rfl) ?_
          refine lv_iload_n hx hb dX0_joined_93 rfl (lv_at hl 2 rfl) ?_
          refine lv_iadd hx hb dX0_joined_94 ?_
          exact ret () (p2 + p3) H locs ls _ rfl hW hS hv dX0_joined_95
        · replace hv := hv.2 c_1_3
          by_cases c_1_4 : p1 = 45
          · replace hv := hv.1 c_1_4
            refine lv_lookup (off := 95) (tgt := 96) hx hb dX0_joined_1 (by decide) (by rw [c_1_4] <;> rfl) (by decide) ?_
            refine lv_iload_n hx hb dX0_joined_96 rfl (lv_at hl 1 rfl) ?_
            refine lv_iload_n hx hb dX0_joined_97 rfl (lv_at hl 2 rfl) ?_
            refine lv_isub hx hb dX0_joined_98 ?_
            exact ret () (p2 - p3) H locs ls _ rfl hW hS hv dX0_joined_99
          · replace hv := hv.2 c_1_4
            by_cases c_1_5 : p1 = 47
            · replace hv := hv.1 c_1_5
              refine lv_lookup (off := 103) (tgt := 104) hx hb dX0_joined_1 (by decide) (by rw [c_1_5] <;> rfl) (by decide) ?_
              refine lv_iload_n hx hb dX0_joined_104 rfl (lv_at hl 2 rfl) ?_
              refine lv_if_ne (tgt := 112) hx hb dX0_joined_105 (by decide) (fun c_6 => ?_) (fun c_6 => ?_)
              · replace hv := hv.1 c_6
                refine lv_iload_n hx hb dX0_joined_112 rfl (lv_at hl 1 rfl) ?_
                refine lv_iload_n hx hb dX0_joined_113 rfl (lv_at hl 2 rfl) ?_
                obtain ⟨h_7, hv⟩ := hv
                refine lv_idiv hx hb dX0_joined_114 h_7 ?_
                exact ret () (p2 / p3) H locs ls _ rfl hW hS hv dX0_joined_115
              · replace hv := hv.2 c_6
                refine lv_iconst (v := 0) hx hb dX0_joined_108 kic_0 ?_
                refine lv_goto (tgt := 115) hx hb dX0_joined_109 (by decide) ?_
                exact ret () (0 : Int32) H locs ls _ rfl hW hS hv dX0_joined_115
            · replace hv := hv.2 c_1_5
              by_cases c_1_6 : p1 = 60
              · replace hv := hv.1 c_1_6
                refine lv_lookup (off := 127) (tgt := 128) hx hb dX0_joined_1 (by decide) (by rw [c_1_6] <;> rfl) (by decide) ?_
                refine lv_iload_n hx hb dX0_joined_128 rfl (lv_at hl 1 rfl) ?_
                refine lv_iload_n hx hb dX0_joined_129 rfl (lv_at hl 2 rfl) ?_
                refine lv_icmp_ge (tgt := 137) hx hb dX0_joined_130 (by decide) (fun c_8 => ?_) (fun c_8 => ?_)
                · replace hv := hv.1 c_8
                  refine lv_iconst (v := 0) hx hb dX0_joined_137 kic_0 ?_
                  exact ret () (0 : Int32) H locs ls _ rfl hW hS hv dX0_joined_138
                · replace hv := hv.2 c_8
                  refine lv_iconst (v := 1) hx hb dX0_joined_133 kic_1 ?_
                  refine lv_goto (tgt := 138) hx hb dX0_joined_134 (by decide) ?_
                  exact ret () (1 : Int32) H locs ls _ rfl hW hS hv dX0_joined_138
              · replace hv := hv.2 c_1_6
                by_cases c_1_7 : p1 = 61
                · replace hv := hv.1 c_1_7
                  refine lv_lookup (off := 149) (tgt := 150) hx hb dX0_joined_1 (by decide) (by rw [c_1_7] <;> rfl) (by decide) ?_
                  refine lv_iload_n hx hb dX0_joined_150 rfl (lv_at hl 1 rfl) ?_
                  refine lv_iload_n hx hb dX0_joined_151 rfl (lv_at hl 2 rfl) ?_
                  refine lv_icmp_ne (tgt := 159) hx hb dX0_joined_152 (by decide) (fun c_9 => ?_) (fun c_9 => ?_)
                  · replace hv := hv.1 c_9
                    refine lv_iconst (v := 0) hx hb dX0_joined_159 kic_0 ?_
                    exact ret () (0 : Int32) H locs ls _ rfl hW hS hv dX0_joined_160
                  · replace hv := hv.2 c_9
                    refine lv_iconst (v := 1) hx hb dX0_joined_155 kic_1 ?_
                    refine lv_goto (tgt := 160) hx hb dX0_joined_156 (by decide) ?_
                    exact ret () (1 : Int32) H locs ls _ rfl hW hS hv dX0_joined_160
                · replace hv := hv.2 c_1_7
                  by_cases c_1_8 : p1 = 62
                  · replace hv := hv.1 c_1_8
                    refine lv_lookup (off := 138) (tgt := 139) hx hb dX0_joined_1 (by decide) (by rw [c_1_8] <;> rfl) (by decide) ?_
                    refine lv_iload_n hx hb dX0_joined_139 rfl (lv_at hl 1 rfl) ?_
                    refine lv_iload_n hx hb dX0_joined_140 rfl (lv_at hl 2 rfl) ?_
                    refine lv_icmp_le (tgt := 148) hx hb dX0_joined_141 (by decide) (fun c_10 => ?_) (fun c_10 => ?_)
                    · replace hv := hv.1 c_10
                      refine lv_iconst (v := 0) hx hb dX0_joined_148 kic_0 ?_
                      exact ret () (0 : Int32) H locs ls _ rfl hW hS hv dX0_joined_149
                    · replace hv := hv.2 c_10
                      refine lv_iconst (v := 1) hx hb dX0_joined_144 kic_1 ?_
                      refine lv_goto (tgt := 149) hx hb dX0_joined_145 (by decide) ?_
                      exact ret () (1 : Int32) H locs ls _ rfl hW hS hv dX0_joined_149
                  · replace hv := hv.2 c_1_8
                    by_cases c_1_9 : p1 = 124
                    · replace hv := hv.1 c_1_9
                      refine lv_lookup (off := 174) (tgt := 175) hx hb dX0_joined_1 (by decide) (by rw [c_1_9] <;> rfl) (by decide) ?_
                      refine lv_iload_n hx hb dX0_joined_175 rfl (lv_at hl 1 rfl) ?_
                      refine lv_if_ne (tgt := 183) hx hb dX0_joined_176 (by decide) (fun c_11 => ?_) (fun c_11 => ?_)
                      · replace hv := hv.1 c_11
                        refine lv_iconst (v := 1) hx hb dX0_joined_183 kic_1 ?_
                        refine lv_goto (tgt := 188) hx hb dX0_joined_184 (by decide) ?_
                        exact ret () (1 : Int32) H locs ls _ rfl hW hS hv dX0_joined_188
                      · replace hv := hv.2 c_11
                        refine lv_iload_n hx hb dX0_joined_179 rfl (lv_at hl 2 rfl) ?_
                        refine lv_if_eq (tgt := 187) hx hb dX0_joined_180 (by decide) (fun c_12 => ?_) (fun c_12 => ?_)
                        · replace hv := hv.1 c_12
                          refine lv_iconst (v := 0) hx hb dX0_joined_187 kic_0 ?_
                          exact ret () (0 : Int32) H locs ls _ rfl hW hS hv dX0_joined_188
                        · replace hv := hv.2 c_12
                          refine lv_iconst (v := 1) hx hb dX0_joined_183 kic_1 ?_
                          refine lv_goto (tgt := 188) hx hb dX0_joined_184 (by decide) ?_
                          exact ret () (1 : Int32) H locs ls _ rfl hW hS hv dX0_joined_188
                    · replace hv := hv.2 c_1_9
                      refine lv_lookup (off := 188) (tgt := 189) hx hb dX0_joined_1 (by decide) ((lv_osw c_1_0 rfl).trans ((lv_osw c_1_1 rfl).trans ((lv_osw c_1_2 rfl).trans ((lv_osw c_1_3 rfl).trans ((lv_osw c_1_4 rfl).trans ((lv_osw c_1_5 rfl).trans ((lv_osw c_1_6 rfl).trans ((lv_osw c_1_7 rfl).trans ((lv_osw c_1_8 rfl).trans ((lv_osw c_1_9 rfl).trans rfl)))))))))) (by decide) ?_
                      refine lv_iconst (v := 0) hx hb dX0_joined_189 kic_0 ?_
                      exact ret () (0 : Int32) H locs ls _ rfl hW hS hv dX0_joined_190
set_option maxHeartbeats 4000000 in
set_option maxRecDepth 100000 in
theorem c_X0_gives (l : Launch) (G : Gt) (b : Nat → Nat) (most : Int32) (size : Int32) (steps : Nat → Int32) (stack : Nat → Int32) (p1 : Int32) (p2 : Int32) (p3 : Int32) (K : Int32 → (Nat → Int32) → Prop) (hv : v_X0_gives p1 p2 p3 most size steps stack K) : CI l G yX0_gives (.code yX0_gives cX0_gives 7 (some .int) :: wsG) (rmm 1 23) [.ref (b 0), .int p1, .int p2, .int p3] (wd_X0_1 G b most size steps stack) (S := (Nat → Int32)) (fun u => wd_X0_1 G b most size steps u) (fun r u => K r u) := by
  refine ci_intro (by decide) rfl (fun _ => rfl) (Nat.le_of_ble_eq_true rfl) ?_
  intro p e s m args below meth c A H ls Q C hW hS hl ret
  have hx := C.1.1
  have hb := C.1.2.1
  generalize hls : ([] : List Loc) = locs at hS ⊢
  have hl : lv_has ls 7 [(0, .ref (b 0)), (1, .int p1), (2, .int p2), (3, .int p3)] := hl
  have h_j_X0_gives_164 : ∀ (B13 : Int32 → Int32 → (Nat → Int32) → Prop) (hB13 : ∀ (x4 : Int32) (x5 : Int32) (stack : Nat → Int32) (H : Heap) (locs : List Loc) (ls : Array Slot), wo G A (wd_X0_1 G b most size steps stack) H → va_S A s.heap H locs → lv_has ls 7 [(0, .ref (b 0)), (1, .int p1), (2, .int p2), (3, .int p3), (4, .int x4), (5, .int x5)] → B13 x4 x5 stack → W p l e (rmm 1 23) s m args below meth c H locs 0 0 Q (F0 m 13 ls [])), ∀ (x4 : Int32) (x5 : Int32) (stack : Nat → Int32) (H : Heap) (locs : List Loc) (ls : Array Slot), wo G A (wd_X0_1 G b most size steps stack) H → va_S A s.heap H locs → lv_has ls 7 [(0, .ref (b 0)), (1, .int p1), (2, .int p2), (3, .int p3), (4, .int x4), (5, .int x5)] → j_X0_gives_164 p1 p2 p3 most size steps B13 K x4 x5 stack → W p l e (rmm 1 23) s m args below meth c H locs 0 0 Q (F0 m 164 ls []) := by
    intro B13 hB13 x4 x5 stack H locs ls hW hS hl hv
    refine lv_iinc (v := (x5 + 1)) (lv' := [(5, .int (x5 + 1)), (0, .ref (b 0)), (1, .int p1), (2, .int p2), (3, .int p3), (4, .int x4)]) hx hb dX0_gives_164 hl (k := 5) rfl rfl (by decide) rfl (fun ls hl => ?_)
    refine lv_goto (tgt := 13) hx hb dX0_gives_167 (by decide) ?_
    exact hB13 x4 (x5 + 1) stack H locs ls hW hS (lv_sub hl [1, 2, 3, 4, 5, 0] rfl) hv
  have h_j_X0_gives_118 : ∀ (B13 : Int32 → Int32 → (Nat → Int32) → Prop) (hB13 : ∀ (x4 : Int32) (x5 : Int32) (stack : Nat → Int32) (H : Heap) (locs : List Loc) (ls : Array Slot), wo G A (wd_X0_1 G b most size steps stack) H → va_S A s.heap H locs → lv_has ls 7 [(0, .ref (b 0)), (1, .int p1), (2, .int p2), (3, .int p3), (4, .int x4), (5, .int x5)] → B13 x4 x5 stack → W p l e (rmm 1 23) s m args below meth c H locs 0 0 Q (F0 m 13 ls [])), ∀ (x4 : Int32) (x5 : Int32) (t1 : Int32) (t2 : Int32) (stack : Nat → Int32) (H : Heap) (locs : List Loc) (ls : Array Slot), t2 = 0 ∨ t2 = 1 → wo G A (wd_X0_1 G b most size steps stack) H → va_S A s.heap H locs → lv_has ls 7 [(0, .ref (b 0)), (1, .int p1), (2, .int p2), (3, .int p3), (4, .int x4), (5, .int x5)] → j_X0_gives_118 p1 p2 p3 most size steps B13 K x4 x5 t1 t2 stack → W p l e (rmm 1 23) s m args below meth c H locs 0 0 Q (F0 m 118 ls [.int t2, .int t1, .ref (b 2)]) := by
    intro B13 hB13 x4 x5 t1 t2 stack H locs ls hz_t2 hW hS hl hv
    obtain ⟨h_16, hv⟩ := hv
    refine q_iast C hW hS 2 rfl h_16 dX0_gives_118 (fun H locs hW hS => ?_)
    have hW : wo G A (wd_X0_1 G b most size steps (upd stack t1.toNatClampNeg t2)) H := hW
    refine lv_goto (tgt := 164) hx hb dX0_gives_119 (by decide) ?_
    exact h_j_X0_gives_164 B13 hB13 x4 x5 (upd stack t1.toNatClampNeg t2) H locs ls hW hS (lv_sub hl [0, 1, 2, 3, 4, 5] rfl) hv
  have h_j_X0_gives_71 : ∀ (B13 : Int32 → Int32 → (Nat → Int32) → Prop) (hB13 : ∀ (x4 : Int32) (x5 : Int32) (stack : Nat → Int32) (H : Heap) (locs : List Loc) (ls : Array Slot), wo G A (wd_X0_1 G b most size steps stack) H → va_S A s.heap H locs → lv_has ls 7 [(0, .ref (b 0)), (1, .int p1), (2, .int p2), (3, .int p3), (4, .int x4), (5, .int x5)] → B13 x4 x5 stack → W p l e (rmm 1 23) s m args below meth c H locs 0 0 Q (F0 m 13 ls [])), ∀ (x4 : Int32) (x5 : Int32) (t1 : Int32) (t2 : Int32) (stack : Nat → Int32) (H : Heap) (locs : List Loc) (ls : Array Slot), wo G A (wd_X0_1 G b most size steps stack) H → va_S A s.heap H locs → lv_has ls 7 [(0, .ref (b 0)), (1, .int p1), (2, .int p2), (3, .int p3), (4, .int x4), (5, .int x5)] → j_X0_gives_71 p1 p2 p3 most size steps B13 K x4 x5 t1 t2 stack → W p l e (rmm 1 23) s m args below meth c H locs 0 0 Q (F0 m 71 ls [.int t2, .int t1, .ref (b 2)]) := by
    intro B13 hB13 x4 x5 t1 t2 stack H locs ls hW hS hl hv
    obtain ⟨h_21, hv⟩ := hv
    refine q_iast C hW hS 2 rfl h_21 dX0_gives_71 (fun H locs hW hS => ?_)
    have hW : wo G A (wd_X0_1 G b most size steps (upd stack t1.toNatClampNeg t2)) H := hW
    refine lv_iinc (v := (x4 + 1)) (lv' := [(4, .int (x4 + 1)), (0, .ref (b 0)), (1, .int p1), (2, .int p2), (3, .int p3), (5, .int x5)]) hx hb dX0_gives_72 hl (k := 4) rfl rfl (by decide) rfl (fun ls hl => ?_)
    refine lv_goto (tgt := 164) hx hb dX0_gives_75 (by decide) ?_
    exact h_j_X0_gives_164 B13 hB13 (x4 + 1) x5 (upd stack t1.toNatClampNeg t2) H locs ls hW hS (lv_sub hl [1, 2, 3, 4, 0, 5] rfl) hv
  have h_l_X0_gives_13 : ∀ (n : Nat), ∀ (x4 : Int32) (x5 : Int32) (stack : Nat → Int32) (H : Heap) (locs : List Loc) (ls : Array Slot), wo G A (wd_X0_1 G b most size steps stack) H → va_S A s.heap H locs → lv_has ls 7 [(0, .ref (b 0)), (1, .int p1), (2, .int p2), (3, .int p3), (4, .int x4), (5, .int x5)] → l_X0_gives_13 p1 p2 p3 most size steps K n x4 x5 stack → W p l e (rmm 1 23) s m args below meth c H locs 0 0 Q (F0 m 13 ls []) := by
    intro n
    induction n with
    | zero =>
      intro x4 x5 stack H locs ls hW hS hl hv
      exact False.elim hv
    | succ n ih =>
      intro x4 x5 stack H locs ls hW hS hl hv
      refine lv_iload hx hb dX0_gives_13 (lv_at hl 5 rfl) ?_
      refine lv_aload_n hx hb dX0_gives_15 rfl (lv_at hl 0 rfl) ?_
      refine q_get C kc0 hW 0 rfl 2 (by decide) fl_X0_31 rfl rfl dX0_gives_16 ?_
      refine lv_icmp_ge (tgt := 170) hx hb dX0_gives_19 (by decide) (fun c_2 => ?_) (fun c_2 => ?_)
      · replace hv := hv.1 c_2
        refine lv_iconst (v := 0) hx hb dX0_gives_170 kic_0 ?_
        refine lv_aload_n hx hb dX0_gives_171 rfl (lv_at hl 0 rfl) ?_
        refine q_get C kc0 hW 0 rfl 0 (by decide) fl_X0_18 rfl rfl dX0_gives_172 ?_
        refine lv_aload_n hx hb dX0_gives_175 rfl (lv_at hl 0 rfl) ?_
        refine q_get C kc0 hW 0 rfl 3 (by decide) fl_X0_15 rfl rfl dX0_gives_176 ?_
        refine lv_iconst (v := 0) hx hb dX0_gives_179 kic_0 ?_
        obtain ⟨h_3, hv⟩ := hv
        refine q_iald C hW 2 rfl h_3 dX0_gives_180 ?_
        refine va_mmin hx hb (C.1.2.2.1.trans hl.1.symm) C.1.2.2.2.1 (C.hts ml_X0_22) (C.hts st_mmin) (C.hts ini_javalangMath) (C.hts cd_mmin) (Nat.le_of_ble_eq_true rfl) (Nat.le_of_ble_eq_true rfl) (Nat.zero_le _) (Nat.zero_le _) dX0_gives_181 ?_
        refine va_mmax hx hb (C.1.2.2.1.trans hl.1.symm) C.1.2.2.2.1 (C.hts ml_X0_28) (C.hts st_mmax) (C.hts ini_javalangMath) (C.hts cd_mmax) (Nat.le_of_ble_eq_true rfl) (Nat.le_of_ble_eq_true rfl) (Nat.zero_le _) (Nat.zero_le _) dX0_gives_184 ?_
        exact ret (stack) (if (0 : Int32) < (if (stack (0 : Int32).toNatClampNeg) < most then (stack (0 : Int32).toNatClampNeg) else most) then (if (stack (0 : Int32).toNatClampNeg) < most then (stack (0 : Int32).toNatClampNeg) else most) else (0 : Int32)) H locs ls _ rfl hW hS hv dX0_gives_187
      · replace hv := hv.2 c_2
        refine lv_aload_n hx hb dX0_gives_22 rfl (lv_at hl 0 rfl) ?_
        refine q_get C kc0 hW 0 rfl 1 (by decide) fl_X0_9 rfl rfl dX0_gives_23 ?_
        refine lv_iload hx hb dX0_gives_26 (lv_at hl 5 rfl) ?_
        obtain ⟨h_4, hv⟩ := hv
        refine q_iald C hW 1 rfl h_4 dX0_gives_28 ?_
        refine lv_istore (lv' := [(6, .int (steps x5.toNatClampNeg)), (0, .ref (b 0)), (1, .int p1), (2, .int p2), (3, .int p3), (4, .int x4), (5, .int x5)]) hx hb dX0_gives_29 hl (by decide) rfl (fun ls hl => ?_)
        refine lv_iload hx hb dX0_gives_31 (lv_at hl 0 rfl) ?_
        refine lv_bipush (v := (-3)) hx hb dX0_gives_33 kbp_m3 ?_
        refine lv_icmp_lt (tgt := 78) hx hb dX0_gives_35 (by decide) (fun c_5 => ?_) (fun c_5 => ?_)
        · replace hv := hv.1 c_5
          refine lv_iload hx hb dX0_gives_78 (lv_at hl 0 rfl) ?_
          refine lv_bipush (v := (-33)) hx hb dX0_gives_80 kbp_m33 ?_
          refine lv_icmp_ne (tgt := 122) hx hb dX0_gives_82 (by decide) (fun c_6 => ?_) (fun c_6 => ?_)
          · replace hv := hv.1 c_6
            refine lv_iload hx hb dX0_gives_122 (lv_at hl 5 rfl) ?_
            refine lv_iconst (v := 2) hx hb dX0_gives_124 kic_2 ?_
            refine lv_icmp_ge (tgt := 130) hx hb dX0_gives_125 (by decide) (fun c_7 => ?_) (fun c_7 => ?_)
            · replace hv := hv.1 c_7
              refine lv_iinc (v := (x4 + (-1))) (lv' := [(4, .int (x4 + (-1))), (6, .int (steps x5.toNatClampNeg)), (0, .ref (b 0)), (1, .int p1), (2, .int p2), (3, .int p3), (5, .int x5)]) hx hb dX0_gives_130 hl (k := 5) rfl rfl (by decide) rfl (fun ls hl => ?_)
              refine lv_aload_n hx hb dX0_gives_133 rfl (lv_at hl 2 rfl) ?_
              refine q_get C kc0 hW 0 rfl 3 (by decide) fl_X0_15 rfl rfl dX0_gives_134 ?_
              refine lv_iload hx hb dX0_gives_137 (lv_at hl 0 rfl) ?_
              refine lv_iconst (v := 1) hx hb dX0_gives_139 kic_1 ?_
              refine lv_isub hx hb dX0_gives_140 ?_
              refine lv_iload hx hb dX0_gives_141 (lv_at hl 1 rfl) ?_
              refine lv_ineg hx hb dX0_gives_143 ?_
              refine lv_aload_n hx hb dX0_gives_144 rfl (lv_at hl 2 rfl) ?_
              refine q_get C kc0 hW 0 rfl 3 (by decide) fl_X0_15 rfl rfl dX0_gives_145 ?_
              refine lv_iload hx hb dX0_gives_148 (lv_at hl 0 rfl) ?_
              refine lv_iconst (v := 1) hx hb dX0_gives_150 kic_1 ?_
              refine lv_isub hx hb dX0_gives_151 ?_
              obtain ⟨h_8, hv⟩ := hv
              refine q_iald C hW 2 rfl h_8 dX0_gives_152 ?_
              refine lv_aload_n hx hb dX0_gives_153 rfl (lv_at hl 2 rfl) ?_
              refine q_get C kc0 hW 0 rfl 3 (by decide) fl_X0_15 rfl rfl dX0_gives_154 ?_
              refine lv_iload hx hb dX0_gives_157 (lv_at hl 0 rfl) ?_
              obtain ⟨h_9, hv⟩ := hv
              refine q_iald C hW 2 rfl h_9 dX0_gives_159 ?_
              refine q_callS (rest := [.int ((x4 + (-1)) - (1 : Int32)), .ref (b 2)]) (n := 3) C (c_X0_joined l G (-(steps x5.toNatClampNeg)) (stack ((x4 + (-1)) - (1 : Int32)).toNatClampNeg) (stack (x4 + (-1)).toNatClampNeg) _ hv) ml_X0_44 kb_X0_joined rfl ⟨⟨rfl, rfl⟩, (Nat.le_of_ble_eq_true rfl), (Nat.le_of_ble_eq_true rfl)⟩ hW hS hl.1 rfl (Nat.le_of_ble_eq_true rfl) dX0_gives_160 ⟨Nat.zero_le _, Nat.zero_le _⟩ (fun r_10 u_11 H locs hv hW hS => ?_)
              try dsimp only at hv
              obtain ⟨h_12, hv⟩ := hv
              refine q_iast C hW hS 2 rfl h_12 dX0_gives_163 (fun H locs hW hS => ?_)
              have hW : wo G A (wd_X0_1 G b most size steps (upd stack ((x4 + (-1)) - (1 : Int32)).toNatClampNeg r_10)) H := hW
              exact h_j_X0_gives_164 (fun x4' x5' stack' => l_X0_gives_13 p1 p2 p3 most size steps K n x4' x5' stack') ih (x4 + (-1)) x5 (upd stack ((x4 + (-1)) - (1 : Int32)).toNatClampNeg r_10) H locs ls hW hS (lv_sub hl [2, 3, 4, 5, 0, 6] rfl) hv
            · replace hv := hv.2 c_7
              refine lv_iconst (v := 0) hx hb dX0_gives_128 kic_0 ?_
              exact ret (stack) (0 : Int32) H locs ls _ rfl hW hS hv dX0_gives_129
          · replace hv := hv.2 c_6
            refine lv_iload hx hb dX0_gives_85 (lv_at hl 5 rfl) ?_
            refine lv_iconst (v := 1) hx hb dX0_gives_87 kic_1 ?_
            refine lv_icmp_ge (tgt := 93) hx hb dX0_gives_88 (by decide) (fun c_13 => ?_) (fun c_13 => ?_)
            · replace hv := hv.1 c_13
              refine lv_aload_n hx hb dX0_gives_93 rfl (lv_at hl 1 rfl) ?_
              refine q_get C kc0 hW 0 rfl 3 (by decide) fl_X0_15 rfl rfl dX0_gives_94 ?_
              refine lv_iload hx hb dX0_gives_97 (lv_at hl 5 rfl) ?_
              refine lv_iconst (v := 1) hx hb dX0_gives_99 kic_1 ?_
              refine lv_isub hx hb dX0_gives_100 ?_
              refine lv_aload_n hx hb dX0_gives_101 rfl (lv_at hl 1 rfl) ?_
              refine q_get C kc0 hW 0 rfl 3 (by decide) fl_X0_15 rfl rfl dX0_gives_102 ?_
              refine lv_iload hx hb dX0_gives_105 (lv_at hl 5 rfl) ?_
              refine lv_iconst (v := 1) hx hb dX0_gives_107 kic_1 ?_
              refine lv_isub hx hb dX0_gives_108 ?_
              obtain ⟨h_14, hv⟩ := hv
              refine q_iald C hW 2 rfl h_14 dX0_gives_109 ?_
              refine lv_if_ne (tgt := 117) hx hb dX0_gives_110 (by decide) (fun c_15 => ?_) (fun c_15 => ?_)
              · replace hv := hv.1 c_15
                refine lv_iconst (v := 0) hx hb dX0_gives_117 kic_0 ?_
                exact h_j_X0_gives_118 (fun x4' x5' stack' => l_X0_gives_13 p1 p2 p3 most size steps K n x4' x5' stack') ih x4 x5 (x4 - (1 : Int32)) (0 : Int32) stack H locs ls (Or.inl rfl) hW hS (lv_sub hl [1, 2, 3, 4, 5, 6] rfl) hv
              · replace hv := hv.2 c_15
                refine lv_iconst (v := 1) hx hb dX0_gives_113 kic_1 ?_
                refine lv_goto (tgt := 118) hx hb dX0_gives_114 (by decide) ?_
                exact h_j_X0_gives_118 (fun x4' x5' stack' => l_X0_gives_13 p1 p2 p3 most size steps K n x4' x5' stack') ih x4 x5 (x4 - (1 : Int32)) (1 : Int32) stack H locs ls (Or.inr rfl) hW hS (lv_sub hl [1, 2, 3, 4, 5, 6] rfl) hv
            · replace hv := hv.2 c_13
              refine lv_iconst (v := 0) hx hb dX0_gives_91 kic_0 ?_
              exact ret (stack) (0 : Int32) H locs ls _ rfl hW hS hv dX0_gives_92
        · replace hv := hv.2 c_5
          refine lv_iload hx hb dX0_gives_38 (lv_at hl 5 rfl) ?_
          refine lv_bipush (v := 60) hx hb dX0_gives_40 kbp_60 ?_
          refine lv_icmp_lt (tgt := 47) hx hb dX0_gives_42 (by decide) (fun c_17 => ?_) (fun c_17 => ?_)
          · replace hv := hv.1 c_17
            refine lv_aload_n hx hb dX0_gives_47 rfl (lv_at hl 1 rfl) ?_
            refine q_get C kc0 hW 0 rfl 3 (by decide) fl_X0_15 rfl rfl dX0_gives_48 ?_
            refine lv_iload hx hb dX0_gives_51 (lv_at hl 5 rfl) ?_
            refine lv_iload hx hb dX0_gives_53 (lv_at hl 0 rfl) ?_
            refine lv_if_lt (tgt := 63) hx hb dX0_gives_55 (by decide) (fun c_18 => ?_) (fun c_18 => ?_)
            · replace hv := hv.1 c_18
              refine lv_iload hx hb dX0_gives_63 (lv_at hl 0 rfl) ?_
              refine lv_iload_n hx hb dX0_gives_65 rfl (lv_at hl 2 rfl) ?_
              refine lv_iload_n hx hb dX0_gives_66 rfl (lv_at hl 3 rfl) ?_
              refine lv_iload_n hx hb dX0_gives_67 rfl (lv_at hl 4 rfl) ?_
              refine q_callS (rest := [.int x4, .ref (b 2)]) (n := 4) C (c_X0_named l G (steps x5.toNatClampNeg) p1 p2 p3 _ hv) ml_X0_40 kb_X0_named rfl ⟨⟨rfl, rfl⟩, (Nat.le_of_ble_eq_true rfl), (Nat.le_of_ble_eq_true rfl)⟩ hW hS hl.1 rfl (Nat.le_of_ble_eq_true rfl) dX0_gives_68 ⟨Nat.zero_le _, Nat.zero_le _⟩ (fun r_19 u_20 H locs hv hW hS => ?_)
              try dsimp only at hv
              exact h_j_X0_gives_71 (fun x4' x5' stack' => l_X0_gives_13 p1 p2 p3 most size steps K n x4' x5' stack') ih x4 x5 x4 r_19 stack H locs ls hW hS (lv_sub hl [1, 2, 3, 4, 5, 6] rfl) hv
            · replace hv := hv.2 c_18
              refine lv_iload hx hb dX0_gives_58 (lv_at hl 0 rfl) ?_
              refine lv_goto (tgt := 71) hx hb dX0_gives_60 (by decide) ?_
              exact h_j_X0_gives_71 (fun x4' x5' stack' => l_X0_gives_13 p1 p2 p3 most size steps K n x4' x5' stack') ih x4 x5 x4 (steps x5.toNatClampNeg) stack H locs ls hW hS (lv_sub hl [1, 2, 3, 4, 5, 6] rfl) hv
          · replace hv := hv.2 c_17
            refine lv_iconst (v := 0) hx hb dX0_gives_45 kic_0 ?_
            exact ret (stack) (0 : Int32) H locs ls _ rfl hW hS hv dX0_gives_46
  refine lv_iconst (v := 0) hx hb dX0_gives_0 kic_0 ?_
  refine lv_istore (lv' := [(4, .int (0 : Int32)), (0, .ref (b 0)), (1, .int p1), (2, .int p2), (3, .int p3)]) hx hb dX0_gives_1 hl (by decide) rfl (fun ls hl => ?_)
  refine lv_aload_n hx hb dX0_gives_3 rfl (lv_at hl 1 rfl) ?_
  refine q_get C kc0 hW 0 rfl 3 (by decide) fl_X0_15 rfl rfl dX0_gives_4 ?_
  refine lv_iconst (v := 0) hx hb dX0_gives_7 kic_0 ?_
  refine lv_iload_n hx hb dX0_gives_8 rfl (lv_at hl 2 rfl) ?_
  obtain ⟨h_1, hv⟩ := hv
  refine q_iast C hW hS 2 rfl h_1 dX0_gives_9 (fun H locs hW hS => ?_)
  have hW : wo G A (wd_X0_1 G b most size steps (upd stack (0 : Int32).toNatClampNeg p1)) H := hW
  refine lv_iconst (v := 0) hx hb dX0_gives_10 kic_0 ?_
  refine lv_istore (lv' := [(5, .int (0 : Int32)), (4, .int (0 : Int32)), (0, .ref (b 0)), (1, .int p1), (2, .int p2), (3, .int p3)]) hx hb dX0_gives_11 hl (by decide) rfl (fun ls hl => ?_)
  obtain ⟨n_22, hv⟩ := hv
  exact h_l_X0_gives_13 n_22 (0 : Int32) (0 : Int32) (upd stack (0 : Int32).toNatClampNeg p1) H locs ls hW hS (lv_sub hl [2, 3, 4, 5, 1, 0] rfl) hv
set_option maxHeartbeats 4000000 in
set_option maxRecDepth 100000 in
theorem c_X1_isDigit (l : Launch) (G : Gt) (p1 : Int32) (K : Int32 → Prop) (hv : v_X1_isDigit p1 K) : CI l G yX1_isDigit (.code yX1_isDigit cX1_isDigit 1 (some .boolean) :: wsG) (rmm 0 0) [.int p1] [] (S := Unit) (fun _ => []) (fun r u => (r = 0 ∨ r = 1) ∧ K r) := by
  refine ci_intro (by decide) rfl (fun _ => rfl) (Nat.le_of_ble_eq_true rfl) ?_
  intro p e s m args below meth c A H ls Q C hW hS hl ret
  have hx := C.1.1
  have hb := C.1.2.1
  generalize hls : ([] : List Loc) = locs at hS ⊢
  have hl : lv_has ls 1 [(0, .int p1)] := hl
  refine lv_iload_n hx hb dX1_isDigit_0 rfl (lv_at hl 0 rfl) ?_
  refine lv_bipush (v := 48) hx hb dX1_isDigit_1 kbp_48 ?_
  refine lv_icmp_lt (tgt := 16) hx hb dX1_isDigit_3 (by decide) (fun c_1 => ?_) (fun c_1 => ?_)
  · replace hv := hv.1 c_1
    refine lv_iconst (v := 0) hx hb dX1_isDigit_16 kic_0 ?_
    exact ret () (0 : Int32) H locs ls _ (bl_narrow (Or.inl rfl)) hW hS ⟨(Or.inl rfl), hv⟩ dX1_isDigit_17
  · replace hv := hv.2 c_1
    refine lv_iload_n hx hb dX1_isDigit_6 rfl (lv_at hl 0 rfl) ?_
    refine lv_bipush (v := 57) hx hb dX1_isDigit_7 kbp_57 ?_
    refine lv_icmp_gt (tgt := 16) hx hb dX1_isDigit_9 (by decide) (fun c_2 => ?_) (fun c_2 => ?_)
    · replace hv := hv.1 c_2
      refine lv_iconst (v := 0) hx hb dX1_isDigit_16 kic_0 ?_
      exact ret () (0 : Int32) H locs ls _ (bl_narrow (Or.inl rfl)) hW hS ⟨(Or.inl rfl), hv⟩ dX1_isDigit_17
    · replace hv := hv.2 c_2
      refine lv_iconst (v := 1) hx hb dX1_isDigit_12 kic_1 ?_
      refine lv_goto (tgt := 17) hx hb dX1_isDigit_13 (by decide) ?_
      exact ret () (1 : Int32) H locs ls _ (bl_narrow (Or.inr rfl)) hW hS ⟨(Or.inr rfl), hv⟩ dX1_isDigit_17
set_option maxHeartbeats 4000000 in
set_option maxRecDepth 100000 in
theorem c_X1_step (l : Launch) (G : Gt) (b : Nat → Nat) (length : Int32) (place : Int32) (names : Nat) (rsize : Int32) (rsteps : Nat → Int32) (p1 : Int32) (K : Int32 → (Nat → Int32) → Prop) (hv : v_X1_step p1 rsize rsteps K) : CV l G yX1_step (.code yX1_step cX1_step 2 none :: wsG) (rmm 0 0) [.ref (b 0), .int p1] (wd_X1_0 G b length place names rsize rsteps) (S := Int32 × (Nat → Int32)) (fun u => wd_X1_0 G b length place names u.1 u.2) (fun u => K u.1 u.2) := by
  refine cv_intro (by decide) rfl (fun _ => rfl) (Nat.le_of_ble_eq_true rfl) ?_
  intro p e s m args below meth c A H ls Q C hW hS hl ret
  have hx := C.1.1
  have hb := C.1.2.1
  generalize hls : ([] : List Loc) = locs at hS ⊢
  have hl : lv_has ls 2 [(0, .ref (b 0)), (1, .int p1)] := hl
  refine lv_aload_n hx hb dX1_step_0 rfl (lv_at hl 0 rfl) ?_
  refine q_get C kc1 hW 0 rfl 5 (by decide) fl_X1_49 rfl rfl dX1_step_1 ?_
  refine lv_bipush (v := 60) hx hb dX1_step_4 kbp_60 ?_
  refine lv_icmp_ge (tgt := 29) hx hb dX1_step_6 (by decide) (fun c_1 => ?_) (fun c_1 => ?_)
  · replace hv := hv.1 c_1
    exact ret (rsize, rsteps) H locs ls _ hW hS hv dX1_step_29
  · replace hv := hv.2 c_1
    refine lv_aload_n hx hb dX1_step_9 rfl (lv_at hl 0 rfl) ?_
    refine q_get C kc1 hW 0 rfl 4 (by decide) fl_X1_21 rfl rfl dX1_step_10 ?_
    refine lv_aload_n hx hb dX1_step_13 rfl (lv_at hl 0 rfl) ?_
    refine q_get C kc1 hW 0 rfl 5 (by decide) fl_X1_49 rfl rfl dX1_step_14 ?_
    refine lv_iload_n hx hb dX1_step_17 rfl (lv_at hl 1 rfl) ?_
    obtain ⟨h_2, hv⟩ := hv
    refine q_iast C hW hS 1 rfl h_2 dX1_step_18 (fun H locs hW hS => ?_)
    have hW : wo G A (wd_X1_0 G b length place names rsize (upd rsteps rsize.toNatClampNeg p1)) H := hW
    refine lv_aload_n hx hb dX1_step_19 rfl (lv_at hl 0 rfl) ?_
    refine lv_dup hx hb dX1_step_20 rfl ?_
    refine q_get C kc1 hW 0 rfl 5 (by decide) fl_X1_49 rfl rfl dX1_step_21 ?_
    refine lv_iconst (v := 1) hx hb dX1_step_24 kic_1 ?_
    refine lv_iadd hx hb dX1_step_25 ?_
    refine q_put C kc1 hW hS 0 rfl 5 (by decide) fl_X1_49 rfl rfl rfl rfl (Nat.le_of_ble_eq_true rfl) dX1_step_26 (fun H locs hW hS => ?_)
    have hW : wo G A (wd_X1_0 G b length place names (rsize + (1 : Int32)) (upd rsteps rsize.toNatClampNeg p1)) H := hW
    exact ret ((rsize + (1 : Int32)), (upd rsteps rsize.toNatClampNeg p1)) H locs ls _ hW hS hv dX1_step_29
set_option maxHeartbeats 4000000 in
set_option maxRecDepth 100000 in
theorem c_X1_readNumber (l : Launch) (G : Gt) (b : Nat → Nat) (length : Int32) (place : Int32) (names : Nat) (rsize : Int32) (bytes : Nat → Int32) (rsteps : Nat → Int32) (K : Int32 → Int32 → Int32 → (Nat → Int32) → Prop) (hv : v_X1_readNumber length place rsize bytes rsteps K) : CI l G yX1_readNumber (.code yX1_readNumber cX1_readNumber 3 (some .boolean) :: wsG) (rmm 1 21) [.ref (b 0)] (wd_X1_1 G b length place names rsize bytes rsteps) (S := Int32 × Int32 × (Nat → Int32)) (fun u => wd_X1_1 G b length u.1 names u.2.1 bytes u.2.2) (fun r u => (r = 0 ∨ r = 1) ∧ K r u.1 u.2.1 u.2.2) := by
  refine ci_intro (by decide) rfl (fun _ => rfl) (Nat.le_of_ble_eq_true rfl) ?_
  intro p e s m args below meth c A H ls Q C hW hS hl ret
  have hx := C.1.1
  have hb := C.1.2.1
  generalize hls : ([] : List Loc) = locs at hS ⊢
  have hl : lv_has ls 3 [(0, .ref (b 0))] := hl
  have h_j_X1_readNumber_69 : ∀ (x1 : Int32) (place : Int32) (rsize : Int32) (rsteps : Nat → Int32) (H : Heap) (locs : List Loc) (ls : Array Slot), wo G A (wd_X1_1 G b length place names rsize bytes rsteps) H → va_S A s.heap H locs → lv_has ls 3 [(0, .ref (b 0)), (1, .int x1)] → j_X1_readNumber_69 length bytes K x1 place rsize rsteps → W p l e (rmm 1 21) s m args below meth c H locs 0 0 Q (F0 m 69 ls []) := by
    intro x1 place rsize rsteps H locs ls hW hS hl hv
    refine lv_aload_n hx hb dX1_readNumber_69 rfl (lv_at hl 0 rfl) ?_
    refine lv_iload_n hx hb dX1_readNumber_70 rfl (lv_at hl 1 rfl) ?_
    refine q_callVv (rest := []) (n := 1) C (c_X1_step l G b length place names rsize rsteps x1 _ hv) ml_X1_70 kb_X1_step rfl ⟨⟨rfl, rfl⟩, (Nat.le_of_ble_eq_true rfl), (Nat.le_of_ble_eq_true rfl)⟩ hW hS [0, 2] rfl rfl kc1 (q0 := 0) rfl hl.1 rfl (Nat.le_of_ble_eq_true rfl) dX1_readNumber_71 ⟨Nat.zero_le _, Nat.zero_le _⟩ (fun u_3 H locs hv hW hS => ?_)
    obtain ⟨rsize_2, rsteps_2⟩ := u_3
    try dsimp only at hv
    have hW : wo G A (wd_X1_1 G b length place names rsize_2 bytes rsteps_2) H := hW
    refine lv_iconst (v := 1) hx hb dX1_readNumber_74 kic_1 ?_
    exact ret (place, rsize_2, rsteps_2) (1 : Int32) H locs ls _ (bl_narrow (Or.inr rfl)) hW hS ⟨(Or.inr rfl), hv⟩ dX1_readNumber_75
  have h_l_X1_readNumber_4 : ∀ (n : Nat), ∀ (x1 : Int32) (x2 : Int32) (place : Int32) (rsize : Int32) (rsteps : Nat → Int32) (H : Heap) (locs : List Loc) (ls : Array Slot), wo G A (wd_X1_1 G b length place names rsize bytes rsteps) H → va_S A s.heap H locs → lv_has ls 3 [(0, .ref (b 0)), (1, .int x1), (2, .int x2)] → l_X1_readNumber_4 length bytes K n x1 x2 place rsize rsteps → W p l e (rmm 1 21) s m args below meth c H locs 0 0 Q (F0 m 4 ls []) := by
    intro n
    induction n with
    | zero =>
      intro x1 x2 place rsize rsteps H locs ls hW hS hl hv
      exact False.elim hv
    | succ n ih =>
      intro x1 x2 place rsize rsteps H locs ls hW hS hl hv
      refine lv_iload_n hx hb dX1_readNumber_4 rfl (lv_at hl 2 rfl) ?_
      refine lv_iconst (v := 4) hx hb dX1_readNumber_5 kic_4 ?_
      refine lv_icmp_ge (tgt := 69) hx hb dX1_readNumber_6 (by decide) (fun c_1 => ?_) (fun c_1 => ?_)
      · replace hv := hv.1 c_1
        exact h_j_X1_readNumber_69 x1 place rsize rsteps H locs ls hW hS (lv_sub hl [0, 1] rfl) hv
      · replace hv := hv.2 c_1
        refine lv_aload_n hx hb dX1_readNumber_9 rfl (lv_at hl 0 rfl) ?_
        refine q_get C kc1 hW 0 rfl 2 (by decide) fl_X1_46 rfl rfl dX1_readNumber_10 ?_
        refine lv_aload_n hx hb dX1_readNumber_13 rfl (lv_at hl 0 rfl) ?_
        refine q_get C kc1 hW 0 rfl 1 (by decide) fl_X1_34 rfl rfl dX1_readNumber_14 ?_
        refine lv_icmp_ge (tgt := 69) hx hb dX1_readNumber_17 (by decide) (fun c_4 => ?_) (fun c_4 => ?_)
        · replace hv := hv.1 c_4
          exact h_j_X1_readNumber_69 x1 place rsize rsteps H locs ls hW hS (lv_sub hl [0, 1] rfl) hv
        · replace hv := hv.2 c_4
          refine lv_aload_n hx hb dX1_readNumber_20 rfl (lv_at hl 0 rfl) ?_
          refine q_get C kc1 hW 0 rfl 0 (by decide) fl_X1_9 rfl rfl dX1_readNumber_21 ?_
          refine lv_aload_n hx hb dX1_readNumber_24 rfl (lv_at hl 0 rfl) ?_
          refine q_get C kc1 hW 0 rfl 2 (by decide) fl_X1_46 rfl rfl dX1_readNumber_25 ?_
          obtain ⟨h_5, hv⟩ := hv
          refine q_bald C hW 1 rfl h_5 dX1_readNumber_28 ?_
          refine q_callS (rest := []) (n := 1) C (c_X1_isDigit l G (bytes place.toNatClampNeg) _ hv) ml_X1_74 kb_X1_isDigit rfl ⟨⟨rfl, rfl⟩, (Nat.le_of_ble_eq_true rfl), (Nat.le_of_ble_eq_true rfl)⟩ hW hS hl.1 rfl (Nat.le_of_ble_eq_true rfl) dX1_readNumber_29 ⟨Nat.zero_le _, Nat.zero_le _⟩ (fun r_6 u_7 H locs hv hW hS => ?_)
          obtain ⟨hv_b_6, hv⟩ := hv
          try dsimp only at hv
          refine lv_if_eq (tgt := 69) hx hb dX1_readNumber_32 (by decide) (fun c_8 => ?_) (fun c_8 => ?_)
          · replace hv := hv.1 c_8
            exact h_j_X1_readNumber_69 x1 place rsize rsteps H locs ls hW hS (lv_sub hl [0, 1] rfl) hv
          · replace hv := hv.2 c_8
            refine lv_bipush (v := 10) hx hb dX1_readNumber_35 kbp_10 ?_
            refine lv_iload_n hx hb dX1_readNumber_37 rfl (lv_at hl 1 rfl) ?_
            refine lv_imul hx hb dX1_readNumber_38 ?_
            refine lv_aload_n hx hb dX1_readNumber_39 rfl (lv_at hl 0 rfl) ?_
            refine q_get C kc1 hW 0 rfl 0 (by decide) fl_X1_9 rfl rfl dX1_readNumber_40 ?_
            refine lv_aload_n hx hb dX1_readNumber_43 rfl (lv_at hl 0 rfl) ?_
            refine q_get C kc1 hW 0 rfl 2 (by decide) fl_X1_46 rfl rfl dX1_readNumber_44 ?_
            obtain ⟨h_9, hv⟩ := hv
            refine q_bald C hW 1 rfl h_9 dX1_readNumber_47 ?_
            refine lv_iadd hx hb dX1_readNumber_48 ?_
            refine lv_bipush (v := 48) hx hb dX1_readNumber_49 kbp_48 ?_
            refine lv_isub hx hb dX1_readNumber_51 ?_
            refine lv_istore_n (lv' := [(1, .int ((((10 : Int32) * x1) + (bytes place.toNatClampNeg)) - (48 : Int32))), (0, .ref (b 0)), (2, .int x2)]) hx hb dX1_readNumber_52 rfl hl (by decide) rfl (fun ls hl => ?_)
            refine lv_aload_n hx hb dX1_readNumber_53 rfl (lv_at hl 1 rfl) ?_
            refine lv_dup hx hb dX1_readNumber_54 rfl ?_
            refine q_get C kc1 hW 0 rfl 2 (by decide) fl_X1_46 rfl rfl dX1_readNumber_55 ?_
            refine lv_iconst (v := 1) hx hb dX1_readNumber_58 kic_1 ?_
            refine lv_iadd hx hb dX1_readNumber_59 ?_
            refine q_put C kc1 hW hS 0 rfl 2 (by decide) fl_X1_46 rfl rfl rfl rfl (Nat.le_of_ble_eq_true rfl) dX1_readNumber_60 (fun H locs hW hS => ?_)
            have hW : wo G A (wd_X1_1 G b length (place + (1 : Int32)) names rsize bytes rsteps) H := hW
            refine lv_iinc (v := (x2 + 1)) (lv' := [(2, .int (x2 + 1)), (1, .int ((((10 : Int32) * x1) + (bytes place.toNatClampNeg)) - (48 : Int32))), (0, .ref (b 0))]) hx hb dX1_readNumber_63 hl (k := 2) rfl rfl (by decide) rfl (fun ls hl => ?_)
            refine lv_goto (tgt := 4) hx hb dX1_readNumber_66 (by decide) ?_
            exact ih ((((10 : Int32) * x1) + (bytes place.toNatClampNeg)) - (48 : Int32)) (x2 + 1) (place + (1 : Int32)) rsize rsteps H locs ls hW hS (lv_sub hl [2, 1, 0] rfl) hv
  refine lv_iconst (v := 0) hx hb dX1_readNumber_0 kic_0 ?_
  refine lv_istore_n (lv' := [(1, .int (0 : Int32)), (0, .ref (b 0))]) hx hb dX1_readNumber_1 rfl hl (by decide) rfl (fun ls hl => ?_)
  refine lv_iconst (v := 0) hx hb dX1_readNumber_2 kic_0 ?_
  refine lv_istore_n (lv' := [(2, .int (0 : Int32)), (1, .int (0 : Int32)), (0, .ref (b 0))]) hx hb dX1_readNumber_3 rfl hl (by decide) rfl (fun ls hl => ?_)
  obtain ⟨n_10, hv⟩ := hv
  exact h_l_X1_readNumber_4 n_10 (0 : Int32) (0 : Int32) place rsize rsteps H locs ls hW hS (lv_sub hl [2, 1, 0] rfl) hv
set_option maxHeartbeats 4000000 in
set_option maxRecDepth 100000 in
theorem c_X1_readClosing (l : Launch) (G : Gt) (b : Nat → Nat) (length : Int32) (place : Int32) (names : Nat) (rsize : Int32) (bytes : Nat → Int32) (K : Int32 → Int32 → Prop) (hv : v_X1_readClosing length place bytes K) : CI l G yX1_readClosing (.code yX1_readClosing cX1_readClosing 1 (some .boolean) :: wsG) (rmm 0 0) [.ref (b 0)] (wd_X1_2 G b length place names rsize bytes) (S := Int32) (fun u => wd_X1_2 G b length u names rsize bytes) (fun r u => (r = 0 ∨ r = 1) ∧ K r u) := by
  refine ci_intro (by decide) rfl (fun _ => rfl) (Nat.le_of_ble_eq_true rfl) ?_
  intro p e s m args below meth c A H ls Q C hW hS hl ret
  have hx := C.1.1
  have hb := C.1.2.1
  generalize hls : ([] : List Loc) = locs at hS ⊢
  have hl : lv_has ls 1 [(0, .ref (b 0))] := hl
  refine lv_aload_n hx hb dX1_readClosing_0 rfl (lv_at hl 0 rfl) ?_
  refine q_get C kc1 hW 0 rfl 2 (by decide) fl_X1_46 rfl rfl dX1_readClosing_1 ?_
  refine lv_aload_n hx hb dX1_readClosing_4 rfl (lv_at hl 0 rfl) ?_
  refine q_get C kc1 hW 0 rfl 1 (by decide) fl_X1_34 rfl rfl dX1_readClosing_5 ?_
  refine lv_icmp_ge (tgt := 25) hx hb dX1_readClosing_8 (by decide) (fun c_1 => ?_) (fun c_1 => ?_)
  · replace hv := hv.1 c_1
    refine lv_iconst (v := 0) hx hb dX1_readClosing_25 kic_0 ?_
    exact ret (place) (0 : Int32) H locs ls _ (bl_narrow (Or.inl rfl)) hW hS ⟨(Or.inl rfl), hv⟩ dX1_readClosing_26
  · replace hv := hv.2 c_1
    refine lv_aload_n hx hb dX1_readClosing_11 rfl (lv_at hl 0 rfl) ?_
    refine q_get C kc1 hW 0 rfl 0 (by decide) fl_X1_9 rfl rfl dX1_readClosing_12 ?_
    refine lv_aload_n hx hb dX1_readClosing_15 rfl (lv_at hl 0 rfl) ?_
    refine q_get C kc1 hW 0 rfl 2 (by decide) fl_X1_46 rfl rfl dX1_readClosing_16 ?_
    obtain ⟨h_2, hv⟩ := hv
    refine q_bald C hW 1 rfl h_2 dX1_readClosing_19 ?_
    refine lv_bipush (v := 41) hx hb dX1_readClosing_20 kbp_41 ?_
    refine lv_icmp_eq (tgt := 27) hx hb dX1_readClosing_22 (by decide) (fun c_3 => ?_) (fun c_3 => ?_)
    · replace hv := hv.1 c_3
      refine lv_aload_n hx hb dX1_readClosing_27 rfl (lv_at hl 0 rfl) ?_
      refine lv_dup hx hb dX1_readClosing_28 rfl ?_
      refine q_get C kc1 hW 0 rfl 2 (by decide) fl_X1_46 rfl rfl dX1_readClosing_29 ?_
      refine lv_iconst (v := 1) hx hb dX1_readClosing_32 kic_1 ?_
      refine lv_iadd hx hb dX1_readClosing_33 ?_
      refine q_put C kc1 hW hS 0 rfl 2 (by decide) fl_X1_46 rfl rfl rfl rfl (Nat.le_of_ble_eq_true rfl) dX1_readClosing_34 (fun H locs hW hS => ?_)
      have hW : wo G A (wd_X1_2 G b length (place + (1 : Int32)) names rsize bytes) H := hW
      refine lv_iconst (v := 1) hx hb dX1_readClosing_37 kic_1 ?_
      exact ret ((place + (1 : Int32))) (1 : Int32) H locs ls _ (bl_narrow (Or.inr rfl)) hW hS ⟨(Or.inr rfl), hv⟩ dX1_readClosing_38
    · replace hv := hv.2 c_3
      refine lv_iconst (v := 0) hx hb dX1_readClosing_25 kic_0 ?_
      exact ret (place) (0 : Int32) H locs ls _ (bl_narrow (Or.inl rfl)) hW hS ⟨(Or.inl rfl), hv⟩ dX1_readClosing_26
set_option maxHeartbeats 4000000 in
set_option maxRecDepth 100000 in
theorem c_X1_levelOf (l : Launch) (G : Gt) (p1 : Int32) (K : Int32 → Prop) (hv : v_X1_levelOf p1 K) : CI l G yX1_levelOf (.code yX1_levelOf cX1_levelOf 1 (some .int) :: wsG) (rmm 0 0) [.int p1] [] (S := Unit) (fun _ => []) (fun r u => K r) := by
  refine ci_intro (by decide) rfl (fun _ => rfl) (Nat.le_of_ble_eq_true rfl) ?_
  intro p e s m args below meth c A H ls Q C hW hS hl ret
  have hx := C.1.1
  have hb := C.1.2.1
  generalize hls : ([] : List Loc) = locs at hS ⊢
  have hl : lv_has ls 1 [(0, .int p1)] := hl
  refine lv_iload_n hx hb dX1_levelOf_0 rfl (lv_at hl 0 rfl) ?_
  by_cases c_1_0 : p1 = 37
  · replace hv := hv.1 c_1_0
    refine lv_lookup (off := 99) (tgt := 100) hx hb dX1_levelOf_1 (by decide) (by rw [c_1_0] <;> rfl) (by decide) ?_
    refine lv_iconst (v := 4) hx hb dX1_levelOf_100 kic_4 ?_
    exact ret () (4 : Int32) H locs ls _ rfl hW hS hv dX1_levelOf_101
  · replace hv := hv.2 c_1_0
    by_cases c_1_1 : p1 = 38
    · replace hv := hv.1 c_1_1
      refine lv_lookup (off := 93) (tgt := 94) hx hb dX1_levelOf_1 (by decide) (by rw [c_1_1] <;> rfl) (by decide) ?_
      refine lv_iconst (v := 1) hx hb dX1_levelOf_94 kic_1 ?_
      exact ret () (1 : Int32) H locs ls _ rfl hW hS hv dX1_levelOf_95
    · replace hv := hv.2 c_1_1
      by_cases c_1_2 : p1 = 42
      · replace hv := hv.1 c_1_2
        refine lv_lookup (off := 99) (tgt := 100) hx hb dX1_levelOf_1 (by decide) (by rw [c_1_2] <;> rfl) (by decide) ?_
        refine lv_iconst (v := 4) hx hb dX1_levelOf_100 kic_4 ?_
        exact ret () (4 : Int32) H locs ls _ rfl hW hS hv dX1_levelOf_101
      · replace hv := hv.2 c_1_2
        by_cases c_1_3 : p1 = 43
        · replace hv := hv.1 c_1_3
          refine lv_lookup (off := 97) (tgt := 98) hx hb dX1_levelOf_1 (by decide) (by rw [c_1_3] <;> rfl) (by decide) ?_
          refine lv_iconst (v := 3) hx hb dX1_levelOf_98 kic_3 ?_
          exact ret () (3 : Int32) H locs ls _ rfl hW hS hv dX1_levelOf_99
        · replace hv := hv.2 c_1_3
          by_cases c_1_4 : p1 = 45
          · replace hv := hv.1 c_1_4
            refine lv_lookup (off := 97) (tgt := 98) hx hb dX1_levelOf_1 (by decide) (by rw [c_1_4] <;> rfl) (by decide) ?_
            refine lv_iconst (v := 3) hx hb dX1_levelOf_98 kic_3 ?_
            exact ret () (3 : Int32) H locs ls _ rfl hW hS hv dX1_levelOf_99
          · replace hv := hv.2 c_1_4
            by_cases c_1_5 : p1 = 47
            · replace hv := hv.1 c_1_5
              refine lv_lookup (off := 99) (tgt := 100) hx hb dX1_levelOf_1 (by decide) (by rw [c_1_5] <;> rfl) (by decide) ?_
              refine lv_iconst (v := 4) hx hb dX1_levelOf_100 kic_4 ?_
              exact ret () (4 : Int32) H locs ls _ rfl hW hS hv dX1_levelOf_101
            · replace hv := hv.2 c_1_5
              by_cases c_1_6 : p1 = 60
              · replace hv := hv.1 c_1_6
                refine lv_lookup (off := 95) (tgt := 96) hx hb dX1_levelOf_1 (by decide) (by rw [c_1_6] <;> rfl) (by decide) ?_
                refine lv_iconst (v := 2) hx hb dX1_levelOf_96 kic_2 ?_
                exact ret () (2 : Int32) H locs ls _ rfl hW hS hv dX1_levelOf_97
              · replace hv := hv.2 c_1_6
                by_cases c_1_7 : p1 = 61
                · replace hv := hv.1 c_1_7
                  refine lv_lookup (off := 95) (tgt := 96) hx hb dX1_levelOf_1 (by decide) (by rw [c_1_7] <;> rfl) (by decide) ?_
                  refine lv_iconst (v := 2) hx hb dX1_levelOf_96 kic_2 ?_
                  exact ret () (2 : Int32) H locs ls _ rfl hW hS hv dX1_levelOf_97
                · replace hv := hv.2 c_1_7
                  by_cases c_1_8 : p1 = 62
                  · replace hv := hv.1 c_1_8
                    refine lv_lookup (off := 95) (tgt := 96) hx hb dX1_levelOf_1 (by decide) (by rw [c_1_8] <;> rfl) (by decide) ?_
                    refine lv_iconst (v := 2) hx hb dX1_levelOf_96 kic_2 ?_
                    exact ret () (2 : Int32) H locs ls _ rfl hW hS hv dX1_levelOf_97
                  · replace hv := hv.2 c_1_8
                    by_cases c_1_9 : p1 = 124
                    · replace hv := hv.1 c_1_9
                      refine lv_lookup (off := 91) (tgt := 92) hx hb dX1_levelOf_1 (by decide) (by rw [c_1_9] <;> rfl) (by decide) ?_
                      refine lv_iconst (v := 0) hx hb dX1_levelOf_92 kic_0 ?_
                      exact ret () (0 : Int32) H locs ls _ rfl hW hS hv dX1_levelOf_93
                    · replace hv := hv.2 c_1_9
                      refine lv_lookup (off := 101) (tgt := 102) hx hb dX1_levelOf_1 (by decide) ((lv_osw c_1_0 rfl).trans ((lv_osw c_1_1 rfl).trans ((lv_osw c_1_2 rfl).trans ((lv_osw c_1_3 rfl).trans ((lv_osw c_1_4 rfl).trans ((lv_osw c_1_5 rfl).trans ((lv_osw c_1_6 rfl).trans ((lv_osw c_1_7 rfl).trans ((lv_osw c_1_8 rfl).trans ((lv_osw c_1_9 rfl).trans rfl)))))))))) (by decide) ?_
                      refine lv_iconst (v := (-1)) hx hb dX1_levelOf_102 kic_m1 ?_
                      exact ret () (-1 : Int32) H locs ls _ rfl hW hS hv dX1_levelOf_103
set_option maxHeartbeats 4000000 in
set_option maxRecDepth 100000 in
theorem cb_X1_readInner (l : Launch) (f o : Nat) (O_X1_readLevel : Int32 → Int32 → Int32 → Int32 → Nat → Int32 → (Nat → Int32) → (Nat → Int32) → (Int32 → Int32 → Int32 → (Nat → Int32) → Prop) → Prop) (hO_X1_readLevel : ∀ (G : Gt) (b : Nat → Nat) (length : Int32) (place : Int32) (names : Nat) (rsize : Int32) (bytes : Nat → Int32) (rsteps : Nat → Int32) (p1 : Int32) (p2 : Int32) (K : Int32 → Int32 → Int32 → (Nat → Int32) → Prop), O_X1_readLevel p1 p2 length place names rsize bytes rsteps K → CI l G yX1_readLevel (.code yX1_readLevel cX1_readLevel 5 (some .boolean) :: wsG) (rmm f o) [.ref (b 0), .int p1, .int p2] (wd_X1_1 G b length place names rsize bytes rsteps) (S := Int32 × Int32 × (Nat → Int32)) (fun u => wd_X1_1 G b length u.1 names u.2.1 bytes u.2.2) (fun r u => (r = 0 ∨ r = 1) ∧ K r u.1 u.2.1 u.2.2)) (O_X1_readInner : Int32 → Int32 → Int32 → Nat → Int32 → (Nat → Int32) → (Nat → Int32) → (Int32 → Int32 → Int32 → (Nat → Int32) → Prop) → Prop) (hO_X1_readInner : ∀ (G : Gt) (b : Nat → Nat) (length : Int32) (place : Int32) (names : Nat) (rsize : Int32) (bytes : Nat → Int32) (rsteps : Nat → Int32) (p1 : Int32) (K : Int32 → Int32 → Int32 → (Nat → Int32) → Prop), O_X1_readInner p1 length place names rsize bytes rsteps K → CI l G yX1_readInner (.code yX1_readInner cX1_readInner 5 (some .boolean) :: wsG) (rmm f o) [.ref (b 0), .int p1] (wd_X1_1 G b length place names rsize bytes rsteps) (S := Int32 × Int32 × (Nat → Int32)) (fun u => wd_X1_1 G b length u.1 names u.2.1 bytes u.2.2) (fun r u => (r = 0 ∨ r = 1) ∧ K r u.1 u.2.1 u.2.2)) (G : Gt) (b : Nat → Nat) (length : Int32) (place : Int32) (names : Nat) (rsize : Int32) (bytes : Nat → Int32) (rsteps : Nat → Int32) (p1 : Int32) (K : Int32 → Int32 → Int32 → (Nat → Int32) → Prop) (hv : b_X1_readInner O_X1_readLevel O_X1_readInner p1 length place names rsize bytes rsteps K) : CI l G yX1_readInner (.code yX1_readInner cX1_readInner 5 (some .boolean) :: wsG) (rmm (f + 8) (o + 220)) [.ref (b 0), .int p1] (wd_X1_1 G b length place names rsize bytes rsteps) (S := Int32 × Int32 × (Nat → Int32)) (fun u => wd_X1_1 G b length u.1 names u.2.1 bytes u.2.2) (fun r u => (r = 0 ∨ r = 1) ∧ K r u.1 u.2.1 u.2.2) := by
  refine ci_intro (by decide) rfl (fun _ => rfl) (Nat.le_of_ble_eq_true rfl) ?_
  intro p e s m args below meth c A H ls Q C hW hS hl ret
  have hx := C.1.1
  have hb := C.1.2.1
  generalize hls : ([] : List Loc) = locs at hS ⊢
  have hl : lv_has ls 5 [(0, .ref (b 0)), (1, .int p1)] := hl
  have h_j_X1_readInner_93 : ∀ (x2 : Int32) (place : Int32) (rsize : Int32) (rsteps : Nat → Int32) (H : Heap) (locs : List Loc) (ls : Array Slot), wo G A (wd_X1_1 G b length place names rsize bytes rsteps) H → va_S A s.heap H locs → lv_has ls 5 [(0, .ref (b 0)), (1, .int p1), (2, .int x2)] → j_X1_readInner_93 O_X1_readLevel O_X1_readInner p1 length names bytes K x2 place rsize rsteps → W p l e (rmm (f + 8) (o + 220)) s m args below meth c H locs 0 0 Q (F0 m 93 ls []) := by
    intro x2 place rsize rsteps H locs ls hW hS hl hv
    refine lv_iload_n hx hb dX1_readInner_93 rfl (lv_at hl 1 rfl) ?_
    refine lv_iconst (v := 5) hx hb dX1_readInner_94 kic_5 ?_
    refine lv_icmp_ne (tgt := 100) hx hb dX1_readInner_95 (by decide) (fun c_10 => ?_) (fun c_10 => ?_)
    · replace hv := hv.1 c_10
      refine lv_aload_n hx hb dX1_readInner_100 rfl (lv_at hl 0 rfl) ?_
      refine lv_dup hx hb dX1_readInner_101 rfl ?_
      refine q_get C kc1 hW 0 rfl 2 (by decide) fl_X1_46 rfl rfl dX1_readInner_102 ?_
      refine lv_iconst (v := 1) hx hb dX1_readInner_105 kic_1 ?_
      refine lv_iadd hx hb dX1_readInner_106 ?_
      refine q_put C kc1 hW hS 0 rfl 2 (by decide) fl_X1_46 rfl rfl rfl rfl (Nat.le_of_ble_eq_true rfl) dX1_readInner_107 (fun H locs hW hS => ?_)
      have hW : wo G A (wd_X1_1 G b length (place + (1 : Int32)) names rsize bytes rsteps) H := hW
      refine lv_iload_n hx hb dX1_readInner_110 rfl (lv_at hl 2 rfl) ?_
      refine lv_bipush (v := 40) hx hb dX1_readInner_111 kbp_40 ?_
      refine lv_icmp_ne (tgt := 140) hx hb dX1_readInner_113 (by decide) (fun c_11 => ?_) (fun c_11 => ?_)
      · replace hv := hv.1 c_11
        refine lv_aload_n hx hb dX1_readInner_140 rfl (lv_at hl 0 rfl) ?_
        refine lv_iload_n hx hb dX1_readInner_141 rfl (lv_at hl 1 rfl) ?_
        refine lv_iconst (v := 1) hx hb dX1_readInner_142 kic_1 ?_
        refine lv_iadd hx hb dX1_readInner_143 ?_
        refine q_callV (rest := []) (n := 1) C (hO_X1_readInner G b length (place + (1 : Int32)) names rsize bytes rsteps (p1 + (1 : Int32)) _ hv) ml_X1_62 kb_X1_readInner rfl ⟨⟨rfl, rfl⟩, (by show f + 1 ≤ f + 8; omega), (by show 8 + (5 + 11) + o ≤ o + 220; omega)⟩ hW hS [0, 1, 2] rfl rfl kc1 (q0 := 0) rfl hl.1 rfl (Nat.le_of_ble_eq_true rfl) dX1_readInner_144 ⟨Nat.zero_le _, Nat.zero_le _⟩ (fun r_12 u_13 H locs hv hW hS => ?_)
        obtain ⟨place_12, rsize_12, rsteps_12⟩ := u_13
        obtain ⟨hv_b_12, hv⟩ := hv
        try dsimp only at hv
        have hW : wo G A (wd_X1_1 G b length place_12 names rsize_12 bytes rsteps_12) H := hW
        refine lv_istore (lv' := [(4, .int r_12), (0, .ref (b 0)), (1, .int p1), (2, .int x2)]) hx hb dX1_readInner_147 hl (by decide) rfl (fun ls hl => ?_)
        refine lv_aload_n hx hb dX1_readInner_149 rfl (lv_at hl 1 rfl) ?_
        refine lv_bipush (v := (-33)) hx hb dX1_readInner_150 kbp_m33 ?_
        refine q_callVv (rest := []) (n := 1) C (c_X1_step l G b length place_12 names rsize_12 rsteps_12 (-33 : Int32) _ hv) ml_X1_70 kb_X1_step rfl ⟨⟨rfl, rfl⟩, (by show 0 + 1 ≤ f + 8; omega), (by show 8 + (2 + 11) + 0 ≤ o + 220; omega)⟩ hW hS [0, 2] rfl rfl kc1 (q0 := 0) rfl hl.1 rfl (Nat.le_of_ble_eq_true rfl) dX1_readInner_152 ⟨Nat.zero_le _, Nat.zero_le _⟩ (fun u_15 H locs hv hW hS => ?_)
        obtain ⟨rsize_14, rsteps_14⟩ := u_15
        try dsimp only at hv
        have hW : wo G A (wd_X1_1 G b length place_12 names rsize_14 bytes rsteps_14) H := hW
        refine lv_iload hx hb dX1_readInner_155 (lv_at hl 0 rfl) ?_
        exact ret (place_12, rsize_14, rsteps_14) r_12 H locs ls _ (bl_narrow hv_b_12) hW hS ⟨hv_b_12, hv⟩ dX1_readInner_157
      · replace hv := hv.2 c_11
        refine lv_aload_n hx hb dX1_readInner_116 rfl (lv_at hl 0 rfl) ?_
        refine lv_iconst (v := 0) hx hb dX1_readInner_117 kic_0 ?_
        refine lv_iload_n hx hb dX1_readInner_118 rfl (lv_at hl 1 rfl) ?_
        refine lv_iconst (v := 1) hx hb dX1_readInner_119 kic_1 ?_
        refine lv_iadd hx hb dX1_readInner_120 ?_
        refine q_callV (rest := []) (n := 2) C (hO_X1_readLevel G b length (place + (1 : Int32)) names rsize bytes rsteps (0 : Int32) (p1 + (1 : Int32)) _ hv) ml_X1_52 kb_X1_readLevel rfl ⟨⟨rfl, rfl⟩, (by show f + 1 ≤ f + 8; omega), (by show 8 + (5 + 11) + o ≤ o + 220; omega)⟩ hW hS [0, 1, 2] rfl rfl kc1 (q0 := 0) rfl hl.1 rfl (Nat.le_of_ble_eq_true rfl) dX1_readInner_121 ⟨Nat.zero_le _, Nat.zero_le _⟩ (fun r_16 u_17 H locs hv hW hS => ?_)
        obtain ⟨place_16, rsize_16, rsteps_16⟩ := u_17
        obtain ⟨hv_b_16, hv⟩ := hv
        try dsimp only at hv
        have hW : wo G A (wd_X1_1 G b length place_16 names rsize_16 bytes rsteps_16) H := hW
        refine lv_if_eq (tgt := 138) hx hb dX1_readInner_124 (by decide) (fun c_18 => ?_) (fun c_18 => ?_)
        · replace hv := hv.1 c_18
          refine lv_iconst (v := 0) hx hb dX1_readInner_138 kic_0 ?_
          exact ret (place_16, rsize_16, rsteps_16) (0 : Int32) H locs ls _ (bl_narrow (Or.inl rfl)) hW hS ⟨(Or.inl rfl), hv⟩ dX1_readInner_139
        · replace hv := hv.2 c_18
          refine lv_aload_n hx hb dX1_readInner_127 rfl (lv_at hl 0 rfl) ?_
          refine q_callV (rest := []) (n := 0) C (c_X1_readClosing l G b length place_16 names rsize_16 bytes _ hv) ml_X1_86 kb_X1_readClosing rfl ⟨⟨rfl, rfl⟩, (by show 0 + 1 ≤ f + 8; omega), (by show 8 + (1 + 11) + 0 ≤ o + 220; omega)⟩ hW hS [0, 1] rfl rfl kc1 (q0 := 0) rfl hl.1 rfl (Nat.le_of_ble_eq_true rfl) dX1_readInner_128 ⟨Nat.zero_le _, Nat.zero_le _⟩ (fun r_19 u_20 H locs hv hW hS => ?_)
          obtain ⟨place_19, rfl⟩ : ∃ z, z = u_20 := ⟨_, rfl⟩
          obtain ⟨hv_b_19, hv⟩ := hv
          try dsimp only at hv
          have hW : wo G A (wd_X1_1 G b length place_19 names rsize_16 bytes rsteps_16) H := hW
          refine lv_if_eq (tgt := 138) hx hb dX1_readInner_131 (by decide) (fun c_21 => ?_) (fun c_21 => ?_)
          · replace hv := hv.1 c_21
            refine lv_iconst (v := 0) hx hb dX1_readInner_138 kic_0 ?_
            exact ret (place_19, rsize_16, rsteps_16) (0 : Int32) H locs ls _ (bl_narrow (Or.inl rfl)) hW hS ⟨(Or.inl rfl), hv⟩ dX1_readInner_139
          · replace hv := hv.2 c_21
            refine lv_iconst (v := 1) hx hb dX1_readInner_134 kic_1 ?_
            refine lv_goto (tgt := 139) hx hb dX1_readInner_135 (by decide) ?_
            exact ret (place_19, rsize_16, rsteps_16) (1 : Int32) H locs ls _ (bl_narrow (Or.inr rfl)) hW hS ⟨(Or.inr rfl), hv⟩ dX1_readInner_139
    · replace hv := hv.2 c_10
      refine lv_iconst (v := 0) hx hb dX1_readInner_98 kic_0 ?_
      exact ret (place, rsize, rsteps) (0 : Int32) H locs ls _ (bl_narrow (Or.inl rfl)) hW hS ⟨(Or.inl rfl), hv⟩ dX1_readInner_99
  have h_j_X1_readInner_57 : ∀ (x2 : Int32) (t0 : Int32) (place : Int32) (rsize : Int32) (rsteps : Nat → Int32) (H : Heap) (locs : List Loc) (ls : Array Slot), wo G A (wd_X1_1 G b length place names rsize bytes rsteps) H → va_S A s.heap H locs → lv_has ls 5 [(0, .ref (b 0)), (1, .int p1), (2, .int x2)] → j_X1_readInner_57 O_X1_readLevel O_X1_readInner p1 length names bytes K x2 t0 place rsize rsteps → W p l e (rmm (f + 8) (o + 220)) s m args below meth c H locs 0 0 Q (F0 m 57 ls [.int t0]) := by
    intro x2 t0 place rsize rsteps H locs ls hW hS hl hv
    refine lv_istore_n (lv' := [(3, .int t0), (0, .ref (b 0)), (1, .int p1), (2, .int x2)]) hx hb dX1_readInner_57 rfl hl (by decide) rfl (fun ls hl => ?_)
    refine lv_iload_n hx hb dX1_readInner_58 rfl (lv_at hl 0 rfl) ?_
    refine lv_if_lt (tgt := 81) hx hb dX1_readInner_59 (by decide) (fun c_8 => ?_) (fun c_8 => ?_)
    · replace hv := hv.1 c_8
      refine lv_iload_n hx hb dX1_readInner_81 rfl (lv_at hl 3 rfl) ?_
      refine lv_bipush (v := 33) hx hb dX1_readInner_82 kbp_33 ?_
      refine lv_icmp_eq (tgt := 93) hx hb dX1_readInner_84 (by decide) (fun c_9 => ?_) (fun c_9 => ?_)
      · replace hv := hv.1 c_9
        exact h_j_X1_readInner_93 x2 place rsize rsteps H locs ls hW hS (lv_sub hl [1, 2, 3] rfl) hv
      · replace hv := hv.2 c_9
        refine lv_iload_n hx hb dX1_readInner_87 rfl (lv_at hl 3 rfl) ?_
        refine lv_bipush (v := 40) hx hb dX1_readInner_88 kbp_40 ?_
        refine lv_icmp_ne (tgt := 98) hx hb dX1_readInner_90 (by decide) (fun c_22 => ?_) (fun c_22 => ?_)
        · replace hv := hv.1 c_22
          refine lv_iconst (v := 0) hx hb dX1_readInner_98 kic_0 ?_
          exact ret (place, rsize, rsteps) (0 : Int32) H locs ls _ (bl_narrow (Or.inl rfl)) hW hS ⟨(Or.inl rfl), hv⟩ dX1_readInner_99
        · replace hv := hv.2 c_22
          exact h_j_X1_readInner_93 x2 place rsize rsteps H locs ls hW hS (lv_sub hl [1, 2, 3] rfl) hv
    · replace hv := hv.2 c_8
      refine lv_aload_n hx hb dX1_readInner_62 rfl (lv_at hl 1 rfl) ?_
      refine lv_dup hx hb dX1_readInner_63 rfl ?_
      refine q_get C kc1 hW 0 rfl 2 (by decide) fl_X1_46 rfl rfl dX1_readInner_64 ?_
      refine lv_iconst (v := 1) hx hb dX1_readInner_67 kic_1 ?_
      refine lv_iadd hx hb dX1_readInner_68 ?_
      refine q_put C kc1 hW hS 0 rfl 2 (by decide) fl_X1_46 rfl rfl rfl rfl (Nat.le_of_ble_eq_true rfl) dX1_readInner_69 (fun H locs hW hS => ?_)
      have hW : wo G A (wd_X1_1 G b length (place + (1 : Int32)) names rsize bytes rsteps) H := hW
      refine lv_aload_n hx hb dX1_readInner_72 rfl (lv_at hl 1 rfl) ?_
      refine lv_iconst (v := (-1)) hx hb dX1_readInner_73 kic_m1 ?_
      refine lv_iload_n hx hb dX1_readInner_74 rfl (lv_at hl 0 rfl) ?_
      refine lv_isub hx hb dX1_readInner_75 ?_
      refine q_callVv (rest := []) (n := 1) C (c_X1_step l G b length (place + (1 : Int32)) names rsize rsteps ((-1 : Int32) - t0) _ hv) ml_X1_70 kb_X1_step rfl ⟨⟨rfl, rfl⟩, (by show 0 + 1 ≤ f + 8; omega), (by show 8 + (2 + 11) + 0 ≤ o + 220; omega)⟩ hW hS [0, 2] rfl rfl kc1 (q0 := 0) rfl hl.1 rfl (Nat.le_of_ble_eq_true rfl) dX1_readInner_76 ⟨Nat.zero_le _, Nat.zero_le _⟩ (fun u_24 H locs hv hW hS => ?_)
      obtain ⟨rsize_23, rsteps_23⟩ := u_24
      try dsimp only at hv
      have hW : wo G A (wd_X1_1 G b length (place + (1 : Int32)) names rsize_23 bytes rsteps_23) H := hW
      refine lv_iconst (v := 1) hx hb dX1_readInner_79 kic_1 ?_
      exact ret ((place + (1 : Int32)), rsize_23, rsteps_23) (1 : Int32) H locs ls _ (bl_narrow (Or.inr rfl)) hW hS ⟨(Or.inr rfl), hv⟩ dX1_readInner_80
  refine lv_aload_n hx hb dX1_readInner_0 rfl (lv_at hl 0 rfl) ?_
  refine q_get C kc1 hW 0 rfl 2 (by decide) fl_X1_46 rfl rfl dX1_readInner_1 ?_
  refine lv_aload_n hx hb dX1_readInner_4 rfl (lv_at hl 0 rfl) ?_
  refine q_get C kc1 hW 0 rfl 1 (by decide) fl_X1_34 rfl rfl dX1_readInner_5 ?_
  refine lv_icmp_ge (tgt := 16) hx hb dX1_readInner_8 (by decide) (fun c_1 => ?_) (fun c_1 => ?_)
  · replace hv := hv.1 c_1
    refine lv_iconst (v := 0) hx hb dX1_readInner_16 kic_0 ?_
    exact ret (place, rsize, rsteps) (0 : Int32) H locs ls _ (bl_narrow (Or.inl rfl)) hW hS ⟨(Or.inl rfl), hv⟩ dX1_readInner_17
  · replace hv := hv.2 c_1
    refine lv_iload_n hx hb dX1_readInner_11 rfl (lv_at hl 1 rfl) ?_
    refine lv_iconst (v := 5) hx hb dX1_readInner_12 kic_5 ?_
    refine lv_icmp_le (tgt := 18) hx hb dX1_readInner_13 (by decide) (fun c_2 => ?_) (fun c_2 => ?_)
    · replace hv := hv.1 c_2
      refine lv_aload_n hx hb dX1_readInner_18 rfl (lv_at hl 0 rfl) ?_
      refine q_get C kc1 hW 0 rfl 0 (by decide) fl_X1_9 rfl rfl dX1_readInner_19 ?_
      refine lv_aload_n hx hb dX1_readInner_22 rfl (lv_at hl 0 rfl) ?_
      refine q_get C kc1 hW 0 rfl 2 (by decide) fl_X1_46 rfl rfl dX1_readInner_23 ?_
      obtain ⟨h_3, hv⟩ := hv
      refine q_bald C hW 1 rfl h_3 dX1_readInner_26 ?_
      refine lv_istore_n (lv' := [(2, .int (bytes place.toNatClampNeg)), (0, .ref (b 0)), (1, .int p1)]) hx hb dX1_readInner_27 rfl hl (by decide) rfl (fun ls hl => ?_)
      refine lv_iload_n hx hb dX1_readInner_28 rfl (lv_at hl 0 rfl) ?_
      refine q_callS (rest := []) (n := 1) C (c_X1_isDigit l G (bytes place.toNatClampNeg) _ hv) ml_X1_74 kb_X1_isDigit rfl ⟨⟨rfl, rfl⟩, (by show 0 + 1 ≤ f + 8; omega), (by show 8 + (1 + 11) + 0 ≤ o + 220; omega)⟩ hW hS hl.1 rfl (Nat.le_of_ble_eq_true rfl) dX1_readInner_29 ⟨Nat.zero_le _, Nat.zero_le _⟩ (fun r_4 u_5 H locs hv hW hS => ?_)
      obtain ⟨hv_b_4, hv⟩ := hv
      try dsimp only at hv
      refine lv_if_eq (tgt := 40) hx hb dX1_readInner_32 (by decide) (fun c_6 => ?_) (fun c_6 => ?_)
      · replace hv := hv.1 c_6
        refine lv_iload_n hx hb dX1_readInner_40 rfl (lv_at hl 0 rfl) ?_
        refine lv_if_le (tgt := 56) hx hb dX1_readInner_41 (by decide) (fun c_7 => ?_) (fun c_7 => ?_)
        · replace hv := hv.1 c_7
          refine lv_iconst (v := (-1)) hx hb dX1_readInner_56 kic_m1 ?_
          exact h_j_X1_readInner_57 (bytes place.toNatClampNeg) (-1 : Int32) place rsize rsteps H locs ls hW hS (lv_sub hl [1, 2, 0] rfl) hv
        · replace hv := hv.2 c_7
          refine lv_aload_n hx hb dX1_readInner_44 rfl (lv_at hl 1 rfl) ?_
          refine q_get C kc1 hW 0 rfl 3 (by decide) fl_X1_17 rfl rfl dX1_readInner_45 ?_
          refine lv_iload_n hx hb dX1_readInner_48 rfl (lv_at hl 0 rfl) ?_
          refine lv_i2c hx hb dX1_readInner_49 rfl ?_
          obtain ⟨h_25, hv⟩ := hv
          obtain ⟨h_26, hv⟩ := hv
          refine q_indexOf (rest := []) C ml_X1_81 h_25 h_26 ⟨⟨rfl, rfl⟩, (by show 3 + 1 ≤ f + 8; omega), (by show 8 + (2 + 11) + 70 ≤ o + 220; omega)⟩ hW hS hl.1 rfl (Nat.le_of_ble_eq_true rfl) dX1_readInner_50 ⟨Nat.zero_le _, Nat.zero_le _⟩ (fun H locs hW hS => ?_)
          refine lv_goto (tgt := 57) hx hb dX1_readInner_53 (by decide) ?_
          exact h_j_X1_readInner_57 (bytes place.toNatClampNeg) (f_index names (((bytes place.toNatClampNeg).toUInt32 % 65536).toInt32)) place rsize rsteps H locs ls hW hS (lv_sub hl [1, 2, 0] rfl) hv
      · replace hv := hv.2 c_6
        refine lv_aload_n hx hb dX1_readInner_35 rfl (lv_at hl 1 rfl) ?_
        refine q_callV (rest := []) (n := 0) C (c_X1_readNumber l G b length place names rsize bytes rsteps _ hv) ml_X1_77 kb_X1_readNumber rfl ⟨⟨rfl, rfl⟩, (by show 1 + 1 ≤ f + 8; omega), (by show 8 + (3 + 11) + 21 ≤ o + 220; omega)⟩ hW hS [0, 1, 2] rfl rfl kc1 (q0 := 0) rfl hl.1 rfl (Nat.le_of_ble_eq_true rfl) dX1_readInner_36 ⟨Nat.zero_le _, Nat.zero_le _⟩ (fun r_28 u_29 H locs hv hW hS => ?_)
        obtain ⟨place_28, rsize_28, rsteps_28⟩ := u_29
        obtain ⟨hv_b_28, hv⟩ := hv
        try dsimp only at hv
        have hW : wo G A (wd_X1_1 G b length place_28 names rsize_28 bytes rsteps_28) H := hW
        exact ret (place_28, rsize_28, rsteps_28) r_28 H locs ls _ (bl_narrow hv_b_28) hW hS ⟨hv_b_28, hv⟩ dX1_readInner_39
    · replace hv := hv.2 c_2
      refine lv_iconst (v := 0) hx hb dX1_readInner_16 kic_0 ?_
      exact ret (place, rsize, rsteps) (0 : Int32) H locs ls _ (bl_narrow (Or.inl rfl)) hW hS ⟨(Or.inl rfl), hv⟩ dX1_readInner_17
set_option maxHeartbeats 4000000 in
set_option maxRecDepth 100000 in
theorem cb_X1_readLevel (l : Launch) (f o : Nat) (O_X1_readLevel : Int32 → Int32 → Int32 → Int32 → Nat → Int32 → (Nat → Int32) → (Nat → Int32) → (Int32 → Int32 → Int32 → (Nat → Int32) → Prop) → Prop) (hO_X1_readLevel : ∀ (G : Gt) (b : Nat → Nat) (length : Int32) (place : Int32) (names : Nat) (rsize : Int32) (bytes : Nat → Int32) (rsteps : Nat → Int32) (p1 : Int32) (p2 : Int32) (K : Int32 → Int32 → Int32 → (Nat → Int32) → Prop), O_X1_readLevel p1 p2 length place names rsize bytes rsteps K → CI l G yX1_readLevel (.code yX1_readLevel cX1_readLevel 5 (some .boolean) :: wsG) (rmm f o) [.ref (b 0), .int p1, .int p2] (wd_X1_1 G b length place names rsize bytes rsteps) (S := Int32 × Int32 × (Nat → Int32)) (fun u => wd_X1_1 G b length u.1 names u.2.1 bytes u.2.2) (fun r u => (r = 0 ∨ r = 1) ∧ K r u.1 u.2.1 u.2.2)) (O_X1_readInner : Int32 → Int32 → Int32 → Nat → Int32 → (Nat → Int32) → (Nat → Int32) → (Int32 → Int32 → Int32 → (Nat → Int32) → Prop) → Prop) (hO_X1_readInner : ∀ (G : Gt) (b : Nat → Nat) (length : Int32) (place : Int32) (names : Nat) (rsize : Int32) (bytes : Nat → Int32) (rsteps : Nat → Int32) (p1 : Int32) (K : Int32 → Int32 → Int32 → (Nat → Int32) → Prop), O_X1_readInner p1 length place names rsize bytes rsteps K → CI l G yX1_readInner (.code yX1_readInner cX1_readInner 5 (some .boolean) :: wsG) (rmm f o) [.ref (b 0), .int p1] (wd_X1_1 G b length place names rsize bytes rsteps) (S := Int32 × Int32 × (Nat → Int32)) (fun u => wd_X1_1 G b length u.1 names u.2.1 bytes u.2.2) (fun r u => (r = 0 ∨ r = 1) ∧ K r u.1 u.2.1 u.2.2)) (G : Gt) (b : Nat → Nat) (length : Int32) (place : Int32) (names : Nat) (rsize : Int32) (bytes : Nat → Int32) (rsteps : Nat → Int32) (p1 : Int32) (p2 : Int32) (K : Int32 → Int32 → Int32 → (Nat → Int32) → Prop) (hv : b_X1_readLevel O_X1_readLevel O_X1_readInner p1 p2 length place names rsize bytes rsteps K) : CI l G yX1_readLevel (.code yX1_readLevel cX1_readLevel 5 (some .boolean) :: wsG) (rmm (f + 8) (o + 220)) [.ref (b 0), .int p1, .int p2] (wd_X1_1 G b length place names rsize bytes rsteps) (S := Int32 × Int32 × (Nat → Int32)) (fun u => wd_X1_1 G b length u.1 names u.2.1 bytes u.2.2) (fun r u => (r = 0 ∨ r = 1) ∧ K r u.1 u.2.1 u.2.2) := by
  refine ci_intro (by decide) rfl (fun _ => rfl) (Nat.le_of_ble_eq_true rfl) ?_
  intro p e s m args below meth c A H ls Q C hW hS hl ret
  have hx := C.1.1
  have hb := C.1.2.1
  generalize hls : ([] : List Loc) = locs at hS ⊢
  have hl : lv_has ls 5 [(0, .ref (b 0)), (1, .int p1), (2, .int p2)] := hl
  have h_j_X1_readLevel_10 : ∀ (place : Int32) (rsize : Int32) (rsteps : Nat → Int32) (H : Heap) (locs : List Loc) (ls : Array Slot), wo G A (wd_X1_1 G b length place names rsize bytes rsteps) H → va_S A s.heap H locs → lv_has ls 5 [(0, .ref (b 0)), (2, .int p2)] → j_X1_readLevel_10 O_X1_readLevel O_X1_readInner p1 p2 length names bytes K place rsize rsteps → W p l e (rmm (f + 8) (o + 220)) s m args below meth c H locs 0 0 Q (F0 m 10 ls []) := by
    intro place rsize rsteps H locs ls hW hS hl hv
    refine lv_aload_n hx hb dX1_readLevel_10 rfl (lv_at hl 0 rfl) ?_
    refine lv_iload_n hx hb dX1_readLevel_11 rfl (lv_at hl 1 rfl) ?_
    refine q_callV (rest := []) (n := 1) C (hO_X1_readInner G b length place names rsize bytes rsteps p2 _ hv) ml_X1_62 kb_X1_readInner rfl ⟨⟨rfl, rfl⟩, (by show f + 1 ≤ f + 8; omega), (by show 8 + (5 + 11) + o ≤ o + 220; omega)⟩ hW hS [0, 1, 2] rfl rfl kc1 (q0 := 0) rfl hl.1 rfl (Nat.le_of_ble_eq_true rfl) dX1_readLevel_12 ⟨Nat.zero_le _, Nat.zero_le _⟩ (fun r_2 u_3 H locs hv hW hS => ?_)
    obtain ⟨place_2, rsize_2, rsteps_2⟩ := u_3
    obtain ⟨hv_b_2, hv⟩ := hv
    try dsimp only at hv
    have hW : wo G A (wd_X1_1 G b length place_2 names rsize_2 bytes rsteps_2) H := hW
    exact ret (place_2, rsize_2, rsteps_2) r_2 H locs ls _ (bl_narrow hv_b_2) hW hS ⟨hv_b_2, hv⟩ dX1_readLevel_15
  have h_j_X1_readLevel_113 : ∀ (B31 : Int32 → Int32 → Int32 → (Nat → Int32) → Prop) (hB31 : ∀ (x3 : Int32) (place : Int32) (rsize : Int32) (rsteps : Nat → Int32) (H : Heap) (locs : List Loc) (ls : Array Slot), x3 = 0 ∨ x3 = 1 → wo G A (wd_X1_1 G b length place names rsize bytes rsteps) H → va_S A s.heap H locs → lv_has ls 5 [(0, .ref (b 0)), (1, .int p1), (2, .int p2), (3, .int x3)] → B31 x3 place rsize rsteps → W p l e (rmm (f + 8) (o + 220)) s m args below meth c H locs 0 0 Q (F0 m 31 ls [])), ∀ (t0 : Int32) (place : Int32) (rsize : Int32) (rsteps : Nat → Int32) (H : Heap) (locs : List Loc) (ls : Array Slot), t0 = 0 ∨ t0 = 1 → wo G A (wd_X1_1 G b length place names rsize bytes rsteps) H → va_S A s.heap H locs → lv_has ls 5 [(0, .ref (b 0)), (1, .int p1), (2, .int p2)] → j_X1_readLevel_113 O_X1_readLevel O_X1_readInner p1 p2 length names bytes B31 K t0 place rsize rsteps → W p l e (rmm (f + 8) (o + 220)) s m args below meth c H locs 0 0 Q (F0 m 113 ls [.int t0]) := by
    intro B31 hB31 t0 place rsize rsteps H locs ls hz_t0 hW hS hl hv
    refine lv_istore_n (lv' := [(3, .int t0), (0, .ref (b 0)), (1, .int p1), (2, .int p2)]) hx hb dX1_readLevel_113 rfl hl (by decide) rfl (fun ls hl => ?_)
    refine lv_goto (tgt := 31) hx hb dX1_readLevel_114 (by decide) ?_
    exact hB31 t0 place rsize rsteps H locs ls hz_t0 hW hS (lv_sub hl [1, 2, 3, 0] rfl) hv
  have h_l_X1_readLevel_31 : ∀ (n : Nat), ∀ (x3 : Int32) (place : Int32) (rsize : Int32) (rsteps : Nat → Int32) (H : Heap) (locs : List Loc) (ls : Array Slot), x3 = 0 ∨ x3 = 1 → wo G A (wd_X1_1 G b length place names rsize bytes rsteps) H → va_S A s.heap H locs → lv_has ls 5 [(0, .ref (b 0)), (1, .int p1), (2, .int p2), (3, .int x3)] → l_X1_readLevel_31 O_X1_readLevel O_X1_readInner p1 p2 length names bytes K n x3 place rsize rsteps → W p l e (rmm (f + 8) (o + 220)) s m args below meth c H locs 0 0 Q (F0 m 31 ls []) := by
    intro n
    induction n with
    | zero =>
      intro x3 place rsize rsteps H locs ls hz_x3 hW hS hl hv
      exact False.elim hv
    | succ n ih =>
      intro x3 place rsize rsteps H locs ls hz_x3 hW hS hl hv
      refine lv_iload_n hx hb dX1_readLevel_31 rfl (lv_at hl 3 rfl) ?_
      refine lv_if_eq (tgt := 117) hx hb dX1_readLevel_32 (by decide) (fun c_8 => ?_) (fun c_8 => ?_)
      · replace hv := hv.1 c_8
        refine lv_iconst (v := 1) hx hb dX1_readLevel_117 kic_1 ?_
        exact ret (place, rsize, rsteps) (1 : Int32) H locs ls _ (bl_narrow (Or.inr rfl)) hW hS ⟨(Or.inr rfl), hv⟩ dX1_readLevel_118
      · replace hv := hv.2 c_8
        refine lv_aload_n hx hb dX1_readLevel_35 rfl (lv_at hl 0 rfl) ?_
        refine q_get C kc1 hW 0 rfl 2 (by decide) fl_X1_46 rfl rfl dX1_readLevel_36 ?_
        refine lv_aload_n hx hb dX1_readLevel_39 rfl (lv_at hl 0 rfl) ?_
        refine q_get C kc1 hW 0 rfl 1 (by decide) fl_X1_34 rfl rfl dX1_readLevel_40 ?_
        refine lv_icmp_ge (tgt := 117) hx hb dX1_readLevel_43 (by decide) (fun c_9 => ?_) (fun c_9 => ?_)
        · replace hv := hv.1 c_9
          refine lv_iconst (v := 1) hx hb dX1_readLevel_117 kic_1 ?_
          exact ret (place, rsize, rsteps) (1 : Int32) H locs ls _ (bl_narrow (Or.inr rfl)) hW hS ⟨(Or.inr rfl), hv⟩ dX1_readLevel_118
        · replace hv := hv.2 c_9
          refine lv_aload_n hx hb dX1_readLevel_46 rfl (lv_at hl 0 rfl) ?_
          refine q_get C kc1 hW 0 rfl 0 (by decide) fl_X1_9 rfl rfl dX1_readLevel_47 ?_
          refine lv_aload_n hx hb dX1_readLevel_50 rfl (lv_at hl 0 rfl) ?_
          refine q_get C kc1 hW 0 rfl 2 (by decide) fl_X1_46 rfl rfl dX1_readLevel_51 ?_
          obtain ⟨h_10, hv⟩ := hv
          refine q_bald C hW 1 rfl h_10 dX1_readLevel_54 ?_
          refine q_callS (rest := []) (n := 1) C (c_X1_levelOf l G (bytes place.toNatClampNeg) _ hv) ml_X1_66 kb_X1_levelOf rfl ⟨⟨rfl, rfl⟩, (by show 0 + 1 ≤ f + 8; omega), (by show 8 + (1 + 11) + 0 ≤ o + 220; omega)⟩ hW hS hl.1 rfl (Nat.le_of_ble_eq_true rfl) dX1_readLevel_55 ⟨Nat.zero_le _, Nat.zero_le _⟩ (fun r_11 u_12 H locs hv hW hS => ?_)
          try dsimp only at hv
          refine lv_iload_n hx hb dX1_readLevel_58 rfl (lv_at hl 1 rfl) ?_
          refine lv_icmp_ne (tgt := 117) hx hb dX1_readLevel_59 (by decide) (fun c_13 => ?_) (fun c_13 => ?_)
          · replace hv := hv.1 c_13
            refine lv_iconst (v := 1) hx hb dX1_readLevel_117 kic_1 ?_
            exact ret (place, rsize, rsteps) (1 : Int32) H locs ls _ (bl_narrow (Or.inr rfl)) hW hS ⟨(Or.inr rfl), hv⟩ dX1_readLevel_118
          · replace hv := hv.2 c_13
            refine lv_aload_n hx hb dX1_readLevel_62 rfl (lv_at hl 0 rfl) ?_
            refine q_get C kc1 hW 0 rfl 0 (by decide) fl_X1_9 rfl rfl dX1_readLevel_63 ?_
            refine lv_aload_n hx hb dX1_readLevel_66 rfl (lv_at hl 0 rfl) ?_
            refine q_get C kc1 hW 0 rfl 2 (by decide) fl_X1_46 rfl rfl dX1_readLevel_67 ?_
            obtain ⟨h_14, hv⟩ := hv
            refine q_bald C hW 1 rfl h_14 dX1_readLevel_70 ?_
            refine lv_istore (lv' := [(4, .int (bytes place.toNatClampNeg)), (0, .ref (b 0)), (1, .int p1), (2, .int p2), (3, .int x3)]) hx hb dX1_readLevel_71 hl (by decide) rfl (fun ls hl => ?_)
            refine lv_aload_n hx hb dX1_readLevel_73 rfl (lv_at hl 1 rfl) ?_
            refine lv_dup hx hb dX1_readLevel_74 rfl ?_
            refine q_get C kc1 hW 0 rfl 2 (by decide) fl_X1_46 rfl rfl dX1_readLevel_75 ?_
            refine lv_iconst (v := 1) hx hb dX1_readLevel_78 kic_1 ?_
            refine lv_iadd hx hb dX1_readLevel_79 ?_
            refine q_put C kc1 hW hS 0 rfl 2 (by decide) fl_X1_46 rfl rfl rfl rfl (Nat.le_of_ble_eq_true rfl) dX1_readLevel_80 (fun H locs hW hS => ?_)
            have hW : wo G A (wd_X1_1 G b length (place + (1 : Int32)) names rsize bytes rsteps) H := hW
            refine lv_aload_n hx hb dX1_readLevel_83 rfl (lv_at hl 1 rfl) ?_
            refine lv_iload_n hx hb dX1_readLevel_84 rfl (lv_at hl 2 rfl) ?_
            refine lv_iconst (v := 1) hx hb dX1_readLevel_85 kic_1 ?_
            refine lv_iadd hx hb dX1_readLevel_86 ?_
            refine lv_iload_n hx hb dX1_readLevel_87 rfl (lv_at hl 3 rfl) ?_
            refine q_callV (rest := []) (n := 2) C (hO_X1_readLevel G b length (place + (1 : Int32)) names rsize bytes rsteps (p1 + (1 : Int32)) p2 _ hv) ml_X1_52 kb_X1_readLevel rfl ⟨⟨rfl, rfl⟩, (by show f + 1 ≤ f + 8; omega), (by show 8 + (5 + 11) + o ≤ o + 220; omega)⟩ hW hS [0, 1, 2] rfl rfl kc1 (q0 := 0) rfl hl.1 rfl (Nat.le_of_ble_eq_true rfl) dX1_readLevel_88 ⟨Nat.zero_le _, Nat.zero_le _⟩ (fun r_15 u_16 H locs hv hW hS => ?_)
            obtain ⟨place_15, rsize_15, rsteps_15⟩ := u_16
            obtain ⟨hv_b_15, hv⟩ := hv
            try dsimp only at hv
            have hW : wo G A (wd_X1_1 G b length place_15 names rsize_15 bytes rsteps_15) H := hW
            refine lv_if_ne (tgt := 96) hx hb dX1_readLevel_91 (by decide) (fun c_17 => ?_) (fun c_17 => ?_)
            · replace hv := hv.1 c_17
              refine lv_aload_n hx hb dX1_readLevel_96 rfl (lv_at hl 1 rfl) ?_
              refine lv_iload hx hb dX1_readLevel_97 (lv_at hl 0 rfl) ?_
              refine lv_ineg hx hb dX1_readLevel_99 ?_
              refine q_callVv (rest := []) (n := 1) C (c_X1_step l G b length place_15 names rsize_15 rsteps_15 (-(bytes place.toNatClampNeg)) _ hv) ml_X1_70 kb_X1_step rfl ⟨⟨rfl, rfl⟩, (by show 0 + 1 ≤ f + 8; omega), (by show 8 + (2 + 11) + 0 ≤ o + 220; omega)⟩ hW hS [0, 2] rfl rfl kc1 (q0 := 0) rfl hl.1 rfl (Nat.le_of_ble_eq_true rfl) dX1_readLevel_100 ⟨Nat.zero_le _, Nat.zero_le _⟩ (fun u_19 H locs hv hW hS => ?_)
              obtain ⟨rsize_18, rsteps_18⟩ := u_19
              try dsimp only at hv
              have hW : wo G A (wd_X1_1 G b length place_15 names rsize_18 bytes rsteps_18) H := hW
              refine lv_iload_n hx hb dX1_readLevel_103 rfl (lv_at hl 2 rfl) ?_
              refine lv_iconst (v := 2) hx hb dX1_readLevel_104 kic_2 ?_
              refine lv_icmp_eq (tgt := 112) hx hb dX1_readLevel_105 (by decide) (fun c_20 => ?_) (fun c_20 => ?_)
              · replace hv := hv.1 c_20
                refine lv_iconst (v := 0) hx hb dX1_readLevel_112 kic_0 ?_
                exact h_j_X1_readLevel_113 (fun x3' place' rsize' rsteps' => l_X1_readLevel_31 O_X1_readLevel O_X1_readInner p1 p2 length names bytes K n x3' place' rsize' rsteps') ih (0 : Int32) place_15 rsize_18 rsteps_18 H locs ls (Or.inl rfl) hW hS (lv_sub hl [1, 2, 3] rfl) hv
              · replace hv := hv.2 c_20
                refine lv_iconst (v := 1) hx hb dX1_readLevel_108 kic_1 ?_
                refine lv_goto (tgt := 113) hx hb dX1_readLevel_109 (by decide) ?_
                exact h_j_X1_readLevel_113 (fun x3' place' rsize' rsteps' => l_X1_readLevel_31 O_X1_readLevel O_X1_readInner p1 p2 length names bytes K n x3' place' rsize' rsteps') ih (1 : Int32) place_15 rsize_18 rsteps_18 H locs ls (Or.inr rfl) hW hS (lv_sub hl [1, 2, 3] rfl) hv
            · replace hv := hv.2 c_17
              refine lv_iconst (v := 0) hx hb dX1_readLevel_94 kic_0 ?_
              exact ret (place_15, rsize_15, rsteps_15) (0 : Int32) H locs ls _ (bl_narrow (Or.inl rfl)) hW hS ⟨(Or.inl rfl), hv⟩ dX1_readLevel_95
  refine lv_iload_n hx hb dX1_readLevel_0 rfl (lv_at hl 1 rfl) ?_
  refine lv_iconst (v := 5) hx hb dX1_readLevel_1 kic_5 ?_
  refine lv_icmp_ge (tgt := 10) hx hb dX1_readLevel_2 (by decide) (fun c_1 => ?_) (fun c_1 => ?_)
  · replace hv := hv.1 c_1
    exact h_j_X1_readLevel_10 place rsize rsteps H locs ls hW hS (lv_sub hl [0, 2] rfl) hv
  · replace hv := hv.2 c_1
    refine lv_iload_n hx hb dX1_readLevel_5 rfl (lv_at hl 2 rfl) ?_
    refine lv_iconst (v := 5) hx hb dX1_readLevel_6 kic_5 ?_
    refine lv_icmp_le (tgt := 16) hx hb dX1_readLevel_7 (by decide) (fun c_4 => ?_) (fun c_4 => ?_)
    · replace hv := hv.1 c_4
      refine lv_aload_n hx hb dX1_readLevel_16 rfl (lv_at hl 0 rfl) ?_
      refine lv_iload_n hx hb dX1_readLevel_17 rfl (lv_at hl 1 rfl) ?_
      refine lv_iconst (v := 1) hx hb dX1_readLevel_18 kic_1 ?_
      refine lv_iadd hx hb dX1_readLevel_19 ?_
      refine lv_iload_n hx hb dX1_readLevel_20 rfl (lv_at hl 2 rfl) ?_
      refine q_callV (rest := []) (n := 2) C (hO_X1_readLevel G b length place names rsize bytes rsteps (p1 + (1 : Int32)) p2 _ hv) ml_X1_52 kb_X1_readLevel rfl ⟨⟨rfl, rfl⟩, (by show f + 1 ≤ f + 8; omega), (by show 8 + (5 + 11) + o ≤ o + 220; omega)⟩ hW hS [0, 1, 2] rfl rfl kc1 (q0 := 0) rfl hl.1 rfl (Nat.le_of_ble_eq_true rfl) dX1_readLevel_21 ⟨Nat.zero_le _, Nat.zero_le _⟩ (fun r_5 u_6 H locs hv hW hS => ?_)
      obtain ⟨place_5, rsize_5, rsteps_5⟩ := u_6
      obtain ⟨hv_b_5, hv⟩ := hv
      try dsimp only at hv
      have hW : wo G A (wd_X1_1 G b length place_5 names rsize_5 bytes rsteps_5) H := hW
      refine lv_if_ne (tgt := 29) hx hb dX1_readLevel_24 (by decide) (fun c_7 => ?_) (fun c_7 => ?_)
      · replace hv := hv.1 c_7
        refine lv_iconst (v := 1) hx hb dX1_readLevel_29 kic_1 ?_
        refine lv_istore_n (lv' := [(3, .int (1 : Int32)), (0, .ref (b 0)), (1, .int p1), (2, .int p2)]) hx hb dX1_readLevel_30 rfl hl (by decide) rfl (fun ls hl => ?_)
        obtain ⟨n_21, hv⟩ := hv
        exact h_l_X1_readLevel_31 n_21 (1 : Int32) place_5 rsize_5 rsteps_5 H locs ls (Or.inr rfl) hW hS (lv_sub hl [1, 2, 3, 0] rfl) hv
      · replace hv := hv.2 c_7
        refine lv_iconst (v := 0) hx hb dX1_readLevel_27 kic_0 ?_
        exact ret (place_5, rsize_5, rsteps_5) (0 : Int32) H locs ls _ (bl_narrow (Or.inl rfl)) hW hS ⟨(Or.inl rfl), hv⟩ dX1_readLevel_28
    · replace hv := hv.2 c_4
      exact h_j_X1_readLevel_10 place rsize rsteps H locs ls hW hS (lv_sub hl [0, 2] rfl) hv
theorem cc_X1_readLevel (l : Launch) : ∀ (d : Nat), (∀ (G : Gt) (b : Nat → Nat) (length : Int32) (place : Int32) (names : Nat) (rsize : Int32) (bytes : Nat → Int32) (rsteps : Nat → Int32) (p1 : Int32) (p2 : Int32) (K : Int32 → Int32 → Int32 → (Nat → Int32) → Prop), v_X1_readLevel d p1 p2 length place names rsize bytes rsteps K → CI l G yX1_readLevel (.code yX1_readLevel cX1_readLevel 5 (some .boolean) :: wsG) (rmm (8 * d) (220 * d)) [.ref (b 0), .int p1, .int p2] (wd_X1_1 G b length place names rsize bytes rsteps) (S := Int32 × Int32 × (Nat → Int32)) (fun u => wd_X1_1 G b length u.1 names u.2.1 bytes u.2.2) (fun r u => (r = 0 ∨ r = 1) ∧ K r u.1 u.2.1 u.2.2)) ∧ (∀ (G : Gt) (b : Nat → Nat) (length : Int32) (place : Int32) (names : Nat) (rsize : Int32) (bytes : Nat → Int32) (rsteps : Nat → Int32) (p1 : Int32) (K : Int32 → Int32 → Int32 → (Nat → Int32) → Prop), v_X1_readInner d p1 length place names rsize bytes rsteps K → CI l G yX1_readInner (.code yX1_readInner cX1_readInner 5 (some .boolean) :: wsG) (rmm (8 * d) (220 * d)) [.ref (b 0), .int p1] (wd_X1_1 G b length place names rsize bytes rsteps) (S := Int32 × Int32 × (Nat → Int32)) (fun u => wd_X1_1 G b length u.1 names u.2.1 bytes u.2.2) (fun r u => (r = 0 ∨ r = 1) ∧ K r u.1 u.2.1 u.2.2))
  | 0 => ⟨fun _ _ _ _ _ _ _ _ _ _ _ hv => False.elim hv, fun _ _ _ _ _ _ _ _ _ _ hv => False.elim hv⟩
  | d + 1 => ⟨fun G b length place names rsize bytes rsteps p1 p2 K hv => cb_X1_readLevel l (8 * d) (220 * d) (v_X1_readLevel d) (cc_X1_readLevel l d).1 (v_X1_readInner d) (cc_X1_readLevel l d).2 G b length place names rsize bytes rsteps p1 p2 K hv, fun G b length place names rsize bytes rsteps p1 K hv => cb_X1_readInner l (8 * d) (220 * d) (v_X1_readLevel d) (cc_X1_readLevel l d).1 (v_X1_readInner d) (cc_X1_readLevel l d).2 G b length place names rsize bytes rsteps p1 K hv⟩
theorem c_X1_readLevel (l : Launch) (d : Nat) (G : Gt) (b : Nat → Nat) (length : Int32) (place : Int32) (names : Nat) (rsize : Int32) (bytes : Nat → Int32) (rsteps : Nat → Int32) (p1 : Int32) (p2 : Int32) (K : Int32 → Int32 → Int32 → (Nat → Int32) → Prop) (hv : v_X1_readLevel d p1 p2 length place names rsize bytes rsteps K) : CI l G yX1_readLevel (.code yX1_readLevel cX1_readLevel 5 (some .boolean) :: wsG) (rmm (8 * d) (220 * d)) [.ref (b 0), .int p1, .int p2] (wd_X1_1 G b length place names rsize bytes rsteps) (S := Int32 × Int32 × (Nat → Int32)) (fun u => wd_X1_1 G b length u.1 names u.2.1 bytes u.2.2) (fun r u => (r = 0 ∨ r = 1) ∧ K r u.1 u.2.1 u.2.2) := (cc_X1_readLevel l d).1 G b length place names rsize bytes rsteps p1 p2 K hv
theorem c_X1_readInner (l : Launch) (d : Nat) (G : Gt) (b : Nat → Nat) (length : Int32) (place : Int32) (names : Nat) (rsize : Int32) (bytes : Nat → Int32) (rsteps : Nat → Int32) (p1 : Int32) (K : Int32 → Int32 → Int32 → (Nat → Int32) → Prop) (hv : v_X1_readInner d p1 length place names rsize bytes rsteps K) : CI l G yX1_readInner (.code yX1_readInner cX1_readInner 5 (some .boolean) :: wsG) (rmm (8 * d) (220 * d)) [.ref (b 0), .int p1] (wd_X1_1 G b length place names rsize bytes rsteps) (S := Int32 × Int32 × (Nat → Int32)) (fun u => wd_X1_1 G b length u.1 names u.2.1 bytes u.2.2) (fun r u => (r = 0 ∨ r = 1) ∧ K r u.1 u.2.1 u.2.2) := (cc_X1_readLevel l d).2 G b length place names rsize bytes rsteps p1 K hv
set_option maxHeartbeats 4000000 in
set_option maxRecDepth 100000 in
theorem c_X1_read (l : Launch) (G : Gt) (b : Nat → Nat) (bc : Nat → Nat) (f0 : Nat) (length : Int32) (place : Int32) (names : Nat) (rsize : Int32) (bytes : Nat → Int32) (rsteps : Nat → Int32) (c_most : Int32) (c_size : Int32) (c_steps : Nat → Int32) (f_a : Nat → Int32) (p2 : Int32) (p3 : Int32) (K : Int32 → Int32 → Int32 → Nat → Int32 → (Nat → Int32) → (Nat → Int32) → Int32 → (Nat → Int32) → Prop) (hv : v_X1_read p2 p3 length place names rsize bytes rsteps c_size c_steps f_a K) : CI l G yX1_read (.code yX1_read cX1_read 5 (some .int) :: wsG) (rmm 361 9924) [.ref (b 0), .ref f0, .int p2, .int p3, .ref (bc 0)] (wd_X1_3 G b bc f0 length place names rsize bytes rsteps c_most c_size c_steps f_a) (S := Int32 × Int32 × Nat × Int32 × (Nat → Int32) × (Nat → Int32) × Int32 × (Nat → Int32)) (fun u => wd_X1_3 G b bc f0 u.1 u.2.1 u.2.2.1 u.2.2.2.1 u.2.2.2.2.1 u.2.2.2.2.2.1 c_most u.2.2.2.2.2.2.1 u.2.2.2.2.2.2.2 f_a) (fun r u => K r u.1 u.2.1 u.2.2.1 u.2.2.2.1 u.2.2.2.2.1 u.2.2.2.2.2.1 u.2.2.2.2.2.2.1 u.2.2.2.2.2.2.2) := by
  refine ci_intro (by decide) rfl (fun _ => rfl) (Nat.le_of_ble_eq_true rfl) ?_
  intro p e s m args below meth c A H ls Q C hW hS hl ret
  have hx := C.1.1
  have hb := C.1.2.1
  generalize hls : ([] : List Loc) = locs at hS ⊢
  have hl : lv_has ls 5 [(0, .ref (b 0)), (1, .ref f0), (2, .int p2), (3, .int p3), (4, .ref (bc 0))] := hl
  have h_j_X1_read_46 : ∀ (length : Int32) (place : Int32) (names : Nat) (rsize : Int32) (bytes : Nat → Int32) (rsteps : Nat → Int32) (c_size : Int32) (c_steps : Nat → Int32) (H : Heap) (locs : List Loc) (ls : Array Slot), wo G A (wd_X1_3 G b bc f0 length place names rsize bytes rsteps c_most c_size c_steps f_a) H → va_S A s.heap H locs → lv_has ls 5 [(0, .ref (b 0)), (4, .ref (bc 0))] → j_X1_read_46 p2 p3 f_a K length place names rsize bytes rsteps c_size c_steps → W p l e (rmm 361 9924) s m args below meth c H locs 0 0 Q (F0 m 46 ls [.ref (G.2.2.2.2.1 0), .ref (b 0)]) := by
    intro length place names rsize bytes rsteps c_size c_steps H locs ls hW hS hl hv
    refine q_put C kc1 hW hS 0 rfl 3 (by decide) fl_X1_17 rfl rfl rfl rfl (Nat.le_of_ble_eq_true rfl) dX1_read_46 (fun H locs hW hS => ?_)
    have hW : wo G A (wd_X1_3 G b bc f0 length place 0 rsize bytes rsteps c_most c_size c_steps f_a) H := hW
    refine lv_aload_n hx hb dX1_read_49 rfl (lv_at hl 0 rfl) ?_
    refine lv_iconst (v := 0) hx hb dX1_read_50 kic_0 ?_
    refine q_put C kc1 hW hS 0 rfl 2 (by decide) fl_X1_46 rfl rfl rfl rfl (Nat.le_of_ble_eq_true rfl) dX1_read_51 (fun H locs hW hS => ?_)
    have hW : wo G A (wd_X1_3 G b bc f0 length (0 : Int32) 0 rsize bytes rsteps c_most c_size c_steps f_a) H := hW
    refine lv_aload_n hx hb dX1_read_54 rfl (lv_at hl 0 rfl) ?_
    refine lv_iconst (v := 0) hx hb dX1_read_55 kic_0 ?_
    refine q_put C kc1 hW hS 0 rfl 5 (by decide) fl_X1_49 rfl rfl rfl rfl (Nat.le_of_ble_eq_true rfl) dX1_read_56 (fun H locs hW hS => ?_)
    have hW : wo G A (wd_X1_3 G b bc f0 length (0 : Int32) 0 (0 : Int32) bytes rsteps c_most c_size c_steps f_a) H := hW
    refine lv_aload_n hx hb dX1_read_59 rfl (lv_at hl 0 rfl) ?_
    refine lv_iconst (v := 0) hx hb dX1_read_60 kic_0 ?_
    refine lv_iconst (v := 0) hx hb dX1_read_61 kic_0 ?_
    refine q_callV (rest := []) (n := 2) C (c_X1_readLevel l 45 G b length (0 : Int32) 0 (0 : Int32) bytes rsteps (0 : Int32) (0 : Int32) _ hv) ml_X1_52 kb_X1_readLevel rfl ⟨⟨rfl, rfl⟩, (Nat.le_of_ble_eq_true rfl), (Nat.le_of_ble_eq_true rfl)⟩ hW hS [0, 1, 2] rfl rfl kc1 (q0 := 0) rfl hl.1 rfl (Nat.le_of_ble_eq_true rfl) dX1_read_62 ⟨Nat.zero_le _, Nat.zero_le _⟩ (fun r_8 u_9 H locs hv hW hS => ?_)
    obtain ⟨place_8, rsize_8, rsteps_8⟩ := u_9
    obtain ⟨hv_b_8, hv⟩ := hv
    try dsimp only at hv
    have hW : wo G A (wd_X1_3 G b bc f0 length place_8 0 rsize_8 bytes rsteps_8 c_most c_size c_steps f_a) H := hW
    refine lv_if_eq (tgt := 79) hx hb dX1_read_65 (by decide) (fun c_10 => ?_) (fun c_10 => ?_)
    · replace hv := hv.1 c_10
      refine lv_aload_n hx hb dX1_read_79 rfl (lv_at hl 0 rfl) ?_
      refine q_get C kc1 hW 0 rfl 2 (by decide) fl_X1_46 rfl rfl dX1_read_80 ?_
      exact ret (length, place_8, 0, rsize_8, bytes, rsteps_8, c_size, c_steps) place_8 H locs ls _ rfl hW hS hv dX1_read_83
    · replace hv := hv.2 c_10
      refine lv_aload_n hx hb dX1_read_68 rfl (lv_at hl 0 rfl) ?_
      refine q_get C kc1 hW 0 rfl 2 (by decide) fl_X1_46 rfl rfl dX1_read_69 ?_
      refine lv_aload_n hx hb dX1_read_72 rfl (lv_at hl 0 rfl) ?_
      refine q_get C kc1 hW 0 rfl 1 (by decide) fl_X1_34 rfl rfl dX1_read_73 ?_
      refine lv_icmp_ge (tgt := 84) hx hb dX1_read_76 (by decide) (fun c_11 => ?_) (fun c_11 => ?_)
      · replace hv := hv.1 c_11
        refine lv_aload hx hb dX1_read_84 (lv_at hl 1 rfl) ?_
        refine lv_aload_n hx hb dX1_read_86 rfl (lv_at hl 0 rfl) ?_
        refine q_get C kc1 hW 0 rfl 4 (by decide) fl_X1_21 rfl rfl dX1_read_87 ?_
        refine lv_aload_n hx hb dX1_read_90 rfl (lv_at hl 0 rfl) ?_
        refine q_get C kc1 hW 0 rfl 5 (by decide) fl_X1_49 rfl rfl dX1_read_91 ?_
        refine q_callNv (rest := []) (n := 2) C (c_X0_copy l G bc (b 2) c_most c_size c_steps rsteps_8 rsize_8 _ hv) nm_X1_56 kb_X0_copy rfl ⟨⟨rfl, rfl⟩, (Nat.le_of_ble_eq_true rfl), (Nat.le_of_ble_eq_true rfl)⟩ hW hS [3, 4, 2] rfl rfl kc0 (q0 := 3) rfl hl.1 rfl (Nat.le_of_ble_eq_true rfl) dX1_read_94 ⟨Nat.zero_le _, Nat.zero_le _⟩ (fun u_13 H locs hv hW hS => ?_)
        obtain ⟨c_size_12, c_steps_12⟩ := u_13
        try dsimp only at hv
        have hW : wo G A (wd_X1_3 G b bc f0 length place_8 0 rsize_8 bytes rsteps_8 c_most c_size_12 c_steps_12 f_a) H := hW
        refine lv_iconst (v := (-1)) hx hb dX1_read_97 kic_m1 ?_
        exact ret (length, place_8, 0, rsize_8, bytes, rsteps_8, c_size_12, c_steps_12) (-1 : Int32) H locs ls _ rfl hW hS hv dX1_read_98
      · replace hv := hv.2 c_11
        refine lv_aload_n hx hb dX1_read_79 rfl (lv_at hl 0 rfl) ?_
        refine q_get C kc1 hW 0 rfl 2 (by decide) fl_X1_46 rfl rfl dX1_read_80 ?_
        exact ret (length, place_8, 0, rsize_8, bytes, rsteps_8, c_size, c_steps) place_8 H locs ls _ rfl hW hS hv dX1_read_83
  have h_j_X1_read_46b : ∀ (length : Int32) (place : Int32) (names : Nat) (rsize : Int32) (bytes : Nat → Int32) (rsteps : Nat → Int32) (c_size : Int32) (c_steps : Nat → Int32) (H : Heap) (locs : List Loc) (ls : Array Slot), wo G A (wd_X1_3 G b bc f0 length place names rsize bytes rsteps c_most c_size c_steps f_a) H → va_S A s.heap H locs → lv_has ls 5 [(0, .ref (b 0)), (4, .ref (bc 0))] → j_X1_read_46b p2 p3 f_a K length place names rsize bytes rsteps c_size c_steps → W p l e (rmm 361 9924) s m args below meth c H locs 0 0 Q (F0 m 46 ls [.ref (G.2.2.2.2.1 1), .ref (b 0)]) := by
    intro length place names rsize bytes rsteps c_size c_steps H locs ls hW hS hl hv
    refine q_put C kc1 hW hS 0 rfl 3 (by decide) fl_X1_17 rfl rfl rfl rfl (Nat.le_of_ble_eq_true rfl) dX1_read_46 (fun H locs hW hS => ?_)
    have hW : wo G A (wd_X1_3 G b bc f0 length place 1 rsize bytes rsteps c_most c_size c_steps f_a) H := hW
    refine lv_aload_n hx hb dX1_read_49 rfl (lv_at hl 0 rfl) ?_
    refine lv_iconst (v := 0) hx hb dX1_read_50 kic_0 ?_
    refine q_put C kc1 hW hS 0 rfl 2 (by decide) fl_X1_46 rfl rfl rfl rfl (Nat.le_of_ble_eq_true rfl) dX1_read_51 (fun H locs hW hS => ?_)
    have hW : wo G A (wd_X1_3 G b bc f0 length (0 : Int32) 1 rsize bytes rsteps c_most c_size c_steps f_a) H := hW
    refine lv_aload_n hx hb dX1_read_54 rfl (lv_at hl 0 rfl) ?_
    refine lv_iconst (v := 0) hx hb dX1_read_55 kic_0 ?_
    refine q_put C kc1 hW hS 0 rfl 5 (by decide) fl_X1_49 rfl rfl rfl rfl (Nat.le_of_ble_eq_true rfl) dX1_read_56 (fun H locs hW hS => ?_)
    have hW : wo G A (wd_X1_3 G b bc f0 length (0 : Int32) 1 (0 : Int32) bytes rsteps c_most c_size c_steps f_a) H := hW
    refine lv_aload_n hx hb dX1_read_59 rfl (lv_at hl 0 rfl) ?_
    refine lv_iconst (v := 0) hx hb dX1_read_60 kic_0 ?_
    refine lv_iconst (v := 0) hx hb dX1_read_61 kic_0 ?_
    refine q_callV (rest := []) (n := 2) C (c_X1_readLevel l 45 G b length (0 : Int32) 1 (0 : Int32) bytes rsteps (0 : Int32) (0 : Int32) _ hv) ml_X1_52 kb_X1_readLevel rfl ⟨⟨rfl, rfl⟩, (Nat.le_of_ble_eq_true rfl), (Nat.le_of_ble_eq_true rfl)⟩ hW hS [0, 1, 2] rfl rfl kc1 (q0 := 0) rfl hl.1 rfl (Nat.le_of_ble_eq_true rfl) dX1_read_62 ⟨Nat.zero_le _, Nat.zero_le _⟩ (fun r_14 u_15 H locs hv hW hS => ?_)
    obtain ⟨place_14, rsize_14, rsteps_14⟩ := u_15
    obtain ⟨hv_b_14, hv⟩ := hv
    try dsimp only at hv
    have hW : wo G A (wd_X1_3 G b bc f0 length place_14 1 rsize_14 bytes rsteps_14 c_most c_size c_steps f_a) H := hW
    refine lv_if_eq (tgt := 79) hx hb dX1_read_65 (by decide) (fun c_16 => ?_) (fun c_16 => ?_)
    · replace hv := hv.1 c_16
      refine lv_aload_n hx hb dX1_read_79 rfl (lv_at hl 0 rfl) ?_
      refine q_get C kc1 hW 0 rfl 2 (by decide) fl_X1_46 rfl rfl dX1_read_80 ?_
      exact ret (length, place_14, 1, rsize_14, bytes, rsteps_14, c_size, c_steps) place_14 H locs ls _ rfl hW hS hv dX1_read_83
    · replace hv := hv.2 c_16
      refine lv_aload_n hx hb dX1_read_68 rfl (lv_at hl 0 rfl) ?_
      refine q_get C kc1 hW 0 rfl 2 (by decide) fl_X1_46 rfl rfl dX1_read_69 ?_
      refine lv_aload_n hx hb dX1_read_72 rfl (lv_at hl 0 rfl) ?_
      refine q_get C kc1 hW 0 rfl 1 (by decide) fl_X1_34 rfl rfl dX1_read_73 ?_
      refine lv_icmp_ge (tgt := 84) hx hb dX1_read_76 (by decide) (fun c_17 => ?_) (fun c_17 => ?_)
      · replace hv := hv.1 c_17
        refine lv_aload hx hb dX1_read_84 (lv_at hl 1 rfl) ?_
        refine lv_aload_n hx hb dX1_read_86 rfl (lv_at hl 0 rfl) ?_
        refine q_get C kc1 hW 0 rfl 4 (by decide) fl_X1_21 rfl rfl dX1_read_87 ?_
        refine lv_aload_n hx hb dX1_read_90 rfl (lv_at hl 0 rfl) ?_
        refine q_get C kc1 hW 0 rfl 5 (by decide) fl_X1_49 rfl rfl dX1_read_91 ?_
        refine q_callNv (rest := []) (n := 2) C (c_X0_copy l G bc (b 2) c_most c_size c_steps rsteps_14 rsize_14 _ hv) nm_X1_56 kb_X0_copy rfl ⟨⟨rfl, rfl⟩, (Nat.le_of_ble_eq_true rfl), (Nat.le_of_ble_eq_true rfl)⟩ hW hS [3, 4, 2] rfl rfl kc0 (q0 := 3) rfl hl.1 rfl (Nat.le_of_ble_eq_true rfl) dX1_read_94 ⟨Nat.zero_le _, Nat.zero_le _⟩ (fun u_19 H locs hv hW hS => ?_)
        obtain ⟨c_size_18, c_steps_18⟩ := u_19
        try dsimp only at hv
        have hW : wo G A (wd_X1_3 G b bc f0 length place_14 1 rsize_14 bytes rsteps_14 c_most c_size_18 c_steps_18 f_a) H := hW
        refine lv_iconst (v := (-1)) hx hb dX1_read_97 kic_m1 ?_
        exact ret (length, place_14, 1, rsize_14, bytes, rsteps_14, c_size_18, c_steps_18) (-1 : Int32) H locs ls _ rfl hW hS hv dX1_read_98
      · replace hv := hv.2 c_17
        refine lv_aload_n hx hb dX1_read_79 rfl (lv_at hl 0 rfl) ?_
        refine q_get C kc1 hW 0 rfl 2 (by decide) fl_X1_46 rfl rfl dX1_read_80 ?_
        exact ret (length, place_14, 1, rsize_14, bytes, rsteps_14, c_size, c_steps) place_14 H locs ls _ rfl hW hS hv dX1_read_83
  refine lv_aload_n hx hb dX1_read_0 rfl (lv_at hl 0 rfl) ?_
  refine lv_iconst (v := 0) hx hb dX1_read_1 kic_0 ?_
  refine lv_iload_n hx hb dX1_read_2 rfl (lv_at hl 2 rfl) ?_
  refine lv_aload_n hx hb dX1_read_3 rfl (lv_at hl 1 rfl) ?_
  refine va_alen (D := G.1) (cl := GB_cl) (tys := tyG G) (v := 60) hx hb C.2.1 hW.1 5 1 rfl rfl kal_60 dX1_read_4 ?_
  refine lv_bipush (v := 60) hx hb dX1_read_5 kbp_60 ?_
  refine va_mmin hx hb (C.1.2.2.1.trans hl.1.symm) C.1.2.2.2.1 (C.hts ml_X1_25) (C.hts st_mmin) (C.hts ini_javalangMath) (C.hts cd_mmin) (Nat.le_of_ble_eq_true rfl) (Nat.le_of_ble_eq_true rfl) (Nat.zero_le _) (Nat.zero_le _) dX1_read_7 ?_
  refine va_mmin hx hb (C.1.2.2.1.trans hl.1.symm) C.1.2.2.2.1 (C.hts ml_X1_25) (C.hts st_mmin) (C.hts ini_javalangMath) (C.hts cd_mmin) (Nat.le_of_ble_eq_true rfl) (Nat.le_of_ble_eq_true rfl) (Nat.zero_le _) (Nat.zero_le _) dX1_read_10 ?_
  refine va_mmax hx hb (C.1.2.2.1.trans hl.1.symm) C.1.2.2.2.1 (C.hts ml_X1_31) (C.hts st_mmax) (C.hts ini_javalangMath) (C.hts cd_mmax) (Nat.le_of_ble_eq_true rfl) (Nat.le_of_ble_eq_true rfl) (Nat.zero_le _) (Nat.zero_le _) dX1_read_13 ?_
  refine q_put C kc1 hW hS 0 rfl 1 (by decide) fl_X1_34 rfl rfl rfl rfl (Nat.le_of_ble_eq_true rfl) dX1_read_16 (fun H locs hW hS => ?_)
  have hW : wo G A (wd_X1_3 G b bc f0 (if (0 : Int32) < (if (if (60 : Int32) < (60 : Int32) then (60 : Int32) else (60 : Int32)) < p2 then (if (60 : Int32) < (60 : Int32) then (60 : Int32) else (60 : Int32)) else p2) then (if (if (60 : Int32) < (60 : Int32) then (60 : Int32) else (60 : Int32)) < p2 then (if (60 : Int32) < (60 : Int32) then (60 : Int32) else (60 : Int32)) else p2) else (0 : Int32)) place names rsize bytes rsteps c_most c_size c_steps f_a) H := hW
  refine lv_aload_n hx hb dX1_read_19 rfl (lv_at hl 1 rfl) ?_
  refine lv_iconst (v := 0) hx hb dX1_read_20 kic_0 ?_
  refine lv_aload_n hx hb dX1_read_21 rfl (lv_at hl 0 rfl) ?_
  refine q_get C kc1 hW 0 rfl 0 (by decide) fl_X1_9 rfl rfl dX1_read_22 ?_
  refine lv_iconst (v := 0) hx hb dX1_read_25 kic_0 ?_
  refine lv_aload_n hx hb dX1_read_26 rfl (lv_at hl 0 rfl) ?_
  refine q_get C kc1 hW 0 rfl 1 (by decide) fl_X1_34 rfl rfl dX1_read_27 ?_
  obtain ⟨h_1, hv⟩ := hv
  obtain ⟨h_2, hv⟩ := hv
  obtain ⟨h_3, hv⟩ := hv
  obtain ⟨h_4, hv⟩ := hv
  obtain ⟨h_5, hv⟩ := hv
  obtain ⟨h_6, hv⟩ := hv
  refine va_copyi (D := G.1) (cl := GB_cl) (tys := tyG G) hx hb (C.1.2.2.1.trans hl.1.symm) C.1.2.2.2.1 (C.hts ml_X1_38) (C.hts nat_copy) (C.hts st_copy) (C.hts ini_javalangSystem) C.2.1 hW.1 hW.2 hS 5 1 1 1 rfl rfl rfl rfl rfl h_1 h_2 h_3 h_4 h_5 h_6 (Nat.le_of_ble_eq_true rfl) (Nat.le_of_ble_eq_true rfl) dX1_read_30 (fun H locs hP hD hS => ?_)
  have hW : wo G A (wd_X1_3 G b bc f0 (if (0 : Int32) < (if (if (60 : Int32) < (60 : Int32) then (60 : Int32) else (60 : Int32)) < p2 then (if (60 : Int32) < (60 : Int32) then (60 : Int32) else (60 : Int32)) else p2) then (if (if (60 : Int32) < (60 : Int32) then (60 : Int32) else (60 : Int32)) < p2 then (if (60 : Int32) < (60 : Int32) then (60 : Int32) else (60 : Int32)) else p2) else (0 : Int32)) place names rsize (va_cpy f_a bytes (0 : Int32).toNatClampNeg (0 : Int32).toNatClampNeg (if (0 : Int32) < (if (if (60 : Int32) < (60 : Int32) then (60 : Int32) else (60 : Int32)) < p2 then (if (60 : Int32) < (60 : Int32) then (60 : Int32) else (60 : Int32)) else p2) then (if (if (60 : Int32) < (60 : Int32) then (60 : Int32) else (60 : Int32)) < p2 then (if (60 : Int32) < (60 : Int32) then (60 : Int32) else (60 : Int32)) else p2) else (0 : Int32)).toNatClampNeg) rsteps c_most c_size c_steps f_a) H := ⟨hP, hD⟩
  refine lv_aload_n hx hb dX1_read_33 rfl (lv_at hl 0 rfl) ?_
  refine lv_iload_n hx hb dX1_read_34 rfl (lv_at hl 3 rfl) ?_
  refine lv_iconst (v := 1) hx hb dX1_read_35 kic_1 ?_
  refine lv_icmp_ne (tgt := 44) hx hb dX1_read_36 (by decide) (fun c_7 => ?_) (fun c_7 => ?_)
  · replace hv := hv.1 c_7
    refine va_ldcS hx hb C.1.2.2.2.1 C.2.2.1.2.2.1 dX1_read_44 ?_
    exact h_j_X1_read_46 (if (0 : Int32) < (if (if (60 : Int32) < (60 : Int32) then (60 : Int32) else (60 : Int32)) < p2 then (if (60 : Int32) < (60 : Int32) then (60 : Int32) else (60 : Int32)) else p2) then (if (if (60 : Int32) < (60 : Int32) then (60 : Int32) else (60 : Int32)) < p2 then (if (60 : Int32) < (60 : Int32) then (60 : Int32) else (60 : Int32)) else p2) else (0 : Int32)) place names rsize (va_cpy f_a bytes (0 : Int32).toNatClampNeg (0 : Int32).toNatClampNeg (if (0 : Int32) < (if (if (60 : Int32) < (60 : Int32) then (60 : Int32) else (60 : Int32)) < p2 then (if (60 : Int32) < (60 : Int32) then (60 : Int32) else (60 : Int32)) else p2) then (if (if (60 : Int32) < (60 : Int32) then (60 : Int32) else (60 : Int32)) < p2 then (if (60 : Int32) < (60 : Int32) then (60 : Int32) else (60 : Int32)) else p2) else (0 : Int32)).toNatClampNeg) rsteps c_size c_steps H locs ls hW hS (lv_sub hl [0, 4] rfl) hv
  · replace hv := hv.2 c_7
    refine va_ldcS hx hb C.1.2.2.2.1 C.2.2.1.2.2.2.1 dX1_read_39 ?_
    refine lv_goto (tgt := 46) hx hb dX1_read_41 (by decide) ?_
    exact h_j_X1_read_46b (if (0 : Int32) < (if (if (60 : Int32) < (60 : Int32) then (60 : Int32) else (60 : Int32)) < p2 then (if (60 : Int32) < (60 : Int32) then (60 : Int32) else (60 : Int32)) else p2) then (if (if (60 : Int32) < (60 : Int32) then (60 : Int32) else (60 : Int32)) < p2 then (if (60 : Int32) < (60 : Int32) then (60 : Int32) else (60 : Int32)) else p2) else (0 : Int32)) place names rsize (va_cpy f_a bytes (0 : Int32).toNatClampNeg (0 : Int32).toNatClampNeg (if (0 : Int32) < (if (if (60 : Int32) < (60 : Int32) then (60 : Int32) else (60 : Int32)) < p2 then (if (60 : Int32) < (60 : Int32) then (60 : Int32) else (60 : Int32)) else p2) then (if (if (60 : Int32) < (60 : Int32) then (60 : Int32) else (60 : Int32)) < p2 then (if (60 : Int32) < (60 : Int32) then (60 : Int32) else (60 : Int32)) else p2) else (0 : Int32)).toNatClampNeg) rsteps c_size c_steps H locs ls hW hS (lv_sub hl [0, 4] rfl) hv
set_option maxHeartbeats 4000000 in
set_option maxRecDepth 100000 in
theorem c_X2_isMissing (l : Launch) (G : Gt) (b : Nat → Nat) (bits : Int32) (size : Int32) (K : Int32 → Prop) (hv : v_X2_isMissing bits K) : CI l G yX2_isMissing (.code yX2_isMissing cX2_isMissing 1 (some .boolean) :: wsG) (rmm 0 0) [.ref (b 0)] (wd_X2_0 G b bits size) (S := Unit) (fun u => wd_X2_0 G b bits size) (fun r u => (r = 0 ∨ r = 1) ∧ K r) := by
  refine ci_intro (by decide) rfl (fun _ => rfl) (Nat.le_of_ble_eq_true rfl) ?_
  intro p e s m args below meth c A H ls Q C hW hS hl ret
  have hx := C.1.1
  have hb := C.1.2.1
  generalize hls : ([] : List Loc) = locs at hS ⊢
  have hl : lv_has ls 1 [(0, .ref (b 0))] := hl
  refine lv_aload_n hx hb dX2_isMissing_0 rfl (lv_at hl 0 rfl) ?_
  refine q_get C kc2 hW 0 rfl 0 (by decide) fl_X2_15 rfl rfl dX2_isMissing_1 ?_
  refine lv_if_ne (tgt := 11) hx hb dX2_isMissing_4 (by decide) (fun c_1 => ?_) (fun c_1 => ?_)
  · replace hv := hv.1 c_1
    refine lv_iconst (v := 0) hx hb dX2_isMissing_11 kic_0 ?_
    exact ret () (0 : Int32) H locs ls _ (bl_narrow (Or.inl rfl)) hW hS ⟨(Or.inl rfl), hv⟩ dX2_isMissing_12
  · replace hv := hv.2 c_1
    refine lv_iconst (v := 1) hx hb dX2_isMissing_7 kic_1 ?_
    refine lv_goto (tgt := 12) hx hb dX2_isMissing_8 (by decide) ?_
    exact ret () (1 : Int32) H locs ls _ (bl_narrow (Or.inr rfl)) hW hS ⟨(Or.inr rfl), hv⟩ dX2_isMissing_12
set_option maxHeartbeats 4000000 in
set_option maxRecDepth 100000 in
theorem c_X2_lay (l : Launch) (G : Gt) (b : Nat → Nat) (bits : Int32) (size : Int32) (numbers : Nat → Int32) (p1 : Int32) (p2 : Int32) (K : Int32 → Int32 → (Nat → Int32) → Prop) (hv : v_X2_lay p1 p2 bits size numbers K) : CV l G yX2_lay (.code yX2_lay cX2_lay 4 none :: wsG) (rmm 1 21) [.ref (b 0), .int p1, .int p2] (wd_X2_1 G b bits size numbers) (S := Int32 × Int32 × (Nat → Int32)) (fun u => wd_X2_1 G b u.1 u.2.1 u.2.2) (fun u => K u.1 u.2.1 u.2.2) := by
  refine cv_intro (by decide) rfl (fun _ => rfl) (Nat.le_of_ble_eq_true rfl) ?_
  intro p e s m args below meth c A H ls Q C hW hS hl ret
  have hx := C.1.1
  have hb := C.1.2.1
  generalize hls : ([] : List Loc) = locs at hS ⊢
  have hl : lv_has ls 4 [(0, .ref (b 0)), (1, .int p1), (2, .int p2)] := hl
  have h_l_X2_lay_32 : ∀ (n : Nat), ∀ (x3 : Int32) (bits : Int32) (size : Int32) (numbers : Nat → Int32) (H : Heap) (locs : List Loc) (ls : Array Slot), wo G A (wd_X2_1 G b bits size numbers) H → va_S A s.heap H locs → lv_has ls 4 [(0, .ref (b 0)), (3, .int x3)] → l_X2_lay_32 p1 p2 K n x3 bits size numbers → W p l e (rmm 1 21) s m args below meth c H locs 0 0 Q (F0 m 32 ls []) := by
    intro n
    induction n with
    | zero =>
      intro x3 bits size numbers H locs ls hW hS hl hv
      exact False.elim hv
    | succ n ih =>
      intro x3 bits size numbers H locs ls hW hS hl hv
      refine lv_iload_n hx hb dX2_lay_32 rfl (lv_at hl 1 rfl) ?_
      refine lv_bipush (v := 24) hx hb dX2_lay_33 kbp_24 ?_
      refine lv_icmp_ge (tgt := 51) hx hb dX2_lay_35 (by decide) (fun c_2 => ?_) (fun c_2 => ?_)
      · replace hv := hv.1 c_2
        exact ret (bits, size, numbers) H locs ls _ hW hS hv dX2_lay_51
      · replace hv := hv.2 c_2
        refine lv_aload_n hx hb dX2_lay_38 rfl (lv_at hl 0 rfl) ?_
        refine q_get C kc2 hW 0 rfl 2 (by decide) fl_X2_9 rfl rfl dX2_lay_39 ?_
        refine lv_iload_n hx hb dX2_lay_42 rfl (lv_at hl 1 rfl) ?_
        refine lv_iconst (v := 0) hx hb dX2_lay_43 kic_0 ?_
        obtain ⟨h_3, hv⟩ := hv
        refine q_iast C hW hS 1 rfl h_3 dX2_lay_44 (fun H locs hW hS => ?_)
        have hW : wo G A (wd_X2_1 G b bits size (upd numbers x3.toNatClampNeg (0 : Int32))) H := hW
        refine lv_iinc (v := (x3 + 1)) (lv' := [(3, .int (x3 + 1)), (0, .ref (b 0))]) hx hb dX2_lay_45 hl (k := 1) rfl rfl (by decide) rfl (fun ls hl => ?_)
        refine lv_goto (tgt := 32) hx hb dX2_lay_48 (by decide) ?_
        exact ih (x3 + 1) bits size (upd numbers x3.toNatClampNeg (0 : Int32)) H locs ls hW hS (lv_sub hl [1, 0] rfl) hv
  have h_j_X2_lay_27 : ∀ (t1 : Int32) (bits : Int32) (size : Int32) (numbers : Nat → Int32) (H : Heap) (locs : List Loc) (ls : Array Slot), wo G A (wd_X2_1 G b bits size numbers) H → va_S A s.heap H locs → lv_has ls 4 [(0, .ref (b 0))] → j_X2_lay_27 p1 p2 K t1 bits size numbers → W p l e (rmm 1 21) s m args below meth c H locs 0 0 Q (F0 m 27 ls [.int t1, .ref (b 0)]) := by
    intro t1 bits size numbers H locs ls hW hS hl hv
    refine q_put C kc2 hW hS 0 rfl 1 (by decide) fl_X2_28 rfl rfl rfl rfl (Nat.le_of_ble_eq_true rfl) dX2_lay_27 (fun H locs hW hS => ?_)
    have hW : wo G A (wd_X2_1 G b bits t1 numbers) H := hW
    refine lv_iconst (v := 0) hx hb dX2_lay_30 kic_0 ?_
    refine lv_istore_n (lv' := [(3, .int (0 : Int32)), (0, .ref (b 0))]) hx hb dX2_lay_31 rfl hl (by decide) rfl (fun ls hl => ?_)
    obtain ⟨n_4, hv⟩ := hv
    exact h_l_X2_lay_32 n_4 (0 : Int32) bits t1 numbers H locs ls hW hS (lv_sub hl [1, 0] rfl) hv
  refine lv_aload_n hx hb dX2_lay_0 rfl (lv_at hl 0 rfl) ?_
  refine lv_iload_n hx hb dX2_lay_1 rfl (lv_at hl 1 rfl) ?_
  refine q_put C kc2 hW hS 0 rfl 0 (by decide) fl_X2_15 rfl rfl rfl rfl (Nat.le_of_ble_eq_true rfl) dX2_lay_2 (fun H locs hW hS => ?_)
  have hW : wo G A (wd_X2_1 G b p1 size numbers) H := hW
  refine lv_aload_n hx hb dX2_lay_5 rfl (lv_at hl 0 rfl) ?_
  refine lv_aload_n hx hb dX2_lay_6 rfl (lv_at hl 0 rfl) ?_
  refine q_get C kc2 hW 0 rfl 0 (by decide) fl_X2_15 rfl rfl dX2_lay_7 ?_
  refine lv_if_ne (tgt := 17) hx hb dX2_lay_10 (by decide) (fun c_1 => ?_) (fun c_1 => ?_)
  · replace hv := hv.1 c_1
    refine lv_iconst (v := 0) hx hb dX2_lay_17 kic_0 ?_
    refine lv_iload_n hx hb dX2_lay_18 rfl (lv_at hl 2 rfl) ?_
    refine lv_bipush (v := 24) hx hb dX2_lay_19 kbp_24 ?_
    refine va_mmin hx hb (C.1.2.2.1.trans hl.1.symm) C.1.2.2.2.1 (C.hts ml_X2_19) (C.hts st_mmin) (C.hts ini_javalangMath) (C.hts cd_mmin) (Nat.le_of_ble_eq_true rfl) (Nat.le_of_ble_eq_true rfl) (Nat.zero_le _) (Nat.zero_le _) dX2_lay_21 ?_
    refine va_mmax hx hb (C.1.2.2.1.trans hl.1.symm) C.1.2.2.2.1 (C.hts ml_X2_25) (C.hts st_mmax) (C.hts ini_javalangMath) (C.hts cd_mmax) (Nat.le_of_ble_eq_true rfl) (Nat.le_of_ble_eq_true rfl) (Nat.zero_le _) (Nat.zero_le _) dX2_lay_24 ?_
    exact h_j_X2_lay_27 (if (0 : Int32) < (if (24 : Int32) < p2 then (24 : Int32) else p2) then (if (24 : Int32) < p2 then (24 : Int32) else p2) else (0 : Int32)) p1 size numbers H locs ls hW hS (lv_sub hl [0] rfl) hv
  · replace hv := hv.2 c_1
    refine lv_iconst (v := 0) hx hb dX2_lay_13 kic_0 ?_
    refine lv_goto (tgt := 27) hx hb dX2_lay_14 (by decide) ?_
    exact h_j_X2_lay_27 (0 : Int32) p1 size numbers H locs ls hW hS (lv_sub hl [0] rfl) hv
