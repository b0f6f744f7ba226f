set_option maxHeartbeats 4000000 in
set_option maxRecDepth 100000 in
theorem c_J0_coder_7d493k0 (l : Launch) (G : Gt) (K : Int32 → Prop) (hv : v_J0_coder_7d493k0 K) : CI l G yJ0_coder_7d493 (.code yJ0_coder_7d493 cJ0_coder_7d493 1 (some .byte) :: wsG) (rmm 0 0) [.ref (G.2.2.2.2.1 0)] [] (S := Unit) (fun _ => []) (fun r u => K r) := by
  refine ci_intro (by decide) rfl (fun _ => rfl) (Nat.le_of_ble_eq_true rfl) ?_
  intro p e s m args below meth c A H ls Q C hW hS hl ret
  have hx := C.1.1
  have hb := C.1.2.1
  generalize hls : ([] : List Loc) = locs at hS ⊢
  have hl : lv_has ls 1 [(0, .ref (G.2.2.2.2.1 0))] := hl
  refine va_gets hx hb C.2.2.1.2.1.2.2.2 hS C.1.2.2.2.1 (C.hts fl_J0_38) (fun _ h => h) dJ0_coder_7d493_0 ?_
  refine lv_if_eq (tgt := 13) hx hb dJ0_coder_7d493_3 (by decide) (fun c_1 => ?_) (fun c_1 => ?_)
  · exact absurd c_1 (by decide)
  · refine lv_aload_n hx hb dJ0_coder_7d493_6 rfl (lv_at hl 0 rfl) ?_
    refine vk_getf hx hb (C.2.2.1.2.1.2.2.1.1 0 (by decide)).2.1 hS C.1.2.2.2.1 (C.hts fl_J0_15) (fun _ h => h) dJ0_coder_7d493_7 ?_
    refine lv_goto (tgt := 14) hx hb dJ0_coder_7d493_10 (by decide) ?_
    exact ret () (0 : Int32) H locs ls _ rfl hW hS hv dJ0_coder_7d493_14
set_option maxHeartbeats 4000000 in
set_option maxRecDepth 100000 in
theorem c_J0_isLatin1_aae02k0 (l : Launch) (G : Gt) (K : Int32 → Prop) (hv : v_J0_isLatin1_aae02k0 K) : CI l G yJ0_isLatin1_aae02 (.code yJ0_isLatin1_aae02 cJ0_isLatin1_aae02 1 (some .boolean) :: wsG) (rmm 0 0) [.ref (G.2.2.2.2.1 0)] [] (S := Unit) (fun _ => []) (fun r u => (r = 0 ∨ r = 1) ∧ K r) := by
  refine ci_intro (by decide) rfl (fun _ => rfl) (Nat.le_of_ble_eq_true rfl) ?_
  intro p e s m args below meth c A H ls Q C hW hS hl ret
  have hx := C.1.1
  have hb := C.1.2.1
  generalize hls : ([] : List Loc) = locs at hS ⊢
  have hl : lv_has ls 1 [(0, .ref (G.2.2.2.2.1 0))] := hl
  refine va_gets hx hb C.2.2.1.2.1.2.2.2 hS C.1.2.2.2.1 (C.hts fl_J0_38) (fun _ h => h) dJ0_isLatin1_aae02_0 ?_
  refine lv_if_eq (tgt := 17) hx hb dJ0_isLatin1_aae02_3 (by decide) (fun c_1 => ?_) (fun c_1 => ?_)
  · exact absurd c_1 (by decide)
  · refine lv_aload_n hx hb dJ0_isLatin1_aae02_6 rfl (lv_at hl 0 rfl) ?_
    refine vk_getf hx hb (C.2.2.1.2.1.2.2.1.1 0 (by decide)).2.1 hS C.1.2.2.2.1 (C.hts fl_J0_15) (fun _ h => h) dJ0_isLatin1_aae02_7 ?_
    refine lv_if_ne (tgt := 17) hx hb dJ0_isLatin1_aae02_10 (by decide) (fun c_2 => ?_) (fun c_2 => ?_)
    · exact absurd c_2 (by decide)
    · refine lv_iconst (v := 1) hx hb dJ0_isLatin1_aae02_13 kic_1 ?_
      refine lv_goto (tgt := 18) hx hb dJ0_isLatin1_aae02_14 (by decide) ?_
      exact ret () (1 : Int32) H locs ls _ (bl_narrow (Or.inr rfl)) hW hS ⟨(Or.inr rfl), hv⟩ dJ0_isLatin1_aae02_18
set_option maxHeartbeats 4000000 in
set_option maxRecDepth 100000 in
theorem c_J0_length_8abf5k0 (l : Launch) (G : Gt) (K : Int32 → Prop) (hv : v_J0_length_8abf5k0 K) : CI l G yJ0_length_8abf5 (.code yJ0_length_8abf5 cJ0_length_8abf5 1 (some .int) :: wsG) (rmm 1 20) [.ref (G.2.2.2.2.1 0)] [] (S := Unit) (fun _ => []) (fun r u => K r) := by
  refine ci_intro (by decide) rfl (fun _ => rfl) (Nat.le_of_ble_eq_true rfl) ?_
  intro p e s m args below meth c A H ls Q C hW hS hl ret
  have hx := C.1.1
  have hb := C.1.2.1
  generalize hls : ([] : List Loc) = locs at hS ⊢
  have hl : lv_has ls 1 [(0, .ref (G.2.2.2.2.1 0))] := hl
  refine lv_aload_n hx hb dJ0_length_8abf5_0 rfl (lv_at hl 0 rfl) ?_
  refine vk_getf hx hb (C.2.2.1.2.1.2.2.1.1 0 (by decide)).2.2.1 hS C.1.2.2.2.1 (C.hts fl_J0_9) (fun _ h => h) dJ0_length_8abf5_1 ?_
  refine va_tlen (v := 3) hx hb (C.2.2.1.2.1.2.2.1.1 0 (by decide)).2.2.2 hS kal_3 dJ0_length_8abf5_4 ?_
  refine lv_aload_n hx hb dJ0_length_8abf5_5 rfl (lv_at hl 0 rfl) ?_
  refine q_callVs (i := 0) (rest := [.int (3 : Int32)]) (n := 0) C (c_J0_coder_7d493k0 l G (fun r => r = (0 : Int32)) rfl) ml_J0_335 kb_J0_coder_7d493 rfl ⟨⟨rfl, rfl⟩, (Nat.le_of_ble_eq_true rfl), (Nat.le_of_ble_eq_true rfl)⟩ hW hS (by decide) rfl hl.1 rfl (Nat.le_of_ble_eq_true rfl) dJ0_length_8abf5_6 ⟨Nat.zero_le _, Nat.zero_le _⟩ (fun r_1 u_2 H locs hv9 hW hS => ?_)
  subst hv9
  refine lv_ishr hx hb dJ0_length_8abf5_9 ?_
  exact ret () ((3 : Int32) >>> ((0 : Int32) &&& 31)) H locs ls _ rfl hW hS hv dJ0_length_8abf5_10
set_option maxHeartbeats 4000000 in
set_option maxRecDepth 100000 in
theorem c_J1_canEncode_9a6ad (l : Launch) (G : Gt) (p1 : Int32) (K : Int32 → Prop) (hv : v_J1_canEncode_9a6ad p1 K) : CI l G yJ1_canEncode_9a6ad (.code yJ1_canEncode_9a6ad cJ1_canEncode_9a6ad 1 (some .boolean) :: wsG) (rmm 0 0) [.int p1] [] (S := Unit) (fun _ => []) (fun r u => (r = 0 ∨ r = 1) ∧ K r) := by
  refine ci_intro (by decide) rfl (fun _ => rfl) (Nat.le_of_ble_eq_true rfl) ?_
  intro p e s m args below meth c A H ls Q C hW hS hl ret
  have hx := C.1.1
  have hb := C.1.2.1
  generalize hls : ([] : List Loc) = locs at hS ⊢
  have hl : lv_has ls 1 [(0, .int p1)] := hl
  refine lv_iload_n hx hb dJ1_canEncode_9a6ad_0 rfl (lv_at hl 0 rfl) ?_
  refine lv_if_lt (tgt := 15) hx hb dJ1_canEncode_9a6ad_1 (by decide) (fun c_1 => ?_) (fun c_1 => ?_)
  · replace hv := hv.1 c_1
    refine lv_iconst (v := 0) hx hb dJ1_canEncode_9a6ad_15 kic_0 ?_
    exact ret () (0 : Int32) H locs ls _ (bl_narrow (Or.inl rfl)) hW hS ⟨(Or.inl rfl), hv⟩ dJ1_canEncode_9a6ad_16
  · replace hv := hv.2 c_1
    refine lv_iload_n hx hb dJ1_canEncode_9a6ad_4 rfl (lv_at hl 0 rfl) ?_
    refine lv_sipush (v := 255) hx hb dJ1_canEncode_9a6ad_5 ksp_255 ?_
    refine lv_icmp_gt (tgt := 15) hx hb dJ1_canEncode_9a6ad_8 (by decide) (fun c_2 => ?_) (fun c_2 => ?_)
    · replace hv := hv.1 c_2
      refine lv_iconst (v := 0) hx hb dJ1_canEncode_9a6ad_15 kic_0 ?_
      exact ret () (0 : Int32) H locs ls _ (bl_narrow (Or.inl rfl)) hW hS ⟨(Or.inl rfl), hv⟩ dJ1_canEncode_9a6ad_16
    · replace hv := hv.2 c_2
      refine lv_iconst (v := 1) hx hb dJ1_canEncode_9a6ad_11 kic_1 ?_
      refine lv_goto (tgt := 16) hx hb dJ1_canEncode_9a6ad_12 (by decide) ?_
      exact ret () (1 : Int32) H locs ls _ (bl_narrow (Or.inr rfl)) hW hS ⟨(Or.inr rfl), hv⟩ dJ1_canEncode_9a6ad_16
set_option maxHeartbeats 4000000 in
set_option maxRecDepth 100000 in
theorem c_J1_indexOfChar_4cfefk0 (l : Launch) (G : Gt) (p2 : Int32) (p3 : Int32) (p4 : Int32) (K : Int32 → Prop) (hv : v_J1_indexOfChar_4cfefk0 p2 p3 p4 K) : CI l G yJ1_indexOfChar_4cfef (.code yJ1_indexOfChar_4cfef cJ1_indexOfChar_4cfef 6 (some .int) :: wsG) (rmm 0 0) [.ref (G.2.2.2.2.2 0), .int p2, .int p3, .int p4] [] (S := Unit) (fun _ => []) (fun r u => K r) := by
  refine ci_intro (by decide) rfl (fun _ => rfl) (Nat.le_of_ble_eq_true rfl) ?_
  intro p e s m args below meth c A H ls Q C hW hS hl ret
  have hx := C.1.1
  have hb := C.1.2.1
  generalize hls : ([] : List Loc) = locs at hS ⊢
  have hl : lv_has ls 6 [(0, .ref (G.2.2.2.2.2 0)), (1, .int p2), (2, .int p3), (3, .int p4)] := hl
  have h_l_J1_indexOfChar_4cfefk0_7 : ∀ (n : Nat), ∀ (x4 : Int32) (x5 : Int32) (H : Heap) (locs : List Loc) (ls : Array Slot), wo G A (wd_J1_0 G) H → va_S A s.heap H locs → lv_has ls 6 [(0, .ref (G.2.2.2.2.2 0)), (3, .int p4), (4, .int x4), (5, .int x5)] → l_J1_indexOfChar_4cfefk0_7 p2 p3 p4 K n x4 x5 → W p l e (rmm 0 0) s m args below meth c H locs 0 0 Q (F0 m 7 ls []) := by
    intro n
    induction n with
    | zero =>
      intro x4 x5 H locs ls hW hS hl hv
      exact False.elim hv
    | succ n ih =>
      intro x4 x5 H locs ls hW hS hl hv
      refine lv_iload hx hb dJ1_indexOfChar_4cfef_7 (lv_at hl 3 rfl) ?_
      refine lv_iload_n hx hb dJ1_indexOfChar_4cfef_9 rfl (lv_at hl 1 rfl) ?_
      refine lv_icmp_ge (tgt := 31) hx hb dJ1_indexOfChar_4cfef_10 (by decide) (fun c_1 => ?_) (fun c_1 => ?_)
      · replace hv := hv.1 c_1
        refine lv_iconst (v := (-1)) hx hb dJ1_indexOfChar_4cfef_31 kic_m1 ?_
        exact ret () (-1 : Int32) H locs ls _ rfl hW hS hv dJ1_indexOfChar_4cfef_32
      · replace hv := hv.2 c_1
        refine lv_aload_n hx hb dJ1_indexOfChar_4cfef_13 rfl (lv_at hl 0 rfl) ?_
        refine lv_iload hx hb dJ1_indexOfChar_4cfef_14 (lv_at hl 3 rfl) ?_
        obtain ⟨h_2, hv⟩ := hv
        refine va_tb (v := .int (f_str 0 x5.toNatClampNeg)) hx hb (C.2.2.1.2.1.2.2.1.1 0 (by decide)).2.2.2 hS h_2 rfl dJ1_indexOfChar_4cfef_16 ?_
        refine lv_iload hx hb dJ1_indexOfChar_4cfef_17 (lv_at hl 2 rfl) ?_
        refine lv_icmp_ne (tgt := 25) hx hb dJ1_indexOfChar_4cfef_19 (by decide) (fun c_3 => ?_) (fun c_3 => ?_)
        · replace hv := hv.1 c_3
          refine lv_iinc (v := (x5 + 1)) (lv' := [(5, .int (x5 + 1)), (0, .ref (G.2.2.2.2.2 0)), (3, .int p4), (4, .int x4)]) hx hb dJ1_indexOfChar_4cfef_25 hl (k := 3) rfl rfl (by decide) rfl (fun ls hl => ?_)
          refine lv_goto (tgt := 7) hx hb dJ1_indexOfChar_4cfef_28 (by decide) ?_
          exact ih x4 (x5 + 1) H locs ls hW hS (lv_sub hl [1, 2, 3, 0] rfl) hv
        · replace hv := hv.2 c_3
          refine lv_iload hx hb dJ1_indexOfChar_4cfef_22 (lv_at hl 3 rfl) ?_
          exact ret () x5 H locs ls _ rfl hW hS hv dJ1_indexOfChar_4cfef_24
  refine lv_iload_n hx hb dJ1_indexOfChar_4cfef_0 rfl (lv_at hl 1 rfl) ?_
  refine lv_i2b hx hb dJ1_indexOfChar_4cfef_1 rfl ?_
  refine lv_istore (lv' := [(4, .int p2.toInt8.toInt32), (0, .ref (G.2.2.2.2.2 0)), (1, .int p2), (2, .int p3), (3, .int p4)]) hx hb dJ1_indexOfChar_4cfef_2 hl (by decide) rfl (fun ls hl => ?_)
  refine lv_iload_n hx hb dJ1_indexOfChar_4cfef_4 rfl (lv_at hl 3 rfl) ?_
  refine lv_istore (lv' := [(5, .int p3), (4, .int p2.toInt8.toInt32), (0, .ref (G.2.2.2.2.2 0)), (1, .int p2), (2, .int p3), (3, .int p4)]) hx hb dJ1_indexOfChar_4cfef_5 hl (by decide) rfl (fun ls hl => ?_)
  obtain ⟨n_4, hv⟩ := hv
  exact h_l_J1_indexOfChar_4cfefk0_7 n_4 p2.toInt8.toInt32 p3 H locs ls hW hS (lv_sub hl [2, 5, 1, 0] rfl) hv
set_option maxHeartbeats 4000000 in
set_option maxRecDepth 100000 in
theorem c_J1_indexOf_4cfefk0 (l : Launch) (G : Gt) (p2 : Int32) (p3 : Int32) (p4 : Int32) (K : Int32 → Prop) (hv : v_J1_indexOf_4cfefk0 p2 p3 p4 K) : CI l G yJ1_indexOf_4cfef (.code yJ1_indexOf_4cfef cJ1_indexOf_4cfef 4 (some .int) :: wsG) (rmm 1 25) [.ref (G.2.2.2.2.2 0), .int p2, .int p3, .int p4] [] (S := Unit) (fun _ => []) (fun r u => K r) := by
  refine ci_intro (by decide) rfl (fun _ => rfl) (Nat.le_of_ble_eq_true rfl) ?_
  intro p e s m args below meth c A H ls Q C hW hS hl ret
  have hx := C.1.1
  have hb := C.1.2.1
  generalize hls : ([] : List Loc) = locs at hS ⊢
  have hl : lv_has ls 4 [(0, .ref (G.2.2.2.2.2 0)), (1, .int p2), (2, .int p3), (3, .int p4)] := hl
  refine lv_iload_n hx hb dJ1_indexOf_4cfef_0 rfl (lv_at hl 1 rfl) ?_
  refine q_callS (rest := []) (n := 1) C (c_J1_canEncode_9a6ad l G p2 _ hv) ml_J1_88 kb_J1_canEncode_9a6ad rfl ⟨⟨rfl, rfl⟩, (Nat.le_of_ble_eq_true rfl), (Nat.le_of_ble_eq_true rfl)⟩ hW hS hl.1 rfl (Nat.le_of_ble_eq_true rfl) dJ1_indexOf_4cfef_1 ⟨Nat.zero_le _, Nat.zero_le _⟩ (fun r_1 u_2 H locs hv hW hS => ?_)
  obtain ⟨hv_b_1, hv⟩ := hv
  try dsimp only at hv
  refine lv_if_ne (tgt := 9) hx hb dJ1_indexOf_4cfef_4 (by decide) (fun c_3 => ?_) (fun c_3 => ?_)
  · replace hv := hv.1 c_3
    refine lv_iload_n hx hb dJ1_indexOf_4cfef_9 rfl (lv_at hl 2 rfl) ?_
    refine lv_iconst (v := 0) hx hb dJ1_indexOf_4cfef_10 kic_0 ?_
    refine va_mmax hx hb (C.1.2.2.1.trans hl.1.symm) C.1.2.2.2.1 (C.hts ml_J1_92) (C.hts st_mmax) (C.hts ini_javalangMath) (C.hts cd_mmax) (Nat.le_of_ble_eq_true rfl) (Nat.le_of_ble_eq_true rfl) (Nat.zero_le _) (Nat.zero_le _) dJ1_indexOf_4cfef_11 ?_
    refine lv_istore_n (lv' := [(2, .int (if p3 < (0 : Int32) then (0 : Int32) else p3)), (0, .ref (G.2.2.2.2.2 0)), (1, .int p2), (3, .int p4)]) hx hb dJ1_indexOf_4cfef_14 rfl hl (by decide) rfl (fun ls hl => ?_)
    refine lv_iload_n hx hb dJ1_indexOf_4cfef_15 rfl (lv_at hl 3 rfl) ?_
    refine lv_aload_n hx hb dJ1_indexOf_4cfef_16 rfl (lv_at hl 1 rfl) ?_
    refine va_tlen (v := 3) hx hb (C.2.2.1.2.1.2.2.1.1 0 (by decide)).2.2.2 hS kal_3 dJ1_indexOf_4cfef_17 ?_
    refine va_mmin hx hb (C.1.2.2.1.trans hl.1.symm) C.1.2.2.2.1 (C.hts ml_J1_38) (C.hts st_mmin) (C.hts ini_javalangMath) (C.hts cd_mmin) (Nat.le_of_ble_eq_true rfl) (Nat.le_of_ble_eq_true rfl) (Nat.zero_le _) (Nat.zero_le _) dJ1_indexOf_4cfef_18 ?_
    refine lv_istore_n (lv' := [(3, .int (if (3 : Int32) < p4 then (3 : Int32) else p4)), (2, .int (if p3 < (0 : Int32) then (0 : Int32) else p3)), (0, .ref (G.2.2.2.2.2 0)), (1, .int p2)]) hx hb dJ1_indexOf_4cfef_21 rfl hl (by decide) rfl (fun ls hl => ?_)
    refine lv_iload_n hx hb dJ1_indexOf_4cfef_22 rfl (lv_at hl 1 rfl) ?_
    refine lv_iload_n hx hb dJ1_indexOf_4cfef_23 rfl (lv_at hl 0 rfl) ?_
    refine lv_icmp_lt (tgt := 29) hx hb dJ1_indexOf_4cfef_24 (by decide) (fun c_4 => ?_) (fun c_4 => ?_)
    · replace hv := hv.1 c_4
      refine lv_aload_n hx hb dJ1_indexOf_4cfef_29 rfl (lv_at hl 2 rfl) ?_
      refine lv_iload_n hx hb dJ1_indexOf_4cfef_30 rfl (lv_at hl 3 rfl) ?_
      refine lv_iload_n hx hb dJ1_indexOf_4cfef_31 rfl (lv_at hl 1 rfl) ?_
      refine lv_iload_n hx hb dJ1_indexOf_4cfef_32 rfl (lv_at hl 0 rfl) ?_
      refine q_callS (rest := []) (n := 4) C (c_J1_indexOfChar_4cfefk0 l G p2 (if p3 < (0 : Int32) then (0 : Int32) else p3) (if (3 : Int32) < p4 then (3 : Int32) else p4) _ hv) ml_J1_95 kb_J1_indexOfChar_4cfef rfl ⟨⟨rfl, rfl⟩, (Nat.le_of_ble_eq_true rfl), (Nat.le_of_ble_eq_true rfl)⟩ hW hS hl.1 rfl (Nat.le_of_ble_eq_true rfl) dJ1_indexOf_4cfef_33 ⟨Nat.zero_le _, Nat.zero_le _⟩ (fun r_5 u_6 H locs hv hW hS => ?_)
      try dsimp only at hv
      exact ret () r_5 H locs ls _ rfl hW hS hv dJ1_indexOf_4cfef_36
    · replace hv := hv.2 c_4
      refine lv_iconst (v := (-1)) hx hb dJ1_indexOf_4cfef_27 kic_m1 ?_
      exact ret () (-1 : Int32) H locs ls _ rfl hW hS hv dJ1_indexOf_4cfef_28
  · replace hv := hv.2 c_3
    refine lv_iconst (v := (-1)) hx hb dJ1_indexOf_4cfef_7 kic_m1 ?_
    exact ret () (-1 : Int32) H locs ls _ rfl hW hS hv dJ1_indexOf_4cfef_8
set_option maxHeartbeats 4000000 in
set_option maxRecDepth 100000 in
theorem c_J0_indexOf_7cf53k0 (l : Launch) (G : Gt) (p1 : Int32) (p2 : Int32) (K : Int32 → Prop) (hv : v_J0_indexOf_7cf53k0 p1 p2 K) : CI l G yJ0_indexOf_7cf53 (.code yJ0_indexOf_7cf53 cJ0_indexOf_7cf53 3 (some .int) :: wsG) (rmm 2 48) [.ref (G.2.2.2.2.1 0), .int p1, .int p2] [] (S := Unit) (fun _ => []) (fun r u => K r) := by
  refine ci_intro (by decide) rfl (fun _ => rfl) (Nat.le_of_ble_eq_true rfl) ?_
  intro p e s m args below meth c A H ls Q C hW hS hl ret
  have hx := C.1.1
  have hb := C.1.2.1
  generalize hls : ([] : List Loc) = locs at hS ⊢
  have hl : lv_has ls 3 [(0, .ref (G.2.2.2.2.1 0)), (1, .int p1), (2, .int p2)] := hl
  refine lv_aload_n hx hb dJ0_indexOf_7cf53_0 rfl (lv_at hl 0 rfl) ?_
  refine q_callVs (i := 0) (rest := []) (n := 0) C (c_J0_isLatin1_aae02k0 l G (fun r => r = (1 : Int32)) rfl) ml_J0_492 kb_J0_isLatin1_aae02 rfl ⟨⟨rfl, rfl⟩, (Nat.le_of_ble_eq_true rfl), (Nat.le_of_ble_eq_true rfl)⟩ hW hS (by decide) rfl hl.1 rfl (Nat.le_of_ble_eq_true rfl) dJ0_indexOf_7cf53_1 ⟨Nat.zero_le _, Nat.zero_le _⟩ (fun r_1 u_2 H locs hv9 hW hS => ?_)
  obtain ⟨hv_b_1, hv9⟩ := hv9
  subst hv9
  refine lv_if_eq (tgt := 23) hx hb dJ0_indexOf_7cf53_4 (by decide) (fun c_3 => ?_) (fun c_3 => ?_)
  · exact absurd c_3 (by decide)
  · refine lv_aload_n hx hb dJ0_indexOf_7cf53_7 rfl (lv_at hl 0 rfl) ?_
    refine vk_getf hx hb (C.2.2.1.2.1.2.2.1.1 0 (by decide)).2.2.1 hS C.1.2.2.2.1 (C.hts fl_J0_9) (fun _ h => h) dJ0_indexOf_7cf53_8 ?_
    refine lv_iload_n hx hb dJ0_indexOf_7cf53_11 rfl (lv_at hl 1 rfl) ?_
    refine lv_iload_n hx hb dJ0_indexOf_7cf53_12 rfl (lv_at hl 2 rfl) ?_
    refine lv_aload_n hx hb dJ0_indexOf_7cf53_13 rfl (lv_at hl 0 rfl) ?_
    refine q_callVs (i := 0) (rest := [.int p2, .int p1, .ref (G.2.2.2.2.2 0)]) (n := 0) C (c_J0_length_8abf5k0 l G (fun r => r = (3 : Int32)) rfl) ml_J0_505 kb_J0_length_8abf5 rfl ⟨⟨rfl, rfl⟩, (Nat.le_of_ble_eq_true rfl), (Nat.le_of_ble_eq_true rfl)⟩ hW hS (by decide) rfl hl.1 rfl (Nat.le_of_ble_eq_true rfl) dJ0_indexOf_7cf53_14 ⟨Nat.zero_le _, Nat.zero_le _⟩ (fun r_4 u_5 H locs hv9 hW hS => ?_)
    subst hv9
    refine q_callS (rest := []) (n := 4) C (c_J1_indexOf_4cfefk0 l G p1 p2 (3 : Int32) _ hv) ml_J0_637 kb_J1_indexOf_4cfef rfl ⟨⟨rfl, rfl⟩, (Nat.le_of_ble_eq_true rfl), (Nat.le_of_ble_eq_true rfl)⟩ hW hS hl.1 rfl (Nat.le_of_ble_eq_true rfl) dJ0_indexOf_7cf53_17 ⟨Nat.zero_le _, Nat.zero_le _⟩ (fun r_6 u_7 H locs hv hW hS => ?_)
    try dsimp only at hv
    refine lv_goto (tgt := 36) hx hb dJ0_indexOf_7cf53_20 (by decide) ?_
    exact ret () r_6 H locs ls _ rfl hW hS hv dJ0_indexOf_7cf53_36
set_option maxHeartbeats 4000000 in
set_option maxRecDepth 100000 in
theorem c_J0_indexOf_0f7a4k0 (l : Launch) (G : Gt) (p1 : Int32) (K : Int32 → Prop) (hv : v_J0_indexOf_0f7a4k0 p1 K) : CI l G yJ0_indexOf_0f7a4 (.code yJ0_indexOf_0f7a4 cJ0_indexOf_0f7a4 2 (some .int) :: wsG) (rmm 3 70) [.ref (G.2.2.2.2.1 0), .int p1] [] (S := Unit) (fun _ => []) (fun r u => K r) := by
  refine ci_intro (by decide) rfl (fun _ => rfl) (Nat.le_of_ble_eq_true rfl) ?_
  intro p e s m args below meth c A H ls Q C hW hS hl ret
  have hx := C.1.1
  have hb := C.1.2.1
  generalize hls : ([] : List Loc) = locs at hS ⊢
  have hl : lv_has ls 2 [(0, .ref (G.2.2.2.2.1 0)), (1, .int p1)] := hl
  refine lv_aload_n hx hb dJ0_indexOf_0f7a4_0 rfl (lv_at hl 0 rfl) ?_
  refine lv_iload_n hx hb dJ0_indexOf_0f7a4_1 rfl (lv_at hl 1 rfl) ?_
  refine lv_iconst (v := 0) hx hb dJ0_indexOf_0f7a4_2 kic_0 ?_
  refine q_callVs (i := 0) (rest := []) (n := 2) C (c_J0_indexOf_7cf53k0 l G p1 (0 : Int32) _ hv) ml_J0_633 kb_J0_indexOf_7cf53 rfl ⟨⟨rfl, rfl⟩, (Nat.le_of_ble_eq_true rfl), (Nat.le_of_ble_eq_true rfl)⟩ hW hS (by decide) rfl hl.1 rfl (Nat.le_of_ble_eq_true rfl) dJ0_indexOf_0f7a4_3 ⟨Nat.zero_le _, Nat.zero_le _⟩ (fun r_1 u_2 H locs hv hW hS => ?_)
  try dsimp only at hv
  exact ret () r_1 H locs ls _ rfl hW hS hv dJ0_indexOf_0f7a4_6
set_option maxHeartbeats 4000000 in
set_option maxRecDepth 100000 in
theorem c_J0_coder_7d493k1 (l : Launch) (G : Gt) (K : Int32 → Prop) (hv : v_J0_coder_7d493k1 K) : CI l G yJ0_coder_7d493 (.code yJ0_coder_7d493 cJ0_coder_7d493 1 (some .byte) :: wsG) (rmm 0 0) [.ref (G.2.2.2.2.1 1)] [] (S := Unit) (fun _ => []) (fun r u => K r) := by
  refine ci_intro (by decide) rfl (fun _ => rfl) (Nat.le_of_ble_eq_true rfl) ?_
  intro p e s m args below meth c A H ls Q C hW hS hl ret
  have hx := C.1.1
  have hb := C.1.2.1
  generalize hls : ([] : List Loc) = locs at hS ⊢
  have hl : lv_has ls 1 [(0, .ref (G.2.2.2.2.1 1))] := hl
  refine va_gets hx hb C.2.2.1.2.1.2.2.2 hS C.1.2.2.2.1 (C.hts fl_J0_38) (fun _ h => h) dJ0_coder_7d493_0 ?_
  refine lv_if_eq (tgt := 13) hx hb dJ0_coder_7d493_3 (by decide) (fun c_1 => ?_) (fun c_1 => ?_)
  · exact absurd c_1 (by decide)
  · refine lv_aload_n hx hb dJ0_coder_7d493_6 rfl (lv_at hl 0 rfl) ?_
    refine vk_getf hx hb (C.2.2.1.2.1.2.2.1.1 1 (by decide)).2.1 hS C.1.2.2.2.1 (C.hts fl_J0_15) (fun _ h => h) dJ0_coder_7d493_7 ?_
    refine lv_goto (tgt := 14) hx hb dJ0_coder_7d493_10 (by decide) ?_
    exact ret () (0 : Int32) H locs ls _ rfl hW hS hv dJ0_coder_7d493_14
set_option maxHeartbeats 4000000 in
set_option maxRecDepth 100000 in
theorem c_J0_isLatin1_aae02k1 (l : Launch) (G : Gt) (K : Int32 → Prop) (hv : v_J0_isLatin1_aae02k1 K) : CI l G yJ0_isLatin1_aae02 (.code yJ0_isLatin1_aae02 cJ0_isLatin1_aae02 1 (some .boolean) :: wsG) (rmm 0 0) [.ref (G.2.2.2.2.1 1)] [] (S := Unit) (fun _ => []) (fun r u => (r = 0 ∨ r = 1) ∧ K r) := by
  refine ci_intro (by decide) rfl (fun _ => rfl) (Nat.le_of_ble_eq_true rfl) ?_
  intro p e s m args below meth c A H ls Q C hW hS hl ret
  have hx := C.1.1
  have hb := C.1.2.1
  generalize hls : ([] : List Loc) = locs at hS ⊢
  have hl : lv_has ls 1 [(0, .ref (G.2.2.2.2.1 1))] := hl
  refine va_gets hx hb C.2.2.1.2.1.2.2.2 hS C.1.2.2.2.1 (C.hts fl_J0_38) (fun _ h => h) dJ0_isLatin1_aae02_0 ?_
  refine lv_if_eq (tgt := 17) hx hb dJ0_isLatin1_aae02_3 (by decide) (fun c_1 => ?_) (fun c_1 => ?_)
  · exact absurd c_1 (by decide)
  · refine lv_aload_n hx hb dJ0_isLatin1_aae02_6 rfl (lv_at hl 0 rfl) ?_
    refine vk_getf hx hb (C.2.2.1.2.1.2.2.1.1 1 (by decide)).2.1 hS C.1.2.2.2.1 (C.hts fl_J0_15) (fun _ h => h) dJ0_isLatin1_aae02_7 ?_
    refine lv_if_ne (tgt := 17) hx hb dJ0_isLatin1_aae02_10 (by decide) (fun c_2 => ?_) (fun c_2 => ?_)
    · exact absurd c_2 (by decide)
    · refine lv_iconst (v := 1) hx hb dJ0_isLatin1_aae02_13 kic_1 ?_
      refine lv_goto (tgt := 18) hx hb dJ0_isLatin1_aae02_14 (by decide) ?_
      exact ret () (1 : Int32) H locs ls _ (bl_narrow (Or.inr rfl)) hW hS ⟨(Or.inr rfl), hv⟩ dJ0_isLatin1_aae02_18
set_option maxHeartbeats 4000000 in
set_option maxRecDepth 100000 in
theorem c_J0_length_8abf5k1 (l : Launch) (G : Gt) (K : Int32 → Prop) (hv : v_J0_length_8abf5k1 K) : CI l G yJ0_length_8abf5 (.code yJ0_length_8abf5 cJ0_length_8abf5 1 (some .int) :: wsG) (rmm 1 20) [.ref (G.2.2.2.2.1 1)] [] (S := Unit) (fun _ => []) (fun r u => K r) := by
  refine ci_intro (by decide) rfl (fun _ => rfl) (Nat.le_of_ble_eq_true rfl) ?_
  intro p e s m args below meth c A H ls Q C hW hS hl ret
  have hx := C.1.1
  have hb := C.1.2.1
  generalize hls : ([] : List Loc) = locs at hS ⊢
  have hl : lv_has ls 1 [(0, .ref (G.2.2.2.2.1 1))] := hl
  refine lv_aload_n hx hb dJ0_length_8abf5_0 rfl (lv_at hl 0 rfl) ?_
  refine vk_getf hx hb (C.2.2.1.2.1.2.2.1.1 1 (by decide)).2.2.1 hS C.1.2.2.2.1 (C.hts fl_J0_9) (fun _ h => h) dJ0_length_8abf5_1 ?_
  refine va_tlen (v := 3) hx hb (C.2.2.1.2.1.2.2.1.1 1 (by decide)).2.2.2 hS kal_3 dJ0_length_8abf5_4 ?_
  refine lv_aload_n hx hb dJ0_length_8abf5_5 rfl (lv_at hl 0 rfl) ?_
  refine q_callVs (i := 1) (rest := [.int (3 : Int32)]) (n := 0) C (c_J0_coder_7d493k1 l G (fun r => r = (0 : Int32)) rfl) ml_J0_335 kb_J0_coder_7d493 rfl ⟨⟨rfl, rfl⟩, (Nat.le_of_ble_eq_true rfl), (Nat.le_of_ble_eq_true rfl)⟩ hW hS (by decide) rfl hl.1 rfl (Nat.le_of_ble_eq_true rfl) dJ0_length_8abf5_6 ⟨Nat.zero_le _, Nat.zero_le _⟩ (fun r_1 u_2 H locs hv9 hW hS => ?_)
  subst hv9
  refine lv_ishr hx hb dJ0_length_8abf5_9 ?_
  exact ret () ((3 : Int32) >>> ((0 : Int32) &&& 31)) H locs ls _ rfl hW hS hv dJ0_length_8abf5_10
set_option maxHeartbeats 4000000 in
set_option maxRecDepth 100000 in
theorem c_J1_indexOfChar_4cfefk1 (l : Launch) (G : Gt) (p2 : Int32) (p3 : Int32) (p4 : Int32) (K : Int32 → Prop) (hv : v_J1_indexOfChar_4cfefk1 p2 p3 p4 K) : CI l G yJ1_indexOfChar_4cfef (.code yJ1_indexOfChar_4cfef cJ1_indexOfChar_4cfef 6 (some .int) :: wsG) (rmm 0 0) [.ref (G.2.2.2.2.2 1), .int p2, .int p3, .int p4] [] (S := Unit) (fun _ => []) (fun r u => K r) := by
  refine ci_intro (by decide) rfl (fun _ => rfl) (Nat.le_of_ble_eq_true rfl) ?_
  intro p e s m args below meth c A H ls Q C hW hS hl ret
  have hx := C.1.1
  have hb := C.1.2.1
  generalize hls : ([] : List Loc) = locs at hS ⊢
  have hl : lv_has ls 6 [(0, .ref (G.2.2.2.2.2 1)), (1, .int p2), (2, .int p3), (3, .int p4)] := hl
  have h_l_J1_indexOfChar_4cfefk1_7 : ∀ (n : Nat), ∀ (x4 : Int32) (x5 : Int32) (H : Heap) (locs : List Loc) (ls : Array Slot), wo G A (wd_J1_0 G) H → va_S A s.heap H locs → lv_has ls 6 [(0, .ref (G.2.2.2.2.2 1)), (3, .int p4), (4, .int x4), (5, .int x5)] → l_J1_indexOfChar_4cfefk1_7 p2 p3 p4 K n x4 x5 → W p l e (rmm 0 0) s m args below meth c H locs 0 0 Q (F0 m 7 ls []) := by
    intro n
    induction n with
    | zero =>
      intro x4 x5 H locs ls hW hS hl hv
      exact False.elim hv
    | succ n ih =>
      intro x4 x5 H locs ls hW hS hl hv
      refine lv_iload hx hb dJ1_indexOfChar_4cfef_7 (lv_at hl 3 rfl) ?_
      refine lv_iload_n hx hb dJ1_indexOfChar_4cfef_9 rfl (lv_at hl 1 rfl) ?_
      refine lv_icmp_ge (tgt := 31) hx hb dJ1_indexOfChar_4cfef_10 (by decide) (fun c_1 => ?_) (fun c_1 => ?_)
      · replace hv := hv.1 c_1
        refine lv_iconst (v := (-1)) hx hb dJ1_indexOfChar_4cfef_31 kic_m1 ?_
        exact ret () (-1 : Int32) H locs ls _ rfl hW hS hv dJ1_indexOfChar_4cfef_32
      · replace hv := hv.2 c_1
        refine lv_aload_n hx hb dJ1_indexOfChar_4cfef_13 rfl (lv_at hl 0 rfl) ?_
        refine lv_iload hx hb dJ1_indexOfChar_4cfef_14 (lv_at hl 3 rfl) ?_
        obtain ⟨h_2, hv⟩ := hv
        refine va_tb (v := .int (f_str 1 x5.toNatClampNeg)) hx hb (C.2.2.1.2.1.2.2.1.1 1 (by decide)).2.2.2 hS h_2 rfl dJ1_indexOfChar_4cfef_16 ?_
        refine lv_iload hx hb dJ1_indexOfChar_4cfef_17 (lv_at hl 2 rfl) ?_
        refine lv_icmp_ne (tgt := 25) hx hb dJ1_indexOfChar_4cfef_19 (by decide) (fun c_3 => ?_) (fun c_3 => ?_)
        · replace hv := hv.1 c_3
          refine lv_iinc (v := (x5 + 1)) (lv' := [(5, .int (x5 + 1)), (0, .ref (G.2.2.2.2.2 1)), (3, .int p4), (4, .int x4)]) hx hb dJ1_indexOfChar_4cfef_25 hl (k := 3) rfl rfl (by decide) rfl (fun ls hl => ?_)
          refine lv_goto (tgt := 7) hx hb dJ1_indexOfChar_4cfef_28 (by decide) ?_
          exact ih x4 (x5 + 1) H locs ls hW hS (lv_sub hl [1, 2, 3, 0] rfl) hv
        · replace hv := hv.2 c_3
          refine lv_iload hx hb dJ1_indexOfChar_4cfef_22 (lv_at hl 3 rfl) ?_
          exact ret () x5 H locs ls _ rfl hW hS hv dJ1_indexOfChar_4cfef_24
  refine lv_iload_n hx hb dJ1_indexOfChar_4cfef_0 rfl (lv_at hl 1 rfl) ?_
  refine lv_i2b hx hb dJ1_indexOfChar_4cfef_1 rfl ?_
  refine lv_istore (lv' := [(4, .int p2.toInt8.toInt32), (0, .ref (G.2.2.2.2.2 1)), (1, .int p2), (2, .int p3), (3, .int p4)]) hx hb dJ1_indexOfChar_4cfef_2 hl (by decide) rfl (fun ls hl => ?_)
  refine lv_iload_n hx hb dJ1_indexOfChar_4cfef_4 rfl (lv_at hl 3 rfl) ?_
  refine lv_istore (lv' := [(5, .int p3), (4, .int p2.toInt8.toInt32), (0, .ref (G.2.2.2.2.2 1)), (1, .int p2), (2, .int p3), (3, .int p4)]) hx hb dJ1_indexOfChar_4cfef_5 hl (by decide) rfl (fun ls hl => ?_)
  obtain ⟨n_4, hv⟩ := hv
  exact h_l_J1_indexOfChar_4cfefk1_7 n_4 p2.toInt8.toInt32 p3 H locs ls hW hS (lv_sub hl [2, 5, 1, 0] rfl) hv
set_option maxHeartbeats 4000000 in
set_option maxRecDepth 100000 in
theorem c_J1_indexOf_4cfefk1 (l : Launch) (G : Gt) (p2 : Int32) (p3 : Int32) (p4 : Int32) (K : Int32 → Prop) (hv : v_J1_indexOf_4cfefk1 p2 p3 p4 K) : CI l G yJ1_indexOf_4cfef (.code yJ1_indexOf_4cfef cJ1_indexOf_4cfef 4 (some .int) :: wsG) (rmm 1 25) [.ref (G.2.2.2.2.2 1), .int p2, .int p3, .int p4] [] (S := Unit) (fun _ => []) (fun r u => K r) := by
  refine ci_intro (by decide) rfl (fun _ => rfl) (Nat.le_of_ble_eq_true rfl) ?_
  intro p e s m args below meth c A H ls Q C hW hS hl ret
  have hx := C.1.1
  have hb := C.1.2.1
  generalize hls : ([] : List Loc) = locs at hS ⊢
  have hl : lv_has ls 4 [(0, .ref (G.2.2.2.2.2 1)), (1, .int p2), (2, .int p3), (3, .int p4)] := hl
  refine lv_iload_n hx hb dJ1_indexOf_4cfef_0 rfl (lv_at hl 1 rfl) ?_
  refine q_callS (rest := []) (n := 1) C (c_J1_canEncode_9a6ad l G p2 _ hv) ml_J1_88 kb_J1_canEncode_9a6ad rfl ⟨⟨rfl, rfl⟩, (Nat.le_of_ble_eq_true rfl), (Nat.le_of_ble_eq_true rfl)⟩ hW hS hl.1 rfl (Nat.le_of_ble_eq_true rfl) dJ1_indexOf_4cfef_1 ⟨Nat.zero_le _, Nat.zero_le _⟩ (fun r_1 u_2 H locs hv hW hS => ?_)
  obtain ⟨hv_b_1, hv⟩ := hv
  try dsimp only at hv
  refine lv_if_ne (tgt := 9) hx hb dJ1_indexOf_4cfef_4 (by decide) (fun c_3 => ?_) (fun c_3 => ?_)
  · replace hv := hv.1 c_3
    refine lv_iload_n hx hb dJ1_indexOf_4cfef_9 rfl (lv_at hl 2 rfl) ?_
    refine lv_iconst (v := 0) hx hb dJ1_indexOf_4cfef_10 kic_0 ?_
    refine va_mmax hx hb (C.1.2.2.1.trans hl.1.symm) C.1.2.2.2.1 (C.hts ml_J1_92) (C.hts st_mmax) (C.hts ini_javalangMath) (C.hts cd_mmax) (Nat.le_of_ble_eq_true rfl) (Nat.le_of_ble_eq_true rfl) (Nat.zero_le _) (Nat.zero_le _) dJ1_indexOf_4cfef_11 ?_
    refine lv_istore_n (lv' := [(2, .int (if p3 < (0 : Int32) then (0 : Int32) else p3)), (0, .ref (G.2.2.2.2.2 1)), (1, .int p2), (3, .int p4)]) hx hb dJ1_indexOf_4cfef_14 rfl hl (by decide) rfl (fun ls hl => ?_)
    refine lv_iload_n hx hb dJ1_indexOf_4cfef_15 rfl (lv_at hl 3 rfl) ?_
    refine lv_aload_n hx hb dJ1_indexOf_4cfef_16 rfl (lv_at hl 1 rfl) ?_
    refine va_tlen (v := 3) hx hb (C.2.2.1.2.1.2.2.1.1 1 (by decide)).2.2.2 hS kal_3 dJ1_indexOf_4cfef_17 ?_
    refine va_mmin hx hb (C.1.2.2.1.trans hl.1.symm) C.1.2.2.2.1 (C.hts ml_J1_38) (C.hts st_mmin) (C.hts ini_javalangMath) (C.hts cd_mmin) (Nat.le_of_ble_eq_true rfl) (Nat.le_of_ble_eq_true rfl) (Nat.zero_le _) (Nat.zero_le _) dJ1_indexOf_4cfef_18 ?_
    refine lv_istore_n (lv' := [(3, .int (if (3 : Int32) < p4 then (3 : Int32) else p4)), (2, .int (if p3 < (0 : Int32) then (0 : Int32) else p3)), (0, .ref (G.2.2.2.2.2 1)), (1, .int p2)]) hx hb dJ1_indexOf_4cfef_21 rfl hl (by decide) rfl (fun ls hl => ?_)
    refine lv_iload_n hx hb dJ1_indexOf_4cfef_22 rfl (lv_at hl 1 rfl) ?_
    refine lv_iload_n hx hb dJ1_indexOf_4cfef_23 rfl (lv_at hl 0 rfl) ?_
    refine lv_icmp_lt (tgt := 29) hx hb dJ1_indexOf_4cfef_24 (by decide) (fun c_4 => ?_) (fun c_4 => ?_)
    · replace hv := hv.1 c_4
      refine lv_aload_n hx hb dJ1_indexOf_4cfef_29 rfl (lv_at hl 2 rfl) ?_
      refine lv_iload_n hx hb dJ1_indexOf_4cfef_30 rfl (lv_at hl 3 rfl) ?_
      refine lv_iload_n hx hb dJ1_indexOf_4cfef_31 rfl (lv_at hl 1 rfl) ?_
      refine lv_iload_n hx hb dJ1_indexOf_4cfef_32 rfl (lv_at hl 0 rfl) ?_
      refine q_callS (rest := []) (n := 4) C (c_J1_indexOfChar_4cfefk1 l G p2 (if p3 < (0 : Int32) then (0 : Int32) else p3) (if (3 : Int32) < p4 then (3 : Int32) else p4) _ hv) ml_J1_95 kb_J1_indexOfChar_4cfef rfl ⟨⟨rfl, rfl⟩, (Nat.le_of_ble_eq_true rfl), (Nat.le_of_ble_eq_true rfl)⟩ hW hS hl.1 rfl (Nat.le_of_ble_eq_true rfl) dJ1_indexOf_4cfef_33 ⟨Nat.zero_le _, Nat.zero_le _⟩ (fun r_5 u_6 H locs hv hW hS => ?_)
      try dsimp only at hv
      exact ret () r_5 H locs ls _ rfl hW hS hv dJ1_indexOf_4cfef_36
    · replace hv := hv.2 c_4
      refine lv_iconst (v := (-1)) hx hb dJ1_indexOf_4cfef_27 kic_m1 ?_
      exact ret () (-1 : Int32) H locs ls _ rfl hW hS hv dJ1_indexOf_4cfef_28
  · replace hv := hv.2 c_3
    refine lv_iconst (v := (-1)) hx hb dJ1_indexOf_4cfef_7 kic_m1 ?_
    exact ret () (-1 : Int32) H locs ls _ rfl hW hS hv dJ1_indexOf_4cfef_8
set_option maxHeartbeats 4000000 in
set_option maxRecDepth 100000 in
theorem c_J0_indexOf_7cf53k1 (l : Launch) (G : Gt) (p1 : Int32) (p2 : Int32) (K : Int32 → Prop) (hv : v_J0_indexOf_7cf53k1 p1 p2 K) : CI l G yJ0_indexOf_7cf53 (.code yJ0_indexOf_7cf53 cJ0_indexOf_7cf53 3 (some .int) :: wsG) (rmm 2 48) [.ref (G.2.2.2.2.1 1), .int p1, .int p2] [] (S := Unit) (fun _ => []) (fun r u => K r) := by
  refine ci_intro (by decide) rfl (fun _ => rfl) (Nat.le_of_ble_eq_true rfl) ?_
  intro p e s m args below meth c A H ls Q C hW hS hl ret
  have hx := C.1.1
  have hb := C.1.2.1
  generalize hls : ([] : List Loc) = locs at hS ⊢
  have hl : lv_has ls 3 [(0, .ref (G.2.2.2.2.1 1)), (1, .int p1), (2, .int p2)] := hl
  refine lv_aload_n hx hb dJ0_indexOf_7cf53_0 rfl (lv_at hl 0 rfl) ?_
  refine q_callVs (i := 1) (rest := []) (n := 0) C (c_J0_isLatin1_aae02k1 l G (fun r => r = (1 : Int32)) rfl) ml_J0_492 kb_J0_isLatin1_aae02 rfl ⟨⟨rfl, rfl⟩, (Nat.le_of_ble_eq_true rfl), (Nat.le_of_ble_eq_true rfl)⟩ hW hS (by decide) rfl hl.1 rfl (Nat.le_of_ble_eq_true rfl) dJ0_indexOf_7cf53_1 ⟨Nat.zero_le _, Nat.zero_le _⟩ (fun r_1 u_2 H locs hv9 hW hS => ?_)
  obtain ⟨hv_b_1, hv9⟩ := hv9
  subst hv9
  refine lv_if_eq (tgt := 23) hx hb dJ0_indexOf_7cf53_4 (by decide) (fun c_3 => ?_) (fun c_3 => ?_)
  · exact absurd c_3 (by decide)
  · refine lv_aload_n hx hb dJ0_indexOf_7cf53_7 rfl (lv_at hl 0 rfl) ?_
    refine vk_getf hx hb (C.2.2.1.2.1.2.2.1.1 1 (by decide)).2.2.1 hS C.1.2.2.2.1 (C.hts fl_J0_9) (fun _ h => h) dJ0_indexOf_7cf53_8 ?_
    refine lv_iload_n hx hb dJ0_indexOf_7cf53_11 rfl (lv_at hl 1 rfl) ?_
    refine lv_iload_n hx hb dJ0_indexOf_7cf53_12 rfl (lv_at hl 2 rfl) ?_
    refine lv_aload_n hx hb dJ0_indexOf_7cf53_13 rfl (lv_at hl 0 rfl) ?_
    refine q_callVs (i := 1) (rest := [.int p2, .int p1, .ref (G.2.2.2.2.2 1)]) (n := 0) C (c_J0_length_8abf5k1 l G (fun r => r = (3 : Int32)) rfl) ml_J0_505 kb_J0_length_8abf5 rfl ⟨⟨rfl, rfl⟩, (Nat.le_of_ble_eq_true rfl), (Nat.le_of_ble_eq_true rfl)⟩ hW hS (by decide) rfl hl.1 rfl (Nat.le_of_ble_eq_true rfl) dJ0_indexOf_7cf53_14 ⟨Nat.zero_le _, Nat.zero_le _⟩ (fun r_4 u_5 H locs hv9 hW hS => ?_)
    subst hv9
    refine q_callS (rest := []) (n := 4) C (c_J1_indexOf_4cfefk1 l G p1 p2 (3 : Int32) _ hv) ml_J0_637 kb_J1_indexOf_4cfef rfl ⟨⟨rfl, rfl⟩, (Nat.le_of_ble_eq_true rfl), (Nat.le_of_ble_eq_true rfl)⟩ hW hS hl.1 rfl (Nat.le_of_ble_eq_true rfl) dJ0_indexOf_7cf53_17 ⟨Nat.zero_le _, Nat.zero_le _⟩ (fun r_6 u_7 H locs hv hW hS => ?_)
    try dsimp only at hv
    refine lv_goto (tgt := 36) hx hb dJ0_indexOf_7cf53_20 (by decide) ?_
    exact ret () r_6 H locs ls _ rfl hW hS hv dJ0_indexOf_7cf53_36
set_option maxHeartbeats 4000000 in
set_option maxRecDepth 100000 in
theorem c_J0_indexOf_0f7a4k1 (l : Launch) (G : Gt) (p1 : Int32) (K : Int32 → Prop) (hv : v_J0_indexOf_0f7a4k1 p1 K) : CI l G yJ0_indexOf_0f7a4 (.code yJ0_indexOf_0f7a4 cJ0_indexOf_0f7a4 2 (some .int) :: wsG) (rmm 3 70) [.ref (G.2.2.2.2.1 1), .int p1] [] (S := Unit) (fun _ => []) (fun r u => K r) := by
  refine ci_intro (by decide) rfl (fun _ => rfl) (Nat.le_of_ble_eq_true rfl) ?_
  intro p e s m args below meth c A H ls Q C hW hS hl ret
  have hx := C.1.1
  have hb := C.1.2.1
  generalize hls : ([] : List Loc) = locs at hS ⊢
  have hl : lv_has ls 2 [(0, .ref (G.2.2.2.2.1 1)), (1, .int p1)] := hl
  refine lv_aload_n hx hb dJ0_indexOf_0f7a4_0 rfl (lv_at hl 0 rfl) ?_
  refine lv_iload_n hx hb dJ0_indexOf_0f7a4_1 rfl (lv_at hl 1 rfl) ?_
  refine lv_iconst (v := 0) hx hb dJ0_indexOf_0f7a4_2 kic_0 ?_
  refine q_callVs (i := 1) (rest := []) (n := 2) C (c_J0_indexOf_7cf53k1 l G p1 (0 : Int32) _ hv) ml_J0_633 kb_J0_indexOf_7cf53 rfl ⟨⟨rfl, rfl⟩, (Nat.le_of_ble_eq_true rfl), (Nat.le_of_ble_eq_true rfl)⟩ hW hS (by decide) rfl hl.1 rfl (Nat.le_of_ble_eq_true rfl) dJ0_indexOf_0f7a4_3 ⟨Nat.zero_le _, Nat.zero_le _⟩ (fun r_1 u_2 H locs hv hW hS => ?_)
  try dsimp only at hv
  exact ret () r_1 H locs ls _ rfl hW hS hv dJ0_indexOf_0f7a4_6
set_option maxHeartbeats 4000000 in
set_option maxRecDepth 100000 in
theorem c_X0_named (l : Launch) (G : Gt) (p1 : Int32) (p2 : Int32) (p3 : Int32) (p4 : Int32) (K : Int32 → Prop) (hv : v_X0_named p1 p2 p3 p4 K) : CI l G yX0_named (.code yX0_named cX0_named 4 (some .int) :: wsG) (rmm 0 0) [.int p1, .int p2, .int p3, .int p4] [] (S := Unit) (fun _ => []) (fun r u => K r) := by
  refine ci_intro (by decide) rfl (fun _ => rfl) (Nat.le_of_ble_eq_true rfl) ?_
  intro p e s m args below meth c A H ls Q C hW hS hl ret
  have hx := C.1.1
  have hb := C.1.2.1
  generalize hls : ([] : List Loc) = locs at hS ⊢
  have hl : lv_has ls 4 [(0, .int p1), (1, .int p2), (2, .int p3), (3, .int p4)] := hl
  refine lv_iload_n hx hb dX0_named_0 rfl (lv_at hl 0 rfl) ?_
  refine lv_iconst (v := (-1)) hx hb dX0_named_1 kic_m1 ?_
  refine lv_icmp_ne (tgt := 7) hx hb dX0_named_2 (by decide) (fun c_1 => ?_) (fun c_1 => ?_)
  · replace hv := hv.1 c_1
    refine lv_iload_n hx hb dX0_named_7 rfl (lv_at hl 0 rfl) ?_
    refine lv_bipush (v := (-2)) hx hb dX0_named_8 kbp_m2 ?_
    refine lv_icmp_ne (tgt := 17) hx hb dX0_named_10 (by decide) (fun c_2 => ?_) (fun c_2 => ?_)
    · replace hv := hv.1 c_2
      refine lv_iload_n hx hb dX0_named_17 rfl (lv_at hl 3 rfl) ?_
      exact ret () p4 H locs ls _ rfl hW hS hv dX0_named_18
    · replace hv := hv.2 c_2
      refine lv_iload_n hx hb dX0_named_13 rfl (lv_at hl 2 rfl) ?_
      refine lv_goto (tgt := 18) hx hb dX0_named_14 (by decide) ?_
      exact ret () p3 H locs ls _ rfl hW hS hv dX0_named_18
  · replace hv := hv.2 c_1
    refine lv_iload_n hx hb dX0_named_5 rfl (lv_at hl 1 rfl) ?_
    exact ret () p2 H locs ls _ rfl hW hS hv dX0_named_6
