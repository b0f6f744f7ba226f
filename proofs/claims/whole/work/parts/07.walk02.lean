set_option maxHeartbeats 4000000 in
set_option maxRecDepth 100000 in
theorem cb_X5_speak (l : Launch) (f o : Nat) (O_X5_speak : Int32 → Int32 → Int32 → Int32 → Int32 → Int32 → Int32 → Int32 → Int32 → (Nat → Int32) → (Int32 → Int32 → Int32 → (Nat → Int32) → Prop) → Prop) (hO_X5_speak : ∀ (G : Gt) (b : Nat → Nat) (traced : Int32) (parted : Int32) (yk : Int32) (ykind : Int32) (ym : Int32) (trace : Nat → Int32) (p1 : Int32) (p2 : Int32) (p3 : Int32) (p4 : Int32) (K : Int32 → Int32 → Int32 → (Nat → Int32) → Prop), O_X5_speak p1 p2 p3 p4 traced parted yk ykind ym trace K → CI l G yX5_speak (.code yX5_speak cX5_speak 7 (some .int) :: wsG) (rmm f o) [.ref (b 0), .int p1, .int p2, .int p3, .int p4] (wd_X5_1 G b traced parted yk ykind ym trace) (S := Int32 × Int32 × (Nat → Int32)) (fun u => wd_X5_1 G b u.1 u.2.1 yk ykind ym u.2.2) (fun r u => K r u.1 u.2.1 u.2.2)) (G : Gt) (b : Nat → Nat) (traced : Int32) (parted : Int32) (yk : Int32) (ykind : Int32) (ym : Int32) (trace : Nat → Int32) (p1 : Int32) (p2 : Int32) (p3 : Int32) (p4 : Int32) (K : Int32 → Int32 → Int32 → (Nat → Int32) → Prop) (hv : b_X5_speak O_X5_speak p1 p2 p3 p4 traced parted yk ykind ym trace K) : CI l G yX5_speak (.code yX5_speak cX5_speak 7 (some .int) :: wsG) (rmm (f + 3) (o + 74)) [.ref (b 0), .int p1, .int p2, .int p3, .int p4] (wd_X5_1 G b traced parted yk ykind ym trace) (S := Int32 × Int32 × (Nat → Int32)) (fun u => wd_X5_1 G b u.1 u.2.1 yk ykind ym u.2.2) (fun r u => K r u.1 u.2.1 u.2.2) := by
  refine ci_intro (by decide) rfl (fun _ => rfl) (Nat.le_of_ble_eq_true rfl) ?_
  intro p e s m args below meth c A H ls Q C hW hS hl ret
  have hx := C.1.1
  have hb := C.1.2.1
  generalize hls : ([] : List Loc) = locs at hS ⊢
  have hl : lv_has ls 7 [(0, .ref (b 0)), (1, .int p1), (2, .int p2), (3, .int p3), (4, .int p4)] := hl
  have h_j_X5_speak_116 : ∀ (x5 : Int32) (x6 : Int32) (traced : Int32) (parted : Int32) (trace : Nat → Int32) (H : Heap) (locs : List Loc) (ls : Array Slot), wo G A (wd_X5_1 G b traced parted yk ykind ym trace) H → va_S A s.heap H locs → lv_has ls 7 [(0, .ref (b 0)), (3, .int p3), (4, .int p4), (5, .int x5), (6, .int x6)] → j_X5_speak_116 O_X5_speak p1 p2 p3 p4 yk ykind ym K x5 x6 traced parted trace → W p l e (rmm (f + 3) (o + 74)) s m args below meth c H locs 0 0 Q (F0 m 116 ls []) := by
    intro x5 x6 traced parted trace H locs ls hW hS hl hv
    refine lv_aload_n hx hb dX5_speak_116 rfl (lv_at hl 0 rfl) ?_
    refine lv_iload hx hb dX5_speak_117 (lv_at hl 4 rfl) ?_
    obtain ⟨t_ABOVE, hz_ABOVE, ht_ABOVE⟩ := C.2.2.1.2.1.1
    refine va_getsN hx hb hz_ABOVE hS C.1.2.2.2.1 (va_Nw.use rfl (C.2.2.1.1 _ nf_X5_43)) (fun _ h => h) dX5_speak_119 ?_
    refine lv_iload hx hb dX5_speak_122 (lv_at hl 3 rfl) ?_
    obtain ⟨h_10, hv⟩ := hv
    refine va_ti hx hb ht_ABOVE hS h_10 rfl dX5_speak_124 ?_
    refine lv_iload_n hx hb dX5_speak_125 rfl (lv_at hl 1 rfl) ?_
    refine lv_iload hx hb dX5_speak_126 (lv_at hl 2 rfl) ?_
    refine lv_iconst (v := 1) hx hb dX5_speak_128 kic_1 ?_
    refine lv_iadd hx hb dX5_speak_129 ?_
    refine q_callV (rest := []) (n := 4) C (c_X5_workOut l f o O_X5_speak hO_X5_speak G b traced parted yk ykind ym trace x6 (f_above x5.toNatClampNeg) p3 (p4 + (1 : Int32)) _ hv) ml_X5_46 kb_X5_workOut rfl ⟨⟨rfl, rfl⟩, (by show f + 2 + 1 ≤ f + 3; omega), (by show 8 + (5 + 11) + (o + 50) ≤ o + 74; omega)⟩ hW hS [0, 1] rfl rfl kc5 (q0 := 0) rfl hl.1 rfl (Nat.le_of_ble_eq_true rfl) dX5_speak_130 ⟨Nat.zero_le _, Nat.zero_le _⟩ (fun r_11 u_12 H locs hv hW hS => ?_)
    obtain ⟨traced_11, parted_11, trace_11⟩ := u_12
    try dsimp only at hv
    have hW : wo G A (wd_X5_1 G b traced_11 parted_11 yk ykind ym trace_11) H := hW
    exact ret (traced_11, parted_11, trace_11) r_11 H locs ls _ rfl hW hS hv dX5_speak_133
  have h_j_X5_speak_74 : ∀ (x5 : Int32) (traced : Int32) (parted : Int32) (trace : Nat → Int32) (H : Heap) (locs : List Loc) (ls : Array Slot), wo G A (wd_X5_1 G b traced parted yk ykind ym trace) H → va_S A s.heap H locs → lv_has ls 7 [(0, .ref (b 0)), (2, .int p2), (3, .int p3), (4, .int p4), (5, .int x5)] → j_X5_speak_74 O_X5_speak p1 p2 p3 p4 yk ykind ym K x5 traced parted trace → W p l e (rmm (f + 3) (o + 74)) s m args below meth c H locs 0 0 Q (F0 m 74 ls []) := by
    intro x5 traced parted trace H locs ls hW hS hl hv
    obtain ⟨t_BODIES, hz_BODIES, ht_BODIES⟩ := C.2.2.1.2.1.2.1
    refine va_gets hx hb hz_BODIES hS C.1.2.2.2.1 (C.hts fl_X5_40) (fun _ h => h) dX5_speak_74 ?_
    refine lv_iload hx hb dX5_speak_77 (lv_at hl 4 rfl) ?_
    refine lv_iconst (v := 4) hx hb dX5_speak_79 kic_4 ?_
    refine lv_imul hx hb dX5_speak_80 ?_
    refine lv_iload_n hx hb dX5_speak_81 rfl (lv_at hl 1 rfl) ?_
    refine lv_iadd hx hb dX5_speak_82 ?_
    obtain ⟨h_8, hv⟩ := hv
    refine va_ti hx hb ht_BODIES hS h_8 rfl dX5_speak_83 ?_
    refine lv_istore (lv' := [(6, .int (f_bodies ((x5 * (4 : Int32)) + p2).toNatClampNeg)), (0, .ref (b 0)), (2, .int p2), (3, .int p3), (4, .int p4), (5, .int x5)]) hx hb dX5_speak_84 hl (by decide) rfl (fun ls hl => ?_)
    refine lv_aload_n hx hb dX5_speak_86 rfl (lv_at hl 1 rfl) ?_
    refine q_get C kc5 hW 0 rfl 1 (by decide) fl_X5_25 rfl rfl dX5_speak_87 ?_
    refine lv_bipush (v := 30) hx hb dX5_speak_90 kbp_30 ?_
    refine lv_icmp_ge (tgt := 116) hx hb dX5_speak_92 (by decide) (fun c_9 => ?_) (fun c_9 => ?_)
    · replace hv := hv.1 c_9
      exact h_j_X5_speak_116 x5 (f_bodies ((x5 * (4 : Int32)) + p2).toNatClampNeg) traced parted trace H locs ls hW hS (lv_sub hl [1, 3, 4, 5, 0] rfl) hv
    · replace hv := hv.2 c_9
      refine lv_aload_n hx hb dX5_speak_95 rfl (lv_at hl 1 rfl) ?_
      refine q_get C kc5 hW 0 rfl 0 (by decide) fl_X5_11 rfl rfl dX5_speak_96 ?_
      refine lv_aload_n hx hb dX5_speak_99 rfl (lv_at hl 1 rfl) ?_
      refine q_get C kc5 hW 0 rfl 1 (by decide) fl_X5_25 rfl rfl dX5_speak_100 ?_
      refine lv_iload hx hb dX5_speak_103 (lv_at hl 0 rfl) ?_
      obtain ⟨h_13, hv⟩ := hv
      refine q_iast C hW hS 1 rfl h_13 dX5_speak_105 (fun H locs hW hS => ?_)
      have hW : wo G A (wd_X5_1 G b traced parted yk ykind ym (upd trace traced.toNatClampNeg (f_bodies ((x5 * (4 : Int32)) + p2).toNatClampNeg))) H := hW
      refine lv_aload_n hx hb dX5_speak_106 rfl (lv_at hl 1 rfl) ?_
      refine lv_dup hx hb dX5_speak_107 rfl ?_
      refine q_get C kc5 hW 0 rfl 1 (by decide) fl_X5_25 rfl rfl dX5_speak_108 ?_
      refine lv_iconst (v := 1) hx hb dX5_speak_111 kic_1 ?_
      refine lv_iadd hx hb dX5_speak_112 ?_
      refine q_put C kc5 hW hS 0 rfl 1 (by decide) fl_X5_25 rfl rfl rfl rfl (Nat.le_of_ble_eq_true rfl) dX5_speak_113 (fun H locs hW hS => ?_)
      have hW : wo G A (wd_X5_1 G b (traced + (1 : Int32)) parted yk ykind ym (upd trace traced.toNatClampNeg (f_bodies ((x5 * (4 : Int32)) + p2).toNatClampNeg))) H := hW
      exact h_j_X5_speak_116 x5 (f_bodies ((x5 * (4 : Int32)) + p2).toNatClampNeg) (traced + (1 : Int32)) parted (upd trace traced.toNatClampNeg (f_bodies ((x5 * (4 : Int32)) + p2).toNatClampNeg)) H locs ls hW hS (lv_sub hl [1, 3, 4, 5, 0] rfl) hv
  have h_l_X5_speak_35 : ∀ (n : Nat), ∀ (x5 : Int32) (x6 : Int32) (traced : Int32) (parted : Int32) (trace : Nat → Int32) (H : Heap) (locs : List Loc) (ls : Array Slot), wo G A (wd_X5_1 G b traced parted yk ykind ym trace) H → va_S A s.heap H locs → lv_has ls 7 [(0, .ref (b 0)), (2, .int p2), (3, .int p3), (4, .int p4), (5, .int x5), (6, .int x6)] → l_X5_speak_35 O_X5_speak p1 p2 p3 p4 yk ykind ym K n x5 x6 traced parted trace → W p l e (rmm (f + 3) (o + 74)) s m args below meth c H locs 0 0 Q (F0 m 35 ls []) := by
    intro n
    induction n with
    | zero =>
      intro x5 x6 traced parted trace H locs ls hW hS hl hv
      exact False.elim hv
    | succ n ih =>
      intro x5 x6 traced parted trace H locs ls hW hS hl hv
      refine lv_iload hx hb dX5_speak_35 (lv_at hl 5 rfl) ?_
      refine lv_bipush (v := 7) hx hb dX5_speak_37 kbp_7 ?_
      refine lv_icmp_ge (tgt := 74) hx hb dX5_speak_39 (by decide) (fun c_7 => ?_) (fun c_7 => ?_)
      · replace hv := hv.1 c_7
        exact h_j_X5_speak_74 x5 traced parted trace H locs ls hW hS (lv_sub hl [0, 1, 2, 3, 4] rfl) hv
      · replace hv := hv.2 c_7
        refine lv_iload hx hb dX5_speak_42 (lv_at hl 4 rfl) ?_
        refine lv_if_le (tgt := 74) hx hb dX5_speak_44 (by decide) (fun c_14 => ?_) (fun c_14 => ?_)
        · replace hv := hv.1 c_14
          exact h_j_X5_speak_74 x5 traced parted trace H locs ls hW hS (lv_sub hl [0, 1, 2, 3, 4] rfl) hv
        · replace hv := hv.2 c_14
          obtain ⟨t_BODIES, hz_BODIES, ht_BODIES⟩ := C.2.2.1.2.1.2.1
          refine va_gets hx hb hz_BODIES hS C.1.2.2.2.1 (C.hts fl_X5_40) (fun _ h => h) dX5_speak_47 ?_
          refine lv_iload hx hb dX5_speak_50 (lv_at hl 4 rfl) ?_
          refine lv_iconst (v := 4) hx hb dX5_speak_52 kic_4 ?_
          refine lv_imul hx hb dX5_speak_53 ?_
          refine lv_iload_n hx hb dX5_speak_54 rfl (lv_at hl 1 rfl) ?_
          refine lv_iadd hx hb dX5_speak_55 ?_
          obtain ⟨h_15, hv⟩ := hv
          refine va_ti hx hb ht_BODIES hS h_15 rfl dX5_speak_56 ?_
          refine lv_if_ne (tgt := 74) hx hb dX5_speak_57 (by decide) (fun c_16 => ?_) (fun c_16 => ?_)
          · replace hv := hv.1 c_16
            exact h_j_X5_speak_74 x5 traced parted trace H locs ls hW hS (lv_sub hl [0, 1, 2, 3, 4] rfl) hv
          · replace hv := hv.2 c_16
            obtain ⟨t_ABOVE, hz_ABOVE, ht_ABOVE⟩ := C.2.2.1.2.1.1
            refine va_getsN hx hb hz_ABOVE hS C.1.2.2.2.1 (va_Nw.use rfl (C.2.2.1.1 _ nf_X5_43)) (fun _ h => h) dX5_speak_60 ?_
            refine lv_iload hx hb dX5_speak_63 (lv_at hl 4 rfl) ?_
            obtain ⟨h_17, hv⟩ := hv
            refine va_ti hx hb ht_ABOVE hS h_17 rfl dX5_speak_65 ?_
            refine lv_istore (lv' := [(5, .int (f_above x5.toNatClampNeg)), (0, .ref (b 0)), (2, .int p2), (3, .int p3), (4, .int p4), (6, .int x6)]) hx hb dX5_speak_66 hl (by decide) rfl (fun ls hl => ?_)
            refine lv_iinc (v := (x6 + 1)) (lv' := [(6, .int (x6 + 1)), (5, .int (f_above x5.toNatClampNeg)), (0, .ref (b 0)), (2, .int p2), (3, .int p3), (4, .int p4)]) hx hb dX5_speak_68 hl (k := 5) rfl rfl (by decide) rfl (fun ls hl => ?_)
            refine lv_goto (tgt := 35) hx hb dX5_speak_71 (by decide) ?_
            exact ih (f_above x5.toNatClampNeg) (x6 + 1) traced parted trace H locs ls hW hS (lv_sub hl [2, 3, 4, 5, 1, 0] rfl) hv
  refine lv_iload_n hx hb dX5_speak_0 rfl (lv_at hl 1 rfl) ?_
  refine lv_istore (lv' := [(5, .int p1), (0, .ref (b 0)), (1, .int p1), (2, .int p2), (3, .int p3), (4, .int p4)]) hx hb dX5_speak_1 hl (by decide) rfl (fun ls hl => ?_)
  refine lv_iload hx hb dX5_speak_3 (lv_at hl 0 rfl) ?_
  refine lv_if_lt (tgt := 30) hx hb dX5_speak_5 (by decide) (fun c_1 => ?_) (fun c_1 => ?_)
  · replace hv := hv.1 c_1
    refine lv_iconst (v := 0) hx hb dX5_speak_30 kic_0 ?_
    exact ret (traced, parted, trace) (0 : Int32) H locs ls _ rfl hW hS hv dX5_speak_31
  · replace hv := hv.2 c_1
    refine lv_iload hx hb dX5_speak_8 (lv_at hl 0 rfl) ?_
    refine lv_bipush (v := 7) hx hb dX5_speak_10 kbp_7 ?_
    refine lv_icmp_ge (tgt := 30) hx hb dX5_speak_12 (by decide) (fun c_2 => ?_) (fun c_2 => ?_)
    · replace hv := hv.1 c_2
      refine lv_iconst (v := 0) hx hb dX5_speak_30 kic_0 ?_
      exact ret (traced, parted, trace) (0 : Int32) H locs ls _ rfl hW hS hv dX5_speak_31
    · replace hv := hv.2 c_2
      refine lv_iload_n hx hb dX5_speak_15 rfl (lv_at hl 3 rfl) ?_
      refine lv_iconst (v := 3) hx hb dX5_speak_16 kic_3 ?_
      refine q_callSN (rest := []) (n := 2) C (c_X6_isWithin l G p2 (3 : Int32) _ hv) nm_X5_36 kb_X6_isWithin rfl ⟨⟨rfl, rfl⟩, (by show 0 + 1 ≤ f + 3; omega), (by show 8 + (2 + 11) + 0 ≤ o + 74; omega)⟩ hW hS hl.1 rfl (Nat.le_of_ble_eq_true rfl) dX5_speak_17 ⟨Nat.zero_le _, Nat.zero_le _⟩ (fun r_3 u_4 H locs hv hW hS => ?_)
      obtain ⟨hv_b_3, hv⟩ := hv
      try dsimp only at hv
      refine lv_if_eq (tgt := 30) hx hb dX5_speak_20 (by decide) (fun c_5 => ?_) (fun c_5 => ?_)
      · replace hv := hv.1 c_5
        refine lv_iconst (v := 0) hx hb dX5_speak_30 kic_0 ?_
        exact ret (traced, parted, trace) (0 : Int32) H locs ls _ rfl hW hS hv dX5_speak_31
      · replace hv := hv.2 c_5
        refine lv_iload hx hb dX5_speak_23 (lv_at hl 5 rfl) ?_
        refine lv_bipush (v := 20) hx hb dX5_speak_25 kbp_20 ?_
        refine lv_icmp_le (tgt := 32) hx hb dX5_speak_27 (by decide) (fun c_6 => ?_) (fun c_6 => ?_)
        · replace hv := hv.1 c_6
          refine lv_iconst (v := 0) hx hb dX5_speak_32 kic_0 ?_
          refine lv_istore (lv' := [(6, .int (0 : Int32)), (5, .int p1), (0, .ref (b 0)), (1, .int p1), (2, .int p2), (3, .int p3), (4, .int p4)]) hx hb dX5_speak_33 hl (by decide) rfl (fun ls hl => ?_)
          obtain ⟨n_18, hv⟩ := hv
          exact h_l_X5_speak_35 n_18 p1 (0 : Int32) traced parted trace H locs ls hW hS (lv_sub hl [2, 4, 5, 6, 1, 0] rfl) hv
        · replace hv := hv.2 c_6
          refine lv_iconst (v := 0) hx hb dX5_speak_30 kic_0 ?_
          exact ret (traced, parted, trace) (0 : Int32) H locs ls _ rfl hW hS hv dX5_speak_31
theorem c_X5_speak (l : Launch) : ∀ (d : Nat) (G : Gt) (b : Nat → Nat) (traced : Int32) (parted : Int32) (yk : Int32) (ykind : Int32) (ym : Int32) (trace : Nat → Int32) (p1 : Int32) (p2 : Int32) (p3 : Int32) (p4 : Int32) (K : Int32 → Int32 → Int32 → (Nat → Int32) → Prop) (hv : v_X5_speak d p1 p2 p3 p4 traced parted yk ykind ym trace K), CI l G yX5_speak (.code yX5_speak cX5_speak 7 (some .int) :: wsG) (rmm (3 * d) (74 * d)) [.ref (b 0), .int p1, .int p2, .int p3, .int p4] (wd_X5_1 G b traced parted yk ykind ym trace) (S := Int32 × Int32 × (Nat → Int32)) (fun u => wd_X5_1 G b u.1 u.2.1 yk ykind ym u.2.2) (fun r u => K r u.1 u.2.1 u.2.2)
  | 0, _, _, _, _, _, _, _, _, _, _, _, _, _, hv => False.elim hv
  | d + 1, G, b, traced, parted, yk, ykind, ym, trace, p1, p2, p3, p4, K, hv => cb_X5_speak l (3 * d) (74 * d) (fun a0 a1 a2 a3 a4 a5 a6 a7 a8 a9 K => v_X5_speak d a0 a1 a2 a3 a4 a5 a6 a7 a8 a9 K) (fun G b traced parted yk ykind ym trace p1 p2 p3 p4 K hv => c_X5_speak l d G b traced parted yk ykind ym trace p1 p2 p3 p4 K hv) G b traced parted yk ykind ym trace p1 p2 p3 p4 K hv
set_option maxHeartbeats 4000000 in
set_option maxRecDepth 100000 in
theorem c_X5_hear (l : Launch) (G : Gt) (b : Nat → Nat) (traced : Int32) (parted : Int32) (yk : Int32) (ykind : Int32) (ym : Int32) (trace : Nat → Int32) (p1 : Int32) (p2 : Int32) (p3 : Int32) (p4 : Int32) (p5 : Int32) (K : Int32 → Int32 → Int32 → Int32 → Int32 → Int32 → (Nat → Int32) → Prop) (hv : v_X5_hear p1 p2 p3 p4 p5 traced parted yk ykind ym trace K) : CI l G yX5_hear (.code yX5_hear cX5_hear 6 (some .int) :: wsG) (rmm 37 914) [.ref (b 0), .int p1, .int p2, .int p3, .int p4, .int p5] (wd_X5_1 G b traced parted yk ykind ym trace) (S := Int32 × Int32 × Int32 × Int32 × Int32 × (Nat → Int32)) (fun u => wd_X5_1 G b u.1 u.2.1 u.2.2.1 u.2.2.2.1 u.2.2.2.2.1 u.2.2.2.2.2) (fun r u => K r u.1 u.2.1 u.2.2.1 u.2.2.2.1 u.2.2.2.2.1 u.2.2.2.2.2) := by
  refine ci_intro (by decide) rfl (fun _ => rfl) (Nat.le_of_ble_eq_true rfl) ?_
  intro p e s m args below meth c A H ls Q C hW hS hl ret
  have hx := C.1.1
  have hb := C.1.2.1
  generalize hls : ([] : List Loc) = locs at hS ⊢
  have hl : lv_has ls 6 [(0, .ref (b 0)), (1, .int p1), (2, .int p2), (3, .int p3), (4, .int p4), (5, .int p5)] := hl
  refine lv_aload_n hx hb dX5_hear_0 rfl (lv_at hl 0 rfl) ?_
  refine lv_iload_n hx hb dX5_hear_1 rfl (lv_at hl 1 rfl) ?_
  refine q_put C kc5 hW hS 0 rfl 3 (by decide) fl_X5_15 rfl rfl rfl rfl (Nat.le_of_ble_eq_true rfl) dX5_hear_2 (fun H locs hW hS => ?_)
  have hW : wo G A (wd_X5_1 G b traced parted p1 ykind ym trace) H := hW
  refine lv_aload_n hx hb dX5_hear_5 rfl (lv_at hl 0 rfl) ?_
  refine lv_iload_n hx hb dX5_hear_6 rfl (lv_at hl 2 rfl) ?_
  refine q_put C kc5 hW hS 0 rfl 4 (by decide) fl_X5_19 rfl rfl rfl rfl (Nat.le_of_ble_eq_true rfl) dX5_hear_7 (fun H locs hW hS => ?_)
  have hW : wo G A (wd_X5_1 G b traced parted p1 p2 ym trace) H := hW
  refine lv_aload_n hx hb dX5_hear_10 rfl (lv_at hl 0 rfl) ?_
  refine lv_iload_n hx hb dX5_hear_11 rfl (lv_at hl 3 rfl) ?_
  refine q_put C kc5 hW hS 0 rfl 5 (by decide) fl_X5_22 rfl rfl rfl rfl (Nat.le_of_ble_eq_true rfl) dX5_hear_12 (fun H locs hW hS => ?_)
  have hW : wo G A (wd_X5_1 G b traced parted p1 p2 p3 trace) H := hW
  refine lv_aload_n hx hb dX5_hear_15 rfl (lv_at hl 0 rfl) ?_
  refine lv_iconst (v := 0) hx hb dX5_hear_16 kic_0 ?_
  refine q_put C kc5 hW hS 0 rfl 1 (by decide) fl_X5_25 rfl rfl rfl rfl (Nat.le_of_ble_eq_true rfl) dX5_hear_17 (fun H locs hW hS => ?_)
  have hW : wo G A (wd_X5_1 G b (0 : Int32) parted p1 p2 p3 trace) H := hW
  refine lv_aload_n hx hb dX5_hear_20 rfl (lv_at hl 0 rfl) ?_
  refine lv_iconst (v := 0) hx hb dX5_hear_21 kic_0 ?_
  refine q_put C kc5 hW hS 0 rfl 2 (by decide) fl_X5_28 rfl rfl (bl_narrow (Or.inl rfl)) (bl_fits (Or.inl rfl)) (Nat.le_of_ble_eq_true rfl) dX5_hear_22 (fun H locs hW hS => ?_)
  have hW : wo G A (wd_X5_1 G b (0 : Int32) (0 : Int32) p1 p2 p3 trace) H := hW
  refine lv_aload_n hx hb dX5_hear_25 rfl (lv_at hl 0 rfl) ?_
  refine lv_aload_n hx hb dX5_hear_26 rfl (lv_at hl 0 rfl) ?_
  refine q_get C kc5 hW 0 rfl 4 (by decide) fl_X5_19 rfl rfl dX5_hear_27 ?_
  refine lv_iload hx hb dX5_hear_30 (lv_at hl 4 rfl) ?_
  refine lv_iload hx hb dX5_hear_32 (lv_at hl 5 rfl) ?_
  refine lv_iconst (v := 0) hx hb dX5_hear_34 kic_0 ?_
  refine q_callV (rest := []) (n := 4) C (c_X5_speak l 12 G b (0 : Int32) (0 : Int32) p1 p2 p3 trace p2 p4 p5 (0 : Int32) _ hv) ml_X5_32 kb_X5_speak rfl ⟨⟨rfl, rfl⟩, (Nat.le_of_ble_eq_true rfl), (Nat.le_of_ble_eq_true rfl)⟩ hW hS [0, 1] rfl rfl kc5 (q0 := 0) rfl hl.1 rfl (Nat.le_of_ble_eq_true rfl) dX5_hear_35 ⟨Nat.zero_le _, Nat.zero_le _⟩ (fun r_1 u_2 H locs hv hW hS => ?_)
  obtain ⟨traced_1, parted_1, trace_1⟩ := u_2
  try dsimp only at hv
  have hW : wo G A (wd_X5_1 G b traced_1 parted_1 p1 p2 p3 trace_1) H := hW
  exact ret (traced_1, parted_1, p1, p2, p3, trace_1) r_1 H locs ls _ rfl hW hS hv dX5_hear_38
set_option maxHeartbeats 4000000 in
set_option maxRecDepth 100000 in
theorem c_X6_isKind (l : Launch) (G : Gt) (p1 : Int32) (K : Int32 → Prop) (hv : v_X6_isKind p1 K) : CI l G yX6_isKind (.code yX6_isKind cX6_isKind 1 (some .boolean) :: wsG) (rmm 1 21) [.int p1] [] (S := Unit) (fun _ => []) (fun r u => (r = 0 ∨ r = 1) ∧ K r) := by
  refine ci_intro (by decide) rfl (fun _ => rfl) (Nat.le_of_ble_eq_true rfl) ?_
  intro p e s m args below meth c A H ls Q C hW hS hl ret
  have hx := C.1.1
  have hb := C.1.2.1
  generalize hls : ([] : List Loc) = locs at hS ⊢
  have hl : lv_has ls 1 [(0, .int p1)] := hl
  refine lv_iload_n hx hb dX6_isKind_0 rfl (lv_at hl 0 rfl) ?_
  refine lv_bipush (v := 69) hx hb dX6_isKind_1 kbp_69 ?_
  refine q_callS (rest := []) (n := 2) C (c_X6_isWithin l G p1 (69 : Int32) _ hv) ml_X6_97 kb_X6_isWithin rfl ⟨⟨rfl, rfl⟩, (Nat.le_of_ble_eq_true rfl), (Nat.le_of_ble_eq_true rfl)⟩ hW hS hl.1 rfl (Nat.le_of_ble_eq_true rfl) dX6_isKind_3 ⟨Nat.zero_le _, Nat.zero_le _⟩ (fun r_1 u_2 H locs hv hW hS => ?_)
  obtain ⟨hv_b_1, hv⟩ := hv
  try dsimp only at hv
  exact ret () r_1 H locs ls _ (bl_narrow hv_b_1) hW hS ⟨hv_b_1, hv⟩ dX6_isKind_6
set_option maxHeartbeats 4000000 in
set_option maxRecDepth 100000 in
theorem c_X6_isNear (l : Launch) (G : Gt) (p1 : Int32) (K : Int32 → Prop) (hv : v_X6_isNear p1 K) : CI l G yX6_isNear (.code yX6_isNear cX6_isNear 1 (some .boolean) :: wsG) (rmm 1 21) [.int p1] [] (S := Unit) (fun _ => []) (fun r u => (r = 0 ∨ r = 1) ∧ K r) := by
  refine ci_intro (by decide) rfl (fun _ => rfl) (Nat.le_of_ble_eq_true rfl) ?_
  intro p e s m args below meth c A H ls Q C hW hS hl ret
  have hx := C.1.1
  have hb := C.1.2.1
  generalize hls : ([] : List Loc) = locs at hS ⊢
  have hl : lv_has ls 1 [(0, .int p1)] := hl
  refine lv_iload_n hx hb dX6_isNear_0 rfl (lv_at hl 0 rfl) ?_
  refine lv_bipush (v := 99) hx hb dX6_isNear_1 kbp_99 ?_
  refine q_callS (rest := []) (n := 2) C (c_X6_isWithin l G p1 (99 : Int32) _ hv) ml_X6_97 kb_X6_isWithin rfl ⟨⟨rfl, rfl⟩, (Nat.le_of_ble_eq_true rfl), (Nat.le_of_ble_eq_true rfl)⟩ hW hS hl.1 rfl (Nat.le_of_ble_eq_true rfl) dX6_isNear_3 ⟨Nat.zero_le _, Nat.zero_le _⟩ (fun r_1 u_2 H locs hv hW hS => ?_)
  obtain ⟨hv_b_1, hv⟩ := hv
  try dsimp only at hv
  exact ret () r_1 H locs ls _ (bl_narrow hv_b_1) hW hS ⟨hv_b_1, hv⟩ dX6_isNear_6
set_option maxHeartbeats 4000000 in
set_option maxRecDepth 100000 in
theorem c_X6_isSign (l : Launch) (G : Gt) (p1 : Int32) (K : Int32 → Prop) (hv : v_X6_isSign p1 K) : CI l G yX6_isSign (.code yX6_isSign cX6_isSign 1 (some .boolean) :: wsG) (rmm 1 21) [.int p1] [] (S := Unit) (fun _ => []) (fun r u => (r = 0 ∨ r = 1) ∧ K r) := by
  refine ci_intro (by decide) rfl (fun _ => rfl) (Nat.le_of_ble_eq_true rfl) ?_
  intro p e s m args below meth c A H ls Q C hW hS hl ret
  have hx := C.1.1
  have hb := C.1.2.1
  generalize hls : ([] : List Loc) = locs at hS ⊢
  have hl : lv_has ls 1 [(0, .int p1)] := hl
  refine lv_iload_n hx hb dX6_isSign_0 rfl (lv_at hl 0 rfl) ?_
  refine lv_bipush (v := 9) hx hb dX6_isSign_1 kbp_9 ?_
  refine q_callS (rest := []) (n := 2) C (c_X6_isWithin l G p1 (9 : Int32) _ hv) ml_X6_97 kb_X6_isWithin rfl ⟨⟨rfl, rfl⟩, (Nat.le_of_ble_eq_true rfl), (Nat.le_of_ble_eq_true rfl)⟩ hW hS hl.1 rfl (Nat.le_of_ble_eq_true rfl) dX6_isSign_3 ⟨Nat.zero_le _, Nat.zero_le _⟩ (fun r_1 u_2 H locs hv hW hS => ?_)
  obtain ⟨hv_b_1, hv⟩ := hv
  try dsimp only at hv
  exact ret () r_1 H locs ls _ (bl_narrow hv_b_1) hW hS ⟨hv_b_1, hv⟩ dX6_isSign_6
set_option maxHeartbeats 4000000 in
set_option maxRecDepth 100000 in
theorem c_X6_error (l : Launch) (G : Gt) (b : Nat → Nat) (images : Int32) (errs : Nat → Int32) (p1 : Int32) (K : Int32 → (Nat → Int32) → Prop) (hv : v_X6_error p1 errs K) : CI l G yX6_error (.code yX6_error cX6_error 2 (some .int) :: wsG) (rmm 0 0) [.ref (b 0), .int p1] (wd_X6_0 G b images errs) (S := (Nat → Int32)) (fun u => wd_X6_0 G b images u) (fun r u => K r u) := by
  refine ci_intro (by decide) rfl (fun _ => rfl) (Nat.le_of_ble_eq_true rfl) ?_
  intro p e s m args below meth c A H ls Q C hW hS hl ret
  have hx := C.1.1
  have hb := C.1.2.1
  generalize hls : ([] : List Loc) = locs at hS ⊢
  have hl : lv_has ls 2 [(0, .ref (b 0)), (1, .int p1)] := hl
  refine lv_iload_n hx hb dX6_error_0 rfl (lv_at hl 1 rfl) ?_
  refine lv_iconst (v := 1) hx hb dX6_error_1 kic_1 ?_
  refine lv_icmp_lt (tgt := 21) hx hb dX6_error_2 (by decide) (fun c_1 => ?_) (fun c_1 => ?_)
  · replace hv := hv.1 c_1
    refine lv_ldcw (v := (-1000000000)) hx hb C.1.2.2.2.1 (C.hts kc_X6_256) dX6_error_21 ?_
    refine lv_iload_n hx hb dX6_error_24 rfl (lv_at hl 1 rfl) ?_
    refine lv_isub hx hb dX6_error_25 ?_
    exact ret (errs) ((-1000000000 : Int32) - p1) H locs ls _ rfl hW hS hv dX6_error_26
  · replace hv := hv.2 c_1
    refine lv_iload_n hx hb dX6_error_5 rfl (lv_at hl 1 rfl) ?_
    refine lv_bipush (v := 6) hx hb dX6_error_6 kbp_6 ?_
    refine lv_icmp_gt (tgt := 21) hx hb dX6_error_8 (by decide) (fun c_2 => ?_) (fun c_2 => ?_)
    · replace hv := hv.1 c_2
      refine lv_ldcw (v := (-1000000000)) hx hb C.1.2.2.2.1 (C.hts kc_X6_256) dX6_error_21 ?_
      refine lv_iload_n hx hb dX6_error_24 rfl (lv_at hl 1 rfl) ?_
      refine lv_isub hx hb dX6_error_25 ?_
      exact ret (errs) ((-1000000000 : Int32) - p1) H locs ls _ rfl hW hS hv dX6_error_26
    · replace hv := hv.2 c_2
      refine lv_aload_n hx hb dX6_error_11 rfl (lv_at hl 0 rfl) ?_
      refine q_get C kc6 hW 0 rfl 8 (by decide) fl_X6_50 rfl rfl dX6_error_12 ?_
      refine lv_iload_n hx hb dX6_error_15 rfl (lv_at hl 1 rfl) ?_
      refine lv_dup2_11 hx hb dX6_error_16 rfl rfl ?_
      obtain ⟨h_3, hv⟩ := hv
      refine q_iald C hW 1 rfl h_3 dX6_error_17 ?_
      refine lv_iconst (v := 1) hx hb dX6_error_18 kic_1 ?_
      refine lv_iadd hx hb dX6_error_19 ?_
      obtain ⟨h_4, hv⟩ := hv
      refine q_iast C hW hS 1 rfl h_4 dX6_error_20 (fun H locs hW hS => ?_)
      have hW : wo G A (wd_X6_0 G b images (upd errs p1.toNatClampNeg ((errs p1.toNatClampNeg) + (1 : Int32)))) H := hW
      refine lv_ldcw (v := (-1000000000)) hx hb C.1.2.2.2.1 (C.hts kc_X6_256) dX6_error_21 ?_
      refine lv_iload_n hx hb dX6_error_24 rfl (lv_at hl 1 rfl) ?_
      refine lv_isub hx hb dX6_error_25 ?_
      exact ret ((upd errs p1.toNatClampNeg ((errs p1.toNatClampNeg) + (1 : Int32)))) ((-1000000000 : Int32) - p1) H locs ls _ rfl hW hS hv dX6_error_26
set_option maxHeartbeats 4000000 in
set_option maxRecDepth 100000 in
theorem c_X6_person (l : Launch) (G : Gt) (b : Nat → Nat) (images : Int32) (n_people : Int32) (n_taped : Int32) (n_waiting : Int32) (n_z : Int32) (n_kind : Nat → Int32) (n_em : Nat → Int32) (n_called : Nat → Int32) (n_day : Int32) (n_near : Nat → Int32) (n_shows : Nat → Int32) (errs : Nat → Int32) (p1 : Int32) (p2 : Int32) (p3 : Int32) (K : Int32 → Int32 → (Nat → Int32) → (Nat → Int32) → (Nat → Int32) → (Nat → Int32) → (Nat → Int32) → (Nat → Int32) → Prop) (hv : v_X6_person p1 p2 p3 n_people n_kind n_em n_called n_near n_shows errs K) : CI l G yX6_person (.code yX6_person cX6_person 4 (some .int) :: wsG) (rmm 2 41) [.ref (b 0), .int p1, .int p2, .int p3] (wd_X6_1 G b images n_people n_taped n_waiting n_z n_kind n_em n_called n_day n_near n_shows errs) (S := Int32 × (Nat → Int32) × (Nat → Int32) × (Nat → Int32) × (Nat → Int32) × (Nat → Int32) × (Nat → Int32)) (fun u => wd_X6_1 G b images u.1 n_taped n_waiting n_z u.2.1 u.2.2.1 u.2.2.2.1 n_day u.2.2.2.2.1 u.2.2.2.2.2.1 u.2.2.2.2.2.2) (fun r u => K r u.1 u.2.1 u.2.2.1 u.2.2.2.1 u.2.2.2.2.1 u.2.2.2.2.2.1 u.2.2.2.2.2.2) := by
  refine ci_intro (by decide) rfl (fun _ => rfl) (Nat.le_of_ble_eq_true rfl) ?_
  intro p e s m args below meth c A H ls Q C hW hS hl ret
  have hx := C.1.1
  have hb := C.1.2.1
  generalize hls : ([] : List Loc) = locs at hS ⊢
  have hl : lv_has ls 4 [(0, .ref (b 0)), (1, .int p1), (2, .int p2), (3, .int p3)] := hl
  have h_j_X6_person_21 : ∀ (n_people : Int32) (n_kind : Nat → Int32) (n_em : Nat → Int32) (n_called : Nat → Int32) (n_near : Nat → Int32) (n_shows : Nat → Int32) (errs : Nat → Int32) (H : Heap) (locs : List Loc) (ls : Array Slot), wo G A (wd_X6_1 G b images n_people n_taped n_waiting n_z n_kind n_em n_called n_day n_near n_shows errs) H → va_S A s.heap H locs → lv_has ls 4 [(0, .ref (b 0))] → j_X6_person_21 p1 p2 p3 K n_people n_kind n_em n_called n_near n_shows errs → W p l e (rmm 2 41) s m args below meth c H locs 0 0 Q (F0 m 21 ls []) := by
    intro n_people n_kind n_em n_called n_near n_shows errs H locs ls hW hS hl hv
    refine lv_aload_n hx hb dX6_person_21 rfl (lv_at hl 0 rfl) ?_
    refine lv_iconst (v := 1) hx hb dX6_person_22 kic_1 ?_
    refine q_callV (rest := []) (n := 1) C (c_X6_error l G b images errs (1 : Int32) _ hv) ml_X6_64 kb_X6_error rfl ⟨⟨rfl, rfl⟩, (Nat.le_of_ble_eq_true rfl), (Nat.le_of_ble_eq_true rfl)⟩ hW hS [0, 8] rfl rfl kc6 (q0 := 0) rfl hl.1 rfl (Nat.le_of_ble_eq_true rfl) dX6_person_23 ⟨Nat.zero_le _, Nat.zero_le _⟩ (fun r_4 u_5 H locs hv hW hS => ?_)
    obtain ⟨errs_4, rfl⟩ : ∃ z, z = u_5 := ⟨_, rfl⟩
    try dsimp only at hv
    have hW : wo G A (wd_X6_1 G b images n_people n_taped n_waiting n_z n_kind n_em n_called n_day n_near n_shows errs_4) H := hW
    exact ret (n_people, n_kind, n_em, n_called, n_near, n_shows, errs_4) r_4 H locs ls _ rfl hW hS hv dX6_person_26
  refine lv_iload_n hx hb dX6_person_0 rfl (lv_at hl 1 rfl) ?_
  refine q_callS (rest := []) (n := 1) C (c_X6_isKind l G p1 _ hv) ml_X6_54 kb_X6_isKind rfl ⟨⟨rfl, rfl⟩, (Nat.le_of_ble_eq_true rfl), (Nat.le_of_ble_eq_true rfl)⟩ hW hS hl.1 rfl (Nat.le_of_ble_eq_true rfl) dX6_person_1 ⟨Nat.zero_le _, Nat.zero_le _⟩ (fun r_1 u_2 H locs hv hW hS => ?_)
  obtain ⟨hv_b_1, hv⟩ := hv
  try dsimp only at hv
  refine lv_if_eq (tgt := 21) hx hb dX6_person_4 (by decide) (fun c_3 => ?_) (fun c_3 => ?_)
  · replace hv := hv.1 c_3
    exact h_j_X6_person_21 n_people n_kind n_em n_called n_near n_shows errs H locs ls hW hS (lv_sub hl [0] rfl) hv
  · replace hv := hv.2 c_3
    refine lv_iload_n hx hb dX6_person_7 rfl (lv_at hl 2 rfl) ?_
    refine q_callS (rest := []) (n := 1) C (c_X6_isNear l G p2 _ hv) ml_X6_58 kb_X6_isNear rfl ⟨⟨rfl, rfl⟩, (Nat.le_of_ble_eq_true rfl), (Nat.le_of_ble_eq_true rfl)⟩ hW hS hl.1 rfl (Nat.le_of_ble_eq_true rfl) dX6_person_8 ⟨Nat.zero_le _, Nat.zero_le _⟩ (fun r_6 u_7 H locs hv hW hS => ?_)
    obtain ⟨hv_b_6, hv⟩ := hv
    try dsimp only at hv
    refine lv_if_eq (tgt := 21) hx hb dX6_person_11 (by decide) (fun c_8 => ?_) (fun c_8 => ?_)
    · replace hv := hv.1 c_8
      exact h_j_X6_person_21 n_people n_kind n_em n_called n_near n_shows errs H locs ls hW hS (lv_sub hl [0] rfl) hv
    · replace hv := hv.2 c_8
      refine lv_iload_n hx hb dX6_person_14 rfl (lv_at hl 3 rfl) ?_
      refine q_callS (rest := []) (n := 1) C (c_X6_isSign l G p3 _ hv) ml_X6_61 kb_X6_isSign rfl ⟨⟨rfl, rfl⟩, (Nat.le_of_ble_eq_true rfl), (Nat.le_of_ble_eq_true rfl)⟩ hW hS hl.1 rfl (Nat.le_of_ble_eq_true rfl) dX6_person_15 ⟨Nat.zero_le _, Nat.zero_le _⟩ (fun r_9 u_10 H locs hv hW hS => ?_)
      obtain ⟨hv_b_9, hv⟩ := hv
      try dsimp only at hv
      refine lv_if_ne (tgt := 27) hx hb dX6_person_18 (by decide) (fun c_11 => ?_) (fun c_11 => ?_)
      · replace hv := hv.1 c_11
        refine lv_aload_n hx hb dX6_person_27 rfl (lv_at hl 0 rfl) ?_
        refine q_get C kc6 hW 0 rfl 0 (by decide) fl_X6_10 rfl rfl dX6_person_28 ?_
        refine q_getN C kc4 hW 1 rfl 0 (by decide) nf_X6_68 rfl rfl dX6_person_31 ?_
        refine lv_bipush (v := 8) hx hb dX6_person_34 kbp_8 ?_
        refine lv_icmp_lt (tgt := 45) hx hb dX6_person_36 (by decide) (fun c_12 => ?_) (fun c_12 => ?_)
        · replace hv := hv.1 c_12
          refine lv_aload_n hx hb dX6_person_45 rfl (lv_at hl 0 rfl) ?_
          refine q_get C kc6 hW 0 rfl 0 (by decide) fl_X6_10 rfl rfl dX6_person_46 ?_
          refine lv_iload_n hx hb dX6_person_49 rfl (lv_at hl 1 rfl) ?_
          refine lv_iload_n hx hb dX6_person_50 rfl (lv_at hl 2 rfl) ?_
          refine lv_iload_n hx hb dX6_person_51 rfl (lv_at hl 3 rfl) ?_
          refine q_callN (rest := []) (n := 3) C (c_X4_join l G (fun k => b (k + 1)) n_people n_taped n_waiting n_z n_kind n_em n_called n_day n_near n_shows p1 p2 p3 _ hv) nm_X6_72 kb_X4_join rfl ⟨⟨rfl, rfl⟩, (Nat.le_of_ble_eq_true rfl), (Nat.le_of_ble_eq_true rfl)⟩ hW hS [1, 2, 3, 4, 5, 6, 7] rfl rfl kc4 (q0 := 1) rfl hl.1 rfl (Nat.le_of_ble_eq_true rfl) dX6_person_52 ⟨Nat.zero_le _, Nat.zero_le _⟩ (fun r_13 u_14 H locs hv hW hS => ?_)
          obtain ⟨n_people_13, n_kind_13, n_em_13, n_called_13, n_near_13, n_shows_13⟩ := u_14
          try dsimp only at hv
          have hW : wo G A (wd_X6_1 G b images n_people_13 n_taped n_waiting n_z n_kind_13 n_em_13 n_called_13 n_day n_near_13 n_shows_13 errs) H := hW
          exact ret (n_people_13, n_kind_13, n_em_13, n_called_13, n_near_13, n_shows_13, errs) r_13 H locs ls _ rfl hW hS hv dX6_person_55
        · replace hv := hv.2 c_12
          refine lv_aload_n hx hb dX6_person_39 rfl (lv_at hl 0 rfl) ?_
          refine lv_iconst (v := 4) hx hb dX6_person_40 kic_4 ?_
          refine q_callV (rest := []) (n := 1) C (c_X6_error l G b images errs (4 : Int32) _ hv) ml_X6_64 kb_X6_error rfl ⟨⟨rfl, rfl⟩, (Nat.le_of_ble_eq_true rfl), (Nat.le_of_ble_eq_true rfl)⟩ hW hS [0, 8] rfl rfl kc6 (q0 := 0) rfl hl.1 rfl (Nat.le_of_ble_eq_true rfl) dX6_person_41 ⟨Nat.zero_le _, Nat.zero_le _⟩ (fun r_15 u_16 H locs hv hW hS => ?_)
          obtain ⟨errs_15, rfl⟩ : ∃ z, z = u_16 := ⟨_, rfl⟩
          try dsimp only at hv
          have hW : wo G A (wd_X6_1 G b images n_people n_taped n_waiting n_z n_kind n_em n_called n_day n_near n_shows errs_15) H := hW
          exact ret (n_people, n_kind, n_em, n_called, n_near, n_shows, errs_15) r_15 H locs ls _ rfl hW hS hv dX6_person_44
      · replace hv := hv.2 c_11
        exact h_j_X6_person_21 n_people n_kind n_em n_called n_near n_shows errs H locs ls hW hS (lv_sub hl [0] rfl) hv
set_option maxHeartbeats 4000000 in
set_option maxRecDepth 100000 in
theorem c_X6_personIs (l : Launch) (G : Gt) (b : Nat → Nat) (images : Int32) (n_people : Int32) (n_taped : Int32) (n_waiting : Int32) (n_z : Int32) (n_kind : Nat → Int32) (n_em : Nat → Int32) (n_called : Nat → Int32) (n_day : Int32) (n_near : Nat → Int32) (n_shows : Nat → Int32) (errs : Nat → Int32) (p1 : Int32) (p2 : Int32) (K : Int32 → (Nat → Int32) → Prop) (hv : v_X6_personIs p1 p2 n_people n_kind n_em n_called n_near n_shows errs K) : CI l G yX6_personIs (.code yX6_personIs cX6_personIs 3 (some .int) :: wsG) (rmm 1 21) [.ref (b 0), .int p1, .int p2] (wd_X6_1 G b images n_people n_taped n_waiting n_z n_kind n_em n_called n_day n_near n_shows errs) (S := (Nat → Int32)) (fun u => wd_X6_1 G b images n_people n_taped n_waiting n_z n_kind n_em n_called n_day n_near n_shows u) (fun r u => K r u) := by
  refine ci_intro (by decide) rfl (fun _ => rfl) (Nat.le_of_ble_eq_true rfl) ?_
  intro p e s m args below meth c A H ls Q C hW hS hl ret
  have hx := C.1.1
  have hb := C.1.2.1
  generalize hls : ([] : List Loc) = locs at hS ⊢
  have hl : lv_has ls 3 [(0, .ref (b 0)), (1, .int p1), (2, .int p2)] := hl
  refine lv_aload_n hx hb dX6_personIs_0 rfl (lv_at hl 0 rfl) ?_
  refine q_get C kc6 hW 0 rfl 0 (by decide) fl_X6_10 rfl rfl dX6_personIs_1 ?_
  refine lv_iload_n hx hb dX6_personIs_4 rfl (lv_at hl 1 rfl) ?_
  refine q_callN (rest := []) (n := 1) C (c_X4_has l G (fun k => b (k + 1)) n_people n_taped n_waiting n_z p1 _ hv) nm_X6_76 kb_X4_has rfl ⟨⟨rfl, rfl⟩, (Nat.le_of_ble_eq_true rfl), (Nat.le_of_ble_eq_true rfl)⟩ hW hS [1] rfl rfl kc4 (q0 := 1) rfl hl.1 rfl (Nat.le_of_ble_eq_true rfl) dX6_personIs_5 ⟨Nat.zero_le _, Nat.zero_le _⟩ (fun r_1 u_2 H locs hv hW hS => ?_)
  obtain ⟨hv_b_1, hv⟩ := hv
  try dsimp only at hv
  refine lv_if_ne (tgt := 17) hx hb dX6_personIs_8 (by decide) (fun c_3 => ?_) (fun c_3 => ?_)
  · replace hv := hv.1 c_3
    refine lv_iload_n hx hb dX6_personIs_17 rfl (lv_at hl 2 rfl) ?_
    by_cases c_4_0 : p2 = 0
    · replace hv := hv.1 c_4_0
      refine lv_tableIn (tgt := 52) hx hb dX6_personIs_18 (by rw [c_4_0]; decide) (by rw [c_4_0]; decide) (by rw [c_4_0]; rfl) (by decide) ?_
      refine lv_aload_n hx hb dX6_personIs_52 rfl (lv_at hl 0 rfl) ?_
      refine q_get C kc6 hW 0 rfl 0 (by decide) fl_X6_10 rfl rfl dX6_personIs_53 ?_
      refine q_getN C kc4 hW 1 rfl 1 (by decide) nf_X6_79 rfl rfl dX6_personIs_56 ?_
      refine lv_iload_n hx hb dX6_personIs_59 rfl (lv_at hl 1 rfl) ?_
      obtain ⟨h_5, hv⟩ := hv
      refine q_iald C hW 2 rfl h_5 dX6_personIs_60 ?_
      exact ret (errs) (n_kind p1.toNatClampNeg) H locs ls _ rfl hW hS hv dX6_personIs_61
    · replace hv := hv.2 c_4_0
      by_cases c_4_1 : p2 = 1
      · replace hv := hv.1 c_4_1
        refine lv_tableIn (tgt := 62) hx hb dX6_personIs_18 (by rw [c_4_1]; decide) (by rw [c_4_1]; decide) (by rw [c_4_1]; rfl) (by decide) ?_
        refine lv_aload_n hx hb dX6_personIs_62 rfl (lv_at hl 0 rfl) ?_
        refine q_get C kc6 hW 0 rfl 0 (by decide) fl_X6_10 rfl rfl dX6_personIs_63 ?_
        refine q_getN C kc4 hW 1 rfl 2 (by decide) nf_X6_82 rfl rfl dX6_personIs_66 ?_
        refine lv_iload_n hx hb dX6_personIs_69 rfl (lv_at hl 1 rfl) ?_
        obtain ⟨h_6, hv⟩ := hv
        refine q_iald C hW 3 rfl h_6 dX6_personIs_70 ?_
        exact ret (errs) (n_em p1.toNatClampNeg) H locs ls _ rfl hW hS hv dX6_personIs_71
      · replace hv := hv.2 c_4_1
        by_cases c_4_2 : p2 = 2
        · replace hv := hv.1 c_4_2
          refine lv_tableIn (tgt := 72) hx hb dX6_personIs_18 (by rw [c_4_2]; decide) (by rw [c_4_2]; decide) (by rw [c_4_2]; rfl) (by decide) ?_
          refine lv_aload_n hx hb dX6_personIs_72 rfl (lv_at hl 0 rfl) ?_
          refine q_get C kc6 hW 0 rfl 0 (by decide) fl_X6_10 rfl rfl dX6_personIs_73 ?_
          refine q_getN C kc4 hW 1 rfl 4 (by decide) nf_X6_85 rfl rfl dX6_personIs_76 ?_
          refine q_getN C kc3 hW 5 rfl 0 (by decide) nf_X6_88 rfl rfl dX6_personIs_79 ?_
          refine lv_iload_n hx hb dX6_personIs_82 rfl (lv_at hl 1 rfl) ?_
          obtain ⟨h_7, hv⟩ := hv
          refine q_iald C hW 6 rfl h_7 dX6_personIs_83 ?_
          exact ret (errs) (n_near p1.toNatClampNeg) H locs ls _ rfl hW hS hv dX6_personIs_84
        · replace hv := hv.2 c_4_2
          by_cases c_4_3 : p2 = 3
          · replace hv := hv.1 c_4_3
            refine lv_tableIn (tgt := 85) hx hb dX6_personIs_18 (by rw [c_4_3]; decide) (by rw [c_4_3]; decide) (by rw [c_4_3]; rfl) (by decide) ?_
            refine lv_aload_n hx hb dX6_personIs_85 rfl (lv_at hl 0 rfl) ?_
            refine q_get C kc6 hW 0 rfl 0 (by decide) fl_X6_10 rfl rfl dX6_personIs_86 ?_
            refine q_getN C kc4 hW 1 rfl 4 (by decide) nf_X6_85 rfl rfl dX6_personIs_89 ?_
            refine q_getN C kc3 hW 5 rfl 1 (by decide) nf_X6_91 rfl rfl dX6_personIs_92 ?_
            refine lv_iload_n hx hb dX6_personIs_95 rfl (lv_at hl 1 rfl) ?_
            obtain ⟨h_8, hv⟩ := hv
            refine q_iald C hW 7 rfl h_8 dX6_personIs_96 ?_
            exact ret (errs) (n_shows p1.toNatClampNeg) H locs ls _ rfl hW hS hv dX6_personIs_97
          · replace hv := hv.2 c_4_3
            by_cases c_4_4 : p2 = 4
            · replace hv := hv.1 c_4_4
              refine lv_tableIn (tgt := 98) hx hb dX6_personIs_18 (by rw [c_4_4]; decide) (by rw [c_4_4]; decide) (by rw [c_4_4]; rfl) (by decide) ?_
              refine lv_aload_n hx hb dX6_personIs_98 rfl (lv_at hl 0 rfl) ?_
              refine q_get C kc6 hW 0 rfl 0 (by decide) fl_X6_10 rfl rfl dX6_personIs_99 ?_
              refine q_getN C kc4 hW 1 rfl 3 (by decide) nf_X6_94 rfl rfl dX6_personIs_102 ?_
              refine lv_iload_n hx hb dX6_personIs_105 rfl (lv_at hl 1 rfl) ?_
              obtain ⟨h_9, hv⟩ := hv
              refine q_iald C hW 4 rfl h_9 dX6_personIs_106 ?_
              exact ret (errs) (n_called p1.toNatClampNeg) H locs ls _ rfl hW hS hv dX6_personIs_107
            · replace hv := hv.2 c_4_4
              refine sw_row (tgt := 108) hx hb dX6_personIs_18 rfl (lt_s (lt_s (lt_s (lt_s (lt_s lt_0 (Or.inr (lv_neT c_4_0 rfl))) (Or.inr (lv_neT c_4_1 rfl))) (Or.inr (lv_neT c_4_2 rfl))) (Or.inr (lv_neT c_4_3 rfl))) (Or.inr (lv_neT c_4_4 rfl))) (by decide) ?_
              refine lv_aload_n hx hb dX6_personIs_108 rfl (lv_at hl 0 rfl) ?_
              refine lv_iconst (v := 1) hx hb dX6_personIs_109 kic_1 ?_
              refine q_callV (rest := []) (n := 1) C (c_X6_error l G b images errs (1 : Int32) _ hv) ml_X6_64 kb_X6_error rfl ⟨⟨rfl, rfl⟩, (Nat.le_of_ble_eq_true rfl), (Nat.le_of_ble_eq_true rfl)⟩ hW hS [0, 8] rfl rfl kc6 (q0 := 0) rfl hl.1 rfl (Nat.le_of_ble_eq_true rfl) dX6_personIs_110 ⟨Nat.zero_le _, Nat.zero_le _⟩ (fun r_10 u_11 H locs hv hW hS => ?_)
              obtain ⟨errs_10, rfl⟩ : ∃ z, z = u_11 := ⟨_, rfl⟩
              try dsimp only at hv
              have hW : wo G A (wd_X6_1 G b images n_people n_taped n_waiting n_z n_kind n_em n_called n_day n_near n_shows errs_10) H := hW
              exact ret (errs_10) r_10 H locs ls _ rfl hW hS hv dX6_personIs_113
  · replace hv := hv.2 c_3
    refine lv_aload_n hx hb dX6_personIs_11 rfl (lv_at hl 0 rfl) ?_
    refine lv_iconst (v := 1) hx hb dX6_personIs_12 kic_1 ?_
    refine q_callV (rest := []) (n := 1) C (c_X6_error l G b images errs (1 : Int32) _ hv) ml_X6_64 kb_X6_error rfl ⟨⟨rfl, rfl⟩, (Nat.le_of_ble_eq_true rfl), (Nat.le_of_ble_eq_true rfl)⟩ hW hS [0, 8] rfl rfl kc6 (q0 := 0) rfl hl.1 rfl (Nat.le_of_ble_eq_true rfl) dX6_personIs_13 ⟨Nat.zero_le _, Nat.zero_le _⟩ (fun r_12 u_13 H locs hv hW hS => ?_)
    obtain ⟨errs_12, rfl⟩ : ∃ z, z = u_13 := ⟨_, rfl⟩
    try dsimp only at hv
    have hW : wo G A (wd_X6_1 G b images n_people n_taped n_waiting n_z n_kind n_em n_called n_day n_near n_shows errs_12) H := hW
    exact ret (errs_12) r_12 H locs ls _ rfl hW hS hv dX6_personIs_16
set_option maxHeartbeats 4000000 in
set_option maxRecDepth 100000 in
theorem c_X6_become (l : Launch) (G : Gt) (b : Nat → Nat) (images : Int32) (n_people : Int32) (n_taped : Int32) (n_waiting : Int32) (n_z : Int32) (n_kind : Nat → Int32) (n_em : Nat → Int32) (errs : Nat → Int32) (p1 : Int32) (p2 : Int32) (K : Int32 → (Nat → Int32) → (Nat → Int32) → (Nat → Int32) → Prop) (hv : v_X6_become p1 p2 n_people n_kind n_em errs K) : CI l G yX6_become (.code yX6_become cX6_become 4 (some .int) :: wsG) (rmm 2 41) [.ref (b 0), .int p1, .int p2] (wd_X6_2 G b images n_people n_taped n_waiting n_z n_kind n_em errs) (S := (Nat → Int32) × (Nat → Int32) × (Nat → Int32)) (fun u => wd_X6_2 G b images n_people n_taped n_waiting n_z u.1 u.2.1 u.2.2) (fun r u => K r u.1 u.2.1 u.2.2) := by
  refine ci_intro (by decide) rfl (fun _ => rfl) (Nat.le_of_ble_eq_true rfl) ?_
  intro p e s m args below meth c A H ls Q C hW hS hl ret
  have hx := C.1.1
  have hb := C.1.2.1
  generalize hls : ([] : List Loc) = locs at hS ⊢
  have hl : lv_has ls 4 [(0, .ref (b 0)), (1, .int p1), (2, .int p2)] := hl
  have h_j_X6_become_18 : ∀ (n_kind : Nat → Int32) (n_em : Nat → Int32) (errs : Nat → Int32) (H : Heap) (locs : List Loc) (ls : Array Slot), wo G A (wd_X6_2 G b images n_people n_taped n_waiting n_z n_kind n_em errs) H → va_S A s.heap H locs → lv_has ls 4 [(0, .ref (b 0))] → j_X6_become_18 p1 p2 n_people K n_kind n_em errs → W p l e (rmm 2 41) s m args below meth c H locs 0 0 Q (F0 m 18 ls []) := by
    intro n_kind n_em errs H locs ls hW hS hl hv
    refine lv_aload_n hx hb dX6_become_18 rfl (lv_at hl 0 rfl) ?_
    refine lv_iconst (v := 1) hx hb dX6_become_19 kic_1 ?_
    refine q_callV (rest := []) (n := 1) C (c_X6_error l G b images errs (1 : Int32) _ hv) ml_X6_64 kb_X6_error rfl ⟨⟨rfl, rfl⟩, (Nat.le_of_ble_eq_true rfl), (Nat.le_of_ble_eq_true rfl)⟩ hW hS [0, 4] rfl rfl kc6 (q0 := 0) rfl hl.1 rfl (Nat.le_of_ble_eq_true rfl) dX6_become_20 ⟨Nat.zero_le _, Nat.zero_le _⟩ (fun r_4 u_5 H locs hv hW hS => ?_)
    obtain ⟨errs_4, rfl⟩ : ∃ z, z = u_5 := ⟨_, rfl⟩
    try dsimp only at hv
    have hW : wo G A (wd_X6_2 G b images n_people n_taped n_waiting n_z n_kind n_em errs_4) H := hW
    exact ret (n_kind, n_em, errs_4) r_4 H locs ls _ rfl hW hS hv dX6_become_23
  refine lv_aload_n hx hb dX6_become_0 rfl (lv_at hl 0 rfl) ?_
  refine q_get C kc6 hW 0 rfl 0 (by decide) fl_X6_10 rfl rfl dX6_become_1 ?_
  refine lv_iload_n hx hb dX6_become_4 rfl (lv_at hl 1 rfl) ?_
  refine q_callN (rest := []) (n := 1) C (c_X4_has l G (fun k => b (k + 1)) n_people n_taped n_waiting n_z p1 _ hv) nm_X6_76 kb_X4_has rfl ⟨⟨rfl, rfl⟩, (Nat.le_of_ble_eq_true rfl), (Nat.le_of_ble_eq_true rfl)⟩ hW hS [1] rfl rfl kc4 (q0 := 1) rfl hl.1 rfl (Nat.le_of_ble_eq_true rfl) dX6_become_5 ⟨Nat.zero_le _, Nat.zero_le _⟩ (fun r_1 u_2 H locs hv hW hS => ?_)
  obtain ⟨hv_b_1, hv⟩ := hv
  try dsimp only at hv
  refine lv_if_eq (tgt := 18) hx hb dX6_become_8 (by decide) (fun c_3 => ?_) (fun c_3 => ?_)
  · replace hv := hv.1 c_3
    exact h_j_X6_become_18 n_kind n_em errs H locs ls hW hS (lv_sub hl [0] rfl) hv
  · replace hv := hv.2 c_3
    refine lv_iload_n hx hb dX6_become_11 rfl (lv_at hl 2 rfl) ?_
    refine q_callS (rest := []) (n := 1) C (c_X6_isKind l G p2 _ hv) ml_X6_54 kb_X6_isKind rfl ⟨⟨rfl, rfl⟩, (Nat.le_of_ble_eq_true rfl), (Nat.le_of_ble_eq_true rfl)⟩ hW hS hl.1 rfl (Nat.le_of_ble_eq_true rfl) dX6_become_12 ⟨Nat.zero_le _, Nat.zero_le _⟩ (fun r_6 u_7 H locs hv hW hS => ?_)
    obtain ⟨hv_b_6, hv⟩ := hv
    try dsimp only at hv
    refine lv_if_ne (tgt := 24) hx hb dX6_become_15 (by decide) (fun c_8 => ?_) (fun c_8 => ?_)
    · replace hv := hv.1 c_8
      refine lv_aload_n hx hb dX6_become_24 rfl (lv_at hl 0 rfl) ?_
      refine q_get C kc6 hW 0 rfl 0 (by decide) fl_X6_10 rfl rfl dX6_become_25 ?_
      refine q_getN C kc4 hW 1 rfl 1 (by decide) nf_X6_79 rfl rfl dX6_become_28 ?_
      refine lv_iload_n hx hb dX6_become_31 rfl (lv_at hl 1 rfl) ?_
      obtain ⟨h_9, hv⟩ := hv
      refine q_iald C hW 2 rfl h_9 dX6_become_32 ?_
      refine lv_istore_n (lv' := [(3, .int (n_kind p1.toNatClampNeg)), (0, .ref (b 0)), (1, .int p1), (2, .int p2)]) hx hb dX6_become_33 rfl hl (by decide) rfl (fun ls hl => ?_)
      refine lv_aload_n hx hb dX6_become_34 rfl (lv_at hl 1 rfl) ?_
      refine q_get C kc6 hW 0 rfl 0 (by decide) fl_X6_10 rfl rfl dX6_become_35 ?_
      refine q_getN C kc4 hW 1 rfl 1 (by decide) nf_X6_79 rfl rfl dX6_become_38 ?_
      refine lv_iload_n hx hb dX6_become_41 rfl (lv_at hl 2 rfl) ?_
      refine lv_iload_n hx hb dX6_become_42 rfl (lv_at hl 3 rfl) ?_
      refine lv_bipush (v := 10) hx hb dX6_become_43 kbp_10 ?_
      obtain ⟨h_10, hv⟩ := hv
      refine lv_idiv hx hb dX6_become_45 h_10 ?_
      obtain ⟨h_11, hv⟩ := hv
      refine q_iast C hW hS 2 rfl h_11 dX6_become_46 (fun H locs hW hS => ?_)
      have hW : wo G A (wd_X6_2 G b images n_people n_taped n_waiting n_z (upd n_kind p1.toNatClampNeg (p2 / (10 : Int32))) n_em errs) H := hW
      refine lv_aload_n hx hb dX6_become_47 rfl (lv_at hl 1 rfl) ?_
      refine q_get C kc6 hW 0 rfl 0 (by decide) fl_X6_10 rfl rfl dX6_become_48 ?_
      refine q_getN C kc4 hW 1 rfl 2 (by decide) nf_X6_82 rfl rfl dX6_become_51 ?_
      refine lv_iload_n hx hb dX6_become_54 rfl (lv_at hl 2 rfl) ?_
      refine lv_iload_n hx hb dX6_become_55 rfl (lv_at hl 3 rfl) ?_
      refine lv_bipush (v := 10) hx hb dX6_become_56 kbp_10 ?_
      obtain ⟨h_12, hv⟩ := hv
      refine lv_irem hx hb dX6_become_58 h_12 ?_
      obtain ⟨h_13, hv⟩ := hv
      refine q_iast C hW hS 3 rfl h_13 dX6_become_59 (fun H locs hW hS => ?_)
      have hW : wo G A (wd_X6_2 G b images n_people n_taped n_waiting n_z (upd n_kind p1.toNatClampNeg (p2 / (10 : Int32))) (upd n_em p1.toNatClampNeg (p2 - p2 / (10 : Int32) * (10 : Int32))) errs) H := hW
      refine lv_iload_n hx hb dX6_become_60 rfl (lv_at hl 0 rfl) ?_
      exact ret ((upd n_kind p1.toNatClampNeg (p2 / (10 : Int32))), (upd n_em p1.toNatClampNeg (p2 - p2 / (10 : Int32) * (10 : Int32))), errs) (n_kind p1.toNatClampNeg) H locs ls _ rfl hW hS hv dX6_become_61
    · replace hv := hv.2 c_8
      exact h_j_X6_become_18 n_kind n_em errs H locs ls hW hS (lv_sub hl [0] rfl) hv
set_option maxHeartbeats 4000000 in
set_option maxRecDepth 100000 in
theorem c_X6_isUnder (l : Launch) (G : Gt) (p1 : Int32) (p2 : Int32) (K : Int32 → Prop) (hv : v_X6_isUnder p1 p2 K) : CI l G yX6_isUnder (.code yX6_isUnder cX6_isUnder 4 (some .boolean) :: wsG) (rmm 0 0) [.int p1, .int p2] [] (S := Unit) (fun _ => []) (fun r u => (r = 0 ∨ r = 1) ∧ K r) := by
  refine ci_intro (by decide) rfl (fun _ => rfl) (Nat.le_of_ble_eq_true rfl) ?_
  intro p e s m args below meth c A H ls Q C hW hS hl ret
  have hx := C.1.1
  have hb := C.1.2.1
  generalize hls : ([] : List Loc) = locs at hS ⊢
  have hl : lv_has ls 4 [(0, .int p1), (1, .int p2)] := hl
  have h_j_X6_isUnder_37 : ∀ (x2 : Int32) (H : Heap) (locs : List Loc) (ls : Array Slot), wo G A (wd_J1_0 G) H → va_S A s.heap H locs → lv_has ls 4 [(1, .int p2), (2, .int x2)] → j_X6_isUnder_37 p1 p2 K x2 → W p l e (rmm 0 0) s m args below meth c H locs 0 0 Q (F0 m 37 ls []) := by
    intro x2 H locs ls hW hS hl hv
    refine lv_iload_n hx hb dX6_isUnder_37 rfl (lv_at hl 1 rfl) ?_
    refine lv_iload_n hx hb dX6_isUnder_38 rfl (lv_at hl 0 rfl) ?_
    refine lv_icmp_ne (tgt := 46) hx hb dX6_isUnder_39 (by decide) (fun c_2 => ?_) (fun c_2 => ?_)
    · replace hv := hv.1 c_2
      refine lv_iconst (v := 0) hx hb dX6_isUnder_46 kic_0 ?_
      exact ret () (0 : Int32) H locs ls _ (bl_narrow (Or.inl rfl)) hW hS ⟨(Or.inl rfl), hv⟩ dX6_isUnder_47
    · replace hv := hv.2 c_2
      refine lv_iconst (v := 1) hx hb dX6_isUnder_42 kic_1 ?_
      refine lv_goto (tgt := 47) hx hb dX6_isUnder_43 (by decide) ?_
      exact ret () (1 : Int32) H locs ls _ (bl_narrow (Or.inr rfl)) hW hS ⟨(Or.inr rfl), hv⟩ dX6_isUnder_47
  have h_l_X6_isUnder_4 : ∀ (n : Nat), ∀ (x2 : Int32) (x3 : Int32) (H : Heap) (locs : List Loc) (ls : Array Slot), wo G A (wd_J1_0 G) H → va_S A s.heap H locs → lv_has ls 4 [(1, .int p2), (2, .int x2), (3, .int x3)] → l_X6_isUnder_4 p1 p2 K n x2 x3 → W p l e (rmm 0 0) s m args below meth c H locs 0 0 Q (F0 m 4 ls []) := by
    intro n
    induction n with
    | zero =>
      intro x2 x3 H locs ls hW hS hl hv
      exact False.elim hv
    | succ n ih =>
      intro x2 x3 H locs ls hW hS hl hv
      refine lv_iload_n hx hb dX6_isUnder_4 rfl (lv_at hl 2 rfl) ?_
      refine lv_bipush (v := 7) hx hb dX6_isUnder_5 kbp_7 ?_
      refine lv_icmp_ge (tgt := 37) hx hb dX6_isUnder_7 (by decide) (fun c_1 => ?_) (fun c_1 => ?_)
      · replace hv := hv.1 c_1
        exact h_j_X6_isUnder_37 x2 H locs ls hW hS (lv_sub hl [0, 1] rfl) hv
      · replace hv := hv.2 c_1
        refine lv_iload_n hx hb dX6_isUnder_10 rfl (lv_at hl 1 rfl) ?_
        refine lv_if_le (tgt := 37) hx hb dX6_isUnder_11 (by decide) (fun c_3 => ?_) (fun c_3 => ?_)
        · replace hv := hv.1 c_3
          exact h_j_X6_isUnder_37 x2 H locs ls hW hS (lv_sub hl [0, 1] rfl) hv
        · replace hv := hv.2 c_3
          refine lv_iload_n hx hb dX6_isUnder_14 rfl (lv_at hl 1 rfl) ?_
          refine lv_bipush (v := 7) hx hb dX6_isUnder_15 kbp_7 ?_
          refine lv_icmp_ge (tgt := 37) hx hb dX6_isUnder_17 (by decide) (fun c_4 => ?_) (fun c_4 => ?_)
          · replace hv := hv.1 c_4
            exact h_j_X6_isUnder_37 x2 H locs ls hW hS (lv_sub hl [0, 1] rfl) hv
          · replace hv := hv.2 c_4
            refine lv_iload_n hx hb dX6_isUnder_20 rfl (lv_at hl 1 rfl) ?_
            refine lv_iload_n hx hb dX6_isUnder_21 rfl (lv_at hl 0 rfl) ?_
            refine lv_icmp_eq (tgt := 37) hx hb dX6_isUnder_22 (by decide) (fun c_5 => ?_) (fun c_5 => ?_)
            · replace hv := hv.1 c_5
              exact h_j_X6_isUnder_37 x2 H locs ls hW hS (lv_sub hl [0, 1] rfl) hv
            · replace hv := hv.2 c_5
              obtain ⟨t_ABOVE, hz_ABOVE, ht_ABOVE⟩ := C.2.2.1.2.1.1
              refine va_gets hx hb hz_ABOVE hS C.1.2.2.2.1 (C.hts fl_X6_257) (fun _ h => h) dX6_isUnder_25 ?_
              refine lv_iload_n hx hb dX6_isUnder_28 rfl (lv_at hl 1 rfl) ?_
              obtain ⟨h_6, hv⟩ := hv
              refine va_ti hx hb ht_ABOVE hS h_6 rfl dX6_isUnder_29 ?_
              refine lv_istore_n (lv' := [(2, .int (f_above x2.toNatClampNeg)), (1, .int p2), (3, .int x3)]) hx hb dX6_isUnder_30 rfl hl (by decide) rfl (fun ls hl => ?_)
              refine lv_iinc (v := (x3 + 1)) (lv' := [(3, .int (x3 + 1)), (2, .int (f_above x2.toNatClampNeg)), (1, .int p2)]) hx hb dX6_isUnder_31 hl (k := 2) rfl rfl (by decide) rfl (fun ls hl => ?_)
              refine lv_goto (tgt := 4) hx hb dX6_isUnder_34 (by decide) ?_
              exact ih (f_above x2.toNatClampNeg) (x3 + 1) H locs ls hW hS (lv_sub hl [2, 1, 0] rfl) hv
  refine lv_iload_n hx hb dX6_isUnder_0 rfl (lv_at hl 0 rfl) ?_
  refine lv_istore_n (lv' := [(2, .int p1), (0, .int p1), (1, .int p2)]) hx hb dX6_isUnder_1 rfl hl (by decide) rfl (fun ls hl => ?_)
  refine lv_iconst (v := 0) hx hb dX6_isUnder_2 kic_0 ?_
  refine lv_istore_n (lv' := [(3, .int (0 : Int32)), (2, .int p1), (0, .int p1), (1, .int p2)]) hx hb dX6_isUnder_3 rfl hl (by decide) rfl (fun ls hl => ?_)
  obtain ⟨n_7, hv⟩ := hv
  exact h_l_X6_isUnder_4 n_7 p1 (0 : Int32) H locs ls hW hS (lv_sub hl [3, 1, 0] rfl) hv
set_option maxHeartbeats 4000000 in
set_option maxRecDepth 100000 in
theorem c_X6_as (l : Launch) (G : Gt) (b : Nat → Nat) (images : Int32) (n_people : Int32) (n_taped : Int32) (n_waiting : Int32) (n_z : Int32) (n_kind : Nat → Int32) (n_em : Nat → Int32) (errs : Nat → Int32) (p1 : Int32) (p2 : Int32) (K : Int32 → (Nat → Int32) → Prop) (hv : v_X6_as p1 p2 n_people n_kind n_em errs K) : CI l G yX6_as (.code yX6_as cX6_as 3 (some .int) :: wsG) (rmm 1 23) [.ref (b 0), .int p1, .int p2] (wd_X6_2 G b images n_people n_taped n_waiting n_z n_kind n_em errs) (S := (Nat → Int32)) (fun u => wd_X6_2 G b images n_people n_taped n_waiting n_z n_kind n_em u) (fun r u => K r u) := by
  refine ci_intro (by decide) rfl (fun _ => rfl) (Nat.le_of_ble_eq_true rfl) ?_
  intro p e s m args below meth c A H ls Q C hW hS hl ret
  have hx := C.1.1
  have hb := C.1.2.1
  generalize hls : ([] : List Loc) = locs at hS ⊢
  have hl : lv_has ls 3 [(0, .ref (b 0)), (1, .int p1), (2, .int p2)] := hl
  have h_j_X6_as_20 : ∀ (errs : Nat → Int32) (H : Heap) (locs : List Loc) (ls : Array Slot), wo G A (wd_X6_2 G b images n_people n_taped n_waiting n_z n_kind n_em errs) H → va_S A s.heap H locs → lv_has ls 3 [(0, .ref (b 0))] → j_X6_as_20 p1 p2 n_people n_kind n_em K errs → W p l e (rmm 1 23) s m args below meth c H locs 0 0 Q (F0 m 20 ls []) := by
    intro errs H locs ls hW hS hl hv
    refine lv_aload_n hx hb dX6_as_20 rfl (lv_at hl 0 rfl) ?_
    refine lv_iconst (v := 1) hx hb dX6_as_21 kic_1 ?_
    refine q_callV (rest := []) (n := 1) C (c_X6_error l G b images errs (1 : Int32) _ hv) ml_X6_64 kb_X6_error rfl ⟨⟨rfl, rfl⟩, (Nat.le_of_ble_eq_true rfl), (Nat.le_of_ble_eq_true rfl)⟩ hW hS [0, 4] rfl rfl kc6 (q0 := 0) rfl hl.1 rfl (Nat.le_of_ble_eq_true rfl) dX6_as_22 ⟨Nat.zero_le _, Nat.zero_le _⟩ (fun r_4 u_5 H locs hv hW hS => ?_)
    obtain ⟨errs_4, rfl⟩ : ∃ z, z = u_5 := ⟨_, rfl⟩
    try dsimp only at hv
    have hW : wo G A (wd_X6_2 G b images n_people n_taped n_waiting n_z n_kind n_em errs_4) H := hW
    exact ret (errs_4) r_4 H locs ls _ rfl hW hS hv dX6_as_25
  refine lv_aload_n hx hb dX6_as_0 rfl (lv_at hl 0 rfl) ?_
  refine q_get C kc6 hW 0 rfl 0 (by decide) fl_X6_10 rfl rfl dX6_as_1 ?_
  refine lv_iload_n hx hb dX6_as_4 rfl (lv_at hl 1 rfl) ?_
  refine q_callN (rest := []) (n := 1) C (c_X4_has l G (fun k => b (k + 1)) n_people n_taped n_waiting n_z p1 _ hv) nm_X6_76 kb_X4_has rfl ⟨⟨rfl, rfl⟩, (Nat.le_of_ble_eq_true rfl), (Nat.le_of_ble_eq_true rfl)⟩ hW hS [1] rfl rfl kc4 (q0 := 1) rfl hl.1 rfl (Nat.le_of_ble_eq_true rfl) dX6_as_5 ⟨Nat.zero_le _, Nat.zero_le _⟩ (fun r_1 u_2 H locs hv hW hS => ?_)
  obtain ⟨hv_b_1, hv⟩ := hv
  try dsimp only at hv
  refine lv_if_eq (tgt := 20) hx hb dX6_as_8 (by decide) (fun c_3 => ?_) (fun c_3 => ?_)
  · replace hv := hv.1 c_3
    exact h_j_X6_as_20 errs H locs ls hW hS (lv_sub hl [0] rfl) hv
  · replace hv := hv.2 c_3
    refine lv_iload_n hx hb dX6_as_11 rfl (lv_at hl 2 rfl) ?_
    refine lv_bipush (v := 6) hx hb dX6_as_12 kbp_6 ?_
    refine q_callS (rest := []) (n := 2) C (c_X6_isWithin l G p2 (6 : Int32) _ hv) ml_X6_97 kb_X6_isWithin rfl ⟨⟨rfl, rfl⟩, (Nat.le_of_ble_eq_true rfl), (Nat.le_of_ble_eq_true rfl)⟩ hW hS hl.1 rfl (Nat.le_of_ble_eq_true rfl) dX6_as_14 ⟨Nat.zero_le _, Nat.zero_le _⟩ (fun r_6 u_7 H locs hv hW hS => ?_)
    obtain ⟨hv_b_6, hv⟩ := hv
    try dsimp only at hv
    refine lv_if_ne (tgt := 26) hx hb dX6_as_17 (by decide) (fun c_8 => ?_) (fun c_8 => ?_)
    · replace hv := hv.1 c_8
      refine lv_aload_n hx hb dX6_as_26 rfl (lv_at hl 0 rfl) ?_
      refine q_get C kc6 hW 0 rfl 0 (by decide) fl_X6_10 rfl rfl dX6_as_27 ?_
      refine q_getN C kc4 hW 1 rfl 1 (by decide) nf_X6_79 rfl rfl dX6_as_30 ?_
      refine lv_iload_n hx hb dX6_as_33 rfl (lv_at hl 1 rfl) ?_
      obtain ⟨h_9, hv⟩ := hv
      refine q_iald C hW 2 rfl h_9 dX6_as_34 ?_
      refine lv_iload_n hx hb dX6_as_35 rfl (lv_at hl 2 rfl) ?_
      refine q_callS (rest := []) (n := 2) C (c_X6_isUnder l G (n_kind p1.toNatClampNeg) p2 _ hv) ml_X6_101 kb_X6_isUnder rfl ⟨⟨rfl, rfl⟩, (Nat.le_of_ble_eq_true rfl), (Nat.le_of_ble_eq_true rfl)⟩ hW hS hl.1 rfl (Nat.le_of_ble_eq_true rfl) dX6_as_36 ⟨Nat.zero_le _, Nat.zero_le _⟩ (fun r_10 u_11 H locs hv hW hS => ?_)
      obtain ⟨hv_b_10, hv⟩ := hv
      try dsimp only at hv
      refine lv_if_eq (tgt := 54) hx hb dX6_as_39 (by decide) (fun c_12 => ?_) (fun c_12 => ?_)
      · replace hv := hv.1 c_12
        refine lv_aload_n hx hb dX6_as_54 rfl (lv_at hl 0 rfl) ?_
        refine lv_iconst (v := 5) hx hb dX6_as_55 kic_5 ?_
        refine q_callV (rest := []) (n := 1) C (c_X6_error l G b images errs (5 : Int32) _ hv) ml_X6_64 kb_X6_error rfl ⟨⟨rfl, rfl⟩, (Nat.le_of_ble_eq_true rfl), (Nat.le_of_ble_eq_true rfl)⟩ hW hS [0, 4] rfl rfl kc6 (q0 := 0) rfl hl.1 rfl (Nat.le_of_ble_eq_true rfl) dX6_as_56 ⟨Nat.zero_le _, Nat.zero_le _⟩ (fun r_13 u_14 H locs hv hW hS => ?_)
        obtain ⟨errs_13, rfl⟩ : ∃ z, z = u_14 := ⟨_, rfl⟩
        try dsimp only at hv
        have hW : wo G A (wd_X6_2 G b images n_people n_taped n_waiting n_z n_kind n_em errs_13) H := hW
        exact ret (errs_13) r_13 H locs ls _ rfl hW hS hv dX6_as_59
      · replace hv := hv.2 c_12
        refine lv_aload_n hx hb dX6_as_42 rfl (lv_at hl 0 rfl) ?_
        refine q_get C kc6 hW 0 rfl 0 (by decide) fl_X6_10 rfl rfl dX6_as_43 ?_
        refine q_getN C kc4 hW 1 rfl 2 (by decide) nf_X6_82 rfl rfl dX6_as_46 ?_
        refine lv_iload_n hx hb dX6_as_49 rfl (lv_at hl 1 rfl) ?_
        obtain ⟨h_15, hv⟩ := hv
        refine q_iald C hW 3 rfl h_15 dX6_as_50 ?_
        refine lv_goto (tgt := 59) hx hb dX6_as_51 (by decide) ?_
        exact ret (errs) (n_em p1.toNatClampNeg) H locs ls _ rfl hW hS hv dX6_as_59
    · replace hv := hv.2 c_8
      exact h_j_X6_as_20 errs H locs ls hW hS (lv_sub hl [0] rfl) hv
set_option maxHeartbeats 4000000 in
set_option maxRecDepth 100000 in
theorem c_X6_shows (l : Launch) (G : Gt) (b : Nat → Nat) (images : Int32) (n_people : Int32) (n_taped : Int32) (n_waiting : Int32) (n_z : Int32) (n_day : Int32) (n_shows : Nat → Int32) (errs : Nat → Int32) (p1 : Int32) (p2 : Int32) (K : Int32 → (Nat → Int32) → (Nat → Int32) → Prop) (hv : v_X6_shows p1 p2 n_people n_shows errs K) : CI l G yX6_shows (.code yX6_shows cX6_shows 4 (some .int) :: wsG) (rmm 2 41) [.ref (b 0), .int p1, .int p2] (wd_X6_3 G b images n_people n_taped n_waiting n_z n_day n_shows errs) (S := (Nat → Int32) × (Nat → Int32)) (fun u => wd_X6_3 G b images n_people n_taped n_waiting n_z n_day u.1 u.2) (fun r u => K r u.1 u.2) := by
  refine ci_intro (by decide) rfl (fun _ => rfl) (Nat.le_of_ble_eq_true rfl) ?_
  intro p e s m args below meth c A H ls Q C hW hS hl ret
  have hx := C.1.1
  have hb := C.1.2.1
  generalize hls : ([] : List Loc) = locs at hS ⊢
  have hl : lv_has ls 4 [(0, .ref (b 0)), (1, .int p1), (2, .int p2)] := hl
  have h_j_X6_shows_18 : ∀ (n_shows : Nat → Int32) (errs : Nat → Int32) (H : Heap) (locs : List Loc) (ls : Array Slot), wo G A (wd_X6_3 G b images n_people n_taped n_waiting n_z n_day n_shows errs) H → va_S A s.heap H locs → lv_has ls 4 [(0, .ref (b 0))] → j_X6_shows_18 p1 p2 n_people K n_shows errs → W p l e (rmm 2 41) s m args below meth c H locs 0 0 Q (F0 m 18 ls []) := by
    intro n_shows errs H locs ls hW hS hl hv
    refine lv_aload_n hx hb dX6_shows_18 rfl (lv_at hl 0 rfl) ?_
    refine lv_iconst (v := 1) hx hb dX6_shows_19 kic_1 ?_
    refine q_callV (rest := []) (n := 1) C (c_X6_error l G b images errs (1 : Int32) _ hv) ml_X6_64 kb_X6_error rfl ⟨⟨rfl, rfl⟩, (Nat.le_of_ble_eq_true rfl), (Nat.le_of_ble_eq_true rfl)⟩ hW hS [0, 4] rfl rfl kc6 (q0 := 0) rfl hl.1 rfl (Nat.le_of_ble_eq_true rfl) dX6_shows_20 ⟨Nat.zero_le _, Nat.zero_le _⟩ (fun r_4 u_5 H locs hv hW hS => ?_)
    obtain ⟨errs_4, rfl⟩ : ∃ z, z = u_5 := ⟨_, rfl⟩
    try dsimp only at hv
    have hW : wo G A (wd_X6_3 G b images n_people n_taped n_waiting n_z n_day n_shows errs_4) H := hW
    exact ret (n_shows, errs_4) r_4 H locs ls _ rfl hW hS hv dX6_shows_23
  refine lv_aload_n hx hb dX6_shows_0 rfl (lv_at hl 0 rfl) ?_
  refine q_get C kc6 hW 0 rfl 0 (by decide) fl_X6_10 rfl rfl dX6_shows_1 ?_
  refine lv_iload_n hx hb dX6_shows_4 rfl (lv_at hl 1 rfl) ?_
  refine q_callN (rest := []) (n := 1) C (c_X4_has l G (fun k => b (k + 1)) n_people n_taped n_waiting n_z p1 _ hv) nm_X6_76 kb_X4_has rfl ⟨⟨rfl, rfl⟩, (Nat.le_of_ble_eq_true rfl), (Nat.le_of_ble_eq_true rfl)⟩ hW hS [1] rfl rfl kc4 (q0 := 1) rfl hl.1 rfl (Nat.le_of_ble_eq_true rfl) dX6_shows_5 ⟨Nat.zero_le _, Nat.zero_le _⟩ (fun r_1 u_2 H locs hv hW hS => ?_)
  obtain ⟨hv_b_1, hv⟩ := hv
  try dsimp only at hv
  refine lv_if_eq (tgt := 18) hx hb dX6_shows_8 (by decide) (fun c_3 => ?_) (fun c_3 => ?_)
  · replace hv := hv.1 c_3
    exact h_j_X6_shows_18 n_shows errs H locs ls hW hS (lv_sub hl [0] rfl) hv
  · replace hv := hv.2 c_3
    refine lv_iload_n hx hb dX6_shows_11 rfl (lv_at hl 2 rfl) ?_
    refine q_callS (rest := []) (n := 1) C (c_X6_isSign l G p2 _ hv) ml_X6_61 kb_X6_isSign rfl ⟨⟨rfl, rfl⟩, (Nat.le_of_ble_eq_true rfl), (Nat.le_of_ble_eq_true rfl)⟩ hW hS hl.1 rfl (Nat.le_of_ble_eq_true rfl) dX6_shows_12 ⟨Nat.zero_le _, Nat.zero_le _⟩ (fun r_6 u_7 H locs hv hW hS => ?_)
    obtain ⟨hv_b_6, hv⟩ := hv
    try dsimp only at hv
    refine lv_if_ne (tgt := 24) hx hb dX6_shows_15 (by decide) (fun c_8 => ?_) (fun c_8 => ?_)
    · replace hv := hv.1 c_8
      refine lv_aload_n hx hb dX6_shows_24 rfl (lv_at hl 0 rfl) ?_
      refine q_get C kc6 hW 0 rfl 0 (by decide) fl_X6_10 rfl rfl dX6_shows_25 ?_
      refine q_getN C kc4 hW 1 rfl 4 (by decide) nf_X6_85 rfl rfl dX6_shows_28 ?_
      refine q_getN C kc3 hW 2 rfl 1 (by decide) nf_X6_91 rfl rfl dX6_shows_31 ?_
      refine lv_iload_n hx hb dX6_shows_34 rfl (lv_at hl 1 rfl) ?_
      obtain ⟨h_9, hv⟩ := hv
      refine q_iald C hW 3 rfl h_9 dX6_shows_35 ?_
      refine lv_istore_n (lv' := [(3, .int (n_shows p1.toNatClampNeg)), (0, .ref (b 0)), (1, .int p1), (2, .int p2)]) hx hb dX6_shows_36 rfl hl (by decide) rfl (fun ls hl => ?_)
      refine lv_aload_n hx hb dX6_shows_37 rfl (lv_at hl 1 rfl) ?_
      refine q_get C kc6 hW 0 rfl 0 (by decide) fl_X6_10 rfl rfl dX6_shows_38 ?_
      refine q_getN C kc4 hW 1 rfl 4 (by decide) nf_X6_85 rfl rfl dX6_shows_41 ?_
      refine q_getN C kc3 hW 2 rfl 1 (by decide) nf_X6_91 rfl rfl dX6_shows_44 ?_
      refine lv_iload_n hx hb dX6_shows_47 rfl (lv_at hl 2 rfl) ?_
      refine lv_iload_n hx hb dX6_shows_48 rfl (lv_at hl 3 rfl) ?_
      obtain ⟨h_10, hv⟩ := hv
      refine q_iast C hW hS 3 rfl h_10 dX6_shows_49 (fun H locs hW hS => ?_)
      have hW : wo G A (wd_X6_3 G b images n_people n_taped n_waiting n_z n_day (upd n_shows p1.toNatClampNeg p2) errs) H := hW
      refine lv_iload_n hx hb dX6_shows_50 rfl (lv_at hl 0 rfl) ?_
      exact ret ((upd n_shows p1.toNatClampNeg p2), errs) (n_shows p1.toNatClampNeg) H locs ls _ rfl hW hS hv dX6_shows_51
    · replace hv := hv.2 c_8
      exact h_j_X6_shows_18 n_shows errs H locs ls hW hS (lv_sub hl [0] rfl) hv
set_option maxHeartbeats 4000000 in
set_option maxRecDepth 100000 in
theorem c_X6_seems (l : Launch) (G : Gt) (b : Nat → Nat) (images : Int32) (n_people : Int32) (n_taped : Int32) (n_waiting : Int32) (n_z : Int32) (n_day : Int32) (n_near : Nat → Int32) (errs : Nat → Int32) (p1 : Int32) (p2 : Int32) (K : Int32 → (Nat → Int32) → (Nat → Int32) → Prop) (hv : v_X6_seems p1 p2 n_people n_near errs K) : CI l G yX6_seems (.code yX6_seems cX6_seems 4 (some .int) :: wsG) (rmm 2 41) [.ref (b 0), .int p1, .int p2] (wd_X6_4 G b images n_people n_taped n_waiting n_z n_day n_near errs) (S := (Nat → Int32) × (Nat → Int32)) (fun u => wd_X6_4 G b images n_people n_taped n_waiting n_z n_day u.1 u.2) (fun r u => K r u.1 u.2) := by
  refine ci_intro (by decide) rfl (fun _ => rfl) (Nat.le_of_ble_eq_true rfl) ?_
  intro p e s m args below meth c A H ls Q C hW hS hl ret
  have hx := C.1.1
  have hb := C.1.2.1
  generalize hls : ([] : List Loc) = locs at hS ⊢
  have hl : lv_has ls 4 [(0, .ref (b 0)), (1, .int p1), (2, .int p2)] := hl
  have h_j_X6_seems_18 : ∀ (n_near : Nat → Int32) (errs : Nat → Int32) (H : Heap) (locs : List Loc) (ls : Array Slot), wo G A (wd_X6_4 G b images n_people n_taped n_waiting n_z n_day n_near errs) H → va_S A s.heap H locs → lv_has ls 4 [(0, .ref (b 0))] → j_X6_seems_18 p1 p2 n_people K n_near errs → W p l e (rmm 2 41) s m args below meth c H locs 0 0 Q (F0 m 18 ls []) := by
    intro n_near errs H locs ls hW hS hl hv
    refine lv_aload_n hx hb dX6_seems_18 rfl (lv_at hl 0 rfl) ?_
    refine lv_iconst (v := 1) hx hb dX6_seems_19 kic_1 ?_
    refine q_callV (rest := []) (n := 1) C (c_X6_error l G b images errs (1 : Int32) _ hv) ml_X6_64 kb_X6_error rfl ⟨⟨rfl, rfl⟩, (Nat.le_of_ble_eq_true rfl), (Nat.le_of_ble_eq_true rfl)⟩ hW hS [0, 4] rfl rfl kc6 (q0 := 0) rfl hl.1 rfl (Nat.le_of_ble_eq_true rfl) dX6_seems_20 ⟨Nat.zero_le _, Nat.zero_le _⟩ (fun r_4 u_5 H locs hv hW hS => ?_)
    obtain ⟨errs_4, rfl⟩ : ∃ z, z = u_5 := ⟨_, rfl⟩
    try dsimp only at hv
    have hW : wo G A (wd_X6_4 G b images n_people n_taped n_waiting n_z n_day n_near errs_4) H := hW
    exact ret (n_near, errs_4) r_4 H locs ls _ rfl hW hS hv dX6_seems_23
  refine lv_aload_n hx hb dX6_seems_0 rfl (lv_at hl 0 rfl) ?_
  refine q_get C kc6 hW 0 rfl 0 (by decide) fl_X6_10 rfl rfl dX6_seems_1 ?_
  refine lv_iload_n hx hb dX6_seems_4 rfl (lv_at hl 1 rfl) ?_
  refine q_callN (rest := []) (n := 1) C (c_X4_has l G (fun k => b (k + 1)) n_people n_taped n_waiting n_z p1 _ hv) nm_X6_76 kb_X4_has rfl ⟨⟨rfl, rfl⟩, (Nat.le_of_ble_eq_true rfl), (Nat.le_of_ble_eq_true rfl)⟩ hW hS [1] rfl rfl kc4 (q0 := 1) rfl hl.1 rfl (Nat.le_of_ble_eq_true rfl) dX6_seems_5 ⟨Nat.zero_le _, Nat.zero_le _⟩ (fun r_1 u_2 H locs hv hW hS => ?_)
  obtain ⟨hv_b_1, hv⟩ := hv
  try dsimp only at hv
  refine lv_if_eq (tgt := 18) hx hb dX6_seems_8 (by decide) (fun c_3 => ?_) (fun c_3 => ?_)
  · replace hv := hv.1 c_3
    exact h_j_X6_seems_18 n_near errs H locs ls hW hS (lv_sub hl [0] rfl) hv
  · replace hv := hv.2 c_3
    refine lv_iload_n hx hb dX6_seems_11 rfl (lv_at hl 2 rfl) ?_
    refine q_callS (rest := []) (n := 1) C (c_X6_isNear l G p2 _ hv) ml_X6_58 kb_X6_isNear rfl ⟨⟨rfl, rfl⟩, (Nat.le_of_ble_eq_true rfl), (Nat.le_of_ble_eq_true rfl)⟩ hW hS hl.1 rfl (Nat.le_of_ble_eq_true rfl) dX6_seems_12 ⟨Nat.zero_le _, Nat.zero_le _⟩ (fun r_6 u_7 H locs hv hW hS => ?_)
    obtain ⟨hv_b_6, hv⟩ := hv
    try dsimp only at hv
    refine lv_if_ne (tgt := 24) hx hb dX6_seems_15 (by decide) (fun c_8 => ?_) (fun c_8 => ?_)
    · replace hv := hv.1 c_8
      refine lv_aload_n hx hb dX6_seems_24 rfl (lv_at hl 0 rfl) ?_
      refine q_get C kc6 hW 0 rfl 0 (by decide) fl_X6_10 rfl rfl dX6_seems_25 ?_
      refine q_getN C kc4 hW 1 rfl 4 (by decide) nf_X6_85 rfl rfl dX6_seems_28 ?_
      refine q_getN C kc3 hW 2 rfl 0 (by decide) nf_X6_88 rfl rfl dX6_seems_31 ?_
      refine lv_iload_n hx hb dX6_seems_34 rfl (lv_at hl 1 rfl) ?_
      obtain ⟨h_9, hv⟩ := hv
      refine q_iald C hW 3 rfl h_9 dX6_seems_35 ?_
      refine lv_istore_n (lv' := [(3, .int (n_near p1.toNatClampNeg)), (0, .ref (b 0)), (1, .int p1), (2, .int p2)]) hx hb dX6_seems_36 rfl hl (by decide) rfl (fun ls hl => ?_)
      refine lv_aload_n hx hb dX6_seems_37 rfl (lv_at hl 1 rfl) ?_
      refine q_get C kc6 hW 0 rfl 0 (by decide) fl_X6_10 rfl rfl dX6_seems_38 ?_
      refine q_getN C kc4 hW 1 rfl 4 (by decide) nf_X6_85 rfl rfl dX6_seems_41 ?_
      refine q_getN C kc3 hW 2 rfl 0 (by decide) nf_X6_88 rfl rfl dX6_seems_44 ?_
      refine lv_iload_n hx hb dX6_seems_47 rfl (lv_at hl 2 rfl) ?_
      refine lv_iload_n hx hb dX6_seems_48 rfl (lv_at hl 3 rfl) ?_
      obtain ⟨h_10, hv⟩ := hv
      refine q_iast C hW hS 3 rfl h_10 dX6_seems_49 (fun H locs hW hS => ?_)
      have hW : wo G A (wd_X6_4 G b images n_people n_taped n_waiting n_z n_day (upd n_near p1.toNatClampNeg p2) errs) H := hW
      refine lv_iload_n hx hb dX6_seems_50 rfl (lv_at hl 0 rfl) ?_
      exact ret ((upd n_near p1.toNatClampNeg p2), errs) (n_near p1.toNatClampNeg) H locs ls _ rfl hW hS hv dX6_seems_51
    · replace hv := hv.2 c_8
      exact h_j_X6_seems_18 n_near errs H locs ls hW hS (lv_sub hl [0] rfl) hv
set_option maxHeartbeats 4000000 in
set_option maxRecDepth 100000 in
theorem c_X6_taken (l : Launch) (G : Gt) (b : Nat → Nat) (images : Int32) (n_people : Int32) (n_taped : Int32) (n_waiting : Int32) (n_z : Int32) (n_kind : Nat → Int32) (n_em : Nat → Int32) (n_day : Int32) (n_near : Nat → Int32) (n_shows : Nat → Int32) (n_tmost : Int32) (n_tsize : Int32) (n_tsteps : Nat → Int32) (n_tstack : Nat → Int32) (errs : Nat → Int32) (p1 : Int32) (p2 : Int32) (K : Int32 → (Nat → Int32) → (Nat → Int32) → Prop) (hv : v_X6_taken p1 p2 n_people n_kind n_em n_day n_near n_shows n_tmost n_tsize n_tsteps n_tstack errs K) : CI l G yX6_taken (.code yX6_taken cX6_taken 4 (some .int) :: wsG) (rmm 3 73) [.ref (b 0), .int p1, .int p2] (wd_X6_5 G b images n_people n_taped n_waiting n_z n_kind n_em n_day n_near n_shows n_tmost n_tsize n_tsteps n_tstack errs) (S := (Nat → Int32) × (Nat → Int32)) (fun u => wd_X6_5 G b images n_people n_taped n_waiting n_z n_kind n_em n_day n_near n_shows n_tmost n_tsize n_tsteps u.1 u.2) (fun r u => K r u.1 u.2) := by
  refine ci_intro (by decide) rfl (fun _ => rfl) (Nat.le_of_ble_eq_true rfl) ?_
  intro p e s m args below meth c A H ls Q C hW hS hl ret
  have hx := C.1.1
  have hb := C.1.2.1
  generalize hls : ([] : List Loc) = locs at hS ⊢
  have hl : lv_has ls 4 [(0, .ref (b 0)), (1, .int p1), (2, .int p2)] := hl
  have h_j_X6_taken_27 : ∀ (n_tstack : Nat → Int32) (errs : Nat → Int32) (H : Heap) (locs : List Loc) (ls : Array Slot), wo G A (wd_X6_5 G b images n_people n_taped n_waiting n_z n_kind n_em n_day n_near n_shows n_tmost n_tsize n_tsteps n_tstack errs) H → va_S A s.heap H locs → lv_has ls 4 [(0, .ref (b 0))] → j_X6_taken_27 p1 p2 n_people n_kind n_em n_day n_near n_shows n_tmost n_tsize n_tsteps K n_tstack errs → W p l e (rmm 3 73) s m args below meth c H locs 0 0 Q (F0 m 27 ls []) := by
    intro n_tstack errs H locs ls hW hS hl hv
    refine lv_aload_n hx hb dX6_taken_27 rfl (lv_at hl 0 rfl) ?_
    refine lv_iconst (v := 1) hx hb dX6_taken_28 kic_1 ?_
    refine q_callV (rest := []) (n := 1) C (c_X6_error l G b images errs (1 : Int32) _ hv) ml_X6_64 kb_X6_error rfl ⟨⟨rfl, rfl⟩, (Nat.le_of_ble_eq_true rfl), (Nat.le_of_ble_eq_true rfl)⟩ hW hS [0, 10] rfl rfl kc6 (q0 := 0) rfl hl.1 rfl (Nat.le_of_ble_eq_true rfl) dX6_taken_29 ⟨Nat.zero_le _, Nat.zero_le _⟩ (fun r_4 u_5 H locs hv hW hS => ?_)
    obtain ⟨errs_4, rfl⟩ : ∃ z, z = u_5 := ⟨_, rfl⟩
    try dsimp only at hv
    have hW : wo G A (wd_X6_5 G b images n_people n_taped n_waiting n_z n_kind n_em n_day n_near n_shows n_tmost n_tsize n_tsteps n_tstack errs_4) H := hW
    exact ret (n_tstack, errs_4) r_4 H locs ls _ rfl hW hS hv dX6_taken_32
  refine lv_aload_n hx hb dX6_taken_0 rfl (lv_at hl 0 rfl) ?_
  refine q_get C kc6 hW 0 rfl 0 (by decide) fl_X6_10 rfl rfl dX6_taken_1 ?_
  refine lv_iload_n hx hb dX6_taken_4 rfl (lv_at hl 1 rfl) ?_
  refine q_callN (rest := []) (n := 1) C (c_X4_has l G (fun k => b (k + 1)) n_people n_taped n_waiting n_z p1 _ hv) nm_X6_76 kb_X4_has rfl ⟨⟨rfl, rfl⟩, (Nat.le_of_ble_eq_true rfl), (Nat.le_of_ble_eq_true rfl)⟩ hW hS [1] rfl rfl kc4 (q0 := 1) rfl hl.1 rfl (Nat.le_of_ble_eq_true rfl) dX6_taken_5 ⟨Nat.zero_le _, Nat.zero_le _⟩ (fun r_1 u_2 H locs hv hW hS => ?_)
  obtain ⟨hv_b_1, hv⟩ := hv
  try dsimp only at hv
  refine lv_if_eq (tgt := 27) hx hb dX6_taken_8 (by decide) (fun c_3 => ?_) (fun c_3 => ?_)
  · replace hv := hv.1 c_3
    exact h_j_X6_taken_27 n_tstack errs H locs ls hW hS (lv_sub hl [0] rfl) hv
  · replace hv := hv.2 c_3
    refine lv_aload_n hx hb dX6_taken_11 rfl (lv_at hl 0 rfl) ?_
    refine q_get C kc6 hW 0 rfl 0 (by decide) fl_X6_10 rfl rfl dX6_taken_12 ?_
    refine lv_iload_n hx hb dX6_taken_15 rfl (lv_at hl 2 rfl) ?_
    refine q_callN (rest := []) (n := 1) C (c_X4_has l G (fun k => b (k + 1)) n_people n_taped n_waiting n_z p2 _ hv) nm_X6_76 kb_X4_has rfl ⟨⟨rfl, rfl⟩, (Nat.le_of_ble_eq_true rfl), (Nat.le_of_ble_eq_true rfl)⟩ hW hS [1] rfl rfl kc4 (q0 := 1) rfl hl.1 rfl (Nat.le_of_ble_eq_true rfl) dX6_taken_16 ⟨Nat.zero_le _, Nat.zero_le _⟩ (fun r_6 u_7 H locs hv hW hS => ?_)
    obtain ⟨hv_b_6, hv⟩ := hv
    try dsimp only at hv
    refine lv_if_eq (tgt := 27) hx hb dX6_taken_19 (by decide) (fun c_8 => ?_) (fun c_8 => ?_)
    · replace hv := hv.1 c_8
      exact h_j_X6_taken_27 n_tstack errs H locs ls hW hS (lv_sub hl [0] rfl) hv
    · replace hv := hv.2 c_8
      refine lv_iload_n hx hb dX6_taken_22 rfl (lv_at hl 1 rfl) ?_
      refine lv_iload_n hx hb dX6_taken_23 rfl (lv_at hl 2 rfl) ?_
      refine lv_icmp_ne (tgt := 33) hx hb dX6_taken_24 (by decide) (fun c_9 => ?_) (fun c_9 => ?_)
      · replace hv := hv.1 c_9
        refine lv_aload_n hx hb dX6_taken_33 rfl (lv_at hl 0 rfl) ?_
        refine q_get C kc6 hW 0 rfl 0 (by decide) fl_X6_10 rfl rfl dX6_taken_34 ?_
        refine q_getN C kc4 hW 1 rfl 4 (by decide) nf_X6_85 rfl rfl dX6_taken_37 ?_
        refine lv_astore_n (lv' := [(3, .ref (b 5)), (0, .ref (b 0)), (1, .int p1), (2, .int p2)]) hx hb dX6_taken_40 rfl hl (by decide) rfl (fun ls hl => ?_)
        refine lv_aload_n hx hb dX6_taken_41 rfl (lv_at hl 1 rfl) ?_
        refine q_get C kc6 hW 0 rfl 0 (by decide) fl_X6_10 rfl rfl dX6_taken_42 ?_
        refine lv_iload_n hx hb dX6_taken_45 rfl (lv_at hl 2 rfl) ?_
        refine lv_aload_n hx hb dX6_taken_46 rfl (lv_at hl 0 rfl) ?_
        refine q_getN C kc3 hW 4 rfl 0 (by decide) nf_X6_88 rfl rfl dX6_taken_47 ?_
        refine lv_iload_n hx hb dX6_taken_50 rfl (lv_at hl 3 rfl) ?_
        obtain ⟨h_10, hv⟩ := hv
        refine q_iald C hW 5 rfl h_10 dX6_taken_51 ?_
        refine lv_aload_n hx hb dX6_taken_52 rfl (lv_at hl 0 rfl) ?_
        refine q_getN C kc3 hW 4 rfl 1 (by decide) nf_X6_91 rfl rfl dX6_taken_53 ?_
        refine lv_iload_n hx hb dX6_taken_56 rfl (lv_at hl 3 rfl) ?_
        obtain ⟨h_11, hv⟩ := hv
        refine q_iald C hW 6 rfl h_11 dX6_taken_57 ?_
        refine lv_aload_n hx hb dX6_taken_58 rfl (lv_at hl 0 rfl) ?_
        refine q_getN C kc3 hW 4 rfl 2 (by decide) nf_X6_104 rfl rfl dX6_taken_59 ?_
        refine q_callN (rest := []) (n := 4) C (c_X4_takenBy l G (fun k => b (k + 1)) n_people n_taped n_waiting n_z n_kind n_em n_tmost n_tsize n_tsteps n_tstack p1 (n_near p2.toNatClampNeg) (n_shows p2.toNatClampNeg) n_day _ hv) nm_X6_107 kb_X4_takenBy rfl ⟨⟨rfl, rfl⟩, (Nat.le_of_ble_eq_true rfl), (Nat.le_of_ble_eq_true rfl)⟩ hW hS [1, 2, 3, 7, 8, 9] rfl rfl kc4 (q0 := 1) rfl hl.1 rfl (Nat.le_of_ble_eq_true rfl) dX6_taken_62 ⟨Nat.zero_le _, Nat.zero_le _⟩ (fun r_12 u_13 H locs hv hW hS => ?_)
        obtain ⟨n_tstack_12, rfl⟩ : ∃ z, z = u_13 := ⟨_, rfl⟩
        try dsimp only at hv
        have hW : wo G A (wd_X6_5 G b images n_people n_taped n_waiting n_z n_kind n_em n_day n_near n_shows n_tmost n_tsize n_tsteps n_tstack_12 errs) H := hW
        exact ret (n_tstack_12, errs) r_12 H locs ls _ rfl hW hS hv dX6_taken_65
      · replace hv := hv.2 c_9
        exact h_j_X6_taken_27 n_tstack errs H locs ls hW hS (lv_sub hl [0] rfl) hv
set_option maxHeartbeats 4000000 in
set_option maxRecDepth 100000 in
theorem c_X6_call (l : Launch) (G : Gt) (b : Nat → Nat) (images : Int32) (n_people : Int32) (n_taped : Int32) (n_waiting : Int32) (n_z : Int32) (n_called : Nat → Int32) (n_day : Int32) (n_near : Nat → Int32) (errs : Nat → Int32) (p1 : Int32) (p2 : Int32) (K : Int32 → (Nat → Int32) → (Nat → Int32) → (Nat → Int32) → Prop) (hv : v_X6_call p1 p2 n_people n_called n_near errs K) : CI l G yX6_call (.code yX6_call cX6_call 3 (some .int) :: wsG) (rmm 2 44) [.ref (b 0), .int p1, .int p2] (wd_X6_6 G b images n_people n_taped n_waiting n_z n_called n_day n_near errs) (S := (Nat → Int32) × (Nat → Int32) × (Nat → Int32)) (fun u => wd_X6_6 G b images n_people n_taped n_waiting n_z u.1 n_day u.2.1 u.2.2) (fun r u => K r u.1 u.2.1 u.2.2) := by
  refine ci_intro (by decide) rfl (fun _ => rfl) (Nat.le_of_ble_eq_true rfl) ?_
  intro p e s m args below meth c A H ls Q C hW hS hl ret
  have hx := C.1.1
  have hb := C.1.2.1
  generalize hls : ([] : List Loc) = locs at hS ⊢
  have hl : lv_has ls 3 [(0, .ref (b 0)), (1, .int p1), (2, .int p2)] := hl
  have h_j_X6_call_27 : ∀ (n_called : Nat → Int32) (n_near : Nat → Int32) (errs : Nat → Int32) (H : Heap) (locs : List Loc) (ls : Array Slot), wo G A (wd_X6_6 G b images n_people n_taped n_waiting n_z n_called n_day n_near errs) H → va_S A s.heap H locs → lv_has ls 3 [(0, .ref (b 0))] → j_X6_call_27 p1 p2 n_people K n_called n_near errs → W p l e (rmm 2 44) s m args below meth c H locs 0 0 Q (F0 m 27 ls []) := by
    intro n_called n_near errs H locs ls hW hS hl hv
    refine lv_aload_n hx hb dX6_call_27 rfl (lv_at hl 0 rfl) ?_
    refine lv_iconst (v := 1) hx hb dX6_call_28 kic_1 ?_
    refine q_callV (rest := []) (n := 1) C (c_X6_error l G b images errs (1 : Int32) _ hv) ml_X6_64 kb_X6_error rfl ⟨⟨rfl, rfl⟩, (Nat.le_of_ble_eq_true rfl), (Nat.le_of_ble_eq_true rfl)⟩ hW hS [0, 5] rfl rfl kc6 (q0 := 0) rfl hl.1 rfl (Nat.le_of_ble_eq_true rfl) dX6_call_29 ⟨Nat.zero_le _, Nat.zero_le _⟩ (fun r_4 u_5 H locs hv hW hS => ?_)
    obtain ⟨errs_4, rfl⟩ : ∃ z, z = u_5 := ⟨_, rfl⟩
    try dsimp only at hv
    have hW : wo G A (wd_X6_6 G b images n_people n_taped n_waiting n_z n_called n_day n_near errs_4) H := hW
    exact ret (n_called, n_near, errs_4) r_4 H locs ls _ rfl hW hS hv dX6_call_32
  refine lv_aload_n hx hb dX6_call_0 rfl (lv_at hl 0 rfl) ?_
  refine q_get C kc6 hW 0 rfl 0 (by decide) fl_X6_10 rfl rfl dX6_call_1 ?_
  refine lv_iload_n hx hb dX6_call_4 rfl (lv_at hl 1 rfl) ?_
  refine q_callN (rest := []) (n := 1) C (c_X4_has l G (fun k => b (k + 1)) n_people n_taped n_waiting n_z p1 _ hv) nm_X6_76 kb_X4_has rfl ⟨⟨rfl, rfl⟩, (Nat.le_of_ble_eq_true rfl), (Nat.le_of_ble_eq_true rfl)⟩ hW hS [1] rfl rfl kc4 (q0 := 1) rfl hl.1 rfl (Nat.le_of_ble_eq_true rfl) dX6_call_5 ⟨Nat.zero_le _, Nat.zero_le _⟩ (fun r_1 u_2 H locs hv hW hS => ?_)
  obtain ⟨hv_b_1, hv⟩ := hv
  try dsimp only at hv
  refine lv_if_eq (tgt := 27) hx hb dX6_call_8 (by decide) (fun c_3 => ?_) (fun c_3 => ?_)
  · replace hv := hv.1 c_3
    exact h_j_X6_call_27 n_called n_near errs H locs ls hW hS (lv_sub hl [0] rfl) hv
  · replace hv := hv.2 c_3
    refine lv_aload_n hx hb dX6_call_11 rfl (lv_at hl 0 rfl) ?_
    refine q_get C kc6 hW 0 rfl 0 (by decide) fl_X6_10 rfl rfl dX6_call_12 ?_
    refine lv_iload_n hx hb dX6_call_15 rfl (lv_at hl 2 rfl) ?_
    refine q_callN (rest := []) (n := 1) C (c_X4_has l G (fun k => b (k + 1)) n_people n_taped n_waiting n_z p2 _ hv) nm_X6_76 kb_X4_has rfl ⟨⟨rfl, rfl⟩, (Nat.le_of_ble_eq_true rfl), (Nat.le_of_ble_eq_true rfl)⟩ hW hS [1] rfl rfl kc4 (q0 := 1) rfl hl.1 rfl (Nat.le_of_ble_eq_true rfl) dX6_call_16 ⟨Nat.zero_le _, Nat.zero_le _⟩ (fun r_6 u_7 H locs hv hW hS => ?_)
    obtain ⟨hv_b_6, hv⟩ := hv
    try dsimp only at hv
    refine lv_if_eq (tgt := 27) hx hb dX6_call_19 (by decide) (fun c_8 => ?_) (fun c_8 => ?_)
    · replace hv := hv.1 c_8
      exact h_j_X6_call_27 n_called n_near errs H locs ls hW hS (lv_sub hl [0] rfl) hv
    · replace hv := hv.2 c_8
      refine lv_iload_n hx hb dX6_call_22 rfl (lv_at hl 1 rfl) ?_
      refine lv_iload_n hx hb dX6_call_23 rfl (lv_at hl 2 rfl) ?_
      refine lv_icmp_ne (tgt := 33) hx hb dX6_call_24 (by decide) (fun c_9 => ?_) (fun c_9 => ?_)
      · replace hv := hv.1 c_9
        refine lv_aload_n hx hb dX6_call_33 rfl (lv_at hl 0 rfl) ?_
        refine q_get C kc6 hW 0 rfl 0 (by decide) fl_X6_10 rfl rfl dX6_call_34 ?_
        refine lv_iload_n hx hb dX6_call_37 rfl (lv_at hl 1 rfl) ?_
        refine lv_iload_n hx hb dX6_call_38 rfl (lv_at hl 2 rfl) ?_
        refine q_callN (rest := []) (n := 2) C (c_X4_meet l G (fun k => b (k + 1)) n_people n_taped n_waiting n_z n_called n_day n_near p1 p2 _ hv) nm_X6_111 kb_X4_meet rfl ⟨⟨rfl, rfl⟩, (Nat.le_of_ble_eq_true rfl), (Nat.le_of_ble_eq_true rfl)⟩ hW hS [1, 2, 3, 4] rfl rfl kc4 (q0 := 1) rfl hl.1 rfl (Nat.le_of_ble_eq_true rfl) dX6_call_39 ⟨Nat.zero_le _, Nat.zero_le _⟩ (fun r_10 u_11 H locs hv hW hS => ?_)
        obtain ⟨n_called_10, n_near_10⟩ := u_11
        try dsimp only at hv
        have hW : wo G A (wd_X6_6 G b images n_people n_taped n_waiting n_z n_called_10 n_day n_near_10 errs) H := hW
        exact ret (n_called_10, n_near_10, errs) r_10 H locs ls _ rfl hW hS hv dX6_call_42
      · replace hv := hv.2 c_9
        exact h_j_X6_call_27 n_called n_near errs H locs ls hW hS (lv_sub hl [0] rfl) hv
set_option maxHeartbeats 4000000 in
set_option maxRecDepth 100000 in
theorem c_X6_feed (l : Launch) (G : Gt) (b : Nat → Nat) (images : Int32) (n_people : Int32) (n_taped : Int32) (n_waiting : Int32) (n_z : Int32) (n_tape : Nat → Int32) (errs : Nat → Int32) (p1 : Int64) (p2 : Int32) (K : Int32 → Int32 → (Nat → Int32) → (Nat → Int32) → Prop) (hv : v_X6_feed p1 p2 n_taped n_tape errs K) : CI l G yX6_feed (.code yX6_feed cX6_feed 4 (some .int) :: wsG) (rmm 1 24) [.ref (b 0), .long p1, .int p2] (wd_X6_7 G b images n_people n_taped n_waiting n_z n_tape errs) (S := Int32 × (Nat → Int32) × (Nat → Int32)) (fun u => wd_X6_7 G b images n_people u.1 n_waiting n_z u.2.1 u.2.2) (fun r u => K r u.1 u.2.1 u.2.2) := by
  refine ci_intro (by decide) rfl (fun _ => rfl) (Nat.le_of_ble_eq_true rfl) ?_
  intro p e s m args below meth c A H ls Q C hW hS hl ret
  have hx := C.1.1
  have hb := C.1.2.1
  generalize hls : ([] : List Loc) = locs at hS ⊢
  have hl : lv_has ls 4 [(0, .ref (b 0)), (1, .long p1), (3, .int p2)] := hl
  have h_j_X6_feed_11 : ∀ (n_taped : Int32) (n_tape : Nat → Int32) (errs : Nat → Int32) (H : Heap) (locs : List Loc) (ls : Array Slot), wo G A (wd_X6_7 G b images n_people n_taped n_waiting n_z n_tape errs) H → va_S A s.heap H locs → lv_has ls 4 [(0, .ref (b 0))] → j_X6_feed_11 p1 p2 K n_taped n_tape errs → W p l e (rmm 1 24) s m args below meth c H locs 0 0 Q (F0 m 11 ls []) := by
    intro n_taped n_tape errs H locs ls hW hS hl hv
    refine lv_aload_n hx hb dX6_feed_11 rfl (lv_at hl 0 rfl) ?_
    refine lv_iconst (v := 1) hx hb dX6_feed_12 kic_1 ?_
    refine q_callV (rest := []) (n := 1) C (c_X6_error l G b images errs (1 : Int32) _ hv) ml_X6_64 kb_X6_error rfl ⟨⟨rfl, rfl⟩, (Nat.le_of_ble_eq_true rfl), (Nat.le_of_ble_eq_true rfl)⟩ hW hS [0, 3] rfl rfl kc6 (q0 := 0) rfl hl.1 rfl (Nat.le_of_ble_eq_true rfl) dX6_feed_13 ⟨Nat.zero_le _, Nat.zero_le _⟩ (fun r_2 u_3 H locs hv hW hS => ?_)
    obtain ⟨errs_2, rfl⟩ : ∃ z, z = u_3 := ⟨_, rfl⟩
    try dsimp only at hv
    have hW : wo G A (wd_X6_7 G b images n_people n_taped n_waiting n_z n_tape errs_2) H := hW
    exact ret (n_taped, n_tape, errs_2) r_2 H locs ls _ rfl hW hS hv dX6_feed_16
  refine lv_iload_n hx hb dX6_feed_0 rfl (lv_at hl 2 rfl) ?_
  refine lv_iconst (v := 1) hx hb dX6_feed_1 kic_1 ?_
  refine lv_icmp_lt (tgt := 11) hx hb dX6_feed_2 (by decide) (fun c_1 => ?_) (fun c_1 => ?_)
  · replace hv := hv.1 c_1
    exact h_j_X6_feed_11 n_taped n_tape errs H locs ls hW hS (lv_sub hl [0] rfl) hv
  · replace hv := hv.2 c_1
    refine lv_iload_n hx hb dX6_feed_5 rfl (lv_at hl 2 rfl) ?_
    refine lv_bipush (v := 8) hx hb dX6_feed_6 kbp_8 ?_
    refine lv_icmp_le (tgt := 17) hx hb dX6_feed_8 (by decide) (fun c_4 => ?_) (fun c_4 => ?_)
    · replace hv := hv.1 c_4
      refine lv_iload_n hx hb dX6_feed_17 rfl (lv_at hl 2 rfl) ?_
      refine lv_bipush (v := 60) hx hb dX6_feed_18 kbp_60 ?_
      refine lv_aload_n hx hb dX6_feed_20 rfl (lv_at hl 0 rfl) ?_
      refine q_get C kc6 hW 0 rfl 0 (by decide) fl_X6_10 rfl rfl dX6_feed_21 ?_
      refine q_getN C kc4 hW 1 rfl 8 (by decide) nf_X6_115 rfl rfl dX6_feed_24 ?_
      refine lv_isub hx hb dX6_feed_27 ?_
      refine lv_icmp_le (tgt := 37) hx hb dX6_feed_28 (by decide) (fun c_5 => ?_) (fun c_5 => ?_)
      · replace hv := hv.1 c_5
        refine lv_aload_n hx hb dX6_feed_37 rfl (lv_at hl 0 rfl) ?_
        refine q_get C kc6 hW 0 rfl 0 (by decide) fl_X6_10 rfl rfl dX6_feed_38 ?_
        refine lv_lload_n hx hb dX6_feed_41 rfl (lv_at hl 1 rfl) ?_
        refine lv_iload_n hx hb dX6_feed_42 rfl (lv_at hl 2 rfl) ?_
        refine q_callN (rest := []) (n := 2) C (c_X4_record l G (fun k => b (k + 1)) n_people n_taped n_waiting n_z n_tape p1 p2 _ hv) nm_X6_118 kb_X4_record rfl ⟨⟨rfl, rfl⟩, (Nat.le_of_ble_eq_true rfl), (Nat.le_of_ble_eq_true rfl)⟩ hW hS [1, 2] rfl rfl kc4 (q0 := 1) rfl hl.1 rfl (Nat.le_of_ble_eq_true rfl) dX6_feed_43 ⟨Nat.zero_le _, Nat.zero_le _⟩ (fun r_6 u_7 H locs hv hW hS => ?_)
        obtain ⟨n_taped_6, n_tape_6⟩ := u_7
        try dsimp only at hv
        have hW : wo G A (wd_X6_7 G b images n_people n_taped_6 n_waiting n_z n_tape_6 errs) H := hW
        exact ret (n_taped_6, n_tape_6, errs) r_6 H locs ls _ rfl hW hS hv dX6_feed_46
      · replace hv := hv.2 c_5
        refine lv_aload_n hx hb dX6_feed_31 rfl (lv_at hl 0 rfl) ?_
        refine lv_iconst (v := 4) hx hb dX6_feed_32 kic_4 ?_
        refine q_callV (rest := []) (n := 1) C (c_X6_error l G b images errs (4 : Int32) _ hv) ml_X6_64 kb_X6_error rfl ⟨⟨rfl, rfl⟩, (Nat.le_of_ble_eq_true rfl), (Nat.le_of_ble_eq_true rfl)⟩ hW hS [0, 3] rfl rfl kc6 (q0 := 0) rfl hl.1 rfl (Nat.le_of_ble_eq_true rfl) dX6_feed_33 ⟨Nat.zero_le _, Nat.zero_le _⟩ (fun r_8 u_9 H locs hv hW hS => ?_)
        obtain ⟨errs_8, rfl⟩ : ∃ z, z = u_9 := ⟨_, rfl⟩
        try dsimp only at hv
        have hW : wo G A (wd_X6_7 G b images n_people n_taped n_waiting n_z n_tape errs_8) H := hW
        exact ret (n_taped, n_tape, errs_8) r_8 H locs ls _ rfl hW hS hv dX6_feed_36
    · replace hv := hv.2 c_4
      exact h_j_X6_feed_11 n_taped n_tape errs H locs ls hW hS (lv_sub hl [0] rfl) hv
set_option maxHeartbeats 4000000 in
set_option maxRecDepth 100000 in
theorem c_X6_isUse (l : Launch) (G : Gt) (p1 : Int32) (K : Int32 → Prop) (hv : v_X6_isUse p1 K) : CI l G yX6_isUse (.code yX6_isUse cX6_isUse 1 (some .boolean) :: wsG) (rmm 0 0) [.int p1] [] (S := Unit) (fun _ => []) (fun r u => (r = 0 ∨ r = 1) ∧ K r) := by
  refine ci_intro (by decide) rfl (fun _ => rfl) (Nat.le_of_ble_eq_true rfl) ?_
  intro p e s m args below meth c A H ls Q C hW hS hl ret
  have hx := C.1.1
  have hb := C.1.2.1
  generalize hls : ([] : List Loc) = locs at hS ⊢
  have hl : lv_has ls 1 [(0, .int p1)] := hl
  refine lv_iload_n hx hb dX6_isUse_0 rfl (lv_at hl 0 rfl) ?_
  refine lv_if_eq (tgt := 9) hx hb dX6_isUse_1 (by decide) (fun c_1 => ?_) (fun c_1 => ?_)
  · replace hv := hv.1 c_1
    refine lv_iconst (v := 1) hx hb dX6_isUse_9 kic_1 ?_
    refine lv_goto (tgt := 14) hx hb dX6_isUse_10 (by decide) ?_
    exact ret () (1 : Int32) H locs ls _ (bl_narrow (Or.inr rfl)) hW hS ⟨(Or.inr rfl), hv⟩ dX6_isUse_14
  · replace hv := hv.2 c_1
    refine lv_iload_n hx hb dX6_isUse_4 rfl (lv_at hl 0 rfl) ?_
    refine lv_iconst (v := 1) hx hb dX6_isUse_5 kic_1 ?_
    refine lv_icmp_ne (tgt := 13) hx hb dX6_isUse_6 (by decide) (fun c_2 => ?_) (fun c_2 => ?_)
    · replace hv := hv.1 c_2
      refine lv_iconst (v := 0) hx hb dX6_isUse_13 kic_0 ?_
      exact ret () (0 : Int32) H locs ls _ (bl_narrow (Or.inl rfl)) hW hS ⟨(Or.inl rfl), hv⟩ dX6_isUse_14
    · replace hv := hv.2 c_2
      refine lv_iconst (v := 1) hx hb dX6_isUse_9 kic_1 ?_
      refine lv_goto (tgt := 14) hx hb dX6_isUse_10 (by decide) ?_
      exact ret () (1 : Int32) H locs ls _ (bl_narrow (Or.inr rfl)) hW hS ⟨(Or.inr rfl), hv⟩ dX6_isUse_14
set_option maxHeartbeats 4000000 in
set_option maxRecDepth 100000 in
theorem c_X6_text (l : Launch) (G : Gt) (b : Nat → Nat) (images : Int32) (n_people : Int32) (n_taped : Int32) (n_waiting : Int32) (n_z : Int32) (n_tmost : Int32) (n_tsize : Int32) (n_tsteps : Nat → Int32) (n_gmost : Int32) (n_gsize : Int32) (n_gsteps : Nat → Int32) (n_tape : Nat → Int32) (r_length : Int32) (r_place : Int32) (r_names : Nat) (r_rsize : Int32) (r_bytes : Nat → Int32) (r_rsteps : Nat → Int32) (errs : Nat → Int32) (p1 : Int32) (K : Int32 → Int32 → Int32 → (Nat → Int32) → Int32 → (Nat → Int32) → Int32 → Int32 → Nat → Int32 → (Nat → Int32) → (Nat → Int32) → (Nat → Int32) → Prop) (hv : v_X6_text p1 n_taped n_tsize n_tsteps n_gsize n_gsteps n_tape r_length r_place r_names r_rsize r_bytes r_rsteps errs K) : CI l G yX6_text (.code yX6_text cX6_text 3 (some .int) :: wsG) (rmm 362 9948) [.ref (b 0), .int p1] (wd_X6_8 G b images n_people n_taped n_waiting n_z n_tmost n_tsize n_tsteps n_gmost n_gsize n_gsteps n_tape r_length r_place r_names r_rsize r_bytes r_rsteps errs) (S := Int32 × Int32 × (Nat → Int32) × Int32 × (Nat → Int32) × Int32 × Int32 × Nat × Int32 × (Nat → Int32) × (Nat → Int32) × (Nat → Int32)) (fun u => wd_X6_8 G b images n_people u.1 n_waiting n_z n_tmost u.2.1 u.2.2.1 n_gmost u.2.2.2.1 u.2.2.2.2.1 n_tape u.2.2.2.2.2.1 u.2.2.2.2.2.2.1 u.2.2.2.2.2.2.2.1 u.2.2.2.2.2.2.2.2.1 u.2.2.2.2.2.2.2.2.2.1 u.2.2.2.2.2.2.2.2.2.2.1 u.2.2.2.2.2.2.2.2.2.2.2) (fun r u => K r u.1 u.2.1 u.2.2.1 u.2.2.2.1 u.2.2.2.2.1 u.2.2.2.2.2.1 u.2.2.2.2.2.2.1 u.2.2.2.2.2.2.2.1 u.2.2.2.2.2.2.2.2.1 u.2.2.2.2.2.2.2.2.2.1 u.2.2.2.2.2.2.2.2.2.2.1 u.2.2.2.2.2.2.2.2.2.2.2) := by
  refine ci_intro (by decide) rfl (fun _ => rfl) (Nat.le_of_ble_eq_true rfl) ?_
  intro p e s m args below meth c A H ls Q C hW hS hl ret
  have hx := C.1.1
  have hb := C.1.2.1
  generalize hls : ([] : List Loc) = locs at hS ⊢
  have hl : lv_has ls 3 [(0, .ref (b 0)), (1, .int p1)] := hl
  refine lv_iload_n hx hb dX6_text_0 rfl (lv_at hl 1 rfl) ?_
  refine q_callS (rest := []) (n := 1) C (c_X6_isUse l G p1 _ hv) ml_X6_122 kb_X6_isUse rfl ⟨⟨rfl, rfl⟩, (Nat.le_of_ble_eq_true rfl), (Nat.le_of_ble_eq_true rfl)⟩ hW hS hl.1 rfl (Nat.le_of_ble_eq_true rfl) dX6_text_1 ⟨Nat.zero_le _, Nat.zero_le _⟩ (fun r_1 u_2 H locs hv hW hS => ?_)
  obtain ⟨hv_b_1, hv⟩ := hv
  try dsimp only at hv
  refine lv_if_ne (tgt := 13) hx hb dX6_text_4 (by decide) (fun c_3 => ?_) (fun c_3 => ?_)
  · replace hv := hv.1 c_3
    refine lv_aload_n hx hb dX6_text_13 rfl (lv_at hl 0 rfl) ?_
    refine q_get C kc6 hW 0 rfl 5 (by decide) fl_X6_32 rfl rfl dX6_text_14 ?_
    refine lv_aload_n hx hb dX6_text_17 rfl (lv_at hl 0 rfl) ?_
    refine q_get C kc6 hW 0 rfl 0 (by decide) fl_X6_10 rfl rfl dX6_text_18 ?_
    refine q_getN C kc4 hW 1 rfl 7 (by decide) nf_X6_125 rfl rfl dX6_text_21 ?_
    refine lv_aload_n hx hb dX6_text_24 rfl (lv_at hl 0 rfl) ?_
    refine q_get C kc6 hW 0 rfl 0 (by decide) fl_X6_10 rfl rfl dX6_text_25 ?_
    refine q_getN C kc4 hW 1 rfl 8 (by decide) nf_X6_115 rfl rfl dX6_text_28 ?_
    refine lv_iload_n hx hb dX6_text_31 rfl (lv_at hl 1 rfl) ?_
    refine lv_aload_n hx hb dX6_text_32 rfl (lv_at hl 0 rfl) ?_
    refine q_get C kc6 hW 0 rfl 0 (by decide) fl_X6_10 rfl rfl dX6_text_33 ?_
    refine lv_iload_n hx hb dX6_text_36 rfl (lv_at hl 1 rfl) ?_
    refine q_callNr (rest := [.int p1, .int n_taped, .ref (b 14), .ref (b 37)]) (n := 1) C (c_X4_lawOf l G (fun k => b (k + 1)) n_people n_taped n_waiting n_z p1) nm_X6_129 kb_X4_lawOf rfl ⟨⟨rfl, rfl⟩, (Nat.le_of_ble_eq_true rfl), (Nat.le_of_ble_eq_true rfl)⟩ hW hS [1] rfl rfl kc4 (q0 := 1) rfl hl.1 rfl (Nat.le_of_ble_eq_true rfl) dX6_text_37 ⟨Nat.zero_le _, Nat.zero_le _⟩ (fun a_4 H locs hq hW hS => ?_)
    have hW : wo G A (wd_X6_8 G b images n_people n_taped n_waiting n_z n_tmost n_tsize n_tsteps n_gmost n_gsize n_gsteps n_tape r_length r_place r_names r_rsize r_bytes r_rsteps errs) H := hW
    by_cases c_11 : p1 = 1
    · replace hv := hv.1 c_11
      have hq1 := hq.1 c_11
      subst hq1
      refine q_callN (rest := []) (n := 4) C (c_X1_read l G (fun k => b (k + 37)) (fun k => b (k + 11)) (b 14) r_length r_place r_names r_rsize r_bytes r_rsteps n_gmost n_gsize n_gsteps n_tape n_taped p1 _ hv) nm_X6_133 kb_X1_read rfl ⟨⟨rfl, rfl⟩, (Nat.le_of_ble_eq_true rfl), (Nat.le_of_ble_eq_true rfl)⟩ hW hS [7, 8, 9, 4, 5, 6] rfl rfl kc1 (q0 := 7) rfl hl.1 rfl (Nat.le_of_ble_eq_true rfl) dX6_text_40 ⟨Nat.zero_le _, Nat.zero_le _⟩ (fun r_5 u_6 H locs hv hW hS => ?_)
      obtain ⟨r_length_5, r_place_5, r_names_5, r_rsize_5, r_bytes_5, r_rsteps_5, n_gsize_5, n_gsteps_5⟩ := u_6
      try dsimp only at hv
      have hW : wo G A (wd_X6_8 G b images n_people n_taped n_waiting n_z n_tmost n_tsize n_tsteps n_gmost n_gsize_5 n_gsteps_5 n_tape r_length_5 r_place_5 r_names_5 r_rsize_5 r_bytes_5 r_rsteps_5 errs) H := hW
      refine lv_istore_n (lv' := [(2, .int r_5), (0, .ref (b 0)), (1, .int p1)]) hx hb dX6_text_43 rfl hl (by decide) rfl (fun ls hl => ?_)
      refine lv_aload_n hx hb dX6_text_44 rfl (lv_at hl 1 rfl) ?_
      refine q_get C kc6 hW 0 rfl 0 (by decide) fl_X6_10 rfl rfl dX6_text_45 ?_
      refine lv_iconst (v := 0) hx hb dX6_text_48 kic_0 ?_
      refine q_putN C kc4 hW hS 1 rfl 8 (by decide) nf_X6_115 rfl rfl rfl rfl (Nat.le_of_ble_eq_true rfl) dX6_text_49 (fun H locs hW hS => ?_)
      have hW : wo G A (wd_X6_8 G b images n_people (0 : Int32) n_waiting n_z n_tmost n_tsize n_tsteps n_gmost n_gsize_5 n_gsteps_5 n_tape r_length_5 r_place_5 r_names_5 r_rsize_5 r_bytes_5 r_rsteps_5 errs) H := hW
      refine lv_iload_n hx hb dX6_text_52 rfl (lv_at hl 0 rfl) ?_
      refine lv_if_ge (tgt := 60) hx hb dX6_text_53 (by decide) (fun c_7 => ?_) (fun c_7 => ?_)
      · replace hv := hv.1 c_7
        refine lv_bipush (v := (-10)) hx hb dX6_text_60 kbp_m10 ?_
        refine lv_iload_n hx hb dX6_text_62 rfl (lv_at hl 0 rfl) ?_
        refine lv_isub hx hb dX6_text_63 ?_
        exact ret ((0 : Int32), n_tsize, n_tsteps, n_gsize_5, n_gsteps_5, r_length_5, r_place_5, r_names_5, r_rsize_5, r_bytes_5, r_rsteps_5, errs) ((-10 : Int32) - r_5) H locs ls _ rfl hW hS hv dX6_text_64
      · replace hv := hv.2 c_7
        refine lv_iconst (v := 1) hx hb dX6_text_56 kic_1 ?_
        refine lv_goto (tgt := 64) hx hb dX6_text_57 (by decide) ?_
        exact ret ((0 : Int32), n_tsize, n_tsteps, n_gsize_5, n_gsteps_5, r_length_5, r_place_5, r_names_5, r_rsize_5, r_bytes_5, r_rsteps_5, errs) (1 : Int32) H locs ls _ rfl hW hS hv dX6_text_64
    · replace hv := hv.2 c_11
      have hq1 := hq.2 c_11
      subst hq1
      refine q_callN (rest := []) (n := 4) C (c_X1_read l G (fun k => b (k + 37)) (fun k => b (k + 8)) (b 14) r_length r_place r_names r_rsize r_bytes r_rsteps n_tmost n_tsize n_tsteps n_tape n_taped p1 _ hv) nm_X6_133 kb_X1_read rfl ⟨⟨rfl, rfl⟩, (Nat.le_of_ble_eq_true rfl), (Nat.le_of_ble_eq_true rfl)⟩ hW hS [7, 8, 9, 2, 3, 6] rfl rfl kc1 (q0 := 7) rfl hl.1 rfl (Nat.le_of_ble_eq_true rfl) dX6_text_40 ⟨Nat.zero_le _, Nat.zero_le _⟩ (fun r_8 u_9 H locs hv hW hS => ?_)
      obtain ⟨r_length_8, r_place_8, r_names_8, r_rsize_8, r_bytes_8, r_rsteps_8, n_tsize_8, n_tsteps_8⟩ := u_9
      try dsimp only at hv
      have hW : wo G A (wd_X6_8 G b images n_people n_taped n_waiting n_z n_tmost n_tsize_8 n_tsteps_8 n_gmost n_gsize n_gsteps n_tape r_length_8 r_place_8 r_names_8 r_rsize_8 r_bytes_8 r_rsteps_8 errs) H := hW
      refine lv_istore_n (lv' := [(2, .int r_8), (0, .ref (b 0)), (1, .int p1)]) hx hb dX6_text_43 rfl hl (by decide) rfl (fun ls hl => ?_)
      refine lv_aload_n hx hb dX6_text_44 rfl (lv_at hl 1 rfl) ?_
      refine q_get C kc6 hW 0 rfl 0 (by decide) fl_X6_10 rfl rfl dX6_text_45 ?_
      refine lv_iconst (v := 0) hx hb dX6_text_48 kic_0 ?_
      refine q_putN C kc4 hW hS 1 rfl 8 (by decide) nf_X6_115 rfl rfl rfl rfl (Nat.le_of_ble_eq_true rfl) dX6_text_49 (fun H locs hW hS => ?_)
      have hW : wo G A (wd_X6_8 G b images n_people (0 : Int32) n_waiting n_z n_tmost n_tsize_8 n_tsteps_8 n_gmost n_gsize n_gsteps n_tape r_length_8 r_place_8 r_names_8 r_rsize_8 r_bytes_8 r_rsteps_8 errs) H := hW
      refine lv_iload_n hx hb dX6_text_52 rfl (lv_at hl 0 rfl) ?_
      refine lv_if_ge (tgt := 60) hx hb dX6_text_53 (by decide) (fun c_10 => ?_) (fun c_10 => ?_)
      · replace hv := hv.1 c_10
        refine lv_bipush (v := (-10)) hx hb dX6_text_60 kbp_m10 ?_
        refine lv_iload_n hx hb dX6_text_62 rfl (lv_at hl 0 rfl) ?_
        refine lv_isub hx hb dX6_text_63 ?_
        exact ret ((0 : Int32), n_tsize_8, n_tsteps_8, n_gsize, n_gsteps, r_length_8, r_place_8, r_names_8, r_rsize_8, r_bytes_8, r_rsteps_8, errs) ((-10 : Int32) - r_8) H locs ls _ rfl hW hS hv dX6_text_64
      · replace hv := hv.2 c_10
        refine lv_iconst (v := 1) hx hb dX6_text_56 kic_1 ?_
        refine lv_goto (tgt := 64) hx hb dX6_text_57 (by decide) ?_
        exact ret ((0 : Int32), n_tsize_8, n_tsteps_8, n_gsize, n_gsteps, r_length_8, r_place_8, r_names_8, r_rsize_8, r_bytes_8, r_rsteps_8, errs) (1 : Int32) H locs ls _ rfl hW hS hv dX6_text_64
  · replace hv := hv.2 c_3
    refine lv_aload_n hx hb dX6_text_7 rfl (lv_at hl 0 rfl) ?_
    refine lv_iconst (v := 1) hx hb dX6_text_8 kic_1 ?_
    refine q_callV (rest := []) (n := 1) C (c_X6_error l G b images errs (1 : Int32) _ hv) ml_X6_64 kb_X6_error rfl ⟨⟨rfl, rfl⟩, (Nat.le_of_ble_eq_true rfl), (Nat.le_of_ble_eq_true rfl)⟩ hW hS [0, 10] rfl rfl kc6 (q0 := 0) rfl hl.1 rfl (Nat.le_of_ble_eq_true rfl) dX6_text_9 ⟨Nat.zero_le _, Nat.zero_le _⟩ (fun r_12 u_13 H locs hv hW hS => ?_)
    obtain ⟨errs_12, rfl⟩ : ∃ z, z = u_13 := ⟨_, rfl⟩
    try dsimp only at hv
    have hW : wo G A (wd_X6_8 G b images n_people n_taped n_waiting n_z n_tmost n_tsize n_tsteps n_gmost n_gsize n_gsteps n_tape r_length r_place r_names r_rsize r_bytes r_rsteps errs_12) H := hW
    exact ret (n_taped, n_tsize, n_tsteps, n_gsize, n_gsteps, r_length, r_place, r_names, r_rsize, r_bytes, r_rsteps, errs_12) r_12 H locs ls _ rfl hW hS hv dX6_text_12
set_option maxHeartbeats 4000000 in
set_option maxRecDepth 100000 in
theorem c_X6_untell (l : Launch) (G : Gt) (b : Nat → Nat) (images : Int32) (n_people : Int32) (n_taped : Int32) (n_waiting : Int32) (n_z : Int32) (n_tmost : Int32) (n_tsize : Int32) (n_gmost : Int32) (n_gsize : Int32) (errs : Nat → Int32) (p1 : Int32) (K : Int32 → Int32 → Int32 → (Nat → Int32) → Prop) (hv : v_X6_untell p1 n_tsize n_gsize errs K) : CI l G yX6_untell (.code yX6_untell cX6_untell 4 (some .int) :: wsG) (rmm 1 21) [.ref (b 0), .int p1] (wd_X6_9 G b images n_people n_taped n_waiting n_z n_tmost n_tsize n_gmost n_gsize errs) (S := Int32 × Int32 × (Nat → Int32)) (fun u => wd_X6_9 G b images n_people n_taped n_waiting n_z n_tmost u.1 n_gmost u.2.1 u.2.2) (fun r u => K r u.1 u.2.1 u.2.2) := by
  refine ci_intro (by decide) rfl (fun _ => rfl) (Nat.le_of_ble_eq_true rfl) ?_
  intro p e s m args below meth c A H ls Q C hW hS hl ret
  have hx := C.1.1
  have hb := C.1.2.1
  generalize hls : ([] : List Loc) = locs at hS ⊢
  have hl : lv_has ls 4 [(0, .ref (b 0)), (1, .int p1)] := hl
  have h_j_X6_untell_34 : ∀ (t0 : Int32) (n_tsize : Int32) (n_gsize : Int32) (errs : Nat → Int32) (H : Heap) (locs : List Loc) (ls : Array Slot), t0 = 0 ∨ t0 = 1 → wo G A (wd_X6_9 G b images n_people n_taped n_waiting n_z n_tmost n_tsize n_gmost n_gsize errs) H → va_S A s.heap H locs → lv_has ls 4 [(2, .ref (b 11))] → j_X6_untell_34 p1 K t0 n_tsize n_gsize errs → W p l e (rmm 1 21) s m args below meth c H locs 0 0 Q (F0 m 34 ls [.int t0]) := by
    intro t0 n_tsize n_gsize errs H locs ls hz_t0 hW hS hl hv
    refine lv_istore_n (lv' := [(3, .int t0), (2, .ref (b 11))]) hx hb dX6_untell_34 rfl hl (by decide) rfl (fun ls hl => ?_)
    refine lv_aload_n hx hb dX6_untell_35 rfl (lv_at hl 1 rfl) ?_
    refine lv_iconst (v := 0) hx hb dX6_untell_36 kic_0 ?_
    refine q_putN C kc0 hW hS 3 rfl 2 (by decide) nf_X6_137 rfl rfl rfl rfl (Nat.le_of_ble_eq_true rfl) dX6_untell_37 (fun H locs hW hS => ?_)
    have hW : wo G A (wd_X6_9 G b images n_people n_taped n_waiting n_z n_tmost n_tsize n_gmost (0 : Int32) errs) H := hW
    refine lv_iload_n hx hb dX6_untell_40 rfl (lv_at hl 0 rfl) ?_
    exact ret (n_tsize, (0 : Int32), errs) t0 H locs ls _ rfl hW hS hv dX6_untell_41
  have h_j_X6_untell_34b : ∀ (t0 : Int32) (n_tsize : Int32) (n_gsize : Int32) (errs : Nat → Int32) (H : Heap) (locs : List Loc) (ls : Array Slot), t0 = 0 ∨ t0 = 1 → wo G A (wd_X6_9 G b images n_people n_taped n_waiting n_z n_tmost n_tsize n_gmost n_gsize errs) H → va_S A s.heap H locs → lv_has ls 4 [(2, .ref (b 8))] → j_X6_untell_34b p1 K t0 n_tsize n_gsize errs → W p l e (rmm 1 21) s m args below meth c H locs 0 0 Q (F0 m 34 ls [.int t0]) := by
    intro t0 n_tsize n_gsize errs H locs ls hz_t0 hW hS hl hv
    refine lv_istore_n (lv' := [(3, .int t0), (2, .ref (b 8))]) hx hb dX6_untell_34 rfl hl (by decide) rfl (fun ls hl => ?_)
    refine lv_aload_n hx hb dX6_untell_35 rfl (lv_at hl 1 rfl) ?_
    refine lv_iconst (v := 0) hx hb dX6_untell_36 kic_0 ?_
    refine q_putN C kc0 hW hS 2 rfl 2 (by decide) nf_X6_137 rfl rfl rfl rfl (Nat.le_of_ble_eq_true rfl) dX6_untell_37 (fun H locs hW hS => ?_)
    have hW : wo G A (wd_X6_9 G b images n_people n_taped n_waiting n_z n_tmost (0 : Int32) n_gmost n_gsize errs) H := hW
    refine lv_iload_n hx hb dX6_untell_40 rfl (lv_at hl 0 rfl) ?_
    exact ret ((0 : Int32), n_gsize, errs) t0 H locs ls _ rfl hW hS hv dX6_untell_41
  refine lv_iload_n hx hb dX6_untell_0 rfl (lv_at hl 1 rfl) ?_
  refine q_callS (rest := []) (n := 1) C (c_X6_isUse l G p1 _ hv) ml_X6_122 kb_X6_isUse rfl ⟨⟨rfl, rfl⟩, (Nat.le_of_ble_eq_true rfl), (Nat.le_of_ble_eq_true rfl)⟩ hW hS hl.1 rfl (Nat.le_of_ble_eq_true rfl) dX6_untell_1 ⟨Nat.zero_le _, Nat.zero_le _⟩ (fun r_1 u_2 H locs hv hW hS => ?_)
  obtain ⟨hv_b_1, hv⟩ := hv
  try dsimp only at hv
  refine lv_if_ne (tgt := 13) hx hb dX6_untell_4 (by decide) (fun c_3 => ?_) (fun c_3 => ?_)
  · replace hv := hv.1 c_3
    refine lv_aload_n hx hb dX6_untell_13 rfl (lv_at hl 0 rfl) ?_
    refine q_get C kc6 hW 0 rfl 0 (by decide) fl_X6_10 rfl rfl dX6_untell_14 ?_
    refine lv_iload_n hx hb dX6_untell_17 rfl (lv_at hl 1 rfl) ?_
    refine q_callNr (rest := []) (n := 1) C (c_X4_lawOf l G (fun k => b (k + 1)) n_people n_taped n_waiting n_z p1) nm_X6_129 kb_X4_lawOf rfl ⟨⟨rfl, rfl⟩, (Nat.le_of_ble_eq_true rfl), (Nat.le_of_ble_eq_true rfl)⟩ hW hS [1] rfl rfl kc4 (q0 := 1) rfl hl.1 rfl (Nat.le_of_ble_eq_true rfl) dX6_untell_18 ⟨Nat.zero_le _, Nat.zero_le _⟩ (fun a_4 H locs hq hW hS => ?_)
    have hW : wo G A (wd_X6_9 G b images n_people n_taped n_waiting n_z n_tmost n_tsize n_gmost n_gsize errs) H := hW
    by_cases c_7 : p1 = 1
    · replace hv := hv.1 c_7
      have hq1 := hq.1 c_7
      subst hq1
      refine lv_astore_n (lv' := [(2, .ref (b 11)), (0, .ref (b 0)), (1, .int p1)]) hx hb dX6_untell_21 rfl hl (by decide) rfl (fun ls hl => ?_)
      refine lv_aload_n hx hb dX6_untell_22 rfl (lv_at hl 0 rfl) ?_
      refine q_getN C kc0 hW 3 rfl 2 (by decide) nf_X6_137 rfl rfl dX6_untell_23 ?_
      refine lv_if_le (tgt := 33) hx hb dX6_untell_26 (by decide) (fun c_5 => ?_) (fun c_5 => ?_)
      · replace hv := hv.1 c_5
        refine lv_iconst (v := 0) hx hb dX6_untell_33 kic_0 ?_
        exact h_j_X6_untell_34 (0 : Int32) n_tsize n_gsize errs H locs ls (Or.inl rfl) hW hS (lv_sub hl [0] rfl) hv
      · replace hv := hv.2 c_5
        refine lv_iconst (v := 1) hx hb dX6_untell_29 kic_1 ?_
        refine lv_goto (tgt := 34) hx hb dX6_untell_30 (by decide) ?_
        exact h_j_X6_untell_34 (1 : Int32) n_tsize n_gsize errs H locs ls (Or.inr rfl) hW hS (lv_sub hl [0] rfl) hv
    · replace hv := hv.2 c_7
      have hq1 := hq.2 c_7
      subst hq1
      refine lv_astore_n (lv' := [(2, .ref (b 8)), (0, .ref (b 0)), (1, .int p1)]) hx hb dX6_untell_21 rfl hl (by decide) rfl (fun ls hl => ?_)
      refine lv_aload_n hx hb dX6_untell_22 rfl (lv_at hl 0 rfl) ?_
      refine q_getN C kc0 hW 2 rfl 2 (by decide) nf_X6_137 rfl rfl dX6_untell_23 ?_
      refine lv_if_le (tgt := 33) hx hb dX6_untell_26 (by decide) (fun c_6 => ?_) (fun c_6 => ?_)
      · replace hv := hv.1 c_6
        refine lv_iconst (v := 0) hx hb dX6_untell_33 kic_0 ?_
        exact h_j_X6_untell_34b (0 : Int32) n_tsize n_gsize errs H locs ls (Or.inl rfl) hW hS (lv_sub hl [0] rfl) hv
      · replace hv := hv.2 c_6
        refine lv_iconst (v := 1) hx hb dX6_untell_29 kic_1 ?_
        refine lv_goto (tgt := 34) hx hb dX6_untell_30 (by decide) ?_
        exact h_j_X6_untell_34b (1 : Int32) n_tsize n_gsize errs H locs ls (Or.inr rfl) hW hS (lv_sub hl [0] rfl) hv
  · replace hv := hv.2 c_3
    refine lv_aload_n hx hb dX6_untell_7 rfl (lv_at hl 0 rfl) ?_
    refine lv_iconst (v := 1) hx hb dX6_untell_8 kic_1 ?_
    refine q_callV (rest := []) (n := 1) C (c_X6_error l G b images errs (1 : Int32) _ hv) ml_X6_64 kb_X6_error rfl ⟨⟨rfl, rfl⟩, (Nat.le_of_ble_eq_true rfl), (Nat.le_of_ble_eq_true rfl)⟩ hW hS [0, 4] rfl rfl kc6 (q0 := 0) rfl hl.1 rfl (Nat.le_of_ble_eq_true rfl) dX6_untell_9 ⟨Nat.zero_le _, Nat.zero_le _⟩ (fun r_8 u_9 H locs hv hW hS => ?_)
    obtain ⟨errs_8, rfl⟩ : ∃ z, z = u_9 := ⟨_, rfl⟩
    try dsimp only at hv
    have hW : wo G A (wd_X6_9 G b images n_people n_taped n_waiting n_z n_tmost n_tsize n_gmost n_gsize errs_8) H := hW
    exact ret (n_tsize, n_gsize, errs_8) r_8 H locs ls _ rfl hW hS hv dX6_untell_12
set_option maxHeartbeats 4000000 in
set_option maxRecDepth 100000 in
theorem c_X6_law (l : Launch) (G : Gt) (b : Nat → Nat) (images : Int32) (n_people : Int32) (n_taped : Int32) (n_waiting : Int32) (n_z : Int32) (n_tmost : Int32) (n_tsize : Int32) (n_tsteps : Nat → Int32) (n_tstack : Nat → Int32) (n_gmost : Int32) (n_gsize : Int32) (n_gsteps : Nat → Int32) (n_gstack : Nat → Int32) (errs : Nat → Int32) (p1 : Int32) (p2 : Int32) (p3 : Int32) (p4 : Int32) (K : Int32 → (Nat → Int32) → (Nat → Int32) → (Nat → Int32) → Prop) (hv : v_X6_law p1 p2 p3 p4 n_tmost n_tsize n_tsteps n_tstack n_gmost n_gsize n_gsteps n_gstack errs K) : CI l G yX6_law (.code yX6_law cX6_law 5 (some .int) :: wsG) (rmm 2 49) [.ref (b 0), .int p1, .int p2, .int p3, .int p4] (wd_X6_10 G b images n_people n_taped n_waiting n_z n_tmost n_tsize n_tsteps n_tstack n_gmost n_gsize n_gsteps n_gstack errs) (S := (Nat → Int32) × (Nat → Int32) × (Nat → Int32)) (fun u => wd_X6_10 G b images n_people n_taped n_waiting n_z n_tmost n_tsize n_tsteps u.1 n_gmost n_gsize n_gsteps u.2.1 u.2.2) (fun r u => K r u.1 u.2.1 u.2.2) := by
  refine ci_intro (by decide) rfl (fun _ => rfl) (Nat.le_of_ble_eq_true rfl) ?_
  intro p e s m args below meth c A H ls Q C hW hS hl ret
  have hx := C.1.1
  have hb := C.1.2.1
  generalize hls : ([] : List Loc) = locs at hS ⊢
  have hl : lv_has ls 5 [(0, .ref (b 0)), (1, .int p1), (2, .int p2), (3, .int p3), (4, .int p4)] := hl
  refine lv_iload_n hx hb dX6_law_0 rfl (lv_at hl 1 rfl) ?_
  refine q_callS (rest := []) (n := 1) C (c_X6_isUse l G p1 _ hv) ml_X6_122 kb_X6_isUse rfl ⟨⟨rfl, rfl⟩, (Nat.le_of_ble_eq_true rfl), (Nat.le_of_ble_eq_true rfl)⟩ hW hS hl.1 rfl (Nat.le_of_ble_eq_true rfl) dX6_law_1 ⟨Nat.zero_le _, Nat.zero_le _⟩ (fun r_1 u_2 H locs hv hW hS => ?_)
  obtain ⟨hv_b_1, hv⟩ := hv
  try dsimp only at hv
  refine lv_if_eq (tgt := 25) hx hb dX6_law_4 (by decide) (fun c_3 => ?_) (fun c_3 => ?_)
  · replace hv := hv.1 c_3
    refine lv_aload_n hx hb dX6_law_25 rfl (lv_at hl 0 rfl) ?_
    refine lv_iconst (v := 1) hx hb dX6_law_26 kic_1 ?_
    refine q_callV (rest := []) (n := 1) C (c_X6_error l G b images errs (1 : Int32) _ hv) ml_X6_64 kb_X6_error rfl ⟨⟨rfl, rfl⟩, (Nat.le_of_ble_eq_true rfl), (Nat.le_of_ble_eq_true rfl)⟩ hW hS [0, 8] rfl rfl kc6 (q0 := 0) rfl hl.1 rfl (Nat.le_of_ble_eq_true rfl) dX6_law_27 ⟨Nat.zero_le _, Nat.zero_le _⟩ (fun r_4 u_5 H locs hv hW hS => ?_)
    obtain ⟨errs_4, rfl⟩ : ∃ z, z = u_5 := ⟨_, rfl⟩
    try dsimp only at hv
    have hW : wo G A (wd_X6_10 G b images n_people n_taped n_waiting n_z n_tmost n_tsize n_tsteps n_tstack n_gmost n_gsize n_gsteps n_gstack errs_4) H := hW
    exact ret (n_tstack, n_gstack, errs_4) r_4 H locs ls _ rfl hW hS hv dX6_law_30
  · replace hv := hv.2 c_3
    refine lv_aload_n hx hb dX6_law_7 rfl (lv_at hl 0 rfl) ?_
    refine q_get C kc6 hW 0 rfl 0 (by decide) fl_X6_10 rfl rfl dX6_law_8 ?_
    refine lv_iload_n hx hb dX6_law_11 rfl (lv_at hl 1 rfl) ?_
    refine q_callNr (rest := []) (n := 1) C (c_X4_lawOf l G (fun k => b (k + 1)) n_people n_taped n_waiting n_z p1) nm_X6_129 kb_X4_lawOf rfl ⟨⟨rfl, rfl⟩, (Nat.le_of_ble_eq_true rfl), (Nat.le_of_ble_eq_true rfl)⟩ hW hS [1] rfl rfl kc4 (q0 := 1) rfl hl.1 rfl (Nat.le_of_ble_eq_true rfl) dX6_law_12 ⟨Nat.zero_le _, Nat.zero_le _⟩ (fun a_6 H locs hq hW hS => ?_)
    have hW : wo G A (wd_X6_10 G b images n_people n_taped n_waiting n_z n_tmost n_tsize n_tsteps n_tstack n_gmost n_gsize n_gsteps n_gstack errs) H := hW
    by_cases c_11 : p1 = 1
    · replace hv := hv.1 c_11
      have hq1 := hq.1 c_11
      subst hq1
      refine lv_iload_n hx hb dX6_law_15 rfl (lv_at hl 2 rfl) ?_
      refine lv_iload_n hx hb dX6_law_16 rfl (lv_at hl 3 rfl) ?_
      refine lv_iload hx hb dX6_law_17 (lv_at hl 4 rfl) ?_
      refine q_callN (rest := []) (n := 3) C (c_X0_gives l G (fun k => b (k + 11)) n_gmost n_gsize n_gsteps n_gstack p2 p3 p4 _ hv) nm_X6_142 kb_X0_gives rfl ⟨⟨rfl, rfl⟩, (Nat.le_of_ble_eq_true rfl), (Nat.le_of_ble_eq_true rfl)⟩ hW hS [5, 6, 7] rfl rfl kc0 (q0 := 5) rfl hl.1 rfl (Nat.le_of_ble_eq_true rfl) dX6_law_19 ⟨Nat.zero_le _, Nat.zero_le _⟩ (fun r_7 u_8 H locs hv hW hS => ?_)
      obtain ⟨n_gstack_7, rfl⟩ : ∃ z, z = u_8 := ⟨_, rfl⟩
      try dsimp only at hv
      have hW : wo G A (wd_X6_10 G b images n_people n_taped n_waiting n_z n_tmost n_tsize n_tsteps n_tstack n_gmost n_gsize n_gsteps n_gstack_7 errs) H := hW
      refine lv_goto (tgt := 30) hx hb dX6_law_22 (by decide) ?_
      exact ret (n_tstack, n_gstack_7, errs) r_7 H locs ls _ rfl hW hS hv dX6_law_30
    · replace hv := hv.2 c_11
      have hq1 := hq.2 c_11
      subst hq1
      refine lv_iload_n hx hb dX6_law_15 rfl (lv_at hl 2 rfl) ?_
      refine lv_iload_n hx hb dX6_law_16 rfl (lv_at hl 3 rfl) ?_
      refine lv_iload hx hb dX6_law_17 (lv_at hl 4 rfl) ?_
      refine q_callN (rest := []) (n := 3) C (c_X0_gives l G (fun k => b (k + 8)) n_tmost n_tsize n_tsteps n_tstack p2 p3 p4 _ hv) nm_X6_142 kb_X0_gives rfl ⟨⟨rfl, rfl⟩, (Nat.le_of_ble_eq_true rfl), (Nat.le_of_ble_eq_true rfl)⟩ hW hS [2, 3, 4] rfl rfl kc0 (q0 := 2) rfl hl.1 rfl (Nat.le_of_ble_eq_true rfl) dX6_law_19 ⟨Nat.zero_le _, Nat.zero_le _⟩ (fun r_9 u_10 H locs hv hW hS => ?_)
      obtain ⟨n_tstack_9, rfl⟩ : ∃ z, z = u_10 := ⟨_, rfl⟩
      try dsimp only at hv
      have hW : wo G A (wd_X6_10 G b images n_people n_taped n_waiting n_z n_tmost n_tsize n_tsteps n_tstack_9 n_gmost n_gsize n_gsteps n_gstack errs) H := hW
      refine lv_goto (tgt := 30) hx hb dX6_law_22 (by decide) ?_
      exact ret (n_tstack_9, n_gstack, errs) r_9 H locs ls _ rfl hW hS hv dX6_law_30
set_option maxHeartbeats 4000000 in
set_option maxRecDepth 100000 in
theorem c_X6_days (l : Launch) (G : Gt) (b : Nat → Nat) (images : Int32) (n_people : Int32) (n_taped : Int32) (n_waiting : Int32) (n_z : Int32) (n_kind : Nat → Int32) (n_em : Nat → Int32) (n_day : Int32) (n_near : Nat → Int32) (n_shows : Nat → Int32) (n_tmost : Int32) (n_tsize : Int32) (n_tsteps : Nat → Int32) (n_tstack : Nat → Int32) (n_gmost : Int32) (n_gsize : Int32) (n_gsteps : Nat → Int32) (n_gstack : Nat → Int32) (errs : Nat → Int32) (p1 : Int32) (K : Int32 → Int32 → (Nat → Int32) → (Nat → Int32) → (Nat → Int32) → (Nat → Int32) → (Nat → Int32) → Prop) (hv : v_X6_days p1 n_people n_kind n_em n_day n_near n_shows n_tmost n_tsize n_tsteps n_tstack n_gmost n_gsize n_gsteps n_gstack errs K) : CI l G yX6_days (.code yX6_days cX6_days 3 (some .int) :: wsG) (rmm 5 122) [.ref (b 0), .int p1] (wd_X6_11 G b images n_people n_taped n_waiting n_z n_kind n_em n_day n_near n_shows n_tmost n_tsize n_tsteps n_tstack n_gmost n_gsize n_gsteps n_gstack errs) (S := Int32 × (Nat → Int32) × (Nat → Int32) × (Nat → Int32) × (Nat → Int32) × (Nat → Int32)) (fun u => wd_X6_11 G b images n_people n_taped n_waiting n_z n_kind n_em u.1 u.2.1 u.2.2.1 n_tmost n_tsize n_tsteps u.2.2.2.1 n_gmost n_gsize n_gsteps u.2.2.2.2.1 u.2.2.2.2.2) (fun r u => K r u.1 u.2.1 u.2.2.1 u.2.2.2.1 u.2.2.2.2.1 u.2.2.2.2.2) := by
  refine ci_intro (by decide) rfl (fun _ => rfl) (Nat.le_of_ble_eq_true rfl) ?_
  intro p e s m args below meth c A H ls Q C hW hS hl ret
  have hx := C.1.1
  have hb := C.1.2.1
  generalize hls : ([] : List Loc) = locs at hS ⊢
  have hl : lv_has ls 3 [(0, .ref (b 0)), (1, .int p1)] := hl
  have h_j_X6_days_11 : ∀ (n_day : Int32) (n_near : Nat → Int32) (n_shows : Nat → Int32) (n_tstack : Nat → Int32) (n_gstack : Nat → Int32) (errs : Nat → Int32) (H : Heap) (locs : List Loc) (ls : Array Slot), wo G A (wd_X6_11 G b images n_people n_taped n_waiting n_z n_kind n_em n_day n_near n_shows n_tmost n_tsize n_tsteps n_tstack n_gmost n_gsize n_gsteps n_gstack errs) H → va_S A s.heap H locs → lv_has ls 3 [(0, .ref (b 0))] → j_X6_days_11 p1 n_people n_kind n_em n_tmost n_tsize n_tsteps n_gmost n_gsize n_gsteps K n_day n_near n_shows n_tstack n_gstack errs → W p l e (rmm 5 122) s m args below meth c H locs 0 0 Q (F0 m 11 ls []) := by
    intro n_day n_near n_shows n_tstack n_gstack errs H locs ls hW hS hl hv
    refine lv_aload_n hx hb dX6_days_11 rfl (lv_at hl 0 rfl) ?_
    refine lv_iconst (v := 1) hx hb dX6_days_12 kic_1 ?_
    refine q_callV (rest := []) (n := 1) C (c_X6_error l G b images errs (1 : Int32) _ hv) ml_X6_64 kb_X6_error rfl ⟨⟨rfl, rfl⟩, (Nat.le_of_ble_eq_true rfl), (Nat.le_of_ble_eq_true rfl)⟩ hW hS [0, 13] rfl rfl kc6 (q0 := 0) rfl hl.1 rfl (Nat.le_of_ble_eq_true rfl) dX6_days_13 ⟨Nat.zero_le _, Nat.zero_le _⟩ (fun r_2 u_3 H locs hv hW hS => ?_)
    obtain ⟨errs_2, rfl⟩ : ∃ z, z = u_3 := ⟨_, rfl⟩
    try dsimp only at hv
    have hW : wo G A (wd_X6_11 G b images n_people n_taped n_waiting n_z n_kind n_em n_day n_near n_shows n_tmost n_tsize n_tsteps n_tstack n_gmost n_gsize n_gsteps n_gstack errs_2) H := hW
    exact ret (n_day, n_near, n_shows, n_tstack, n_gstack, errs_2) r_2 H locs ls _ rfl hW hS hv dX6_days_16
  have h_l_X6_days_43 : ∀ (n : Nat), ∀ (x2 : Int32) (n_day : Int32) (n_near : Nat → Int32) (n_shows : Nat → Int32) (n_tstack : Nat → Int32) (n_gstack : Nat → Int32) (errs : Nat → Int32) (H : Heap) (locs : List Loc) (ls : Array Slot), wo G A (wd_X6_11 G b images n_people n_taped n_waiting n_z n_kind n_em n_day n_near n_shows n_tmost n_tsize n_tsteps n_tstack n_gmost n_gsize n_gsteps n_gstack errs) H → va_S A s.heap H locs → lv_has ls 3 [(0, .ref (b 0)), (1, .int p1), (2, .int x2)] → l_X6_days_43 p1 n_people n_kind n_em n_tmost n_tsize n_tsteps n_gmost n_gsize n_gsteps K n x2 n_day n_near n_shows n_tstack n_gstack errs → W p l e (rmm 5 122) s m args below meth c H locs 0 0 Q (F0 m 43 ls []) := by
    intro n
    induction n with
    | zero =>
      intro x2 n_day n_near n_shows n_tstack n_gstack errs H locs ls hW hS hl hv
      exact False.elim hv
    | succ n ih =>
      intro x2 n_day n_near n_shows n_tstack n_gstack errs H locs ls hW hS hl hv
      refine lv_iload_n hx hb dX6_days_43 rfl (lv_at hl 2 rfl) ?_
      refine lv_iload_n hx hb dX6_days_44 rfl (lv_at hl 1 rfl) ?_
      refine lv_icmp_ge (tgt := 69) hx hb dX6_days_45 (by decide) (fun c_6 => ?_) (fun c_6 => ?_)
      · replace hv := hv.1 c_6
        refine lv_aload_n hx hb dX6_days_69 rfl (lv_at hl 0 rfl) ?_
        refine q_get C kc6 hW 0 rfl 0 (by decide) fl_X6_10 rfl rfl dX6_days_70 ?_
        refine q_getN C kc4 hW 1 rfl 4 (by decide) nf_X6_85 rfl rfl dX6_days_73 ?_
        refine q_getN C kc3 hW 4 rfl 2 (by decide) nf_X6_104 rfl rfl dX6_days_76 ?_
        exact ret (n_day, n_near, n_shows, n_tstack, n_gstack, errs) n_day H locs ls _ rfl hW hS hv dX6_days_79
      · replace hv := hv.2 c_6
        refine lv_aload_n hx hb dX6_days_48 rfl (lv_at hl 0 rfl) ?_
        refine q_get C kc6 hW 0 rfl 0 (by decide) fl_X6_10 rfl rfl dX6_days_49 ?_
        refine lv_aload_n hx hb dX6_days_52 rfl (lv_at hl 0 rfl) ?_
        refine q_get C kc6 hW 0 rfl 0 (by decide) fl_X6_10 rfl rfl dX6_days_53 ?_
        refine q_getN C kc4 hW 1 rfl 4 (by decide) nf_X6_85 rfl rfl dX6_days_56 ?_
        refine q_callN (rest := []) (n := 1) C (c_X4_pass l G (fun k => b (k + 1)) (fun k => b (k + 5)) n_people n_taped n_waiting n_z n_kind n_em n_tmost n_tsize n_tsteps n_tstack n_gmost n_gsize n_gsteps n_gstack n_day n_near n_shows _ hv) nm_X6_145 kb_X4_pass rfl ⟨⟨rfl, rfl⟩, (Nat.le_of_ble_eq_true rfl), (Nat.le_of_ble_eq_true rfl)⟩ hW hS [1, 2, 3, 7, 8, 9, 10, 11, 12, 4, 5, 6] rfl rfl kc4 (q0 := 1) rfl hl.1 rfl (Nat.le_of_ble_eq_true rfl) dX6_days_59 ⟨Nat.zero_le _, Nat.zero_le _⟩ (fun r_7 u_8 H locs hv hW hS => ?_)
        obtain ⟨n_tstack_7, n_gstack_7, n_day_7, n_near_7, n_shows_7⟩ := u_8
        obtain ⟨hv_b_7, hv⟩ := hv
        try dsimp only at hv
        have hW : wo G A (wd_X6_11 G b images n_people n_taped n_waiting n_z n_kind n_em n_day_7 n_near_7 n_shows_7 n_tmost n_tsize n_tsteps n_tstack_7 n_gmost n_gsize n_gsteps n_gstack_7 errs) H := hW
        refine lv_pop hx hb dX6_days_62 rfl ?_
        refine lv_iinc (v := (x2 + 1)) (lv' := [(2, .int (x2 + 1)), (0, .ref (b 0)), (1, .int p1)]) hx hb dX6_days_63 hl (k := 2) rfl rfl (by decide) rfl (fun ls hl => ?_)
        refine lv_goto (tgt := 43) hx hb dX6_days_66 (by decide) ?_
        exact ih (x2 + 1) n_day_7 n_near_7 n_shows_7 n_tstack_7 n_gstack_7 errs H locs ls hW hS (lv_sub hl [1, 2, 0] rfl) hv
  refine lv_iload_n hx hb dX6_days_0 rfl (lv_at hl 1 rfl) ?_
  refine lv_iconst (v := 1) hx hb dX6_days_1 kic_1 ?_
  refine lv_icmp_lt (tgt := 11) hx hb dX6_days_2 (by decide) (fun c_1 => ?_) (fun c_1 => ?_)
  · replace hv := hv.1 c_1
    exact h_j_X6_days_11 n_day n_near n_shows n_tstack n_gstack errs H locs ls hW hS (lv_sub hl [0] rfl) hv
  · replace hv := hv.2 c_1
    refine lv_iload_n hx hb dX6_days_5 rfl (lv_at hl 1 rfl) ?_
    refine lv_bipush (v := 100) hx hb dX6_days_6 kbp_100 ?_
    refine lv_icmp_le (tgt := 17) hx hb dX6_days_8 (by decide) (fun c_4 => ?_) (fun c_4 => ?_)
    · replace hv := hv.1 c_4
      refine lv_iload_n hx hb dX6_days_17 rfl (lv_at hl 1 rfl) ?_
      refine lv_sipush (v := 9999) hx hb dX6_days_18 ksp_9999 ?_
      refine lv_aload_n hx hb dX6_days_21 rfl (lv_at hl 0 rfl) ?_
      refine q_get C kc6 hW 0 rfl 0 (by decide) fl_X6_10 rfl rfl dX6_days_22 ?_
      refine q_getN C kc4 hW 1 rfl 4 (by decide) nf_X6_85 rfl rfl dX6_days_25 ?_
      refine q_getN C kc3 hW 4 rfl 2 (by decide) nf_X6_104 rfl rfl dX6_days_28 ?_
      refine lv_isub hx hb dX6_days_31 ?_
      refine lv_icmp_le (tgt := 41) hx hb dX6_days_32 (by decide) (fun c_5 => ?_) (fun c_5 => ?_)
      · replace hv := hv.1 c_5
        refine lv_iconst (v := 0) hx hb dX6_days_41 kic_0 ?_
        refine lv_istore_n (lv' := [(2, .int (0 : Int32)), (0, .ref (b 0)), (1, .int p1)]) hx hb dX6_days_42 rfl hl (by decide) rfl (fun ls hl => ?_)
        obtain ⟨n_9, hv⟩ := hv
        exact h_l_X6_days_43 n_9 (0 : Int32) n_day n_near n_shows n_tstack n_gstack errs H locs ls hW hS (lv_sub hl [1, 2, 0] rfl) hv
      · replace hv := hv.2 c_5
        refine lv_aload_n hx hb dX6_days_35 rfl (lv_at hl 0 rfl) ?_
        refine lv_iconst (v := 3) hx hb dX6_days_36 kic_3 ?_
        refine q_callV (rest := []) (n := 1) C (c_X6_error l G b images errs (3 : Int32) _ hv) ml_X6_64 kb_X6_error rfl ⟨⟨rfl, rfl⟩, (Nat.le_of_ble_eq_true rfl), (Nat.le_of_ble_eq_true rfl)⟩ hW hS [0, 13] rfl rfl kc6 (q0 := 0) rfl hl.1 rfl (Nat.le_of_ble_eq_true rfl) dX6_days_37 ⟨Nat.zero_le _, Nat.zero_le _⟩ (fun r_10 u_11 H locs hv hW hS => ?_)
        obtain ⟨errs_10, rfl⟩ : ∃ z, z = u_11 := ⟨_, rfl⟩
        try dsimp only at hv
        have hW : wo G A (wd_X6_11 G b images n_people n_taped n_waiting n_z n_kind n_em n_day n_near n_shows n_tmost n_tsize n_tsteps n_tstack n_gmost n_gsize n_gsteps n_gstack errs_10) H := hW
        exact ret (n_day, n_near, n_shows, n_tstack, n_gstack, errs_10) r_10 H locs ls _ rfl hW hS hv dX6_days_40
    · replace hv := hv.2 c_4
      exact h_j_X6_days_11 n_day n_near n_shows n_tstack n_gstack errs H locs ls hW hS (lv_sub hl [0] rfl) hv
set_option maxHeartbeats 4000000 in
set_option maxRecDepth 100000 in
theorem c_X6_loose (l : Launch) (G : Gt) (b : Nat → Nat) (images : Int32) (n_people : Int32) (n_taped : Int32) (n_waiting : Int32) (n_z : Int32) (n_kind : Nat → Int32) (n_em : Nat → Int32) (n_called : Nat → Int32) (n_day : Int32) (n_near : Nat → Int32) (n_shows : Nat → Int32) (n_tmost : Int32) (n_tsize : Int32) (n_tsteps : Nat → Int32) (n_tstack : Nat → Int32) (n_gmost : Int32) (n_gsize : Int32) (n_gsteps : Nat → Int32) (n_gstack : Nat → Int32) (errs : Nat → Int32) (p1 : Int32) (K : Int32 → Int32 → (Nat → Int32) → Int32 → (Nat → Int32) → (Nat → Int32) → (Nat → Int32) → (Nat → Int32) → (Nat → Int32) → Prop) (hv : v_X6_loose p1 n_people n_z n_kind n_em n_called n_day n_near n_shows n_tmost n_tsize n_tsteps n_tstack n_gmost n_gsize n_gsteps n_gstack errs K) : CI l G yX6_loose (.code yX6_loose cX6_loose 3 (some .int) :: wsG) (rmm 5 122) [.ref (b 0), .int p1] (wd_X6_12 G b images n_people n_taped n_waiting n_z n_kind n_em n_called n_day n_near n_shows n_tmost n_tsize n_tsteps n_tstack n_gmost n_gsize n_gsteps n_gstack errs) (S := Int32 × (Nat → Int32) × Int32 × (Nat → Int32) × (Nat → Int32) × (Nat → Int32) × (Nat → Int32) × (Nat → Int32)) (fun u => wd_X6_12 G b images n_people n_taped n_waiting u.1 n_kind n_em u.2.1 u.2.2.1 u.2.2.2.1 u.2.2.2.2.1 n_tmost n_tsize n_tsteps u.2.2.2.2.2.1 n_gmost n_gsize n_gsteps u.2.2.2.2.2.2.1 u.2.2.2.2.2.2.2) (fun r u => K r u.1 u.2.1 u.2.2.1 u.2.2.2.1 u.2.2.2.2.1 u.2.2.2.2.2.1 u.2.2.2.2.2.2.1 u.2.2.2.2.2.2.2) := by
  refine ci_intro (by decide) rfl (fun _ => rfl) (Nat.le_of_ble_eq_true rfl) ?_
  intro p e s m args below meth c A H ls Q C hW hS hl ret
  have hx := C.1.1
  have hb := C.1.2.1
  generalize hls : ([] : List Loc) = locs at hS ⊢
  have hl : lv_has ls 3 [(0, .ref (b 0)), (1, .int p1)] := hl
  have h_j_X6_loose_11 : ∀ (n_z : Int32) (n_called : Nat → Int32) (n_day : Int32) (n_near : Nat → Int32) (n_shows : Nat → Int32) (n_tstack : Nat → Int32) (n_gstack : Nat → Int32) (errs : Nat → Int32) (H : Heap) (locs : List Loc) (ls : Array Slot), wo G A (wd_X6_12 G b images n_people n_taped n_waiting n_z n_kind n_em n_called n_day n_near n_shows n_tmost n_tsize n_tsteps n_tstack n_gmost n_gsize n_gsteps n_gstack errs) H → va_S A s.heap H locs → lv_has ls 3 [(0, .ref (b 0))] → j_X6_loose_11 p1 n_people n_kind n_em n_tmost n_tsize n_tsteps n_gmost n_gsize n_gsteps K n_z n_called n_day n_near n_shows n_tstack n_gstack errs → W p l e (rmm 5 122) s m args below meth c H locs 0 0 Q (F0 m 11 ls []) := by
    intro n_z n_called n_day n_near n_shows n_tstack n_gstack errs H locs ls hW hS hl hv
    refine lv_aload_n hx hb dX6_loose_11 rfl (lv_at hl 0 rfl) ?_
    refine lv_iconst (v := 1) hx hb dX6_loose_12 kic_1 ?_
    refine q_callV (rest := []) (n := 1) C (c_X6_error l G b images errs (1 : Int32) _ hv) ml_X6_64 kb_X6_error rfl ⟨⟨rfl, rfl⟩, (Nat.le_of_ble_eq_true rfl), (Nat.le_of_ble_eq_true rfl)⟩ hW hS [0, 14] rfl rfl kc6 (q0 := 0) rfl hl.1 rfl (Nat.le_of_ble_eq_true rfl) dX6_loose_13 ⟨Nat.zero_le _, Nat.zero_le _⟩ (fun r_2 u_3 H locs hv hW hS => ?_)
    obtain ⟨errs_2, rfl⟩ : ∃ z, z = u_3 := ⟨_, rfl⟩
    try dsimp only at hv
    have hW : wo G A (wd_X6_12 G b images n_people n_taped n_waiting n_z n_kind n_em n_called n_day n_near n_shows n_tmost n_tsize n_tsteps n_tstack n_gmost n_gsize n_gsteps n_gstack errs_2) H := hW
    exact ret (n_z, n_called, n_day, n_near, n_shows, n_tstack, n_gstack, errs_2) r_2 H locs ls _ rfl hW hS hv dX6_loose_16
  have h_l_X6_loose_43 : ∀ (n : Nat), ∀ (x2 : Int32) (n_z : Int32) (n_called : Nat → Int32) (n_day : Int32) (n_near : Nat → Int32) (n_shows : Nat → Int32) (n_tstack : Nat → Int32) (n_gstack : Nat → Int32) (errs : Nat → Int32) (H : Heap) (locs : List Loc) (ls : Array Slot), wo G A (wd_X6_12 G b images n_people n_taped n_waiting n_z n_kind n_em n_called n_day n_near n_shows n_tmost n_tsize n_tsteps n_tstack n_gmost n_gsize n_gsteps n_gstack errs) H → va_S A s.heap H locs → lv_has ls 3 [(0, .ref (b 0)), (1, .int p1), (2, .int x2)] → l_X6_loose_43 p1 n_people n_kind n_em n_tmost n_tsize n_tsteps n_gmost n_gsize n_gsteps K n x2 n_z n_called n_day n_near n_shows n_tstack n_gstack errs → W p l e (rmm 5 122) s m args below meth c H locs 0 0 Q (F0 m 43 ls []) := by
    intro n
    induction n with
    | zero =>
      intro x2 n_z n_called n_day n_near n_shows n_tstack n_gstack errs H locs ls hW hS hl hv
      exact False.elim hv
    | succ n ih =>
      intro x2 n_z n_called n_day n_near n_shows n_tstack n_gstack errs H locs ls hW hS hl hv
      refine lv_iload_n hx hb dX6_loose_43 rfl (lv_at hl 2 rfl) ?_
      refine lv_iload_n hx hb dX6_loose_44 rfl (lv_at hl 1 rfl) ?_
      refine lv_icmp_ge (tgt := 76) hx hb dX6_loose_45 (by decide) (fun c_6 => ?_) (fun c_6 => ?_)
      · replace hv := hv.1 c_6
        refine lv_aload_n hx hb dX6_loose_76 rfl (lv_at hl 0 rfl) ?_
        refine q_get C kc6 hW 0 rfl 0 (by decide) fl_X6_10 rfl rfl dX6_loose_77 ?_
        refine lv_aload_n hx hb dX6_loose_80 rfl (lv_at hl 0 rfl) ?_
        refine q_get C kc6 hW 0 rfl 0 (by decide) fl_X6_10 rfl rfl dX6_loose_81 ?_
        refine q_getN C kc4 hW 1 rfl 4 (by decide) nf_X6_85 rfl rfl dX6_loose_84 ?_
        refine q_callN (rest := []) (n := 1) C (c_X4_nearestIn l G (fun k => b (k + 1)) (fun k => b (k + 5)) n_people n_taped n_waiting n_z n_day n_near _ hv) nm_X6_152 kb_X4_nearestIn rfl ⟨⟨rfl, rfl⟩, (Nat.le_of_ble_eq_true rfl), (Nat.le_of_ble_eq_true rfl)⟩ hW hS [1, 5, 6] rfl rfl kc4 (q0 := 1) rfl hl.1 rfl (Nat.le_of_ble_eq_true rfl) dX6_loose_87 ⟨Nat.zero_le _, Nat.zero_le _⟩ (fun r_7 u_8 H locs hv hW hS => ?_)
        try dsimp only at hv
        exact ret (n_z, n_called, n_day, n_near, n_shows, n_tstack, n_gstack, errs) r_7 H locs ls _ rfl hW hS hv dX6_loose_90
      · replace hv := hv.2 c_6
        refine lv_aload_n hx hb dX6_loose_48 rfl (lv_at hl 0 rfl) ?_
        refine q_get C kc6 hW 0 rfl 0 (by decide) fl_X6_10 rfl rfl dX6_loose_49 ?_
        refine q_callNv (rest := []) (n := 0) C (c_X4_drawMoves l G (fun k => b (k + 1)) n_people n_taped n_waiting n_z n_called n_day n_near n_shows _ hv) nm_X6_149 kb_X4_drawMoves rfl ⟨⟨rfl, rfl⟩, (Nat.le_of_ble_eq_true rfl), (Nat.le_of_ble_eq_true rfl)⟩ hW hS [1, 4, 5, 6, 7] rfl rfl kc4 (q0 := 1) rfl hl.1 rfl (Nat.le_of_ble_eq_true rfl) dX6_loose_52 ⟨Nat.zero_le _, Nat.zero_le _⟩ (fun u_10 H locs hv hW hS => ?_)
        obtain ⟨n_z_9, n_called_9, n_near_9, n_shows_9⟩ := u_10
        try dsimp only at hv
        have hW : wo G A (wd_X6_12 G b images n_people n_taped n_waiting n_z_9 n_kind n_em n_called_9 n_day n_near_9 n_shows_9 n_tmost n_tsize n_tsteps n_tstack n_gmost n_gsize n_gsteps n_gstack errs) H := hW
        refine lv_aload_n hx hb dX6_loose_55 rfl (lv_at hl 0 rfl) ?_
        refine q_get C kc6 hW 0 rfl 0 (by decide) fl_X6_10 rfl rfl dX6_loose_56 ?_
        refine lv_aload_n hx hb dX6_loose_59 rfl (lv_at hl 0 rfl) ?_
        refine q_get C kc6 hW 0 rfl 0 (by decide) fl_X6_10 rfl rfl dX6_loose_60 ?_
        refine q_getN C kc4 hW 1 rfl 4 (by decide) nf_X6_85 rfl rfl dX6_loose_63 ?_
        refine q_callN (rest := []) (n := 1) C (c_X4_pass l G (fun k => b (k + 1)) (fun k => b (k + 5)) n_people n_taped n_waiting n_z_9 n_kind n_em n_tmost n_tsize n_tsteps n_tstack n_gmost n_gsize n_gsteps n_gstack n_day n_near_9 n_shows_9 _ hv) nm_X6_145 kb_X4_pass rfl ⟨⟨rfl, rfl⟩, (Nat.le_of_ble_eq_true rfl), (Nat.le_of_ble_eq_true rfl)⟩ hW hS [1, 2, 3, 8, 9, 10, 11, 12, 13, 5, 6, 7] rfl rfl kc4 (q0 := 1) rfl hl.1 rfl (Nat.le_of_ble_eq_true rfl) dX6_loose_66 ⟨Nat.zero_le _, Nat.zero_le _⟩ (fun r_11 u_12 H locs hv hW hS => ?_)
        obtain ⟨n_tstack_11, n_gstack_11, n_day_11, n_near_11, n_shows_11⟩ := u_12
        obtain ⟨hv_b_11, hv⟩ := hv
        try dsimp only at hv
        have hW : wo G A (wd_X6_12 G b images n_people n_taped n_waiting n_z_9 n_kind n_em n_called_9 n_day_11 n_near_11 n_shows_11 n_tmost n_tsize n_tsteps n_tstack_11 n_gmost n_gsize n_gsteps n_gstack_11 errs) H := hW
        refine lv_pop hx hb dX6_loose_69 rfl ?_
        refine lv_iinc (v := (x2 + 1)) (lv' := [(2, .int (x2 + 1)), (0, .ref (b 0)), (1, .int p1)]) hx hb dX6_loose_70 hl (k := 2) rfl rfl (by decide) rfl (fun ls hl => ?_)
        refine lv_goto (tgt := 43) hx hb dX6_loose_73 (by decide) ?_
        exact ih (x2 + 1) n_z_9 n_called_9 n_day_11 n_near_11 n_shows_11 n_tstack_11 n_gstack_11 errs H locs ls hW hS (lv_sub hl [1, 2, 0] rfl) hv
  refine lv_iload_n hx hb dX6_loose_0 rfl (lv_at hl 1 rfl) ?_
  refine lv_iconst (v := 1) hx hb dX6_loose_1 kic_1 ?_
  refine lv_icmp_lt (tgt := 11) hx hb dX6_loose_2 (by decide) (fun c_1 => ?_) (fun c_1 => ?_)
  · replace hv := hv.1 c_1
    exact h_j_X6_loose_11 n_z n_called n_day n_near n_shows n_tstack n_gstack errs H locs ls hW hS (lv_sub hl [0] rfl) hv
  · replace hv := hv.2 c_1
    refine lv_iload_n hx hb dX6_loose_5 rfl (lv_at hl 1 rfl) ?_
    refine lv_bipush (v := 30) hx hb dX6_loose_6 kbp_30 ?_
    refine lv_icmp_le (tgt := 17) hx hb dX6_loose_8 (by decide) (fun c_4 => ?_) (fun c_4 => ?_)
    · replace hv := hv.1 c_4
      refine lv_iload_n hx hb dX6_loose_17 rfl (lv_at hl 1 rfl) ?_
      refine lv_sipush (v := 9999) hx hb dX6_loose_18 ksp_9999 ?_
      refine lv_aload_n hx hb dX6_loose_21 rfl (lv_at hl 0 rfl) ?_
      refine q_get C kc6 hW 0 rfl 0 (by decide) fl_X6_10 rfl rfl dX6_loose_22 ?_
      refine q_getN C kc4 hW 1 rfl 4 (by decide) nf_X6_85 rfl rfl dX6_loose_25 ?_
      refine q_getN C kc3 hW 5 rfl 2 (by decide) nf_X6_104 rfl rfl dX6_loose_28 ?_
      refine lv_isub hx hb dX6_loose_31 ?_
      refine lv_icmp_le (tgt := 41) hx hb dX6_loose_32 (by decide) (fun c_5 => ?_) (fun c_5 => ?_)
      · replace hv := hv.1 c_5
        refine lv_iconst (v := 0) hx hb dX6_loose_41 kic_0 ?_
        refine lv_istore_n (lv' := [(2, .int (0 : Int32)), (0, .ref (b 0)), (1, .int p1)]) hx hb dX6_loose_42 rfl hl (by decide) rfl (fun ls hl => ?_)
        obtain ⟨n_13, hv⟩ := hv
        exact h_l_X6_loose_43 n_13 (0 : Int32) n_z n_called n_day n_near n_shows n_tstack n_gstack errs H locs ls hW hS (lv_sub hl [1, 2, 0] rfl) hv
      · replace hv := hv.2 c_5
        refine lv_aload_n hx hb dX6_loose_35 rfl (lv_at hl 0 rfl) ?_
        refine lv_iconst (v := 3) hx hb dX6_loose_36 kic_3 ?_
        refine q_callV (rest := []) (n := 1) C (c_X6_error l G b images errs (3 : Int32) _ hv) ml_X6_64 kb_X6_error rfl ⟨⟨rfl, rfl⟩, (Nat.le_of_ble_eq_true rfl), (Nat.le_of_ble_eq_true rfl)⟩ hW hS [0, 14] rfl rfl kc6 (q0 := 0) rfl hl.1 rfl (Nat.le_of_ble_eq_true rfl) dX6_loose_37 ⟨Nat.zero_le _, Nat.zero_le _⟩ (fun r_14 u_15 H locs hv hW hS => ?_)
        obtain ⟨errs_14, rfl⟩ : ∃ z, z = u_15 := ⟨_, rfl⟩
        try dsimp only at hv
        have hW : wo G A (wd_X6_12 G b images n_people n_taped n_waiting n_z n_kind n_em n_called n_day n_near n_shows n_tmost n_tsize n_tsteps n_tstack n_gmost n_gsize n_gsteps n_gstack errs_14) H := hW
        exact ret (n_z, n_called, n_day, n_near, n_shows, n_tstack, n_gstack, errs_14) r_14 H locs ls _ rfl hW hS hv dX6_loose_40
    · replace hv := hv.2 c_4
      exact h_j_X6_loose_11 n_z n_called n_day n_near n_shows n_tstack n_gstack errs H locs ls hW hS (lv_sub hl [0] rfl) hv
set_option maxHeartbeats 4000000 in
set_option maxRecDepth 100000 in
theorem c_X6_seed (l : Launch) (G : Gt) (b : Nat → Nat) (images : Int32) (n_people : Int32) (n_taped : Int32) (n_waiting : Int32) (n_z : Int32) (p1 : Int32) (K : Int32 → Int32 → Prop) (hv : v_X6_seed p1 n_z K) : CI l G yX6_seed (.code yX6_seed cX6_seed 3 (some .int) :: wsG) (rmm 0 0) [.ref (b 0), .int p1] (wd_X6_13 G b images n_people n_taped n_waiting n_z) (S := Int32) (fun u => wd_X6_13 G b images n_people n_taped n_waiting u) (fun r u => K r u) := by
  refine ci_intro (by decide) rfl (fun _ => rfl) (Nat.le_of_ble_eq_true rfl) ?_
  intro p e s m args below meth c A H ls Q C hW hS hl ret
  have hx := C.1.1
  have hb := C.1.2.1
  generalize hls : ([] : List Loc) = locs at hS ⊢
  have hl : lv_has ls 3 [(0, .ref (b 0)), (1, .int p1)] := hl
  refine lv_aload_n hx hb dX6_seed_0 rfl (lv_at hl 0 rfl) ?_
  refine q_get C kc6 hW 0 rfl 0 (by decide) fl_X6_10 rfl rfl dX6_seed_1 ?_
  refine q_getN C kc4 hW 1 rfl 11 (by decide) nf_X6_156 rfl rfl dX6_seed_4 ?_
  refine lv_istore_n (lv' := [(2, .int n_z), (0, .ref (b 0)), (1, .int p1)]) hx hb dX6_seed_7 rfl hl (by decide) rfl (fun ls hl => ?_)
  refine lv_aload_n hx hb dX6_seed_8 rfl (lv_at hl 1 rfl) ?_
  refine q_get C kc6 hW 0 rfl 0 (by decide) fl_X6_10 rfl rfl dX6_seed_9 ?_
  refine lv_iload_n hx hb dX6_seed_12 rfl (lv_at hl 2 rfl) ?_
  refine q_putN C kc4 hW hS 1 rfl 11 (by decide) nf_X6_156 rfl rfl rfl rfl (Nat.le_of_ble_eq_true rfl) dX6_seed_13 (fun H locs hW hS => ?_)
  have hW : wo G A (wd_X6_13 G b images n_people n_taped n_waiting p1) H := hW
  refine lv_iload_n hx hb dX6_seed_16 rfl (lv_at hl 0 rfl) ?_
  exact ret (p1) n_z H locs ls _ rfl hW hS hv dX6_seed_17
set_option maxHeartbeats 4000000 in
set_option maxRecDepth 100000 in
theorem c_X6_think (l : Launch) (G : Gt) (b : Nat → Nat) (images : Int32) (n_people : Int32) (n_taped : Int32) (n_waiting : Int32) (n_z : Int32) (n_kind : Nat → Int32) (n_em : Nat → Int32) (n_day : Int32) (n_near : Nat → Int32) (n_shows : Nat → Int32) (n_tmost : Int32) (n_tsize : Int32) (n_tsteps : Nat → Int32) (n_tstack : Nat → Int32) (n_gmost : Int32) (n_gsize : Int32) (n_gsteps : Nat → Int32) (n_gstack : Nat → Int32) (t_day : Int32) (t_near : Nat → Int32) (t_shows : Nat → Int32) (p1 : Int32) (K : (Nat → Int32) → (Nat → Int32) → Int32 → (Nat → Int32) → (Nat → Int32) → Prop) (hv : v_X6_think p1 n_people n_kind n_em n_day n_near n_shows n_tmost n_tsize n_tsteps n_tstack n_gmost n_gsize n_gsteps n_gstack t_day t_near t_shows K) : CV l G yX6_think (.code yX6_think cX6_think 3 none :: wsG) (rmm 5 122) [.ref (b 0), .int p1] (wd_X6_14 G b images n_people n_taped n_waiting n_z n_kind n_em n_day n_near n_shows n_tmost n_tsize n_tsteps n_tstack n_gmost n_gsize n_gsteps n_gstack t_day t_near t_shows) (S := (Nat → Int32) × (Nat → Int32) × Int32 × (Nat → Int32) × (Nat → Int32)) (fun u => wd_X6_14 G b images n_people n_taped n_waiting n_z n_kind n_em n_day n_near n_shows n_tmost n_tsize n_tsteps u.1 n_gmost n_gsize n_gsteps u.2.1 u.2.2.1 u.2.2.2.1 u.2.2.2.2) (fun u => K u.1 u.2.1 u.2.2.1 u.2.2.2.1 u.2.2.2.2) := by
  refine cv_intro (by decide) rfl (fun _ => rfl) (Nat.le_of_ble_eq_true rfl) ?_
  intro p e s m args below meth c A H ls Q C hW hS hl ret
  have hx := C.1.1
  have hb := C.1.2.1
  generalize hls : ([] : List Loc) = locs at hS ⊢
  have hl : lv_has ls 3 [(0, .ref (b 0)), (1, .int p1)] := hl
  have h_l_X6_think_16 : ∀ (n : Nat), ∀ (x2 : Int32) (n_tstack : Nat → Int32) (n_gstack : Nat → Int32) (t_day : Int32) (t_near : Nat → Int32) (t_shows : Nat → Int32) (H : Heap) (locs : List Loc) (ls : Array Slot), wo G A (wd_X6_14 G b images n_people n_taped n_waiting n_z n_kind n_em n_day n_near n_shows n_tmost n_tsize n_tsteps n_tstack n_gmost n_gsize n_gsteps n_gstack t_day t_near t_shows) H → va_S A s.heap H locs → lv_has ls 3 [(0, .ref (b 0)), (1, .int p1), (2, .int x2)] → l_X6_think_16 p1 n_people n_kind n_em n_day n_near n_shows n_tmost n_tsize n_tsteps n_gmost n_gsize n_gsteps K n x2 n_tstack n_gstack t_day t_near t_shows → W p l e (rmm 5 122) s m args below meth c H locs 0 0 Q (F0 m 16 ls []) := by
    intro n
    induction n with
    | zero =>
      intro x2 n_tstack n_gstack t_day t_near t_shows H locs ls hW hS hl hv
      exact False.elim hv
    | succ n ih =>
      intro x2 n_tstack n_gstack t_day t_near t_shows H locs ls hW hS hl hv
      refine lv_iload_n hx hb dX6_think_16 rfl (lv_at hl 2 rfl) ?_
      refine lv_iload_n hx hb dX6_think_17 rfl (lv_at hl 1 rfl) ?_
      refine lv_icmp_ge (tgt := 39) hx hb dX6_think_18 (by decide) (fun c_3 => ?_) (fun c_3 => ?_)
      · replace hv := hv.1 c_3
        exact ret (n_tstack, n_gstack, t_day, t_near, t_shows) H locs ls _ hW hS hv dX6_think_39
      · replace hv := hv.2 c_3
        refine lv_aload_n hx hb dX6_think_21 rfl (lv_at hl 0 rfl) ?_
        refine q_get C kc6 hW 0 rfl 0 (by decide) fl_X6_10 rfl rfl dX6_think_22 ?_
        refine lv_aload_n hx hb dX6_think_25 rfl (lv_at hl 0 rfl) ?_
        refine q_get C kc6 hW 0 rfl 3 (by decide) fl_X6_22 rfl rfl dX6_think_26 ?_
        refine q_callN (rest := []) (n := 1) C (c_X4_pass l G (fun k => b (k + 1)) (fun k => b (k + 31)) n_people n_taped n_waiting n_z n_kind n_em n_tmost n_tsize n_tsteps n_tstack n_gmost n_gsize n_gsteps n_gstack t_day t_near t_shows _ hv) nm_X6_145 kb_X4_pass rfl ⟨⟨rfl, rfl⟩, (Nat.le_of_ble_eq_true rfl), (Nat.le_of_ble_eq_true rfl)⟩ hW hS [1, 2, 3, 7, 8, 9, 10, 11, 12, 13, 14, 15] rfl rfl kc4 (q0 := 1) rfl hl.1 rfl (Nat.le_of_ble_eq_true rfl) dX6_think_29 ⟨Nat.zero_le _, Nat.zero_le _⟩ (fun r_4 u_5 H locs hv hW hS => ?_)
        obtain ⟨n_tstack_4, n_gstack_4, t_day_4, t_near_4, t_shows_4⟩ := u_5
        obtain ⟨hv_b_4, hv⟩ := hv
        try dsimp only at hv
        have hW : wo G A (wd_X6_14 G b images n_people n_taped n_waiting n_z n_kind n_em n_day n_near n_shows n_tmost n_tsize n_tsteps n_tstack_4 n_gmost n_gsize n_gsteps n_gstack_4 t_day_4 t_near_4 t_shows_4) H := hW
        refine lv_pop hx hb dX6_think_32 rfl ?_
        refine lv_iinc (v := (x2 + 1)) (lv' := [(2, .int (x2 + 1)), (0, .ref (b 0)), (1, .int p1)]) hx hb dX6_think_33 hl (k := 2) rfl rfl (by decide) rfl (fun ls hl => ?_)
        refine lv_goto (tgt := 16) hx hb dX6_think_36 (by decide) ?_
        exact ih (x2 + 1) n_tstack_4 n_gstack_4 t_day_4 t_near_4 t_shows_4 H locs ls hW hS (lv_sub hl [1, 2, 0] rfl) hv
  refine lv_aload_n hx hb dX6_think_0 rfl (lv_at hl 0 rfl) ?_
  refine q_get C kc6 hW 0 rfl 3 (by decide) fl_X6_22 rfl rfl dX6_think_1 ?_
  refine lv_aload_n hx hb dX6_think_4 rfl (lv_at hl 0 rfl) ?_
  refine q_get C kc6 hW 0 rfl 0 (by decide) fl_X6_10 rfl rfl dX6_think_5 ?_
  refine q_getN C kc4 hW 1 rfl 4 (by decide) nf_X6_85 rfl rfl dX6_think_8 ?_
  refine q_callNv (rest := []) (n := 1) C (c_X3_copy l G (fun k => b (k + 31)) (fun k => b (k + 5)) t_day t_near t_shows n_day n_near n_shows _ hv) nm_X6_260 kb_X3_copy rfl ⟨⟨rfl, rfl⟩, (Nat.le_of_ble_eq_true rfl), (Nat.le_of_ble_eq_true rfl)⟩ hW hS [13, 14, 15, 4, 5, 6] rfl rfl kc3 (q0 := 13) rfl hl.1 rfl (Nat.le_of_ble_eq_true rfl) dX6_think_11 ⟨Nat.zero_le _, Nat.zero_le _⟩ (fun u_2 H locs hv hW hS => ?_)
  obtain ⟨t_day_1, t_near_1, t_shows_1⟩ := u_2
  try dsimp only at hv
  have hW : wo G A (wd_X6_14 G b images n_people n_taped n_waiting n_z n_kind n_em n_day n_near n_shows n_tmost n_tsize n_tsteps n_tstack n_gmost n_gsize n_gsteps n_gstack t_day_1 t_near_1 t_shows_1) H := hW
  refine lv_iconst (v := 0) hx hb dX6_think_14 kic_0 ?_
  refine lv_istore_n (lv' := [(2, .int (0 : Int32)), (0, .ref (b 0)), (1, .int p1)]) hx hb dX6_think_15 rfl hl (by decide) rfl (fun ls hl => ?_)
  obtain ⟨n_6, hv⟩ := hv
  exact h_l_X6_think_16 n_6 (0 : Int32) n_tstack n_gstack t_day_1 t_near_1 t_shows_1 H locs ls hW hS (lv_sub hl [1, 2, 0] rfl) hv
set_option maxHeartbeats 4000000 in
set_option maxRecDepth 100000 in
theorem c_X6_nearest (l : Launch) (G : Gt) (b : Nat → Nat) (images : Int32) (n_people : Int32) (n_taped : Int32) (n_waiting : Int32) (n_z : Int32) (n_kind : Nat → Int32) (n_em : Nat → Int32) (n_day : Int32) (n_near : Nat → Int32) (n_shows : Nat → Int32) (n_tmost : Int32) (n_tsize : Int32) (n_tsteps : Nat → Int32) (n_tstack : Nat → Int32) (n_gmost : Int32) (n_gsize : Int32) (n_gsteps : Nat → Int32) (n_gstack : Nat → Int32) (t_day : Int32) (t_near : Nat → Int32) (t_shows : Nat → Int32) (errs : Nat → Int32) (p1 : Int32) (K : Int32 → (Nat → Int32) → (Nat → Int32) → Int32 → (Nat → Int32) → (Nat → Int32) → (Nat → Int32) → Prop) (hv : v_X6_nearest p1 n_people n_kind n_em n_day n_near n_shows n_tmost n_tsize n_tsteps n_tstack n_gmost n_gsize n_gsteps n_gstack t_day t_near t_shows errs K) : CI l G yX6_nearest (.code yX6_nearest cX6_nearest 2 (some .int) :: wsG) (rmm 6 144) [.ref (b 0), .int p1] (wd_X6_15 G b images n_people n_taped n_waiting n_z n_kind n_em n_day n_near n_shows n_tmost n_tsize n_tsteps n_tstack n_gmost n_gsize n_gsteps n_gstack t_day t_near t_shows errs) (S := (Nat → Int32) × (Nat → Int32) × Int32 × (Nat → Int32) × (Nat → Int32) × (Nat → Int32)) (fun u => wd_X6_15 G b images n_people n_taped n_waiting n_z n_kind n_em n_day n_near n_shows n_tmost n_tsize n_tsteps u.1 n_gmost n_gsize n_gsteps u.2.1 u.2.2.1 u.2.2.2.1 u.2.2.2.2.1 u.2.2.2.2.2) (fun r u => K r u.1 u.2.1 u.2.2.1 u.2.2.2.1 u.2.2.2.2.1 u.2.2.2.2.2) := by
  refine ci_intro (by decide) rfl (fun _ => rfl) (Nat.le_of_ble_eq_true rfl) ?_
  intro p e s m args below meth c A H ls Q C hW hS hl ret
  have hx := C.1.1
  have hb := C.1.2.1
  generalize hls : ([] : List Loc) = locs at hS ⊢
  have hl : lv_has ls 2 [(0, .ref (b 0)), (1, .int p1)] := hl
  refine lv_iload_n hx hb dX6_nearest_0 rfl (lv_at hl 1 rfl) ?_
  refine lv_bipush (v := 100) hx hb dX6_nearest_1 kbp_100 ?_
  refine q_callS (rest := []) (n := 2) C (c_X6_isWithin l G p1 (100 : Int32) _ hv) ml_X6_97 kb_X6_isWithin rfl ⟨⟨rfl, rfl⟩, (Nat.le_of_ble_eq_true rfl), (Nat.le_of_ble_eq_true rfl)⟩ hW hS hl.1 rfl (Nat.le_of_ble_eq_true rfl) dX6_nearest_3 ⟨Nat.zero_le _, Nat.zero_le _⟩ (fun r_1 u_2 H locs hv hW hS => ?_)
  obtain ⟨hv_b_1, hv⟩ := hv
  try dsimp only at hv
  refine lv_if_ne (tgt := 15) hx hb dX6_nearest_6 (by decide) (fun c_3 => ?_) (fun c_3 => ?_)
  · replace hv := hv.1 c_3
    refine lv_aload_n hx hb dX6_nearest_15 rfl (lv_at hl 0 rfl) ?_
    refine q_get C kc6 hW 0 rfl 0 (by decide) fl_X6_10 rfl rfl dX6_nearest_16 ?_
    refine q_getN C kc4 hW 1 rfl 0 (by decide) nf_X6_68 rfl rfl dX6_nearest_19 ?_
    refine lv_if_ne (tgt := 31) hx hb dX6_nearest_22 (by decide) (fun c_4 => ?_) (fun c_4 => ?_)
    · replace hv := hv.1 c_4
      refine lv_aload_n hx hb dX6_nearest_31 rfl (lv_at hl 0 rfl) ?_
      refine lv_iload_n hx hb dX6_nearest_32 rfl (lv_at hl 1 rfl) ?_
      refine q_callVv (rest := []) (n := 1) C (c_X6_think l G b images n_people n_taped n_waiting n_z n_kind n_em n_day n_near n_shows n_tmost n_tsize n_tsteps n_tstack n_gmost n_gsize n_gsteps n_gstack t_day t_near t_shows p1 _ hv) ml_X6_159 kb_X6_think rfl ⟨⟨rfl, rfl⟩, (Nat.le_of_ble_eq_true rfl), (Nat.le_of_ble_eq_true rfl)⟩ hW hS [0, 1, 2, 3, 4, 5, 6, 7, 8, 9, 10, 11, 12, 13, 14, 15] rfl rfl kc6 (q0 := 0) rfl hl.1 rfl (Nat.le_of_ble_eq_true rfl) dX6_nearest_33 ⟨Nat.zero_le _, Nat.zero_le _⟩ (fun u_6 H locs hv hW hS => ?_)
      obtain ⟨n_tstack_5, n_gstack_5, t_day_5, t_near_5, t_shows_5⟩ := u_6
      try dsimp only at hv
      have hW : wo G A (wd_X6_15 G b images n_people n_taped n_waiting n_z n_kind n_em n_day n_near n_shows n_tmost n_tsize n_tsteps n_tstack_5 n_gmost n_gsize n_gsteps n_gstack_5 t_day_5 t_near_5 t_shows_5 errs) H := hW
      refine lv_aload_n hx hb dX6_nearest_36 rfl (lv_at hl 0 rfl) ?_
      refine q_get C kc6 hW 0 rfl 0 (by decide) fl_X6_10 rfl rfl dX6_nearest_37 ?_
      refine lv_aload_n hx hb dX6_nearest_40 rfl (lv_at hl 0 rfl) ?_
      refine q_get C kc6 hW 0 rfl 3 (by decide) fl_X6_22 rfl rfl dX6_nearest_41 ?_
      refine q_callN (rest := []) (n := 1) C (c_X4_nearestIn l G (fun k => b (k + 1)) (fun k => b (k + 31)) n_people n_taped n_waiting n_z t_day_5 t_near_5 _ hv) nm_X6_152 kb_X4_nearestIn rfl ⟨⟨rfl, rfl⟩, (Nat.le_of_ble_eq_true rfl), (Nat.le_of_ble_eq_true rfl)⟩ hW hS [1, 13, 14] rfl rfl kc4 (q0 := 1) rfl hl.1 rfl (Nat.le_of_ble_eq_true rfl) dX6_nearest_44 ⟨Nat.zero_le _, Nat.zero_le _⟩ (fun r_7 u_8 H locs hv hW hS => ?_)
      try dsimp only at hv
      exact ret (n_tstack_5, n_gstack_5, t_day_5, t_near_5, t_shows_5, errs) r_7 H locs ls _ rfl hW hS hv dX6_nearest_47
    · replace hv := hv.2 c_4
      refine lv_aload_n hx hb dX6_nearest_25 rfl (lv_at hl 0 rfl) ?_
      refine lv_iconst (v := 3) hx hb dX6_nearest_26 kic_3 ?_
      refine q_callV (rest := []) (n := 1) C (c_X6_error l G b images errs (3 : Int32) _ hv) ml_X6_64 kb_X6_error rfl ⟨⟨rfl, rfl⟩, (Nat.le_of_ble_eq_true rfl), (Nat.le_of_ble_eq_true rfl)⟩ hW hS [0, 16] rfl rfl kc6 (q0 := 0) rfl hl.1 rfl (Nat.le_of_ble_eq_true rfl) dX6_nearest_27 ⟨Nat.zero_le _, Nat.zero_le _⟩ (fun r_9 u_10 H locs hv hW hS => ?_)
      obtain ⟨errs_9, rfl⟩ : ∃ z, z = u_10 := ⟨_, rfl⟩
      try dsimp only at hv
      have hW : wo G A (wd_X6_15 G b images n_people n_taped n_waiting n_z n_kind n_em n_day n_near n_shows n_tmost n_tsize n_tsteps n_tstack n_gmost n_gsize n_gsteps n_gstack t_day t_near t_shows errs_9) H := hW
      exact ret (n_tstack, n_gstack, t_day, t_near, t_shows, errs_9) r_9 H locs ls _ rfl hW hS hv dX6_nearest_30
  · replace hv := hv.2 c_3
    refine lv_aload_n hx hb dX6_nearest_9 rfl (lv_at hl 0 rfl) ?_
    refine lv_iconst (v := 1) hx hb dX6_nearest_10 kic_1 ?_
    refine q_callV (rest := []) (n := 1) C (c_X6_error l G b images errs (1 : Int32) _ hv) ml_X6_64 kb_X6_error rfl ⟨⟨rfl, rfl⟩, (Nat.le_of_ble_eq_true rfl), (Nat.le_of_ble_eq_true rfl)⟩ hW hS [0, 16] rfl rfl kc6 (q0 := 0) rfl hl.1 rfl (Nat.le_of_ble_eq_true rfl) dX6_nearest_11 ⟨Nat.zero_le _, Nat.zero_le _⟩ (fun r_11 u_12 H locs hv hW hS => ?_)
    obtain ⟨errs_11, rfl⟩ : ∃ z, z = u_12 := ⟨_, rfl⟩
    try dsimp only at hv
    have hW : wo G A (wd_X6_15 G b images n_people n_taped n_waiting n_z n_kind n_em n_day n_near n_shows n_tmost n_tsize n_tsteps n_tstack n_gmost n_gsize n_gsteps n_gstack t_day t_near t_shows errs_11) H := hW
    exact ret (n_tstack, n_gstack, t_day, t_near, t_shows, errs_11) r_11 H locs ls _ rfl hW hS hv dX6_nearest_14
set_option maxHeartbeats 4000000 in
set_option maxRecDepth 100000 in
theorem c_X6_then (l : Launch) (G : Gt) (b : Nat → Nat) (images : Int32) (n_people : Int32) (n_taped : Int32) (n_waiting : Int32) (n_z : Int32) (n_kind : Nat → Int32) (n_em : Nat → Int32) (n_day : Int32) (n_near : Nat → Int32) (n_shows : Nat → Int32) (n_tmost : Int32) (n_tsize : Int32) (n_tsteps : Nat → Int32) (n_tstack : Nat → Int32) (n_gmost : Int32) (n_gsize : Int32) (n_gsteps : Nat → Int32) (n_gstack : Nat → Int32) (t_day : Int32) (t_near : Nat → Int32) (t_shows : Nat → Int32) (errs : Nat → Int32) (p1 : Int32) (p2 : Int32) (p3 : Int32) (K : Int32 → (Nat → Int32) → (Nat → Int32) → Int32 → (Nat → Int32) → (Nat → Int32) → (Nat → Int32) → Prop) (hv : v_X6_then p1 p2 p3 n_people n_kind n_em n_day n_near n_shows n_tmost n_tsize n_tsteps n_tstack n_gmost n_gsize n_gsteps n_gstack t_day t_near t_shows errs K) : CI l G yX6_then (.code yX6_then cX6_then 4 (some .int) :: wsG) (rmm 6 144) [.ref (b 0), .int p1, .int p2, .int p3] (wd_X6_15 G b images n_people n_taped n_waiting n_z n_kind n_em n_day n_near n_shows n_tmost n_tsize n_tsteps n_tstack n_gmost n_gsize n_gsteps n_gstack t_day t_near t_shows errs) (S := (Nat → Int32) × (Nat → Int32) × Int32 × (Nat → Int32) × (Nat → Int32) × (Nat → Int32)) (fun u => wd_X6_15 G b images n_people n_taped n_waiting n_z n_kind n_em n_day n_near n_shows n_tmost n_tsize n_tsteps u.1 n_gmost n_gsize n_gsteps u.2.1 u.2.2.1 u.2.2.2.1 u.2.2.2.2.1 u.2.2.2.2.2) (fun r u => K r u.1 u.2.1 u.2.2.1 u.2.2.2.1 u.2.2.2.2.1 u.2.2.2.2.2) := by
  refine ci_intro (by decide) rfl (fun _ => rfl) (Nat.le_of_ble_eq_true rfl) ?_
  intro p e s m args below meth c A H ls Q C hW hS hl ret
  have hx := C.1.1
  have hb := C.1.2.1
  generalize hls : ([] : List Loc) = locs at hS ⊢
  have hl : lv_has ls 4 [(0, .ref (b 0)), (1, .int p1), (2, .int p2), (3, .int p3)] := hl
  have h_j_X6_then_28 : ∀ (n_tstack : Nat → Int32) (n_gstack : Nat → Int32) (t_day : Int32) (t_near : Nat → Int32) (t_shows : Nat → Int32) (errs : Nat → Int32) (H : Heap) (locs : List Loc) (ls : Array Slot), wo G A (wd_X6_15 G b images n_people n_taped n_waiting n_z n_kind n_em n_day n_near n_shows n_tmost n_tsize n_tsteps n_tstack n_gmost n_gsize n_gsteps n_gstack t_day t_near t_shows errs) H → va_S A s.heap H locs → lv_has ls 4 [(0, .ref (b 0))] → j_X6_then_28 p1 p2 p3 n_people n_kind n_em n_day n_near n_shows n_tmost n_tsize n_tsteps n_gmost n_gsize n_gsteps K n_tstack n_gstack t_day t_near t_shows errs → W p l e (rmm 6 144) s m args below meth c H locs 0 0 Q (F0 m 28 ls []) := by
    intro n_tstack n_gstack t_day t_near t_shows errs H locs ls hW hS hl hv
    refine lv_aload_n hx hb dX6_then_28 rfl (lv_at hl 0 rfl) ?_
    refine lv_iconst (v := 1) hx hb dX6_then_29 kic_1 ?_
    refine q_callV (rest := []) (n := 1) C (c_X6_error l G b images errs (1 : Int32) _ hv) ml_X6_64 kb_X6_error rfl ⟨⟨rfl, rfl⟩, (Nat.le_of_ble_eq_true rfl), (Nat.le_of_ble_eq_true rfl)⟩ hW hS [0, 16] rfl rfl kc6 (q0 := 0) rfl hl.1 rfl (Nat.le_of_ble_eq_true rfl) dX6_then_30 ⟨Nat.zero_le _, Nat.zero_le _⟩ (fun r_4 u_5 H locs hv hW hS => ?_)
    obtain ⟨errs_4, rfl⟩ : ∃ z, z = u_5 := ⟨_, rfl⟩
    try dsimp only at hv
    have hW : wo G A (wd_X6_15 G b images n_people n_taped n_waiting n_z n_kind n_em n_day n_near n_shows n_tmost n_tsize n_tsteps n_tstack n_gmost n_gsize n_gsteps n_gstack t_day t_near t_shows errs_4) H := hW
    exact ret (n_tstack, n_gstack, t_day, t_near, t_shows, errs_4) r_4 H locs ls _ rfl hW hS hv dX6_then_33
  refine lv_aload_n hx hb dX6_then_0 rfl (lv_at hl 0 rfl) ?_
  refine q_get C kc6 hW 0 rfl 0 (by decide) fl_X6_10 rfl rfl dX6_then_1 ?_
  refine lv_iload_n hx hb dX6_then_4 rfl (lv_at hl 1 rfl) ?_
  refine q_callN (rest := []) (n := 1) C (c_X4_has l G (fun k => b (k + 1)) n_people n_taped n_waiting n_z p1 _ hv) nm_X6_76 kb_X4_has rfl ⟨⟨rfl, rfl⟩, (Nat.le_of_ble_eq_true rfl), (Nat.le_of_ble_eq_true rfl)⟩ hW hS [1] rfl rfl kc4 (q0 := 1) rfl hl.1 rfl (Nat.le_of_ble_eq_true rfl) dX6_then_5 ⟨Nat.zero_le _, Nat.zero_le _⟩ (fun r_1 u_2 H locs hv hW hS => ?_)
  obtain ⟨hv_b_1, hv⟩ := hv
  try dsimp only at hv
  refine lv_if_eq (tgt := 28) hx hb dX6_then_8 (by decide) (fun c_3 => ?_) (fun c_3 => ?_)
  · replace hv := hv.1 c_3
    exact h_j_X6_then_28 n_tstack n_gstack t_day t_near t_shows errs H locs ls hW hS (lv_sub hl [0] rfl) hv
  · replace hv := hv.2 c_3
    refine lv_iload_n hx hb dX6_then_11 rfl (lv_at hl 2 rfl) ?_
    refine lv_bipush (v := 100) hx hb dX6_then_12 kbp_100 ?_
    refine q_callS (rest := []) (n := 2) C (c_X6_isWithin l G p2 (100 : Int32) _ hv) ml_X6_97 kb_X6_isWithin rfl ⟨⟨rfl, rfl⟩, (Nat.le_of_ble_eq_true rfl), (Nat.le_of_ble_eq_true rfl)⟩ hW hS hl.1 rfl (Nat.le_of_ble_eq_true rfl) dX6_then_14 ⟨Nat.zero_le _, Nat.zero_le _⟩ (fun r_6 u_7 H locs hv hW hS => ?_)
    obtain ⟨hv_b_6, hv⟩ := hv
    try dsimp only at hv
    refine lv_if_eq (tgt := 28) hx hb dX6_then_17 (by decide) (fun c_8 => ?_) (fun c_8 => ?_)
    · replace hv := hv.1 c_8
      exact h_j_X6_then_28 n_tstack n_gstack t_day t_near t_shows errs H locs ls hW hS (lv_sub hl [0] rfl) hv
    · replace hv := hv.2 c_8
      refine lv_iload_n hx hb dX6_then_20 rfl (lv_at hl 3 rfl) ?_
      refine lv_iconst (v := 1) hx hb dX6_then_21 kic_1 ?_
      refine q_callS (rest := []) (n := 2) C (c_X6_isWithin l G p3 (1 : Int32) _ hv) ml_X6_97 kb_X6_isWithin rfl ⟨⟨rfl, rfl⟩, (Nat.le_of_ble_eq_true rfl), (Nat.le_of_ble_eq_true rfl)⟩ hW hS hl.1 rfl (Nat.le_of_ble_eq_true rfl) dX6_then_22 ⟨Nat.zero_le _, Nat.zero_le _⟩ (fun r_9 u_10 H locs hv hW hS => ?_)
      obtain ⟨hv_b_9, hv⟩ := hv
      try dsimp only at hv
      refine lv_if_ne (tgt := 34) hx hb dX6_then_25 (by decide) (fun c_11 => ?_) (fun c_11 => ?_)
      · replace hv := hv.1 c_11
        refine lv_aload_n hx hb dX6_then_34 rfl (lv_at hl 0 rfl) ?_
        refine lv_iload_n hx hb dX6_then_35 rfl (lv_at hl 2 rfl) ?_
        refine q_callVv (rest := []) (n := 1) C (c_X6_think l G b images n_people n_taped n_waiting n_z n_kind n_em n_day n_near n_shows n_tmost n_tsize n_tsteps n_tstack n_gmost n_gsize n_gsteps n_gstack t_day t_near t_shows p2 _ hv) ml_X6_159 kb_X6_think rfl ⟨⟨rfl, rfl⟩, (Nat.le_of_ble_eq_true rfl), (Nat.le_of_ble_eq_true rfl)⟩ hW hS [0, 1, 2, 3, 4, 5, 6, 7, 8, 9, 10, 11, 12, 13, 14, 15] rfl rfl kc6 (q0 := 0) rfl hl.1 rfl (Nat.le_of_ble_eq_true rfl) dX6_then_36 ⟨Nat.zero_le _, Nat.zero_le _⟩ (fun u_13 H locs hv hW hS => ?_)
        obtain ⟨n_tstack_12, n_gstack_12, t_day_12, t_near_12, t_shows_12⟩ := u_13
        try dsimp only at hv
        have hW : wo G A (wd_X6_15 G b images n_people n_taped n_waiting n_z n_kind n_em n_day n_near n_shows n_tmost n_tsize n_tsteps n_tstack_12 n_gmost n_gsize n_gsteps n_gstack_12 t_day_12 t_near_12 t_shows_12 errs) H := hW
        refine lv_iload_n hx hb dX6_then_39 rfl (lv_at hl 3 rfl) ?_
        refine lv_if_ne (tgt := 55) hx hb dX6_then_40 (by decide) (fun c_14 => ?_) (fun c_14 => ?_)
        · replace hv := hv.1 c_14
          refine lv_aload_n hx hb dX6_then_55 rfl (lv_at hl 0 rfl) ?_
          refine q_get C kc6 hW 0 rfl 3 (by decide) fl_X6_22 rfl rfl dX6_then_56 ?_
          refine q_getN C kc3 hW 13 rfl 1 (by decide) nf_X6_91 rfl rfl dX6_then_59 ?_
          refine lv_iload_n hx hb dX6_then_62 rfl (lv_at hl 1 rfl) ?_
          obtain ⟨h_15, hv⟩ := hv
          refine q_iald C hW 15 rfl h_15 dX6_then_63 ?_
          exact ret (n_tstack_12, n_gstack_12, t_day_12, t_near_12, t_shows_12, errs) (t_shows_12 p1.toNatClampNeg) H locs ls _ rfl hW hS hv dX6_then_64
        · replace hv := hv.2 c_14
          refine lv_aload_n hx hb dX6_then_43 rfl (lv_at hl 0 rfl) ?_
          refine q_get C kc6 hW 0 rfl 3 (by decide) fl_X6_22 rfl rfl dX6_then_44 ?_
          refine q_getN C kc3 hW 13 rfl 0 (by decide) nf_X6_88 rfl rfl dX6_then_47 ?_
          refine lv_iload_n hx hb dX6_then_50 rfl (lv_at hl 1 rfl) ?_
          obtain ⟨h_16, hv⟩ := hv
          refine q_iald C hW 14 rfl h_16 dX6_then_51 ?_
          refine lv_goto (tgt := 64) hx hb dX6_then_52 (by decide) ?_
          exact ret (n_tstack_12, n_gstack_12, t_day_12, t_near_12, t_shows_12, errs) (t_near_12 p1.toNatClampNeg) H locs ls _ rfl hW hS hv dX6_then_64
      · replace hv := hv.2 c_11
        exact h_j_X6_then_28 n_tstack n_gstack t_day t_near t_shows errs H locs ls hW hS (lv_sub hl [0] rfl) hv
