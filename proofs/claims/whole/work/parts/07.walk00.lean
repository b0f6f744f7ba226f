set_option maxHeartbeats 4000000 in
set_option maxRecDepth 100000 in
theorem c_X7_error (l : Launch) (G : Gt) (b : Nat → Nat) (m_images : Int32) (m_at_ : Int32) (m_open_ : Int32) (m_steps : Int32) (m_use_ : Int32) (m_traced : Int32) (m_speaks : Int32) (m_isParted : Int32) (m_errors : Nat → Int32) (p1 : Int32) (K : Int32 → (Nat → Int32) → Prop) (hv : v_X7_error p1 m_errors K) : CI l G yX7_error (.code yX7_error cX7_error 2 (some .int) :: wsG) (rmm 0 0) [.ref (b 0), .int p1] (wd_X7_0 G b m_images m_at_ m_open_ m_steps m_use_ m_traced m_speaks m_isParted m_errors) (S := (Nat → Int32)) (fun u => wd_X7_0 G b m_images m_at_ m_open_ m_steps m_use_ m_traced m_speaks m_isParted u) (fun r u => K r u) := by
  refine ci_intro (by decide) rfl (fun _ => rfl) (Nat.le_of_ble_eq_true rfl) ?_
  intro p e s m args below meth c A H ls Q C hW hS hl ret
  have hx := C.1.1
  have hb := C.1.2.1
  generalize hls : ([] : List Loc) = locs at hS ⊢
  have hl : lv_has ls 2 [(0, .ref (b 0)), (1, .int p1)] := hl
  refine lv_aload_n hx hb dX7_error_0 rfl (lv_at hl 0 rfl) ?_
  refine q_get C kc7 hW 0 rfl 4 (by decide) fl_X7_19 rfl rfl dX7_error_1 ?_
  refine lv_iload_n hx hb dX7_error_4 rfl (lv_at hl 1 rfl) ?_
  refine lv_dup2_11 hx hb dX7_error_5 rfl rfl ?_
  obtain ⟨h_1, hv⟩ := hv
  refine q_iald C hW 1 rfl h_1 dX7_error_6 ?_
  refine lv_iconst (v := 1) hx hb dX7_error_7 kic_1 ?_
  refine lv_iadd hx hb dX7_error_8 ?_
  obtain ⟨h_2, hv⟩ := hv
  refine q_iast C hW hS 1 rfl h_2 dX7_error_9 (fun H locs hW hS => ?_)
  have hW : wo G A (wd_X7_0 G b m_images m_at_ m_open_ m_steps m_use_ m_traced m_speaks m_isParted (upd m_errors p1.toNatClampNeg ((m_errors p1.toNatClampNeg) + (1 : Int32)))) H := hW
  refine lv_ldc (v := (-1000000000)) hx hb C.1.2.2.2.1 (C.hts kc_X7_52) dX7_error_10 ?_
  refine lv_iload_n hx hb dX7_error_12 rfl (lv_at hl 1 rfl) ?_
  refine lv_isub hx hb dX7_error_13 ?_
  exact ret ((upd m_errors p1.toNatClampNeg ((m_errors p1.toNatClampNeg) + (1 : Int32)))) ((-1000000000 : Int32) - p1) H locs ls _ rfl hW hS hv dX7_error_14
set_option maxHeartbeats 4000000 in
set_option maxRecDepth 100000 in
theorem c_X7_in (l : Launch) (G : Gt) (p1 : Int32) (p2 : Int32) (p3 : Int32) (K : Int32 → Prop) (hv : v_X7_in p1 p2 p3 K) : CI l G yX7_in (.code yX7_in cX7_in 3 (some .boolean) :: wsG) (rmm 0 0) [.int p1, .int p2, .int p3] [] (S := Unit) (fun _ => []) (fun r u => (r = 0 ∨ r = 1) ∧ K r) := by
  refine ci_intro (by decide) rfl (fun _ => rfl) (Nat.le_of_ble_eq_true rfl) ?_
  intro p e s m args below meth c A H ls Q C hW hS hl ret
  have hx := C.1.1
  have hb := C.1.2.1
  generalize hls : ([] : List Loc) = locs at hS ⊢
  have hl : lv_has ls 3 [(0, .int p1), (1, .int p2), (2, .int p3)] := hl
  refine lv_iload_n hx hb dX7_in_0 rfl (lv_at hl 0 rfl) ?_
  refine lv_iload_n hx hb dX7_in_1 rfl (lv_at hl 1 rfl) ?_
  refine lv_icmp_lt (tgt := 14) hx hb dX7_in_2 (by decide) (fun c_1 => ?_) (fun c_1 => ?_)
  · replace hv := hv.1 c_1
    refine lv_iconst (v := 0) hx hb dX7_in_14 kic_0 ?_
    exact ret () (0 : Int32) H locs ls _ (bl_narrow (Or.inl rfl)) hW hS ⟨(Or.inl rfl), hv⟩ dX7_in_15
  · replace hv := hv.2 c_1
    refine lv_iload_n hx hb dX7_in_5 rfl (lv_at hl 0 rfl) ?_
    refine lv_iload_n hx hb dX7_in_6 rfl (lv_at hl 2 rfl) ?_
    refine lv_icmp_gt (tgt := 14) hx hb dX7_in_7 (by decide) (fun c_2 => ?_) (fun c_2 => ?_)
    · replace hv := hv.1 c_2
      refine lv_iconst (v := 0) hx hb dX7_in_14 kic_0 ?_
      exact ret () (0 : Int32) H locs ls _ (bl_narrow (Or.inl rfl)) hW hS ⟨(Or.inl rfl), hv⟩ dX7_in_15
    · replace hv := hv.2 c_2
      refine lv_iconst (v := 1) hx hb dX7_in_10 kic_1 ?_
      refine lv_goto (tgt := 15) hx hb dX7_in_11 (by decide) ?_
      exact ret () (1 : Int32) H locs ls _ (bl_narrow (Or.inr rfl)) hW hS ⟨(Or.inr rfl), hv⟩ dX7_in_15
set_option maxHeartbeats 4000000 in
set_option maxRecDepth 100000 in
theorem c_X7_held (l : Launch) (G : Gt) (p1 : Int32) (p2 : Int32) (p3 : Int32) (K : Int32 → Prop) (hv : v_X7_held p1 p2 p3 K) : CI l G yX7_held (.code yX7_held cX7_held 3 (some .int) :: wsG) (rmm 0 0) [.int p1, .int p2, .int p3] [] (S := Unit) (fun _ => []) (fun r u => K r) := by
  refine ci_intro (by decide) rfl (fun _ => rfl) (Nat.le_of_ble_eq_true rfl) ?_
  intro p e s m args below meth c A H ls Q C hW hS hl ret
  have hx := C.1.1
  have hb := C.1.2.1
  generalize hls : ([] : List Loc) = locs at hS ⊢
  have hl : lv_has ls 3 [(0, .int p1), (1, .int p2), (2, .int p3)] := hl
  refine lv_iload_n hx hb dX7_held_0 rfl (lv_at hl 0 rfl) ?_
  refine lv_iload_n hx hb dX7_held_1 rfl (lv_at hl 1 rfl) ?_
  refine lv_icmp_ge (tgt := 9) hx hb dX7_held_2 (by decide) (fun c_1 => ?_) (fun c_1 => ?_)
  · replace hv := hv.1 c_1
    refine lv_iload_n hx hb dX7_held_9 rfl (lv_at hl 0 rfl) ?_
    refine lv_iload_n hx hb dX7_held_10 rfl (lv_at hl 2 rfl) ?_
    refine lv_icmp_le (tgt := 18) hx hb dX7_held_11 (by decide) (fun c_2 => ?_) (fun c_2 => ?_)
    · replace hv := hv.1 c_2
      refine lv_iload_n hx hb dX7_held_18 rfl (lv_at hl 0 rfl) ?_
      exact ret () p1 H locs ls _ rfl hW hS hv dX7_held_19
    · replace hv := hv.2 c_2
      refine lv_iload_n hx hb dX7_held_14 rfl (lv_at hl 2 rfl) ?_
      refine lv_goto (tgt := 19) hx hb dX7_held_15 (by decide) ?_
      exact ret () p3 H locs ls _ rfl hW hS hv dX7_held_19
  · replace hv := hv.2 c_1
    refine lv_iload_n hx hb dX7_held_5 rfl (lv_at hl 1 rfl) ?_
    refine lv_goto (tgt := 19) hx hb dX7_held_6 (by decide) ?_
    exact ret () p2 H locs ls _ rfl hW hS hv dX7_held_19
set_option maxHeartbeats 4000000 in
set_option maxRecDepth 100000 in
theorem c_X7_copyAll (l : Launch) (G : Gt) (f0 : Nat) (h0 : Nat) (f_a : Nat → Int32) (h_a : Nat → Int32) (K : (Nat → Int32) → Prop) (hv : v_X7_copyAll f_a h_a K) : CV l G yX7_copyAll (.code yX7_copyAll cX7_copyAll 3 none :: wsG) (rmm 0 0) [.ref f0, .ref h0] (wd_X7_1 G f0 h0 f_a h_a) (S := (Nat → Int32)) (fun u => wd_X7_1 G f0 h0 f_a u) (fun u => K u) := by
  refine cv_intro (by decide) rfl (fun _ => rfl) (Nat.le_of_ble_eq_true rfl) ?_
  intro p e s m args below meth c A H ls Q C hW hS hl ret
  have hx := C.1.1
  have hb := C.1.2.1
  generalize hls : ([] : List Loc) = locs at hS ⊢
  have hl : lv_has ls 3 [(0, .ref f0), (1, .ref h0)] := hl
  have h_l_X7_copyAll_2 : ∀ (n : Nat), ∀ (x2 : Int32) (h_a : Nat → Int32) (H : Heap) (locs : List Loc) (ls : Array Slot), wo G A (wd_X7_1 G f0 h0 f_a h_a) H → va_S A s.heap H locs → lv_has ls 3 [(0, .ref f0), (1, .ref h0), (2, .int x2)] → l_X7_copyAll_2 f_a K n x2 h_a → W p l e (rmm 0 0) s m args below meth c H locs 0 0 Q (F0 m 2 ls []) := by
    intro n
    induction n with
    | zero =>
      intro x2 h_a H locs ls hW hS hl hv
      exact False.elim hv
    | succ n ih =>
      intro x2 h_a H locs ls hW hS hl hv
      refine lv_iload_n hx hb dX7_copyAll_2 rfl (lv_at hl 2 rfl) ?_
      refine lv_sipush (v := 382) hx hb dX7_copyAll_3 ksp_382 ?_
      refine lv_icmp_ge (tgt := 21) hx hb dX7_copyAll_6 (by decide) (fun c_1 => ?_) (fun c_1 => ?_)
      · replace hv := hv.1 c_1
        exact ret (h_a) H locs ls _ hW hS hv dX7_copyAll_21
      · replace hv := hv.2 c_1
        refine lv_aload_n hx hb dX7_copyAll_9 rfl (lv_at hl 1 rfl) ?_
        refine lv_iload_n hx hb dX7_copyAll_10 rfl (lv_at hl 2 rfl) ?_
        refine lv_aload_n hx hb dX7_copyAll_11 rfl (lv_at hl 0 rfl) ?_
        refine lv_iload_n hx hb dX7_copyAll_12 rfl (lv_at hl 2 rfl) ?_
        obtain ⟨h_2, hv⟩ := hv
        refine q_iald C hW 0 rfl h_2 dX7_copyAll_13 ?_
        obtain ⟨h_3, hv⟩ := hv
        refine q_iast C hW hS 1 rfl h_3 dX7_copyAll_14 (fun H locs hW hS => ?_)
        have hW : wo G A (wd_X7_1 G f0 h0 f_a (upd h_a x2.toNatClampNeg (f_a x2.toNatClampNeg))) H := hW
        refine lv_iinc (v := (x2 + 1)) (lv' := [(2, .int (x2 + 1)), (0, .ref f0), (1, .ref h0)]) hx hb dX7_copyAll_15 hl (k := 2) rfl rfl (by decide) rfl (fun ls hl => ?_)
        refine lv_goto (tgt := 2) hx hb dX7_copyAll_18 (by decide) ?_
        exact ih (x2 + 1) (upd h_a x2.toNatClampNeg (f_a x2.toNatClampNeg)) H locs ls hW hS (lv_sub hl [1, 2, 0] rfl) hv
  refine lv_iconst (v := 0) hx hb dX7_copyAll_0 kic_0 ?_
  refine lv_istore_n (lv' := [(2, .int (0 : Int32)), (0, .ref f0), (1, .ref h0)]) hx hb dX7_copyAll_1 rfl hl (by decide) rfl (fun ls hl => ?_)
  obtain ⟨n_4, hv⟩ := hv
  exact h_l_X7_copyAll_2 n_4 (0 : Int32) h_a H locs ls hW hS (lv_sub hl [1, 2, 0] rfl) hv
set_option maxHeartbeats 4000000 in
set_option maxRecDepth 100000 in
theorem c_X7_layDown (l : Launch) (G : Gt) (b : Nat → Nat) (m_images : Int32) (m_at_ : Int32) (m_open_ : Int32) (m_steps : Int32) (m_use_ : Int32) (m_traced : Int32) (m_speaks : Int32) (m_isParted : Int32) (m_s : Nat → Int32) (m_laid : Nat → Int32) (K : (Nat → Int32) → Prop) (hv : v_X7_layDown m_s m_laid K) : CV l G yX7_layDown (.code yX7_layDown cX7_layDown 2 none :: wsG) (rmm 0 0) [.ref (b 0)] (wd_X7_2 G b m_images m_at_ m_open_ m_steps m_use_ m_traced m_speaks m_isParted m_s m_laid) (S := (Nat → Int32)) (fun u => wd_X7_2 G b m_images m_at_ m_open_ m_steps m_use_ m_traced m_speaks m_isParted m_s u) (fun u => K u) := by
  refine cv_intro (by decide) rfl (fun _ => rfl) (Nat.le_of_ble_eq_true rfl) ?_
  intro p e s m args below meth c A H ls Q C hW hS hl ret
  have hx := C.1.1
  have hb := C.1.2.1
  generalize hls : ([] : List Loc) = locs at hS ⊢
  have hl : lv_has ls 2 [(0, .ref (b 0))] := hl
  have h_l_X7_layDown_2 : ∀ (n : Nat), ∀ (x1 : Int32) (m_laid : Nat → Int32) (H : Heap) (locs : List Loc) (ls : Array Slot), wo G A (wd_X7_2 G b m_images m_at_ m_open_ m_steps m_use_ m_traced m_speaks m_isParted m_s m_laid) H → va_S A s.heap H locs → lv_has ls 2 [(0, .ref (b 0)), (1, .int x1)] → l_X7_layDown_2 m_s K n x1 m_laid → W p l e (rmm 0 0) s m args below meth c H locs 0 0 Q (F0 m 2 ls []) := by
    intro n
    induction n with
    | zero =>
      intro x1 m_laid H locs ls hW hS hl hv
      exact False.elim hv
    | succ n ih =>
      intro x1 m_laid H locs ls hW hS hl hv
      refine lv_iload_n hx hb dX7_layDown_2 rfl (lv_at hl 1 rfl) ?_
      refine lv_bipush (v := 48) hx hb dX7_layDown_3 kbp_48 ?_
      refine lv_icmp_ge (tgt := 26) hx hb dX7_layDown_5 (by decide) (fun c_1 => ?_) (fun c_1 => ?_)
      · replace hv := hv.1 c_1
        exact ret (m_laid) H locs ls _ hW hS hv dX7_layDown_26
      · replace hv := hv.2 c_1
        refine lv_aload_n hx hb dX7_layDown_8 rfl (lv_at hl 0 rfl) ?_
        refine q_get C kc7 hW 0 rfl 2 (by decide) fl_X7_16 rfl rfl dX7_layDown_9 ?_
        refine lv_iload_n hx hb dX7_layDown_12 rfl (lv_at hl 1 rfl) ?_
        refine lv_aload_n hx hb dX7_layDown_13 rfl (lv_at hl 0 rfl) ?_
        refine q_get C kc7 hW 0 rfl 0 (by decide) fl_X7_7 rfl rfl dX7_layDown_14 ?_
        refine lv_iload_n hx hb dX7_layDown_17 rfl (lv_at hl 1 rfl) ?_
        obtain ⟨h_2, hv⟩ := hv
        refine q_iald C hW 1 rfl h_2 dX7_layDown_18 ?_
        obtain ⟨h_3, hv⟩ := hv
        refine q_iast C hW hS 2 rfl h_3 dX7_layDown_19 (fun H locs hW hS => ?_)
        have hW : wo G A (wd_X7_2 G b m_images m_at_ m_open_ m_steps m_use_ m_traced m_speaks m_isParted m_s (upd m_laid x1.toNatClampNeg (m_s x1.toNatClampNeg))) H := hW
        refine lv_iinc (v := (x1 + 1)) (lv' := [(1, .int (x1 + 1)), (0, .ref (b 0))]) hx hb dX7_layDown_20 hl (k := 1) rfl rfl (by decide) rfl (fun ls hl => ?_)
        refine lv_goto (tgt := 2) hx hb dX7_layDown_23 (by decide) ?_
        exact ih (x1 + 1) (upd m_laid x1.toNatClampNeg (m_s x1.toNatClampNeg)) H locs ls hW hS (lv_sub hl [1, 0] rfl) hv
  refine lv_iconst (v := 0) hx hb dX7_layDown_0 kic_0 ?_
  refine lv_istore_n (lv' := [(1, .int (0 : Int32)), (0, .ref (b 0))]) hx hb dX7_layDown_1 rfl hl (by decide) rfl (fun ls hl => ?_)
  obtain ⟨n_4, hv⟩ := hv
  exact h_l_X7_layDown_2 n_4 (0 : Int32) m_laid H locs ls hW hS (lv_sub hl [1, 0] rfl) hv
set_option maxHeartbeats 4000000 in
set_option maxRecDepth 100000 in
theorem c_X7_layBack (l : Launch) (G : Gt) (b : Nat → Nat) (m_images : Int32) (m_at_ : Int32) (m_open_ : Int32) (m_steps : Int32) (m_use_ : Int32) (m_traced : Int32) (m_speaks : Int32) (m_isParted : Int32) (m_s : Nat → Int32) (m_laid : Nat → Int32) (K : (Nat → Int32) → Prop) (hv : v_X7_layBack m_s m_laid K) : CV l G yX7_layBack (.code yX7_layBack cX7_layBack 2 none :: wsG) (rmm 0 0) [.ref (b 0)] (wd_X7_2 G b m_images m_at_ m_open_ m_steps m_use_ m_traced m_speaks m_isParted m_s m_laid) (S := (Nat → Int32)) (fun u => wd_X7_2 G b m_images m_at_ m_open_ m_steps m_use_ m_traced m_speaks m_isParted u m_laid) (fun u => K u) := by
  refine cv_intro (by decide) rfl (fun _ => rfl) (Nat.le_of_ble_eq_true rfl) ?_
  intro p e s m args below meth c A H ls Q C hW hS hl ret
  have hx := C.1.1
  have hb := C.1.2.1
  generalize hls : ([] : List Loc) = locs at hS ⊢
  have hl : lv_has ls 2 [(0, .ref (b 0))] := hl
  have h_l_X7_layBack_2 : ∀ (n : Nat), ∀ (x1 : Int32) (m_s : Nat → Int32) (H : Heap) (locs : List Loc) (ls : Array Slot), wo G A (wd_X7_2 G b m_images m_at_ m_open_ m_steps m_use_ m_traced m_speaks m_isParted m_s m_laid) H → va_S A s.heap H locs → lv_has ls 2 [(0, .ref (b 0)), (1, .int x1)] → l_X7_layBack_2 m_laid K n x1 m_s → W p l e (rmm 0 0) s m args below meth c H locs 0 0 Q (F0 m 2 ls []) := by
    intro n
    induction n with
    | zero =>
      intro x1 m_s H locs ls hW hS hl hv
      exact False.elim hv
    | succ n ih =>
      intro x1 m_s H locs ls hW hS hl hv
      refine lv_iload_n hx hb dX7_layBack_2 rfl (lv_at hl 1 rfl) ?_
      refine lv_bipush (v := 48) hx hb dX7_layBack_3 kbp_48 ?_
      refine lv_icmp_ge (tgt := 26) hx hb dX7_layBack_5 (by decide) (fun c_1 => ?_) (fun c_1 => ?_)
      · replace hv := hv.1 c_1
        exact ret (m_s) H locs ls _ hW hS hv dX7_layBack_26
      · replace hv := hv.2 c_1
        refine lv_aload_n hx hb dX7_layBack_8 rfl (lv_at hl 0 rfl) ?_
        refine q_get C kc7 hW 0 rfl 0 (by decide) fl_X7_7 rfl rfl dX7_layBack_9 ?_
        refine lv_iload_n hx hb dX7_layBack_12 rfl (lv_at hl 1 rfl) ?_
        refine lv_aload_n hx hb dX7_layBack_13 rfl (lv_at hl 0 rfl) ?_
        refine q_get C kc7 hW 0 rfl 2 (by decide) fl_X7_16 rfl rfl dX7_layBack_14 ?_
        refine lv_iload_n hx hb dX7_layBack_17 rfl (lv_at hl 1 rfl) ?_
        obtain ⟨h_2, hv⟩ := hv
        refine q_iald C hW 2 rfl h_2 dX7_layBack_18 ?_
        obtain ⟨h_3, hv⟩ := hv
        refine q_iast C hW hS 1 rfl h_3 dX7_layBack_19 (fun H locs hW hS => ?_)
        have hW : wo G A (wd_X7_2 G b m_images m_at_ m_open_ m_steps m_use_ m_traced m_speaks m_isParted (upd m_s x1.toNatClampNeg (m_laid x1.toNatClampNeg)) m_laid) H := hW
        refine lv_iinc (v := (x1 + 1)) (lv' := [(1, .int (x1 + 1)), (0, .ref (b 0))]) hx hb dX7_layBack_20 hl (k := 1) rfl rfl (by decide) rfl (fun ls hl => ?_)
        refine lv_goto (tgt := 2) hx hb dX7_layBack_23 (by decide) ?_
        exact ih (x1 + 1) (upd m_s x1.toNatClampNeg (m_laid x1.toNatClampNeg)) H locs ls hW hS (lv_sub hl [1, 0] rfl) hv
  refine lv_iconst (v := 0) hx hb dX7_layBack_0 kic_0 ?_
  refine lv_istore_n (lv' := [(1, .int (0 : Int32)), (0, .ref (b 0))]) hx hb dX7_layBack_1 rfl hl (by decide) rfl (fun ls hl => ?_)
  obtain ⟨n_4, hv⟩ := hv
  exact h_l_X7_layBack_2 n_4 (0 : Int32) m_s H locs ls hW hS (lv_sub hl [1, 0] rfl) hv
set_option maxHeartbeats 4000000 in
set_option maxRecDepth 100000 in
theorem c_X7_isPerson (l : Launch) (G : Gt) (b : Nat → Nat) (m_images : Int32) (m_at_ : Int32) (m_open_ : Int32) (m_steps : Int32) (m_use_ : Int32) (m_traced : Int32) (m_speaks : Int32) (m_isParted : Int32) (m_s : Nat → Int32) (p1 : Int32) (K : Int32 → Prop) (hv : v_X7_isPerson p1 m_s K) : CI l G yX7_isPerson (.code yX7_isPerson cX7_isPerson 2 (some .boolean) :: wsG) (rmm 1 22) [.ref (b 0), .int p1] (wd_X7_3 G b m_images m_at_ m_open_ m_steps m_use_ m_traced m_speaks m_isParted m_s) (S := Unit) (fun u => wd_X7_3 G b m_images m_at_ m_open_ m_steps m_use_ m_traced m_speaks m_isParted m_s) (fun r u => (r = 0 ∨ r = 1) ∧ K r) := by
  refine ci_intro (by decide) rfl (fun _ => rfl) (Nat.le_of_ble_eq_true rfl) ?_
  intro p e s m args below meth c A H ls Q C hW hS hl ret
  have hx := C.1.1
  have hb := C.1.2.1
  generalize hls : ([] : List Loc) = locs at hS ⊢
  have hl : lv_has ls 2 [(0, .ref (b 0)), (1, .int p1)] := hl
  refine lv_iload_n hx hb dX7_isPerson_0 rfl (lv_at hl 1 rfl) ?_
  refine lv_iconst (v := 0) hx hb dX7_isPerson_1 kic_0 ?_
  refine lv_aload_n hx hb dX7_isPerson_2 rfl (lv_at hl 0 rfl) ?_
  refine q_get C kc7 hW 0 rfl 0 (by decide) fl_X7_7 rfl rfl dX7_isPerson_3 ?_
  refine lv_iconst (v := 4) hx hb dX7_isPerson_6 kic_4 ?_
  obtain ⟨h_1, hv⟩ := hv
  refine q_iald C hW 1 rfl h_1 dX7_isPerson_7 ?_
  refine lv_iconst (v := 1) hx hb dX7_isPerson_8 kic_1 ?_
  refine lv_isub hx hb dX7_isPerson_9 ?_
  refine q_callS (rest := []) (n := 3) C (c_X7_in l G p1 (0 : Int32) ((m_s (4 : Int32).toNatClampNeg) - (1 : Int32)) _ hv) ml_X7_53 kb_X7_in rfl ⟨⟨rfl, rfl⟩, (Nat.le_of_ble_eq_true rfl), (Nat.le_of_ble_eq_true rfl)⟩ hW hS hl.1 rfl (Nat.le_of_ble_eq_true rfl) dX7_isPerson_10 ⟨Nat.zero_le _, Nat.zero_le _⟩ (fun r_2 u_3 H locs hv hW hS => ?_)
  obtain ⟨hv_b_2, hv⟩ := hv
  try dsimp only at hv
  exact ret () r_2 H locs ls _ (bl_narrow hv_b_2) hW hS ⟨hv_b_2, hv⟩ dX7_isPerson_13
set_option maxHeartbeats 4000000 in
set_option maxRecDepth 100000 in
theorem c_X7_areTwo (l : Launch) (G : Gt) (b : Nat → Nat) (m_images : Int32) (m_at_ : Int32) (m_open_ : Int32) (m_steps : Int32) (m_use_ : Int32) (m_traced : Int32) (m_speaks : Int32) (m_isParted : Int32) (m_s : Nat → Int32) (p1 : Int32) (p2 : Int32) (K : Int32 → Prop) (hv : v_X7_areTwo p1 p2 m_s K) : CI l G yX7_areTwo (.code yX7_areTwo cX7_areTwo 3 (some .boolean) :: wsG) (rmm 2 43) [.ref (b 0), .int p1, .int p2] (wd_X7_3 G b m_images m_at_ m_open_ m_steps m_use_ m_traced m_speaks m_isParted m_s) (S := Unit) (fun u => wd_X7_3 G b m_images m_at_ m_open_ m_steps m_use_ m_traced m_speaks m_isParted m_s) (fun r u => (r = 0 ∨ r = 1) ∧ K r) := by
  refine ci_intro (by decide) rfl (fun _ => rfl) (Nat.le_of_ble_eq_true rfl) ?_
  intro p e s m args below meth c A H ls Q C hW hS hl ret
  have hx := C.1.1
  have hb := C.1.2.1
  generalize hls : ([] : List Loc) = locs at hS ⊢
  have hl : lv_has ls 3 [(0, .ref (b 0)), (1, .int p1), (2, .int p2)] := hl
  refine lv_aload_n hx hb dX7_areTwo_0 rfl (lv_at hl 0 rfl) ?_
  refine lv_iload_n hx hb dX7_areTwo_1 rfl (lv_at hl 1 rfl) ?_
  refine q_callV (rest := []) (n := 1) C (c_X7_isPerson l G b m_images m_at_ m_open_ m_steps m_use_ m_traced m_speaks m_isParted m_s p1 _ hv) ml_X7_57 kb_X7_isPerson rfl ⟨⟨rfl, rfl⟩, (Nat.le_of_ble_eq_true rfl), (Nat.le_of_ble_eq_true rfl)⟩ hW hS [0, 1] rfl rfl kc7 (q0 := 0) rfl hl.1 rfl (Nat.le_of_ble_eq_true rfl) dX7_areTwo_2 ⟨Nat.zero_le _, Nat.zero_le _⟩ (fun r_1 u_2 H locs hv hW hS => ?_)
  obtain ⟨hv_b_1, hv⟩ := hv
  try dsimp only at hv
  refine lv_if_eq (tgt := 25) hx hb dX7_areTwo_5 (by decide) (fun c_3 => ?_) (fun c_3 => ?_)
  · replace hv := hv.1 c_3
    refine lv_iconst (v := 0) hx hb dX7_areTwo_25 kic_0 ?_
    exact ret () (0 : Int32) H locs ls _ (bl_narrow (Or.inl rfl)) hW hS ⟨(Or.inl rfl), hv⟩ dX7_areTwo_26
  · replace hv := hv.2 c_3
    refine lv_aload_n hx hb dX7_areTwo_8 rfl (lv_at hl 0 rfl) ?_
    refine lv_iload_n hx hb dX7_areTwo_9 rfl (lv_at hl 2 rfl) ?_
    refine q_callV (rest := []) (n := 1) C (c_X7_isPerson l G b m_images m_at_ m_open_ m_steps m_use_ m_traced m_speaks m_isParted m_s p2 _ hv) ml_X7_57 kb_X7_isPerson rfl ⟨⟨rfl, rfl⟩, (Nat.le_of_ble_eq_true rfl), (Nat.le_of_ble_eq_true rfl)⟩ hW hS [0, 1] rfl rfl kc7 (q0 := 0) rfl hl.1 rfl (Nat.le_of_ble_eq_true rfl) dX7_areTwo_10 ⟨Nat.zero_le _, Nat.zero_le _⟩ (fun r_4 u_5 H locs hv hW hS => ?_)
    obtain ⟨hv_b_4, hv⟩ := hv
    try dsimp only at hv
    refine lv_if_eq (tgt := 25) hx hb dX7_areTwo_13 (by decide) (fun c_6 => ?_) (fun c_6 => ?_)
    · replace hv := hv.1 c_6
      refine lv_iconst (v := 0) hx hb dX7_areTwo_25 kic_0 ?_
      exact ret () (0 : Int32) H locs ls _ (bl_narrow (Or.inl rfl)) hW hS ⟨(Or.inl rfl), hv⟩ dX7_areTwo_26
    · replace hv := hv.2 c_6
      refine lv_iload_n hx hb dX7_areTwo_16 rfl (lv_at hl 1 rfl) ?_
      refine lv_iload_n hx hb dX7_areTwo_17 rfl (lv_at hl 2 rfl) ?_
      refine lv_icmp_eq (tgt := 25) hx hb dX7_areTwo_18 (by decide) (fun c_7 => ?_) (fun c_7 => ?_)
      · replace hv := hv.1 c_7
        refine lv_iconst (v := 0) hx hb dX7_areTwo_25 kic_0 ?_
        exact ret () (0 : Int32) H locs ls _ (bl_narrow (Or.inl rfl)) hW hS ⟨(Or.inl rfl), hv⟩ dX7_areTwo_26
      · replace hv := hv.2 c_7
        refine lv_iconst (v := 1) hx hb dX7_areTwo_21 kic_1 ?_
        refine lv_goto (tgt := 26) hx hb dX7_areTwo_22 (by decide) ?_
        exact ret () (1 : Int32) H locs ls _ (bl_narrow (Or.inr rfl)) hW hS ⟨(Or.inr rfl), hv⟩ dX7_areTwo_26
set_option maxHeartbeats 4000000 in
set_option maxRecDepth 100000 in
theorem c_X7_its (l : Launch) (G : Gt) (b : Nat → Nat) (m_images : Int32) (m_at_ : Int32) (m_open_ : Int32) (m_steps : Int32) (m_use_ : Int32) (m_traced : Int32) (m_speaks : Int32) (m_isParted : Int32) (m_s : Nat → Int32) (p1 : Int32) (p2 : Int32) (K : Int32 → Prop) (hv : v_X7_its p1 p2 m_s K) : CI l G yX7_its (.code yX7_its cX7_its 3 (some .int) :: wsG) (rmm 0 0) [.ref (b 0), .int p1, .int p2] (wd_X7_3 G b m_images m_at_ m_open_ m_steps m_use_ m_traced m_speaks m_isParted m_s) (S := Unit) (fun u => wd_X7_3 G b m_images m_at_ m_open_ m_steps m_use_ m_traced m_speaks m_isParted m_s) (fun r u => K r) := by
  refine ci_intro (by decide) rfl (fun _ => rfl) (Nat.le_of_ble_eq_true rfl) ?_
  intro p e s m args below meth c A H ls Q C hW hS hl ret
  have hx := C.1.1
  have hb := C.1.2.1
  generalize hls : ([] : List Loc) = locs at hS ⊢
  have hl : lv_has ls 3 [(0, .ref (b 0)), (1, .int p1), (2, .int p2)] := hl
  refine lv_aload_n hx hb dX7_its_0 rfl (lv_at hl 0 rfl) ?_
  refine q_get C kc7 hW 0 rfl 0 (by decide) fl_X7_7 rfl rfl dX7_its_1 ?_
  refine lv_bipush (v := 8) hx hb dX7_its_4 kbp_8 ?_
  refine lv_iconst (v := 5) hx hb dX7_its_6 kic_5 ?_
  refine lv_iload_n hx hb dX7_its_7 rfl (lv_at hl 1 rfl) ?_
  refine lv_imul hx hb dX7_its_8 ?_
  refine lv_iadd hx hb dX7_its_9 ?_
  refine lv_iload_n hx hb dX7_its_10 rfl (lv_at hl 2 rfl) ?_
  refine lv_iadd hx hb dX7_its_11 ?_
  obtain ⟨h_1, hv⟩ := hv
  refine q_iald C hW 1 rfl h_1 dX7_its_12 ?_
  exact ret () (m_s (((8 : Int32) + ((5 : Int32) * p1)) + p2).toNatClampNeg) H locs ls _ rfl hW hS hv dX7_its_13
set_option maxHeartbeats 4000000 in
set_option maxRecDepth 100000 in
theorem c_X7_lays1 (l : Launch) (G : Gt) (b : Nat → Nat) (m_images : Int32) (m_at_ : Int32) (m_open_ : Int32) (m_steps : Int32) (m_use_ : Int32) (m_traced : Int32) (m_speaks : Int32) (m_isParted : Int32) (m_s : Nat → Int32) (p1 : Int32) (p2 : Int32) (p3 : Int32) (K : (Nat → Int32) → Prop) (hv : v_X7_lays1 p1 p2 p3 m_s K) : CV l G yX7_lays1 (.code yX7_lays1 cX7_lays1 4 none :: wsG) (rmm 0 0) [.ref (b 0), .int p1, .int p2, .int p3] (wd_X7_3 G b m_images m_at_ m_open_ m_steps m_use_ m_traced m_speaks m_isParted m_s) (S := (Nat → Int32)) (fun u => wd_X7_3 G b m_images m_at_ m_open_ m_steps m_use_ m_traced m_speaks m_isParted u) (fun u => K u) := by
  refine cv_intro (by decide) rfl (fun _ => rfl) (Nat.le_of_ble_eq_true rfl) ?_
  intro p e s m args below meth c A H ls Q C hW hS hl ret
  have hx := C.1.1
  have hb := C.1.2.1
  generalize hls : ([] : List Loc) = locs at hS ⊢
  have hl : lv_has ls 4 [(0, .ref (b 0)), (1, .int p1), (2, .int p2), (3, .int p3)] := hl
  refine lv_aload_n hx hb dX7_lays1_0 rfl (lv_at hl 0 rfl) ?_
  refine q_get C kc7 hW 0 rfl 0 (by decide) fl_X7_7 rfl rfl dX7_lays1_1 ?_
  refine lv_bipush (v := 8) hx hb dX7_lays1_4 kbp_8 ?_
  refine lv_iconst (v := 5) hx hb dX7_lays1_6 kic_5 ?_
  refine lv_iload_n hx hb dX7_lays1_7 rfl (lv_at hl 1 rfl) ?_
  refine lv_imul hx hb dX7_lays1_8 ?_
  refine lv_iadd hx hb dX7_lays1_9 ?_
  refine lv_iload_n hx hb dX7_lays1_10 rfl (lv_at hl 2 rfl) ?_
  refine lv_iadd hx hb dX7_lays1_11 ?_
  refine lv_iload_n hx hb dX7_lays1_12 rfl (lv_at hl 3 rfl) ?_
  obtain ⟨h_1, hv⟩ := hv
  refine q_iast C hW hS 1 rfl h_1 dX7_lays1_13 (fun H locs hW hS => ?_)
  have hW : wo G A (wd_X7_3 G b m_images m_at_ m_open_ m_steps m_use_ m_traced m_speaks m_isParted (upd m_s (((8 : Int32) + ((5 : Int32) * p1)) + p2).toNatClampNeg p3)) H := hW
  exact ret ((upd m_s (((8 : Int32) + ((5 : Int32) * p1)) + p2).toNatClampNeg p3)) H locs ls _ hW hS hv dX7_lays1_14
set_option maxHeartbeats 4000000 in
set_option maxRecDepth 100000 in
theorem c_X7_change1 (l : Launch) (G : Gt) (b : Nat → Nat) (m_images : Int32) (m_at_ : Int32) (m_open_ : Int32) (m_steps : Int32) (m_use_ : Int32) (m_traced : Int32) (m_speaks : Int32) (m_isParted : Int32) (m_s : Nat → Int32) (p1 : Int32) (p2 : Int32) (K : Int32 → (Nat → Int32) → Prop) (hv : v_X7_change1 p1 p2 m_s K) : CI l G yX7_change1 (.code yX7_change1 cX7_change1 4 (some .int) :: wsG) (rmm 0 0) [.ref (b 0), .int p1, .int p2] (wd_X7_3 G b m_images m_at_ m_open_ m_steps m_use_ m_traced m_speaks m_isParted m_s) (S := (Nat → Int32)) (fun u => wd_X7_3 G b m_images m_at_ m_open_ m_steps m_use_ m_traced m_speaks m_isParted u) (fun r u => K r u) := by
  refine ci_intro (by decide) rfl (fun _ => rfl) (Nat.le_of_ble_eq_true rfl) ?_
  intro p e s m args below meth c A H ls Q C hW hS hl ret
  have hx := C.1.1
  have hb := C.1.2.1
  generalize hls : ([] : List Loc) = locs at hS ⊢
  have hl : lv_has ls 4 [(0, .ref (b 0)), (1, .int p1), (2, .int p2)] := hl
  refine lv_aload_n hx hb dX7_change1_0 rfl (lv_at hl 0 rfl) ?_
  refine q_get C kc7 hW 0 rfl 0 (by decide) fl_X7_7 rfl rfl dX7_change1_1 ?_
  refine lv_iload_n hx hb dX7_change1_4 rfl (lv_at hl 1 rfl) ?_
  obtain ⟨h_1, hv⟩ := hv
  refine q_iald C hW 1 rfl h_1 dX7_change1_5 ?_
  refine lv_istore_n (lv' := [(3, .int (m_s p1.toNatClampNeg)), (0, .ref (b 0)), (1, .int p1), (2, .int p2)]) hx hb dX7_change1_6 rfl hl (by decide) rfl (fun ls hl => ?_)
  refine lv_aload_n hx hb dX7_change1_7 rfl (lv_at hl 1 rfl) ?_
  refine q_get C kc7 hW 0 rfl 0 (by decide) fl_X7_7 rfl rfl dX7_change1_8 ?_
  refine lv_iload_n hx hb dX7_change1_11 rfl (lv_at hl 2 rfl) ?_
  refine lv_iload_n hx hb dX7_change1_12 rfl (lv_at hl 3 rfl) ?_
  obtain ⟨h_2, hv⟩ := hv
  refine q_iast C hW hS 1 rfl h_2 dX7_change1_13 (fun H locs hW hS => ?_)
  have hW : wo G A (wd_X7_3 G b m_images m_at_ m_open_ m_steps m_use_ m_traced m_speaks m_isParted (upd m_s p1.toNatClampNeg p2)) H := hW
  refine lv_iload_n hx hb dX7_change1_14 rfl (lv_at hl 0 rfl) ?_
  exact ret ((upd m_s p1.toNatClampNeg p2)) (m_s p1.toNatClampNeg) H locs ls _ rfl hW hS hv dX7_change1_15
set_option maxHeartbeats 4000000 in
set_option maxRecDepth 100000 in
theorem c_X7_feed (l : Launch) (G : Gt) (b : Nat → Nat) (m_images : Int32) (m_at_ : Int32) (m_open_ : Int32) (m_steps : Int32) (m_use_ : Int32) (m_traced : Int32) (m_speaks : Int32) (m_isParted : Int32) (m_s : Nat → Int32) (m_errors : Nat → Int32) (p1 : Int64) (p2 : Int32) (K : Int32 → (Nat → Int32) → (Nat → Int32) → Prop) (hv : v_X7_feed p1 p2 m_s m_errors K) : CI l G yX7_feed (.code yX7_feed cX7_feed 5 (some .int) :: wsG) (rmm 1 22) [.ref (b 0), .long p1, .int p2] (wd_X7_4 G b m_images m_at_ m_open_ m_steps m_use_ m_traced m_speaks m_isParted m_s m_errors) (S := (Nat → Int32) × (Nat → Int32)) (fun u => wd_X7_4 G b m_images m_at_ m_open_ m_steps m_use_ m_traced m_speaks m_isParted u.1 u.2) (fun r u => K r u.1 u.2) := by
  refine ci_intro (by decide) rfl (fun _ => rfl) (Nat.le_of_ble_eq_true rfl) ?_
  intro p e s m args below meth c A H ls Q C hW hS hl ret
  have hx := C.1.1
  have hb := C.1.2.1
  generalize hls : ([] : List Loc) = locs at hS ⊢
  have hl : lv_has ls 5 [(0, .ref (b 0)), (1, .long p1), (3, .int p2)] := hl
  have h_l_X7_feed_38 : ∀ (n : Nat), ∀ (x4 : Int32) (m_s : Nat → Int32) (m_errors : Nat → Int32) (H : Heap) (locs : List Loc) (ls : Array Slot), wo G A (wd_X7_4 G b m_images m_at_ m_open_ m_steps m_use_ m_traced m_speaks m_isParted m_s m_errors) H → va_S A s.heap H locs → lv_has ls 5 [(0, .ref (b 0)), (1, .long p1), (3, .int p2), (4, .int x4)] → l_X7_feed_38 p1 p2 K n x4 m_s m_errors → W p l e (rmm 1 22) s m args below meth c H locs 0 0 Q (F0 m 38 ls []) := by
    intro n
    induction n with
    | zero =>
      intro x4 m_s m_errors H locs ls hW hS hl hv
      exact False.elim hv
    | succ n ih =>
      intro x4 m_s m_errors H locs ls hW hS hl hv
      refine lv_iload hx hb dX7_feed_38 (lv_at hl 3 rfl) ?_
      refine lv_iload_n hx hb dX7_feed_40 rfl (lv_at hl 2 rfl) ?_
      refine lv_icmp_ge (tgt := 87) hx hb dX7_feed_41 (by decide) (fun c_6 => ?_) (fun c_6 => ?_)
      · replace hv := hv.1 c_6
        refine lv_aload_n hx hb dX7_feed_87 rfl (lv_at hl 0 rfl) ?_
        refine q_get C kc7 hW 0 rfl 0 (by decide) fl_X7_7 rfl rfl dX7_feed_88 ?_
        refine lv_iconst (v := 2) hx hb dX7_feed_91 kic_2 ?_
        obtain ⟨h_7, hv⟩ := hv
        refine q_iald C hW 1 rfl h_7 dX7_feed_92 ?_
        exact ret (m_s, m_errors) (m_s (2 : Int32).toNatClampNeg) H locs ls _ rfl hW hS hv dX7_feed_93
      · replace hv := hv.2 c_6
        refine lv_aload_n hx hb dX7_feed_44 rfl (lv_at hl 0 rfl) ?_
        refine q_get C kc7 hW 0 rfl 0 (by decide) fl_X7_7 rfl rfl dX7_feed_45 ?_
        refine lv_sipush (v := 298) hx hb dX7_feed_48 ksp_298 ?_
        refine lv_aload_n hx hb dX7_feed_51 rfl (lv_at hl 0 rfl) ?_
        refine q_get C kc7 hW 0 rfl 0 (by decide) fl_X7_7 rfl rfl dX7_feed_52 ?_
        refine lv_iconst (v := 2) hx hb dX7_feed_55 kic_2 ?_
        obtain ⟨h_8, hv⟩ := hv
        refine q_iald C hW 1 rfl h_8 dX7_feed_56 ?_
        refine lv_iadd hx hb dX7_feed_57 ?_
        refine lv_lload_n hx hb dX7_feed_58 rfl (lv_at hl 1 rfl) ?_
        refine lv_bipush (v := 8) hx hb dX7_feed_59 kbp_8 ?_
        refine lv_iload hx hb dX7_feed_61 (lv_at hl 3 rfl) ?_
        refine lv_imul hx hb dX7_feed_63 ?_
        refine lv_lshr hx hb dX7_feed_64 rfl ?_
        refine lv_ldc2 (v := 255) hx hb C.1.2.2.2.1 (C.hts kl_X7_65) dX7_feed_65 ?_
        refine lv_land hx hb dX7_feed_68 ?_
        refine lv_l2i hx hb dX7_feed_69 rfl ?_
        obtain ⟨h_9, hv⟩ := hv
        refine q_iast C hW hS 1 rfl h_9 dX7_feed_70 (fun H locs hW hS => ?_)
        have hW : wo G A (wd_X7_4 G b m_images m_at_ m_open_ m_steps m_use_ m_traced m_speaks m_isParted (upd m_s ((298 : Int32) + (m_s (2 : Int32).toNatClampNeg)).toNatClampNeg (((p1 >>> (((8 : Int32) * x4).toInt64 &&& 63)) &&& (255 : Int64)).toInt32)) m_errors) H := hW
        refine lv_aload_n hx hb dX7_feed_71 rfl (lv_at hl 0 rfl) ?_
        refine q_get C kc7 hW 0 rfl 0 (by decide) fl_X7_7 rfl rfl dX7_feed_72 ?_
        refine lv_iconst (v := 2) hx hb dX7_feed_75 kic_2 ?_
        refine lv_dup2_11 hx hb dX7_feed_76 rfl rfl ?_
        obtain ⟨h_10, hv⟩ := hv
        refine q_iald C hW 1 rfl h_10 dX7_feed_77 ?_
        refine lv_iconst (v := 1) hx hb dX7_feed_78 kic_1 ?_
        refine lv_iadd hx hb dX7_feed_79 ?_
        obtain ⟨h_11, hv⟩ := hv
        refine q_iast C hW hS 1 rfl h_11 dX7_feed_80 (fun H locs hW hS => ?_)
        have hW : wo G A (wd_X7_4 G b m_images m_at_ m_open_ m_steps m_use_ m_traced m_speaks m_isParted (upd (upd m_s ((298 : Int32) + (m_s (2 : Int32).toNatClampNeg)).toNatClampNeg (((p1 >>> (((8 : Int32) * x4).toInt64 &&& 63)) &&& (255 : Int64)).toInt32)) (2 : Int32).toNatClampNeg (((upd m_s ((298 : Int32) + (m_s (2 : Int32).toNatClampNeg)).toNatClampNeg (((p1 >>> (((8 : Int32) * x4).toInt64 &&& 63)) &&& (255 : Int64)).toInt32)) (2 : Int32).toNatClampNeg) + (1 : Int32))) m_errors) H := hW
        refine lv_iinc (v := (x4 + 1)) (lv' := [(4, .int (x4 + 1)), (0, .ref (b 0)), (1, .long p1), (3, .int p2)]) hx hb dX7_feed_81 hl (k := 3) rfl rfl (by decide) rfl (fun ls hl => ?_)
        refine lv_goto (tgt := 38) hx hb dX7_feed_84 (by decide) ?_
        exact ih (x4 + 1) (upd (upd m_s ((298 : Int32) + (m_s (2 : Int32).toNatClampNeg)).toNatClampNeg (((p1 >>> (((8 : Int32) * x4).toInt64 &&& 63)) &&& (255 : Int64)).toInt32)) (2 : Int32).toNatClampNeg (((upd m_s ((298 : Int32) + (m_s (2 : Int32).toNatClampNeg)).toNatClampNeg (((p1 >>> (((8 : Int32) * x4).toInt64 &&& 63)) &&& (255 : Int64)).toInt32)) (2 : Int32).toNatClampNeg) + (1 : Int32))) m_errors H locs ls hW hS (lv_sub hl [1, 2, 3, 0] rfl) hv
  refine lv_iload_n hx hb dX7_feed_0 rfl (lv_at hl 2 rfl) ?_
  refine lv_iconst (v := 1) hx hb dX7_feed_1 kic_1 ?_
  refine lv_bipush (v := 8) hx hb dX7_feed_2 kbp_8 ?_
  refine q_callS (rest := []) (n := 3) C (c_X7_in l G p2 (1 : Int32) (8 : Int32) _ hv) ml_X7_53 kb_X7_in rfl ⟨⟨rfl, rfl⟩, (Nat.le_of_ble_eq_true rfl), (Nat.le_of_ble_eq_true rfl)⟩ hW hS hl.1 rfl (Nat.le_of_ble_eq_true rfl) dX7_feed_4 ⟨Nat.zero_le _, Nat.zero_le _⟩ (fun r_1 u_2 H locs hv hW hS => ?_)
  obtain ⟨hv_b_1, hv⟩ := hv
  try dsimp only at hv
  refine lv_if_ne (tgt := 16) hx hb dX7_feed_7 (by decide) (fun c_3 => ?_) (fun c_3 => ?_)
  · replace hv := hv.1 c_3
    refine lv_aload_n hx hb dX7_feed_16 rfl (lv_at hl 0 rfl) ?_
    refine q_get C kc7 hW 0 rfl 0 (by decide) fl_X7_7 rfl rfl dX7_feed_17 ?_
    refine lv_iconst (v := 2) hx hb dX7_feed_20 kic_2 ?_
    obtain ⟨h_4, hv⟩ := hv
    refine q_iald C hW 1 rfl h_4 dX7_feed_21 ?_
    refine lv_iload_n hx hb dX7_feed_22 rfl (lv_at hl 2 rfl) ?_
    refine lv_iadd hx hb dX7_feed_23 ?_
    refine lv_bipush (v := 60) hx hb dX7_feed_24 kbp_60 ?_
    refine lv_icmp_le (tgt := 35) hx hb dX7_feed_26 (by decide) (fun c_5 => ?_) (fun c_5 => ?_)
    · replace hv := hv.1 c_5
      refine lv_iconst (v := 0) hx hb dX7_feed_35 kic_0 ?_
      refine lv_istore (lv' := [(4, .int (0 : Int32)), (0, .ref (b 0)), (1, .long p1), (3, .int p2)]) hx hb dX7_feed_36 hl (by decide) rfl (fun ls hl => ?_)
      obtain ⟨n_12, hv⟩ := hv
      exact h_l_X7_feed_38 n_12 (0 : Int32) m_s m_errors H locs ls hW hS (lv_sub hl [1, 2, 3, 0] rfl) hv
    · replace hv := hv.2 c_5
      refine lv_aload_n hx hb dX7_feed_29 rfl (lv_at hl 0 rfl) ?_
      refine lv_iconst (v := 4) hx hb dX7_feed_30 kic_4 ?_
      refine q_callV (rest := []) (n := 1) C (c_X7_error l G b m_images m_at_ m_open_ m_steps m_use_ m_traced m_speaks m_isParted m_errors (4 : Int32) _ hv) ml_X7_61 kb_X7_error rfl ⟨⟨rfl, rfl⟩, (Nat.le_of_ble_eq_true rfl), (Nat.le_of_ble_eq_true rfl)⟩ hW hS [0, 2] rfl rfl kc7 (q0 := 0) rfl hl.1 rfl (Nat.le_of_ble_eq_true rfl) dX7_feed_31 ⟨Nat.zero_le _, Nat.zero_le _⟩ (fun r_13 u_14 H locs hv hW hS => ?_)
      obtain ⟨m_errors_13, rfl⟩ : ∃ z, z = u_14 := ⟨_, rfl⟩
      try dsimp only at hv
      have hW : wo G A (wd_X7_4 G b m_images m_at_ m_open_ m_steps m_use_ m_traced m_speaks m_isParted m_s m_errors_13) H := hW
      exact ret (m_s, m_errors_13) r_13 H locs ls _ rfl hW hS hv dX7_feed_34
  · replace hv := hv.2 c_3
    refine lv_aload_n hx hb dX7_feed_10 rfl (lv_at hl 0 rfl) ?_
    refine lv_iconst (v := 1) hx hb dX7_feed_11 kic_1 ?_
    refine q_callV (rest := []) (n := 1) C (c_X7_error l G b m_images m_at_ m_open_ m_steps m_use_ m_traced m_speaks m_isParted m_errors (1 : Int32) _ hv) ml_X7_61 kb_X7_error rfl ⟨⟨rfl, rfl⟩, (Nat.le_of_ble_eq_true rfl), (Nat.le_of_ble_eq_true rfl)⟩ hW hS [0, 2] rfl rfl kc7 (q0 := 0) rfl hl.1 rfl (Nat.le_of_ble_eq_true rfl) dX7_feed_12 ⟨Nat.zero_le _, Nat.zero_le _⟩ (fun r_15 u_16 H locs hv hW hS => ?_)
    obtain ⟨m_errors_15, rfl⟩ : ∃ z, z = u_16 := ⟨_, rfl⟩
    try dsimp only at hv
    have hW : wo G A (wd_X7_4 G b m_images m_at_ m_open_ m_steps m_use_ m_traced m_speaks m_isParted m_s m_errors_15) H := hW
    exact ret (m_s, m_errors_15) r_15 H locs ls _ rfl hW hS hv dX7_feed_15
set_option maxHeartbeats 4000000 in
set_option maxRecDepth 100000 in
theorem c_X7_look (l : Launch) (G : Gt) (b : Nat → Nat) (m_images : Int32) (m_at_ : Int32) (m_open_ : Int32) (m_steps : Int32) (m_use_ : Int32) (m_traced : Int32) (m_speaks : Int32) (m_isParted : Int32) (m_s : Nat → Int32) (K : Int32 → Prop) (hv : v_X7_look m_at_ m_s K) : CI l G yX7_look (.code yX7_look cX7_look 1 (some .int) :: wsG) (rmm 0 0) [.ref (b 0)] (wd_X7_3 G b m_images m_at_ m_open_ m_steps m_use_ m_traced m_speaks m_isParted m_s) (S := Unit) (fun u => wd_X7_3 G b m_images m_at_ m_open_ m_steps m_use_ m_traced m_speaks m_isParted m_s) (fun r u => K r) := by
  refine ci_intro (by decide) rfl (fun _ => rfl) (Nat.le_of_ble_eq_true rfl) ?_
  intro p e s m args below meth c A H ls Q C hW hS hl ret
  have hx := C.1.1
  have hb := C.1.2.1
  generalize hls : ([] : List Loc) = locs at hS ⊢
  have hl : lv_has ls 1 [(0, .ref (b 0))] := hl
  refine lv_aload_n hx hb dX7_look_0 rfl (lv_at hl 0 rfl) ?_
  refine q_get C kc7 hW 0 rfl 5 (by decide) fl_X7_67 rfl rfl dX7_look_1 ?_
  refine lv_aload_n hx hb dX7_look_4 rfl (lv_at hl 0 rfl) ?_
  refine q_get C kc7 hW 0 rfl 0 (by decide) fl_X7_7 rfl rfl dX7_look_5 ?_
  refine lv_iconst (v := 2) hx hb dX7_look_8 kic_2 ?_
  obtain ⟨h_1, hv⟩ := hv
  refine q_iald C hW 1 rfl h_1 dX7_look_9 ?_
  refine lv_icmp_ge (tgt := 29) hx hb dX7_look_10 (by decide) (fun c_2 => ?_) (fun c_2 => ?_)
  · replace hv := hv.1 c_2
    refine lv_iconst (v := (-1)) hx hb dX7_look_29 kic_m1 ?_
    exact ret () (-1 : Int32) H locs ls _ rfl hW hS hv dX7_look_30
  · replace hv := hv.2 c_2
    refine lv_aload_n hx hb dX7_look_13 rfl (lv_at hl 0 rfl) ?_
    refine q_get C kc7 hW 0 rfl 0 (by decide) fl_X7_7 rfl rfl dX7_look_14 ?_
    refine lv_sipush (v := 298) hx hb dX7_look_17 ksp_298 ?_
    refine lv_aload_n hx hb dX7_look_20 rfl (lv_at hl 0 rfl) ?_
    refine q_get C kc7 hW 0 rfl 5 (by decide) fl_X7_67 rfl rfl dX7_look_21 ?_
    refine lv_iadd hx hb dX7_look_24 ?_
    obtain ⟨h_3, hv⟩ := hv
    refine q_iald C hW 1 rfl h_3 dX7_look_25 ?_
    refine lv_goto (tgt := 30) hx hb dX7_look_26 (by decide) ?_
    exact ret () (m_s ((298 : Int32) + m_at_).toNatClampNeg) H locs ls _ rfl hW hS hv dX7_look_30
set_option maxHeartbeats 4000000 in
set_option maxRecDepth 100000 in
theorem c_X7_isName (l : Launch) (G : Gt) (b : Nat → Nat) (m_images : Int32) (m_at_ : Int32) (m_open_ : Int32) (m_steps : Int32) (m_use_ : Int32) (m_traced : Int32) (m_speaks : Int32) (m_isParted : Int32) (p1 : Int32) (K : Int32 → Prop) (hv : v_X7_isName p1 m_use_ K) : CI l G yX7_isName (.code yX7_isName cX7_isName 2 (some .boolean) :: wsG) (rmm 0 0) [.ref (b 0), .int p1] (wd_X7_5 G b m_images m_at_ m_open_ m_steps m_use_ m_traced m_speaks m_isParted) (S := Unit) (fun u => wd_X7_5 G b m_images m_at_ m_open_ m_steps m_use_ m_traced m_speaks m_isParted) (fun r u => (r = 0 ∨ r = 1) ∧ K r) := by
  refine ci_intro (by decide) rfl (fun _ => rfl) (Nat.le_of_ble_eq_true rfl) ?_
  intro p e s m args below meth c A H ls Q C hW hS hl ret
  have hx := C.1.1
  have hb := C.1.2.1
  generalize hls : ([] : List Loc) = locs at hS ⊢
  have hl : lv_has ls 2 [(0, .ref (b 0)), (1, .int p1)] := hl
  refine lv_iload_n hx hb dX7_isName_0 rfl (lv_at hl 1 rfl) ?_
  refine lv_bipush (v := 110) hx hb dX7_isName_1 kbp_110 ?_
  refine lv_icmp_ne (tgt := 8) hx hb dX7_isName_3 (by decide) (fun c_1 => ?_) (fun c_1 => ?_)
  · replace hv := hv.1 c_1
    refine lv_aload_n hx hb dX7_isName_8 rfl (lv_at hl 0 rfl) ?_
    refine q_get C kc7 hW 0 rfl 8 (by decide) fl_X7_71 rfl rfl dX7_isName_9 ?_
    refine lv_if_ne (tgt := 35) hx hb dX7_isName_12 (by decide) (fun c_2 => ?_) (fun c_2 => ?_)
    · replace hv := hv.1 c_2
      refine lv_iload_n hx hb dX7_isName_35 rfl (lv_at hl 1 rfl) ?_
      refine lv_bipush (v := 103) hx hb dX7_isName_36 kbp_103 ?_
      refine lv_icmp_eq (tgt := 47) hx hb dX7_isName_38 (by decide) (fun c_3 => ?_) (fun c_3 => ?_)
      · replace hv := hv.1 c_3
        refine lv_iconst (v := 1) hx hb dX7_isName_47 kic_1 ?_
        refine lv_goto (tgt := 52) hx hb dX7_isName_48 (by decide) ?_
        exact ret () (1 : Int32) H locs ls _ (bl_narrow (Or.inr rfl)) hW hS ⟨(Or.inr rfl), hv⟩ dX7_isName_52
      · replace hv := hv.2 c_3
        refine lv_iload_n hx hb dX7_isName_41 rfl (lv_at hl 1 rfl) ?_
        refine lv_bipush (v := 100) hx hb dX7_isName_42 kbp_100 ?_
        refine lv_icmp_ne (tgt := 51) hx hb dX7_isName_44 (by decide) (fun c_4 => ?_) (fun c_4 => ?_)
        · replace hv := hv.1 c_4
          refine lv_iconst (v := 0) hx hb dX7_isName_51 kic_0 ?_
          exact ret () (0 : Int32) H locs ls _ (bl_narrow (Or.inl rfl)) hW hS ⟨(Or.inl rfl), hv⟩ dX7_isName_52
        · replace hv := hv.2 c_4
          refine lv_iconst (v := 1) hx hb dX7_isName_47 kic_1 ?_
          refine lv_goto (tgt := 52) hx hb dX7_isName_48 (by decide) ?_
          exact ret () (1 : Int32) H locs ls _ (bl_narrow (Or.inr rfl)) hW hS ⟨(Or.inr rfl), hv⟩ dX7_isName_52
    · replace hv := hv.2 c_2
      refine lv_iload_n hx hb dX7_isName_15 rfl (lv_at hl 1 rfl) ?_
      refine lv_bipush (v := 114) hx hb dX7_isName_16 kbp_114 ?_
      refine lv_icmp_eq (tgt := 27) hx hb dX7_isName_18 (by decide) (fun c_5 => ?_) (fun c_5 => ?_)
      · replace hv := hv.1 c_5
        refine lv_iconst (v := 1) hx hb dX7_isName_27 kic_1 ?_
        refine lv_goto (tgt := 52) hx hb dX7_isName_28 (by decide) ?_
        exact ret () (1 : Int32) H locs ls _ (bl_narrow (Or.inr rfl)) hW hS ⟨(Or.inr rfl), hv⟩ dX7_isName_52
      · replace hv := hv.2 c_5
        refine lv_iload_n hx hb dX7_isName_21 rfl (lv_at hl 1 rfl) ?_
        refine lv_bipush (v := 115) hx hb dX7_isName_22 kbp_115 ?_
        refine lv_icmp_ne (tgt := 31) hx hb dX7_isName_24 (by decide) (fun c_6 => ?_) (fun c_6 => ?_)
        · replace hv := hv.1 c_6
          refine lv_iconst (v := 0) hx hb dX7_isName_31 kic_0 ?_
          refine lv_goto (tgt := 52) hx hb dX7_isName_32 (by decide) ?_
          exact ret () (0 : Int32) H locs ls _ (bl_narrow (Or.inl rfl)) hW hS ⟨(Or.inl rfl), hv⟩ dX7_isName_52
        · replace hv := hv.2 c_6
          refine lv_iconst (v := 1) hx hb dX7_isName_27 kic_1 ?_
          refine lv_goto (tgt := 52) hx hb dX7_isName_28 (by decide) ?_
          exact ret () (1 : Int32) H locs ls _ (bl_narrow (Or.inr rfl)) hW hS ⟨(Or.inr rfl), hv⟩ dX7_isName_52
  · replace hv := hv.2 c_1
    refine lv_iconst (v := 1) hx hb dX7_isName_6 kic_1 ?_
    exact ret () (1 : Int32) H locs ls _ (bl_narrow (Or.inr rfl)) hW hS ⟨(Or.inr rfl), hv⟩ dX7_isName_7
set_option maxHeartbeats 4000000 in
set_option maxRecDepth 100000 in
theorem c_X7_step1 (l : Launch) (G : Gt) (b : Nat → Nat) (m_images : Int32) (m_at_ : Int32) (m_open_ : Int32) (m_steps : Int32) (m_use_ : Int32) (m_traced : Int32) (m_speaks : Int32) (m_isParted : Int32) (m_step : Nat → Int32) (p1 : Int32) (p2 : Int32) (K : Int32 → (Nat → Int32) → Prop) (hv : v_X7_step1 p1 p2 m_steps m_step K) : CV l G yX7_step1 (.code yX7_step1 cX7_step1 3 none :: wsG) (rmm 0 0) [.ref (b 0), .int p1, .int p2] (wd_X7_6 G b m_images m_at_ m_open_ m_steps m_use_ m_traced m_speaks m_isParted m_step) (S := Int32 × (Nat → Int32)) (fun u => wd_X7_6 G b m_images m_at_ m_open_ u.1 m_use_ m_traced m_speaks m_isParted u.2) (fun u => K u.1 u.2) := by
  refine cv_intro (by decide) rfl (fun _ => rfl) (Nat.le_of_ble_eq_true rfl) ?_
  intro p e s m args below meth c A H ls Q C hW hS hl ret
  have hx := C.1.1
  have hb := C.1.2.1
  generalize hls : ([] : List Loc) = locs at hS ⊢
  have hl : lv_has ls 3 [(0, .ref (b 0)), (1, .int p1), (2, .int p2)] := hl
  refine lv_aload_n hx hb dX7_step1_0 rfl (lv_at hl 0 rfl) ?_
  refine q_get C kc7 hW 0 rfl 9 (by decide) fl_X7_22 rfl rfl dX7_step1_1 ?_
  refine lv_iconst (v := 2) hx hb dX7_step1_4 kic_2 ?_
  refine lv_aload_n hx hb dX7_step1_5 rfl (lv_at hl 0 rfl) ?_
  refine q_get C kc7 hW 0 rfl 7 (by decide) fl_X7_74 rfl rfl dX7_step1_6 ?_
  refine lv_imul hx hb dX7_step1_9 ?_
  refine lv_iload_n hx hb dX7_step1_10 rfl (lv_at hl 1 rfl) ?_
  obtain ⟨h_1, hv⟩ := hv
  refine q_iast C hW hS 1 rfl h_1 dX7_step1_11 (fun H locs hW hS => ?_)
  have hW : wo G A (wd_X7_6 G b m_images m_at_ m_open_ m_steps m_use_ m_traced m_speaks m_isParted (upd m_step ((2 : Int32) * m_steps).toNatClampNeg p1)) H := hW
  refine lv_aload_n hx hb dX7_step1_12 rfl (lv_at hl 0 rfl) ?_
  refine q_get C kc7 hW 0 rfl 9 (by decide) fl_X7_22 rfl rfl dX7_step1_13 ?_
  refine lv_iconst (v := 2) hx hb dX7_step1_16 kic_2 ?_
  refine lv_aload_n hx hb dX7_step1_17 rfl (lv_at hl 0 rfl) ?_
  refine q_get C kc7 hW 0 rfl 7 (by decide) fl_X7_74 rfl rfl dX7_step1_18 ?_
  refine lv_imul hx hb dX7_step1_21 ?_
  refine lv_iconst (v := 1) hx hb dX7_step1_22 kic_1 ?_
  refine lv_iadd hx hb dX7_step1_23 ?_
  refine lv_iload_n hx hb dX7_step1_24 rfl (lv_at hl 2 rfl) ?_
  obtain ⟨h_2, hv⟩ := hv
  refine q_iast C hW hS 1 rfl h_2 dX7_step1_25 (fun H locs hW hS => ?_)
  have hW : wo G A (wd_X7_6 G b m_images m_at_ m_open_ m_steps m_use_ m_traced m_speaks m_isParted (upd (upd m_step ((2 : Int32) * m_steps).toNatClampNeg p1) (((2 : Int32) * m_steps) + (1 : Int32)).toNatClampNeg p2)) H := hW
  refine lv_aload_n hx hb dX7_step1_26 rfl (lv_at hl 0 rfl) ?_
  refine lv_dup hx hb dX7_step1_27 rfl ?_
  refine q_get C kc7 hW 0 rfl 7 (by decide) fl_X7_74 rfl rfl dX7_step1_28 ?_
  refine lv_iconst (v := 1) hx hb dX7_step1_31 kic_1 ?_
  refine lv_iadd hx hb dX7_step1_32 ?_
  refine q_put C kc7 hW hS 0 rfl 7 (by decide) fl_X7_74 rfl rfl rfl rfl (Nat.le_of_ble_eq_true rfl) dX7_step1_33 (fun H locs hW hS => ?_)
  have hW : wo G A (wd_X7_6 G b m_images m_at_ m_open_ (m_steps + (1 : Int32)) m_use_ m_traced m_speaks m_isParted (upd (upd m_step ((2 : Int32) * m_steps).toNatClampNeg p1) (((2 : Int32) * m_steps) + (1 : Int32)).toNatClampNeg p2)) H := hW
  exact ret ((m_steps + (1 : Int32)), (upd (upd m_step ((2 : Int32) * m_steps).toNatClampNeg p1) (((2 : Int32) * m_steps) + (1 : Int32)).toNatClampNeg p2)) H locs ls _ hW hS hv dX7_step1_36
set_option maxHeartbeats 4000000 in
set_option maxRecDepth 100000 in
theorem c_X7_opens (l : Launch) (G : Gt) (b : Nat → Nat) (m_images : Int32) (m_at_ : Int32) (m_open_ : Int32) (m_steps : Int32) (m_use_ : Int32) (m_traced : Int32) (m_speaks : Int32) (m_isParted : Int32) (K : Int32 → Int32 → Int32 → Prop) (hv : v_X7_opens m_at_ m_open_ K) : CI l G yX7_opens (.code yX7_opens cX7_opens 1 (some .boolean) :: wsG) (rmm 0 0) [.ref (b 0)] (wd_X7_5 G b m_images m_at_ m_open_ m_steps m_use_ m_traced m_speaks m_isParted) (S := Int32 × Int32) (fun u => wd_X7_5 G b m_images u.1 u.2 m_steps m_use_ m_traced m_speaks m_isParted) (fun r u => (r = 0 ∨ r = 1) ∧ K r u.1 u.2) := by
  refine ci_intro (by decide) rfl (fun _ => rfl) (Nat.le_of_ble_eq_true rfl) ?_
  intro p e s m args below meth c A H ls Q C hW hS hl ret
  have hx := C.1.1
  have hb := C.1.2.1
  generalize hls : ([] : List Loc) = locs at hS ⊢
  have hl : lv_has ls 1 [(0, .ref (b 0))] := hl
  refine lv_aload_n hx hb dX7_opens_0 rfl (lv_at hl 0 rfl) ?_
  refine q_get C kc7 hW 0 rfl 6 (by decide) fl_X7_101 rfl rfl dX7_opens_1 ?_
  refine lv_iconst (v := 5) hx hb dX7_opens_4 kic_5 ?_
  refine lv_icmp_ne (tgt := 10) hx hb dX7_opens_5 (by decide) (fun c_1 => ?_) (fun c_1 => ?_)
  · replace hv := hv.1 c_1
    refine lv_aload_n hx hb dX7_opens_10 rfl (lv_at hl 0 rfl) ?_
    refine lv_dup hx hb dX7_opens_11 rfl ?_
    refine q_get C kc7 hW 0 rfl 6 (by decide) fl_X7_101 rfl rfl dX7_opens_12 ?_
    refine lv_iconst (v := 1) hx hb dX7_opens_15 kic_1 ?_
    refine lv_iadd hx hb dX7_opens_16 ?_
    refine q_put C kc7 hW hS 0 rfl 6 (by decide) fl_X7_101 rfl rfl rfl rfl (Nat.le_of_ble_eq_true rfl) dX7_opens_17 (fun H locs hW hS => ?_)
    have hW : wo G A (wd_X7_5 G b m_images m_at_ (m_open_ + (1 : Int32)) m_steps m_use_ m_traced m_speaks m_isParted) H := hW
    refine lv_aload_n hx hb dX7_opens_20 rfl (lv_at hl 0 rfl) ?_
    refine lv_dup hx hb dX7_opens_21 rfl ?_
    refine q_get C kc7 hW 0 rfl 5 (by decide) fl_X7_67 rfl rfl dX7_opens_22 ?_
    refine lv_iconst (v := 1) hx hb dX7_opens_25 kic_1 ?_
    refine lv_iadd hx hb dX7_opens_26 ?_
    refine q_put C kc7 hW hS 0 rfl 5 (by decide) fl_X7_67 rfl rfl rfl rfl (Nat.le_of_ble_eq_true rfl) dX7_opens_27 (fun H locs hW hS => ?_)
    have hW : wo G A (wd_X7_5 G b m_images (m_at_ + (1 : Int32)) (m_open_ + (1 : Int32)) m_steps m_use_ m_traced m_speaks m_isParted) H := hW
    refine lv_iconst (v := 1) hx hb dX7_opens_30 kic_1 ?_
    exact ret ((m_at_ + (1 : Int32)), (m_open_ + (1 : Int32))) (1 : Int32) H locs ls _ (bl_narrow (Or.inr rfl)) hW hS ⟨(Or.inr rfl), hv⟩ dX7_opens_31
  · replace hv := hv.2 c_1
    refine lv_iconst (v := 0) hx hb dX7_opens_8 kic_0 ?_
    exact ret (m_at_, m_open_) (0 : Int32) H locs ls _ (bl_narrow (Or.inl rfl)) hW hS ⟨(Or.inl rfl), hv⟩ dX7_opens_9
set_option maxHeartbeats 4000000 in
set_option maxRecDepth 100000 in
theorem c_X7_product (l : Launch) (f o : Nat) (O_X7_one : Int32 → Int32 → Int32 → Int32 → (Nat → Int32) → (Nat → Int32) → (Int32 → Int32 → Int32 → Int32 → (Nat → Int32) → Prop) → Prop) (hO_X7_one : ∀ (G : Gt) (b : Nat → Nat) (m_images : Int32) (m_at_ : Int32) (m_open_ : Int32) (m_steps : Int32) (m_use_ : Int32) (m_traced : Int32) (m_speaks : Int32) (m_isParted : Int32) (m_s : Nat → Int32) (m_step : Nat → Int32) (K : Int32 → Int32 → Int32 → Int32 → (Nat → Int32) → Prop), O_X7_one m_at_ m_open_ m_steps m_use_ m_s m_step K → CI l G yX7_one (.code yX7_one cX7_one 4 (some .boolean) :: wsG) (rmm f o) [.ref (b 0)] (wd_X7_7 G b m_images m_at_ m_open_ m_steps m_use_ m_traced m_speaks m_isParted m_s m_step) (S := Int32 × Int32 × Int32 × (Nat → Int32)) (fun u => wd_X7_7 G b m_images u.1 u.2.1 u.2.2.1 m_use_ m_traced m_speaks m_isParted m_s u.2.2.2) (fun r u => (r = 0 ∨ r = 1) ∧ K r u.1 u.2.1 u.2.2.1 u.2.2.2)) (G : Gt) (b : Nat → Nat) (m_images : Int32) (m_at_ : Int32) (m_open_ : Int32) (m_steps : Int32) (m_use_ : Int32) (m_traced : Int32) (m_speaks : Int32) (m_isParted : Int32) (m_s : Nat → Int32) (m_step : Nat → Int32) (K : Int32 → Int32 → Int32 → Int32 → (Nat → Int32) → Prop) (hv : v_X7_product O_X7_one m_at_ m_open_ m_steps m_use_ m_s m_step K) : CI l G yX7_product (.code yX7_product cX7_product 2 (some .boolean) :: wsG) (rmm (f + 1) (o + 23)) [.ref (b 0)] (wd_X7_7 G b m_images m_at_ m_open_ m_steps m_use_ m_traced m_speaks m_isParted m_s m_step) (S := Int32 × Int32 × Int32 × (Nat → Int32)) (fun u => wd_X7_7 G b m_images u.1 u.2.1 u.2.2.1 m_use_ m_traced m_speaks m_isParted m_s u.2.2.2) (fun r u => (r = 0 ∨ r = 1) ∧ K r u.1 u.2.1 u.2.2.1 u.2.2.2) := by
  refine ci_intro (by decide) rfl (fun _ => rfl) (Nat.le_of_ble_eq_true rfl) ?_
  intro p e s m args below meth c A H ls Q C hW hS hl ret
  have hx := C.1.1
  have hb := C.1.2.1
  generalize hls : ([] : List Loc) = locs at hS ⊢
  have hl : lv_has ls 2 [(0, .ref (b 0))] := hl
  have h_j_X7_product_36 : ∀ (B9 : Int32 → Int32 → Int32 → (Nat → Int32) → Prop) (hB9 : ∀ (m_at_ : Int32) (m_open_ : Int32) (m_steps : Int32) (m_step : Nat → Int32) (H : Heap) (locs : List Loc) (ls : Array Slot), wo G A (wd_X7_7 G b m_images m_at_ m_open_ m_steps m_use_ m_traced m_speaks m_isParted m_s m_step) H → va_S A s.heap H locs → lv_has ls 2 [(0, .ref (b 0))] → B9 m_at_ m_open_ m_steps m_step → W p l e (rmm (f + 1) (o + 23)) s m args below meth c H locs 0 0 Q (F0 m 9 ls [])), ∀ (m_at_ : Int32) (m_open_ : Int32) (m_steps : Int32) (m_step : Nat → Int32) (H : Heap) (locs : List Loc) (ls : Array Slot), wo G A (wd_X7_7 G b m_images m_at_ m_open_ m_steps m_use_ m_traced m_speaks m_isParted m_s m_step) H → va_S A s.heap H locs → lv_has ls 2 [(0, .ref (b 0))] → j_X7_product_36 O_X7_one m_use_ m_s B9 K m_at_ m_open_ m_steps m_step → W p l e (rmm (f + 1) (o + 23)) s m args below meth c H locs 0 0 Q (F0 m 36 ls []) := by
    intro B9 hB9 m_at_ m_open_ m_steps m_step H locs ls hW hS hl hv
    refine lv_aload_n hx hb dX7_product_36 rfl (lv_at hl 0 rfl) ?_
    refine q_callV (rest := []) (n := 0) C (c_X7_look l G b m_images m_at_ m_open_ m_steps m_use_ m_traced m_speaks m_isParted m_s _ hv) ml_X7_81 kb_X7_look rfl ⟨⟨rfl, rfl⟩, (by show 0 + 1 ≤ f + 1; omega), (by show 8 + (1 + 11) + 0 ≤ o + 23; omega)⟩ hW hS [0, 1] rfl rfl kc7 (q0 := 0) rfl hl.1 rfl (Nat.le_of_ble_eq_true rfl) dX7_product_37 ⟨Nat.zero_le _, Nat.zero_le _⟩ (fun r_7 u_8 H locs hv hW hS => ?_)
    try dsimp only at hv
    refine lv_istore_n (lv' := [(1, .int r_7), (0, .ref (b 0))]) hx hb dX7_product_40 rfl hl (by decide) rfl (fun ls hl => ?_)
    refine lv_aload_n hx hb dX7_product_41 rfl (lv_at hl 1 rfl) ?_
    refine lv_dup hx hb dX7_product_42 rfl ?_
    refine q_get C kc7 hW 0 rfl 5 (by decide) fl_X7_67 rfl rfl dX7_product_43 ?_
    refine lv_iconst (v := 1) hx hb dX7_product_46 kic_1 ?_
    refine lv_iadd hx hb dX7_product_47 ?_
    refine q_put C kc7 hW hS 0 rfl 5 (by decide) fl_X7_67 rfl rfl rfl rfl (Nat.le_of_ble_eq_true rfl) dX7_product_48 (fun H locs hW hS => ?_)
    have hW : wo G A (wd_X7_7 G b m_images (m_at_ + (1 : Int32)) m_open_ m_steps m_use_ m_traced m_speaks m_isParted m_s m_step) H := hW
    refine lv_aload_n hx hb dX7_product_51 rfl (lv_at hl 1 rfl) ?_
    refine q_callV (rest := []) (n := 0) C (hO_X7_one G b m_images (m_at_ + (1 : Int32)) m_open_ m_steps m_use_ m_traced m_speaks m_isParted m_s m_step _ hv) ml_X7_98 kb_X7_one rfl ⟨⟨rfl, rfl⟩, (by show f + 1 ≤ f + 1; omega), (by show 8 + (4 + 11) + o ≤ o + 23; omega)⟩ hW hS [0, 1, 2] rfl rfl kc7 (q0 := 0) rfl hl.1 rfl (Nat.le_of_ble_eq_true rfl) dX7_product_52 ⟨Nat.zero_le _, Nat.zero_le _⟩ (fun r_9 u_10 H locs hv hW hS => ?_)
    obtain ⟨m_at__9, m_open__9, m_steps_9, m_step_9⟩ := u_10
    obtain ⟨hv_b_9, hv⟩ := hv
    try dsimp only at hv
    have hW : wo G A (wd_X7_7 G b m_images m_at__9 m_open__9 m_steps_9 m_use_ m_traced m_speaks m_isParted m_s m_step_9) H := hW
    refine lv_if_ne (tgt := 60) hx hb dX7_product_55 (by decide) (fun c_11 => ?_) (fun c_11 => ?_)
    · replace hv := hv.1 c_11
      refine lv_aload_n hx hb dX7_product_60 rfl (lv_at hl 1 rfl) ?_
      refine lv_iconst (v := 3) hx hb dX7_product_61 kic_3 ?_
      refine lv_iload_n hx hb dX7_product_62 rfl (lv_at hl 0 rfl) ?_
      refine q_callVv (rest := []) (n := 2) C (c_X7_step1 l G b m_images m_at__9 m_open__9 m_steps_9 m_use_ m_traced m_speaks m_isParted m_step_9 (3 : Int32) r_7 _ hv) ml_X7_85 kb_X7_step1 rfl ⟨⟨rfl, rfl⟩, (by show 0 + 1 ≤ f + 1; omega), (by show 8 + (3 + 11) + 0 ≤ o + 23; omega)⟩ hW hS [0, 2] rfl rfl kc7 (q0 := 0) rfl hl.1 rfl (Nat.le_of_ble_eq_true rfl) dX7_product_63 ⟨Nat.zero_le _, Nat.zero_le _⟩ (fun u_13 H locs hv hW hS => ?_)
      obtain ⟨m_steps_12, m_step_12⟩ := u_13
      try dsimp only at hv
      have hW : wo G A (wd_X7_7 G b m_images m_at__9 m_open__9 m_steps_12 m_use_ m_traced m_speaks m_isParted m_s m_step_12) H := hW
      refine lv_goto (tgt := 9) hx hb dX7_product_66 (by decide) ?_
      exact hB9 m_at__9 m_open__9 m_steps_12 m_step_12 H locs ls hW hS (lv_sub hl [1] rfl) hv
    · replace hv := hv.2 c_11
      refine lv_iconst (v := 0) hx hb dX7_product_58 kic_0 ?_
      exact ret (m_at__9, m_open__9, m_steps_9, m_step_9) (0 : Int32) H locs ls _ (bl_narrow (Or.inl rfl)) hW hS ⟨(Or.inl rfl), hv⟩ dX7_product_59
  have h_l_X7_product_9 : ∀ (n : Nat), ∀ (m_at_ : Int32) (m_open_ : Int32) (m_steps : Int32) (m_step : Nat → Int32) (H : Heap) (locs : List Loc) (ls : Array Slot), wo G A (wd_X7_7 G b m_images m_at_ m_open_ m_steps m_use_ m_traced m_speaks m_isParted m_s m_step) H → va_S A s.heap H locs → lv_has ls 2 [(0, .ref (b 0))] → l_X7_product_9 O_X7_one m_use_ m_s K n m_at_ m_open_ m_steps m_step → W p l e (rmm (f + 1) (o + 23)) s m args below meth c H locs 0 0 Q (F0 m 9 ls []) := by
    intro n
    induction n with
    | zero =>
      intro m_at_ m_open_ m_steps m_step H locs ls hW hS hl hv
      exact False.elim hv
    | succ n ih =>
      intro m_at_ m_open_ m_steps m_step H locs ls hW hS hl hv
      refine lv_aload_n hx hb dX7_product_9 rfl (lv_at hl 0 rfl) ?_
      refine q_callV (rest := []) (n := 0) C (c_X7_look l G b m_images m_at_ m_open_ m_steps m_use_ m_traced m_speaks m_isParted m_s _ hv) ml_X7_81 kb_X7_look rfl ⟨⟨rfl, rfl⟩, (by show 0 + 1 ≤ f + 1; omega), (by show 8 + (1 + 11) + 0 ≤ o + 23; omega)⟩ hW hS [0, 1] rfl rfl kc7 (q0 := 0) rfl hl.1 rfl (Nat.le_of_ble_eq_true rfl) dX7_product_10 ⟨Nat.zero_le _, Nat.zero_le _⟩ (fun r_4 u_5 H locs hv hW hS => ?_)
      try dsimp only at hv
      refine lv_bipush (v := 42) hx hb dX7_product_13 kbp_42 ?_
      refine lv_icmp_eq (tgt := 36) hx hb dX7_product_15 (by decide) (fun c_6 => ?_) (fun c_6 => ?_)
      · replace hv := hv.1 c_6
        exact h_j_X7_product_36 (fun m_at_' m_open_' m_steps' m_step' => l_X7_product_9 O_X7_one m_use_ m_s K n m_at_' m_open_' m_steps' m_step') ih m_at_ m_open_ m_steps m_step H locs ls hW hS (lv_sub hl [0] rfl) hv
      · replace hv := hv.2 c_6
        refine lv_aload_n hx hb dX7_product_18 rfl (lv_at hl 0 rfl) ?_
        refine q_callV (rest := []) (n := 0) C (c_X7_look l G b m_images m_at_ m_open_ m_steps m_use_ m_traced m_speaks m_isParted m_s _ hv) ml_X7_81 kb_X7_look rfl ⟨⟨rfl, rfl⟩, (by show 0 + 1 ≤ f + 1; omega), (by show 8 + (1 + 11) + 0 ≤ o + 23; omega)⟩ hW hS [0, 1] rfl rfl kc7 (q0 := 0) rfl hl.1 rfl (Nat.le_of_ble_eq_true rfl) dX7_product_19 ⟨Nat.zero_le _, Nat.zero_le _⟩ (fun r_14 u_15 H locs hv hW hS => ?_)
        try dsimp only at hv
        refine lv_bipush (v := 47) hx hb dX7_product_22 kbp_47 ?_
        refine lv_icmp_eq (tgt := 36) hx hb dX7_product_24 (by decide) (fun c_16 => ?_) (fun c_16 => ?_)
        · replace hv := hv.1 c_16
          exact h_j_X7_product_36 (fun m_at_' m_open_' m_steps' m_step' => l_X7_product_9 O_X7_one m_use_ m_s K n m_at_' m_open_' m_steps' m_step') ih m_at_ m_open_ m_steps m_step H locs ls hW hS (lv_sub hl [0] rfl) hv
        · replace hv := hv.2 c_16
          refine lv_aload_n hx hb dX7_product_27 rfl (lv_at hl 0 rfl) ?_
          refine q_callV (rest := []) (n := 0) C (c_X7_look l G b m_images m_at_ m_open_ m_steps m_use_ m_traced m_speaks m_isParted m_s _ hv) ml_X7_81 kb_X7_look rfl ⟨⟨rfl, rfl⟩, (by show 0 + 1 ≤ f + 1; omega), (by show 8 + (1 + 11) + 0 ≤ o + 23; omega)⟩ hW hS [0, 1] rfl rfl kc7 (q0 := 0) rfl hl.1 rfl (Nat.le_of_ble_eq_true rfl) dX7_product_28 ⟨Nat.zero_le _, Nat.zero_le _⟩ (fun r_17 u_18 H locs hv hW hS => ?_)
          try dsimp only at hv
          refine lv_bipush (v := 37) hx hb dX7_product_31 kbp_37 ?_
          refine lv_icmp_ne (tgt := 69) hx hb dX7_product_33 (by decide) (fun c_19 => ?_) (fun c_19 => ?_)
          · replace hv := hv.1 c_19
            refine lv_iconst (v := 1) hx hb dX7_product_69 kic_1 ?_
            exact ret (m_at_, m_open_, m_steps, m_step) (1 : Int32) H locs ls _ (bl_narrow (Or.inr rfl)) hW hS ⟨(Or.inr rfl), hv⟩ dX7_product_70
          · replace hv := hv.2 c_19
            exact h_j_X7_product_36 (fun m_at_' m_open_' m_steps' m_step' => l_X7_product_9 O_X7_one m_use_ m_s K n m_at_' m_open_' m_steps' m_step') ih m_at_ m_open_ m_steps m_step H locs ls hW hS (lv_sub hl [0] rfl) hv
  refine lv_aload_n hx hb dX7_product_0 rfl (lv_at hl 0 rfl) ?_
  refine q_callV (rest := []) (n := 0) C (hO_X7_one G b m_images m_at_ m_open_ m_steps m_use_ m_traced m_speaks m_isParted m_s m_step _ hv) ml_X7_98 kb_X7_one rfl ⟨⟨rfl, rfl⟩, (by show f + 1 ≤ f + 1; omega), (by show 8 + (4 + 11) + o ≤ o + 23; omega)⟩ hW hS [0, 1, 2] rfl rfl kc7 (q0 := 0) rfl hl.1 rfl (Nat.le_of_ble_eq_true rfl) dX7_product_1 ⟨Nat.zero_le _, Nat.zero_le _⟩ (fun r_1 u_2 H locs hv hW hS => ?_)
  obtain ⟨m_at__1, m_open__1, m_steps_1, m_step_1⟩ := u_2
  obtain ⟨hv_b_1, hv⟩ := hv
  try dsimp only at hv
  have hW : wo G A (wd_X7_7 G b m_images m_at__1 m_open__1 m_steps_1 m_use_ m_traced m_speaks m_isParted m_s m_step_1) H := hW
  refine lv_if_ne (tgt := 9) hx hb dX7_product_4 (by decide) (fun c_3 => ?_) (fun c_3 => ?_)
  · replace hv := hv.1 c_3
    obtain ⟨n_20, hv⟩ := hv
    exact h_l_X7_product_9 n_20 m_at__1 m_open__1 m_steps_1 m_step_1 H locs ls hW hS (lv_sub hl [0] rfl) hv
  · replace hv := hv.2 c_3
    refine lv_iconst (v := 0) hx hb dX7_product_7 kic_0 ?_
    exact ret (m_at__1, m_open__1, m_steps_1, m_step_1) (0 : Int32) H locs ls _ (bl_narrow (Or.inl rfl)) hW hS ⟨(Or.inl rfl), hv⟩ dX7_product_8
set_option maxHeartbeats 4000000 in
set_option maxRecDepth 100000 in
theorem c_X7_sum (l : Launch) (f o : Nat) (O_X7_one : Int32 → Int32 → Int32 → Int32 → (Nat → Int32) → (Nat → Int32) → (Int32 → Int32 → Int32 → Int32 → (Nat → Int32) → Prop) → Prop) (hO_X7_one : ∀ (G : Gt) (b : Nat → Nat) (m_images : Int32) (m_at_ : Int32) (m_open_ : Int32) (m_steps : Int32) (m_use_ : Int32) (m_traced : Int32) (m_speaks : Int32) (m_isParted : Int32) (m_s : Nat → Int32) (m_step : Nat → Int32) (K : Int32 → Int32 → Int32 → Int32 → (Nat → Int32) → Prop), O_X7_one m_at_ m_open_ m_steps m_use_ m_s m_step K → CI l G yX7_one (.code yX7_one cX7_one 4 (some .boolean) :: wsG) (rmm f o) [.ref (b 0)] (wd_X7_7 G b m_images m_at_ m_open_ m_steps m_use_ m_traced m_speaks m_isParted m_s m_step) (S := Int32 × Int32 × Int32 × (Nat → Int32)) (fun u => wd_X7_7 G b m_images u.1 u.2.1 u.2.2.1 m_use_ m_traced m_speaks m_isParted m_s u.2.2.2) (fun r u => (r = 0 ∨ r = 1) ∧ K r u.1 u.2.1 u.2.2.1 u.2.2.2)) (G : Gt) (b : Nat → Nat) (m_images : Int32) (m_at_ : Int32) (m_open_ : Int32) (m_steps : Int32) (m_use_ : Int32) (m_traced : Int32) (m_speaks : Int32) (m_isParted : Int32) (m_s : Nat → Int32) (m_step : Nat → Int32) (K : Int32 → Int32 → Int32 → Int32 → (Nat → Int32) → Prop) (hv : v_X7_sum O_X7_one m_at_ m_open_ m_steps m_use_ m_s m_step K) : CI l G yX7_sum (.code yX7_sum cX7_sum 2 (some .boolean) :: wsG) (rmm (f + 2) (o + 44)) [.ref (b 0)] (wd_X7_7 G b m_images m_at_ m_open_ m_steps m_use_ m_traced m_speaks m_isParted m_s m_step) (S := Int32 × Int32 × Int32 × (Nat → Int32)) (fun u => wd_X7_7 G b m_images u.1 u.2.1 u.2.2.1 m_use_ m_traced m_speaks m_isParted m_s u.2.2.2) (fun r u => (r = 0 ∨ r = 1) ∧ K r u.1 u.2.1 u.2.2.1 u.2.2.2) := by
  refine ci_intro (by decide) rfl (fun _ => rfl) (Nat.le_of_ble_eq_true rfl) ?_
  intro p e s m args below meth c A H ls Q C hW hS hl ret
  have hx := C.1.1
  have hb := C.1.2.1
  generalize hls : ([] : List Loc) = locs at hS ⊢
  have hl : lv_has ls 2 [(0, .ref (b 0))] := hl
  have h_j_X7_sum_27 : ∀ (B9 : Int32 → Int32 → Int32 → (Nat → Int32) → Prop) (hB9 : ∀ (m_at_ : Int32) (m_open_ : Int32) (m_steps : Int32) (m_step : Nat → Int32) (H : Heap) (locs : List Loc) (ls : Array Slot), wo G A (wd_X7_7 G b m_images m_at_ m_open_ m_steps m_use_ m_traced m_speaks m_isParted m_s m_step) H → va_S A s.heap H locs → lv_has ls 2 [(0, .ref (b 0))] → B9 m_at_ m_open_ m_steps m_step → W p l e (rmm (f + 2) (o + 44)) s m args below meth c H locs 0 0 Q (F0 m 9 ls [])), ∀ (m_at_ : Int32) (m_open_ : Int32) (m_steps : Int32) (m_step : Nat → Int32) (H : Heap) (locs : List Loc) (ls : Array Slot), wo G A (wd_X7_7 G b m_images m_at_ m_open_ m_steps m_use_ m_traced m_speaks m_isParted m_s m_step) H → va_S A s.heap H locs → lv_has ls 2 [(0, .ref (b 0))] → j_X7_sum_27 O_X7_one m_use_ m_s B9 K m_at_ m_open_ m_steps m_step → W p l e (rmm (f + 2) (o + 44)) s m args below meth c H locs 0 0 Q (F0 m 27 ls []) := by
    intro B9 hB9 m_at_ m_open_ m_steps m_step H locs ls hW hS hl hv
    refine lv_aload_n hx hb dX7_sum_27 rfl (lv_at hl 0 rfl) ?_
    refine q_callV (rest := []) (n := 0) C (c_X7_look l G b m_images m_at_ m_open_ m_steps m_use_ m_traced m_speaks m_isParted m_s _ hv) ml_X7_81 kb_X7_look rfl ⟨⟨rfl, rfl⟩, (by show 0 + 1 ≤ f + 2; omega), (by show 8 + (1 + 11) + 0 ≤ o + 44; omega)⟩ hW hS [0, 1] rfl rfl kc7 (q0 := 0) rfl hl.1 rfl (Nat.le_of_ble_eq_true rfl) dX7_sum_28 ⟨Nat.zero_le _, Nat.zero_le _⟩ (fun r_7 u_8 H locs hv hW hS => ?_)
    try dsimp only at hv
    refine lv_istore_n (lv' := [(1, .int r_7), (0, .ref (b 0))]) hx hb dX7_sum_31 rfl hl (by decide) rfl (fun ls hl => ?_)
    refine lv_aload_n hx hb dX7_sum_32 rfl (lv_at hl 1 rfl) ?_
    refine lv_dup hx hb dX7_sum_33 rfl ?_
    refine q_get C kc7 hW 0 rfl 5 (by decide) fl_X7_67 rfl rfl dX7_sum_34 ?_
    refine lv_iconst (v := 1) hx hb dX7_sum_37 kic_1 ?_
    refine lv_iadd hx hb dX7_sum_38 ?_
    refine q_put C kc7 hW hS 0 rfl 5 (by decide) fl_X7_67 rfl rfl rfl rfl (Nat.le_of_ble_eq_true rfl) dX7_sum_39 (fun H locs hW hS => ?_)
    have hW : wo G A (wd_X7_7 G b m_images (m_at_ + (1 : Int32)) m_open_ m_steps m_use_ m_traced m_speaks m_isParted m_s m_step) H := hW
    refine lv_aload_n hx hb dX7_sum_42 rfl (lv_at hl 1 rfl) ?_
    refine q_callV (rest := []) (n := 0) C (c_X7_product l f o O_X7_one hO_X7_one G b m_images (m_at_ + (1 : Int32)) m_open_ m_steps m_use_ m_traced m_speaks m_isParted m_s m_step _ hv) ml_X7_95 kb_X7_product rfl ⟨⟨rfl, rfl⟩, (by show f + 1 + 1 ≤ f + 2; omega), (by show 8 + (2 + 11) + (o + 23) ≤ o + 44; omega)⟩ hW hS [0, 1, 2] rfl rfl kc7 (q0 := 0) rfl hl.1 rfl (Nat.le_of_ble_eq_true rfl) dX7_sum_43 ⟨Nat.zero_le _, Nat.zero_le _⟩ (fun r_9 u_10 H locs hv hW hS => ?_)
    obtain ⟨m_at__9, m_open__9, m_steps_9, m_step_9⟩ := u_10
    obtain ⟨hv_b_9, hv⟩ := hv
    try dsimp only at hv
    have hW : wo G A (wd_X7_7 G b m_images m_at__9 m_open__9 m_steps_9 m_use_ m_traced m_speaks m_isParted m_s m_step_9) H := hW
    refine lv_if_ne (tgt := 51) hx hb dX7_sum_46 (by decide) (fun c_11 => ?_) (fun c_11 => ?_)
    · replace hv := hv.1 c_11
      refine lv_aload_n hx hb dX7_sum_51 rfl (lv_at hl 1 rfl) ?_
      refine lv_iconst (v := 3) hx hb dX7_sum_52 kic_3 ?_
      refine lv_iload_n hx hb dX7_sum_53 rfl (lv_at hl 0 rfl) ?_
      refine q_callVv (rest := []) (n := 2) C (c_X7_step1 l G b m_images m_at__9 m_open__9 m_steps_9 m_use_ m_traced m_speaks m_isParted m_step_9 (3 : Int32) r_7 _ hv) ml_X7_85 kb_X7_step1 rfl ⟨⟨rfl, rfl⟩, (by show 0 + 1 ≤ f + 2; omega), (by show 8 + (3 + 11) + 0 ≤ o + 44; omega)⟩ hW hS [0, 2] rfl rfl kc7 (q0 := 0) rfl hl.1 rfl (Nat.le_of_ble_eq_true rfl) dX7_sum_54 ⟨Nat.zero_le _, Nat.zero_le _⟩ (fun u_13 H locs hv hW hS => ?_)
      obtain ⟨m_steps_12, m_step_12⟩ := u_13
      try dsimp only at hv
      have hW : wo G A (wd_X7_7 G b m_images m_at__9 m_open__9 m_steps_12 m_use_ m_traced m_speaks m_isParted m_s m_step_12) H := hW
      refine lv_goto (tgt := 9) hx hb dX7_sum_57 (by decide) ?_
      exact hB9 m_at__9 m_open__9 m_steps_12 m_step_12 H locs ls hW hS (lv_sub hl [1] rfl) hv
    · replace hv := hv.2 c_11
      refine lv_iconst (v := 0) hx hb dX7_sum_49 kic_0 ?_
      exact ret (m_at__9, m_open__9, m_steps_9, m_step_9) (0 : Int32) H locs ls _ (bl_narrow (Or.inl rfl)) hW hS ⟨(Or.inl rfl), hv⟩ dX7_sum_50
  have h_l_X7_sum_9 : ∀ (n : Nat), ∀ (m_at_ : Int32) (m_open_ : Int32) (m_steps : Int32) (m_step : Nat → Int32) (H : Heap) (locs : List Loc) (ls : Array Slot), wo G A (wd_X7_7 G b m_images m_at_ m_open_ m_steps m_use_ m_traced m_speaks m_isParted m_s m_step) H → va_S A s.heap H locs → lv_has ls 2 [(0, .ref (b 0))] → l_X7_sum_9 O_X7_one m_use_ m_s K n m_at_ m_open_ m_steps m_step → W p l e (rmm (f + 2) (o + 44)) s m args below meth c H locs 0 0 Q (F0 m 9 ls []) := by
    intro n
    induction n with
    | zero =>
      intro m_at_ m_open_ m_steps m_step H locs ls hW hS hl hv
      exact False.elim hv
    | succ n ih =>
      intro m_at_ m_open_ m_steps m_step H locs ls hW hS hl hv
      refine lv_aload_n hx hb dX7_sum_9 rfl (lv_at hl 0 rfl) ?_
      refine q_callV (rest := []) (n := 0) C (c_X7_look l G b m_images m_at_ m_open_ m_steps m_use_ m_traced m_speaks m_isParted m_s _ hv) ml_X7_81 kb_X7_look rfl ⟨⟨rfl, rfl⟩, (by show 0 + 1 ≤ f + 2; omega), (by show 8 + (1 + 11) + 0 ≤ o + 44; omega)⟩ hW hS [0, 1] rfl rfl kc7 (q0 := 0) rfl hl.1 rfl (Nat.le_of_ble_eq_true rfl) dX7_sum_10 ⟨Nat.zero_le _, Nat.zero_le _⟩ (fun r_4 u_5 H locs hv hW hS => ?_)
      try dsimp only at hv
      refine lv_bipush (v := 43) hx hb dX7_sum_13 kbp_43 ?_
      refine lv_icmp_eq (tgt := 27) hx hb dX7_sum_15 (by decide) (fun c_6 => ?_) (fun c_6 => ?_)
      · replace hv := hv.1 c_6
        exact h_j_X7_sum_27 (fun m_at_' m_open_' m_steps' m_step' => l_X7_sum_9 O_X7_one m_use_ m_s K n m_at_' m_open_' m_steps' m_step') ih m_at_ m_open_ m_steps m_step H locs ls hW hS (lv_sub hl [0] rfl) hv
      · replace hv := hv.2 c_6
        refine lv_aload_n hx hb dX7_sum_18 rfl (lv_at hl 0 rfl) ?_
        refine q_callV (rest := []) (n := 0) C (c_X7_look l G b m_images m_at_ m_open_ m_steps m_use_ m_traced m_speaks m_isParted m_s _ hv) ml_X7_81 kb_X7_look rfl ⟨⟨rfl, rfl⟩, (by show 0 + 1 ≤ f + 2; omega), (by show 8 + (1 + 11) + 0 ≤ o + 44; omega)⟩ hW hS [0, 1] rfl rfl kc7 (q0 := 0) rfl hl.1 rfl (Nat.le_of_ble_eq_true rfl) dX7_sum_19 ⟨Nat.zero_le _, Nat.zero_le _⟩ (fun r_14 u_15 H locs hv hW hS => ?_)
        try dsimp only at hv
        refine lv_bipush (v := 45) hx hb dX7_sum_22 kbp_45 ?_
        refine lv_icmp_ne (tgt := 60) hx hb dX7_sum_24 (by decide) (fun c_16 => ?_) (fun c_16 => ?_)
        · replace hv := hv.1 c_16
          refine lv_iconst (v := 1) hx hb dX7_sum_60 kic_1 ?_
          exact ret (m_at_, m_open_, m_steps, m_step) (1 : Int32) H locs ls _ (bl_narrow (Or.inr rfl)) hW hS ⟨(Or.inr rfl), hv⟩ dX7_sum_61
        · replace hv := hv.2 c_16
          exact h_j_X7_sum_27 (fun m_at_' m_open_' m_steps' m_step' => l_X7_sum_9 O_X7_one m_use_ m_s K n m_at_' m_open_' m_steps' m_step') ih m_at_ m_open_ m_steps m_step H locs ls hW hS (lv_sub hl [0] rfl) hv
  refine lv_aload_n hx hb dX7_sum_0 rfl (lv_at hl 0 rfl) ?_
  refine q_callV (rest := []) (n := 0) C (c_X7_product l f o O_X7_one hO_X7_one G b m_images m_at_ m_open_ m_steps m_use_ m_traced m_speaks m_isParted m_s m_step _ hv) ml_X7_95 kb_X7_product rfl ⟨⟨rfl, rfl⟩, (by show f + 1 + 1 ≤ f + 2; omega), (by show 8 + (2 + 11) + (o + 23) ≤ o + 44; omega)⟩ hW hS [0, 1, 2] rfl rfl kc7 (q0 := 0) rfl hl.1 rfl (Nat.le_of_ble_eq_true rfl) dX7_sum_1 ⟨Nat.zero_le _, Nat.zero_le _⟩ (fun r_1 u_2 H locs hv hW hS => ?_)
  obtain ⟨m_at__1, m_open__1, m_steps_1, m_step_1⟩ := u_2
  obtain ⟨hv_b_1, hv⟩ := hv
  try dsimp only at hv
  have hW : wo G A (wd_X7_7 G b m_images m_at__1 m_open__1 m_steps_1 m_use_ m_traced m_speaks m_isParted m_s m_step_1) H := hW
  refine lv_if_ne (tgt := 9) hx hb dX7_sum_4 (by decide) (fun c_3 => ?_) (fun c_3 => ?_)
  · replace hv := hv.1 c_3
    obtain ⟨n_17, hv⟩ := hv
    exact h_l_X7_sum_9 n_17 m_at__1 m_open__1 m_steps_1 m_step_1 H locs ls hW hS (lv_sub hl [0] rfl) hv
  · replace hv := hv.2 c_3
    refine lv_iconst (v := 0) hx hb dX7_sum_7 kic_0 ?_
    exact ret (m_at__1, m_open__1, m_steps_1, m_step_1) (0 : Int32) H locs ls _ (bl_narrow (Or.inl rfl)) hW hS ⟨(Or.inl rfl), hv⟩ dX7_sum_8
set_option maxHeartbeats 4000000 in
set_option maxRecDepth 100000 in
theorem c_X7_compared (l : Launch) (f o : Nat) (O_X7_one : Int32 → Int32 → Int32 → Int32 → (Nat → Int32) → (Nat → Int32) → (Int32 → Int32 → Int32 → Int32 → (Nat → Int32) → Prop) → Prop) (hO_X7_one : ∀ (G : Gt) (b : Nat → Nat) (m_images : Int32) (m_at_ : Int32) (m_open_ : Int32) (m_steps : Int32) (m_use_ : Int32) (m_traced : Int32) (m_speaks : Int32) (m_isParted : Int32) (m_s : Nat → Int32) (m_step : Nat → Int32) (K : Int32 → Int32 → Int32 → Int32 → (Nat → Int32) → Prop), O_X7_one m_at_ m_open_ m_steps m_use_ m_s m_step K → CI l G yX7_one (.code yX7_one cX7_one 4 (some .boolean) :: wsG) (rmm f o) [.ref (b 0)] (wd_X7_7 G b m_images m_at_ m_open_ m_steps m_use_ m_traced m_speaks m_isParted m_s m_step) (S := Int32 × Int32 × Int32 × (Nat → Int32)) (fun u => wd_X7_7 G b m_images u.1 u.2.1 u.2.2.1 m_use_ m_traced m_speaks m_isParted m_s u.2.2.2) (fun r u => (r = 0 ∨ r = 1) ∧ K r u.1 u.2.1 u.2.2.1 u.2.2.2)) (G : Gt) (b : Nat → Nat) (m_images : Int32) (m_at_ : Int32) (m_open_ : Int32) (m_steps : Int32) (m_use_ : Int32) (m_traced : Int32) (m_speaks : Int32) (m_isParted : Int32) (m_s : Nat → Int32) (m_step : Nat → Int32) (K : Int32 → Int32 → Int32 → Int32 → (Nat → Int32) → Prop) (hv : v_X7_compared O_X7_one m_at_ m_open_ m_steps m_use_ m_s m_step K) : CI l G yX7_compared (.code yX7_compared cX7_compared 2 (some .boolean) :: wsG) (rmm (f + 3) (o + 65)) [.ref (b 0)] (wd_X7_7 G b m_images m_at_ m_open_ m_steps m_use_ m_traced m_speaks m_isParted m_s m_step) (S := Int32 × Int32 × Int32 × (Nat → Int32)) (fun u => wd_X7_7 G b m_images u.1 u.2.1 u.2.2.1 m_use_ m_traced m_speaks m_isParted m_s u.2.2.2) (fun r u => (r = 0 ∨ r = 1) ∧ K r u.1 u.2.1 u.2.2.1 u.2.2.2) := by
  refine ci_intro (by decide) rfl (fun _ => rfl) (Nat.le_of_ble_eq_true rfl) ?_
  intro p e s m args below meth c A H ls Q C hW hS hl ret
  have hx := C.1.1
  have hb := C.1.2.1
  generalize hls : ([] : List Loc) = locs at hS ⊢
  have hl : lv_has ls 2 [(0, .ref (b 0))] := hl
  have h_j_X7_compared_34 : ∀ (x1 : Int32) (m_at_ : Int32) (m_open_ : Int32) (m_steps : Int32) (m_step : Nat → Int32) (H : Heap) (locs : List Loc) (ls : Array Slot), wo G A (wd_X7_7 G b m_images m_at_ m_open_ m_steps m_use_ m_traced m_speaks m_isParted m_s m_step) H → va_S A s.heap H locs → lv_has ls 2 [(0, .ref (b 0)), (1, .int x1)] → j_X7_compared_34 O_X7_one m_use_ m_s K x1 m_at_ m_open_ m_steps m_step → W p l e (rmm (f + 3) (o + 65)) s m args below meth c H locs 0 0 Q (F0 m 34 ls []) := by
    intro x1 m_at_ m_open_ m_steps m_step H locs ls hW hS hl hv
    refine lv_aload_n hx hb dX7_compared_34 rfl (lv_at hl 0 rfl) ?_
    refine lv_dup hx hb dX7_compared_35 rfl ?_
    refine q_get C kc7 hW 0 rfl 5 (by decide) fl_X7_67 rfl rfl dX7_compared_36 ?_
    refine lv_iconst (v := 1) hx hb dX7_compared_39 kic_1 ?_
    refine lv_iadd hx hb dX7_compared_40 ?_
    refine q_put C kc7 hW hS 0 rfl 5 (by decide) fl_X7_67 rfl rfl rfl rfl (Nat.le_of_ble_eq_true rfl) dX7_compared_41 (fun H locs hW hS => ?_)
    have hW : wo G A (wd_X7_7 G b m_images (m_at_ + (1 : Int32)) m_open_ m_steps m_use_ m_traced m_speaks m_isParted m_s m_step) H := hW
    refine lv_aload_n hx hb dX7_compared_44 rfl (lv_at hl 0 rfl) ?_
    refine q_callV (rest := []) (n := 0) C (c_X7_sum l f o O_X7_one hO_X7_one G b m_images (m_at_ + (1 : Int32)) m_open_ m_steps m_use_ m_traced m_speaks m_isParted m_s m_step _ hv) ml_X7_92 kb_X7_sum rfl ⟨⟨rfl, rfl⟩, (by show f + 2 + 1 ≤ f + 3; omega), (by show 8 + (2 + 11) + (o + 44) ≤ o + 65; omega)⟩ hW hS [0, 1, 2] rfl rfl kc7 (q0 := 0) rfl hl.1 rfl (Nat.le_of_ble_eq_true rfl) dX7_compared_45 ⟨Nat.zero_le _, Nat.zero_le _⟩ (fun r_7 u_8 H locs hv hW hS => ?_)
    obtain ⟨m_at__7, m_open__7, m_steps_7, m_step_7⟩ := u_8
    obtain ⟨hv_b_7, hv⟩ := hv
    try dsimp only at hv
    have hW : wo G A (wd_X7_7 G b m_images m_at__7 m_open__7 m_steps_7 m_use_ m_traced m_speaks m_isParted m_s m_step_7) H := hW
    refine lv_if_ne (tgt := 53) hx hb dX7_compared_48 (by decide) (fun c_9 => ?_) (fun c_9 => ?_)
    · replace hv := hv.1 c_9
      refine lv_aload_n hx hb dX7_compared_53 rfl (lv_at hl 0 rfl) ?_
      refine lv_iconst (v := 3) hx hb dX7_compared_54 kic_3 ?_
      refine lv_iload_n hx hb dX7_compared_55 rfl (lv_at hl 1 rfl) ?_
      refine q_callVv (rest := []) (n := 2) C (c_X7_step1 l G b m_images m_at__7 m_open__7 m_steps_7 m_use_ m_traced m_speaks m_isParted m_step_7 (3 : Int32) x1 _ hv) ml_X7_85 kb_X7_step1 rfl ⟨⟨rfl, rfl⟩, (by show 0 + 1 ≤ f + 3; omega), (by show 8 + (3 + 11) + 0 ≤ o + 65; omega)⟩ hW hS [0, 2] rfl rfl kc7 (q0 := 0) rfl hl.1 rfl (Nat.le_of_ble_eq_true rfl) dX7_compared_56 ⟨Nat.zero_le _, Nat.zero_le _⟩ (fun u_11 H locs hv hW hS => ?_)
      obtain ⟨m_steps_10, m_step_10⟩ := u_11
      try dsimp only at hv
      have hW : wo G A (wd_X7_7 G b m_images m_at__7 m_open__7 m_steps_10 m_use_ m_traced m_speaks m_isParted m_s m_step_10) H := hW
      refine lv_iconst (v := 1) hx hb dX7_compared_59 kic_1 ?_
      exact ret (m_at__7, m_open__7, m_steps_10, m_step_10) (1 : Int32) H locs ls _ (bl_narrow (Or.inr rfl)) hW hS ⟨(Or.inr rfl), hv⟩ dX7_compared_60
    · replace hv := hv.2 c_9
      refine lv_iconst (v := 0) hx hb dX7_compared_51 kic_0 ?_
      exact ret (m_at__7, m_open__7, m_steps_7, m_step_7) (0 : Int32) H locs ls _ (bl_narrow (Or.inl rfl)) hW hS ⟨(Or.inl rfl), hv⟩ dX7_compared_52
  refine lv_aload_n hx hb dX7_compared_0 rfl (lv_at hl 0 rfl) ?_
  refine q_callV (rest := []) (n := 0) C (c_X7_sum l f o O_X7_one hO_X7_one G b m_images m_at_ m_open_ m_steps m_use_ m_traced m_speaks m_isParted m_s m_step _ hv) ml_X7_92 kb_X7_sum rfl ⟨⟨rfl, rfl⟩, (by show f + 2 + 1 ≤ f + 3; omega), (by show 8 + (2 + 11) + (o + 44) ≤ o + 65; omega)⟩ hW hS [0, 1, 2] rfl rfl kc7 (q0 := 0) rfl hl.1 rfl (Nat.le_of_ble_eq_true rfl) dX7_compared_1 ⟨Nat.zero_le _, Nat.zero_le _⟩ (fun r_1 u_2 H locs hv hW hS => ?_)
  obtain ⟨m_at__1, m_open__1, m_steps_1, m_step_1⟩ := u_2
  obtain ⟨hv_b_1, hv⟩ := hv
  try dsimp only at hv
  have hW : wo G A (wd_X7_7 G b m_images m_at__1 m_open__1 m_steps_1 m_use_ m_traced m_speaks m_isParted m_s m_step_1) H := hW
  refine lv_if_ne (tgt := 9) hx hb dX7_compared_4 (by decide) (fun c_3 => ?_) (fun c_3 => ?_)
  · replace hv := hv.1 c_3
    refine lv_aload_n hx hb dX7_compared_9 rfl (lv_at hl 0 rfl) ?_
    refine q_callV (rest := []) (n := 0) C (c_X7_look l G b m_images m_at__1 m_open__1 m_steps_1 m_use_ m_traced m_speaks m_isParted m_s _ hv) ml_X7_81 kb_X7_look rfl ⟨⟨rfl, rfl⟩, (by show 0 + 1 ≤ f + 3; omega), (by show 8 + (1 + 11) + 0 ≤ o + 65; omega)⟩ hW hS [0, 1] rfl rfl kc7 (q0 := 0) rfl hl.1 rfl (Nat.le_of_ble_eq_true rfl) dX7_compared_10 ⟨Nat.zero_le _, Nat.zero_le _⟩ (fun r_4 u_5 H locs hv hW hS => ?_)
    try dsimp only at hv
    refine lv_istore_n (lv' := [(1, .int r_4), (0, .ref (b 0))]) hx hb dX7_compared_13 rfl hl (by decide) rfl (fun ls hl => ?_)
    refine lv_iload_n hx hb dX7_compared_14 rfl (lv_at hl 0 rfl) ?_
    refine lv_bipush (v := 60) hx hb dX7_compared_15 kbp_60 ?_
    refine lv_icmp_eq (tgt := 34) hx hb dX7_compared_17 (by decide) (fun c_6 => ?_) (fun c_6 => ?_)
    · replace hv := hv.1 c_6
      exact h_j_X7_compared_34 r_4 m_at__1 m_open__1 m_steps_1 m_step_1 H locs ls hW hS (lv_sub hl [1, 0] rfl) hv
    · replace hv := hv.2 c_6
      refine lv_iload_n hx hb dX7_compared_20 rfl (lv_at hl 0 rfl) ?_
      refine lv_bipush (v := 61) hx hb dX7_compared_21 kbp_61 ?_
      refine lv_icmp_eq (tgt := 34) hx hb dX7_compared_23 (by decide) (fun c_12 => ?_) (fun c_12 => ?_)
      · replace hv := hv.1 c_12
        exact h_j_X7_compared_34 r_4 m_at__1 m_open__1 m_steps_1 m_step_1 H locs ls hW hS (lv_sub hl [1, 0] rfl) hv
      · replace hv := hv.2 c_12
        refine lv_iload_n hx hb dX7_compared_26 rfl (lv_at hl 0 rfl) ?_
        refine lv_bipush (v := 62) hx hb dX7_compared_27 kbp_62 ?_
        refine lv_icmp_eq (tgt := 34) hx hb dX7_compared_29 (by decide) (fun c_13 => ?_) (fun c_13 => ?_)
        · replace hv := hv.1 c_13
          exact h_j_X7_compared_34 r_4 m_at__1 m_open__1 m_steps_1 m_step_1 H locs ls hW hS (lv_sub hl [1, 0] rfl) hv
        · replace hv := hv.2 c_13
          refine lv_iconst (v := 1) hx hb dX7_compared_32 kic_1 ?_
          exact ret (m_at__1, m_open__1, m_steps_1, m_step_1) (1 : Int32) H locs ls _ (bl_narrow (Or.inr rfl)) hW hS ⟨(Or.inr rfl), hv⟩ dX7_compared_33
  · replace hv := hv.2 c_3
    refine lv_iconst (v := 0) hx hb dX7_compared_7 kic_0 ?_
    exact ret (m_at__1, m_open__1, m_steps_1, m_step_1) (0 : Int32) H locs ls _ (bl_narrow (Or.inl rfl)) hW hS ⟨(Or.inl rfl), hv⟩ dX7_compared_8
set_option maxHeartbeats 4000000 in
set_option maxRecDepth 100000 in
theorem c_X7_both (l : Launch) (f o : Nat) (O_X7_one : Int32 → Int32 → Int32 → Int32 → (Nat → Int32) → (Nat → Int32) → (Int32 → Int32 → Int32 → Int32 → (Nat → Int32) → Prop) → Prop) (hO_X7_one : ∀ (G : Gt) (b : Nat → Nat) (m_images : Int32) (m_at_ : Int32) (m_open_ : Int32) (m_steps : Int32) (m_use_ : Int32) (m_traced : Int32) (m_speaks : Int32) (m_isParted : Int32) (m_s : Nat → Int32) (m_step : Nat → Int32) (K : Int32 → Int32 → Int32 → Int32 → (Nat → Int32) → Prop), O_X7_one m_at_ m_open_ m_steps m_use_ m_s m_step K → CI l G yX7_one (.code yX7_one cX7_one 4 (some .boolean) :: wsG) (rmm f o) [.ref (b 0)] (wd_X7_7 G b m_images m_at_ m_open_ m_steps m_use_ m_traced m_speaks m_isParted m_s m_step) (S := Int32 × Int32 × Int32 × (Nat → Int32)) (fun u => wd_X7_7 G b m_images u.1 u.2.1 u.2.2.1 m_use_ m_traced m_speaks m_isParted m_s u.2.2.2) (fun r u => (r = 0 ∨ r = 1) ∧ K r u.1 u.2.1 u.2.2.1 u.2.2.2)) (G : Gt) (b : Nat → Nat) (m_images : Int32) (m_at_ : Int32) (m_open_ : Int32) (m_steps : Int32) (m_use_ : Int32) (m_traced : Int32) (m_speaks : Int32) (m_isParted : Int32) (m_s : Nat → Int32) (m_step : Nat → Int32) (K : Int32 → Int32 → Int32 → Int32 → (Nat → Int32) → Prop) (hv : v_X7_both O_X7_one m_at_ m_open_ m_steps m_use_ m_s m_step K) : CI l G yX7_both (.code yX7_both cX7_both 1 (some .boolean) :: wsG) (rmm (f + 4) (o + 86)) [.ref (b 0)] (wd_X7_7 G b m_images m_at_ m_open_ m_steps m_use_ m_traced m_speaks m_isParted m_s m_step) (S := Int32 × Int32 × Int32 × (Nat → Int32)) (fun u => wd_X7_7 G b m_images u.1 u.2.1 u.2.2.1 m_use_ m_traced m_speaks m_isParted m_s u.2.2.2) (fun r u => (r = 0 ∨ r = 1) ∧ K r u.1 u.2.1 u.2.2.1 u.2.2.2) := by
  refine ci_intro (by decide) rfl (fun _ => rfl) (Nat.le_of_ble_eq_true rfl) ?_
  intro p e s m args below meth c A H ls Q C hW hS hl ret
  have hx := C.1.1
  have hb := C.1.2.1
  generalize hls : ([] : List Loc) = locs at hS ⊢
  have hl : lv_has ls 1 [(0, .ref (b 0))] := hl
  have h_l_X7_both_9 : ∀ (n : Nat), ∀ (m_at_ : Int32) (m_open_ : Int32) (m_steps : Int32) (m_step : Nat → Int32) (H : Heap) (locs : List Loc) (ls : Array Slot), wo G A (wd_X7_7 G b m_images m_at_ m_open_ m_steps m_use_ m_traced m_speaks m_isParted m_s m_step) H → va_S A s.heap H locs → lv_has ls 1 [(0, .ref (b 0))] → l_X7_both_9 O_X7_one m_use_ m_s K n m_at_ m_open_ m_steps m_step → W p l e (rmm (f + 4) (o + 86)) s m args below meth c H locs 0 0 Q (F0 m 9 ls []) := by
    intro n
    induction n with
    | zero =>
      intro m_at_ m_open_ m_steps m_step H locs ls hW hS hl hv
      exact False.elim hv
    | succ n ih =>
      intro m_at_ m_open_ m_steps m_step H locs ls hW hS hl hv
      refine lv_aload_n hx hb dX7_both_9 rfl (lv_at hl 0 rfl) ?_
      refine q_callV (rest := []) (n := 0) C (c_X7_look l G b m_images m_at_ m_open_ m_steps m_use_ m_traced m_speaks m_isParted m_s _ hv) ml_X7_81 kb_X7_look rfl ⟨⟨rfl, rfl⟩, (by show 0 + 1 ≤ f + 4; omega), (by show 8 + (1 + 11) + 0 ≤ o + 86; omega)⟩ hW hS [0, 1] rfl rfl kc7 (q0 := 0) rfl hl.1 rfl (Nat.le_of_ble_eq_true rfl) dX7_both_10 ⟨Nat.zero_le _, Nat.zero_le _⟩ (fun r_4 u_5 H locs hv hW hS => ?_)
      try dsimp only at hv
      refine lv_bipush (v := 38) hx hb dX7_both_13 kbp_38 ?_
      refine lv_icmp_ne (tgt := 47) hx hb dX7_both_15 (by decide) (fun c_6 => ?_) (fun c_6 => ?_)
      · replace hv := hv.1 c_6
        refine lv_iconst (v := 1) hx hb dX7_both_47 kic_1 ?_
        exact ret (m_at_, m_open_, m_steps, m_step) (1 : Int32) H locs ls _ (bl_narrow (Or.inr rfl)) hW hS ⟨(Or.inr rfl), hv⟩ dX7_both_48
      · replace hv := hv.2 c_6
        refine lv_aload_n hx hb dX7_both_18 rfl (lv_at hl 0 rfl) ?_
        refine lv_dup hx hb dX7_both_19 rfl ?_
        refine q_get C kc7 hW 0 rfl 5 (by decide) fl_X7_67 rfl rfl dX7_both_20 ?_
        refine lv_iconst (v := 1) hx hb dX7_both_23 kic_1 ?_
        refine lv_iadd hx hb dX7_both_24 ?_
        refine q_put C kc7 hW hS 0 rfl 5 (by decide) fl_X7_67 rfl rfl rfl rfl (Nat.le_of_ble_eq_true rfl) dX7_both_25 (fun H locs hW hS => ?_)
        have hW : wo G A (wd_X7_7 G b m_images (m_at_ + (1 : Int32)) m_open_ m_steps m_use_ m_traced m_speaks m_isParted m_s m_step) H := hW
        refine lv_aload_n hx hb dX7_both_28 rfl (lv_at hl 0 rfl) ?_
        refine q_callV (rest := []) (n := 0) C (c_X7_compared l f o O_X7_one hO_X7_one G b m_images (m_at_ + (1 : Int32)) m_open_ m_steps m_use_ m_traced m_speaks m_isParted m_s m_step _ hv) ml_X7_89 kb_X7_compared rfl ⟨⟨rfl, rfl⟩, (by show f + 3 + 1 ≤ f + 4; omega), (by show 8 + (2 + 11) + (o + 65) ≤ o + 86; omega)⟩ hW hS [0, 1, 2] rfl rfl kc7 (q0 := 0) rfl hl.1 rfl (Nat.le_of_ble_eq_true rfl) dX7_both_29 ⟨Nat.zero_le _, Nat.zero_le _⟩ (fun r_7 u_8 H locs hv hW hS => ?_)
        obtain ⟨m_at__7, m_open__7, m_steps_7, m_step_7⟩ := u_8
        obtain ⟨hv_b_7, hv⟩ := hv
        try dsimp only at hv
        have hW : wo G A (wd_X7_7 G b m_images m_at__7 m_open__7 m_steps_7 m_use_ m_traced m_speaks m_isParted m_s m_step_7) H := hW
        refine lv_if_ne (tgt := 37) hx hb dX7_both_32 (by decide) (fun c_9 => ?_) (fun c_9 => ?_)
        · replace hv := hv.1 c_9
          refine lv_aload_n hx hb dX7_both_37 rfl (lv_at hl 0 rfl) ?_
          refine lv_iconst (v := 3) hx hb dX7_both_38 kic_3 ?_
          refine lv_bipush (v := 38) hx hb dX7_both_39 kbp_38 ?_
          refine q_callVv (rest := []) (n := 2) C (c_X7_step1 l G b m_images m_at__7 m_open__7 m_steps_7 m_use_ m_traced m_speaks m_isParted m_step_7 (3 : Int32) (38 : Int32) _ hv) ml_X7_85 kb_X7_step1 rfl ⟨⟨rfl, rfl⟩, (by show 0 + 1 ≤ f + 4; omega), (by show 8 + (3 + 11) + 0 ≤ o + 86; omega)⟩ hW hS [0, 2] rfl rfl kc7 (q0 := 0) rfl hl.1 rfl (Nat.le_of_ble_eq_true rfl) dX7_both_41 ⟨Nat.zero_le _, Nat.zero_le _⟩ (fun u_11 H locs hv hW hS => ?_)
          obtain ⟨m_steps_10, m_step_10⟩ := u_11
          try dsimp only at hv
          have hW : wo G A (wd_X7_7 G b m_images m_at__7 m_open__7 m_steps_10 m_use_ m_traced m_speaks m_isParted m_s m_step_10) H := hW
          refine lv_goto (tgt := 9) hx hb dX7_both_44 (by decide) ?_
          exact ih m_at__7 m_open__7 m_steps_10 m_step_10 H locs ls hW hS (lv_sub hl [0] rfl) hv
        · replace hv := hv.2 c_9
          refine lv_iconst (v := 0) hx hb dX7_both_35 kic_0 ?_
          exact ret (m_at__7, m_open__7, m_steps_7, m_step_7) (0 : Int32) H locs ls _ (bl_narrow (Or.inl rfl)) hW hS ⟨(Or.inl rfl), hv⟩ dX7_both_36
  refine lv_aload_n hx hb dX7_both_0 rfl (lv_at hl 0 rfl) ?_
  refine q_callV (rest := []) (n := 0) C (c_X7_compared l f o O_X7_one hO_X7_one G b m_images m_at_ m_open_ m_steps m_use_ m_traced m_speaks m_isParted m_s m_step _ hv) ml_X7_89 kb_X7_compared rfl ⟨⟨rfl, rfl⟩, (by show f + 3 + 1 ≤ f + 4; omega), (by show 8 + (2 + 11) + (o + 65) ≤ o + 86; omega)⟩ hW hS [0, 1, 2] rfl rfl kc7 (q0 := 0) rfl hl.1 rfl (Nat.le_of_ble_eq_true rfl) dX7_both_1 ⟨Nat.zero_le _, Nat.zero_le _⟩ (fun r_1 u_2 H locs hv hW hS => ?_)
  obtain ⟨m_at__1, m_open__1, m_steps_1, m_step_1⟩ := u_2
  obtain ⟨hv_b_1, hv⟩ := hv
  try dsimp only at hv
  have hW : wo G A (wd_X7_7 G b m_images m_at__1 m_open__1 m_steps_1 m_use_ m_traced m_speaks m_isParted m_s m_step_1) H := hW
  refine lv_if_ne (tgt := 9) hx hb dX7_both_4 (by decide) (fun c_3 => ?_) (fun c_3 => ?_)
  · replace hv := hv.1 c_3
    obtain ⟨n_12, hv⟩ := hv
    exact h_l_X7_both_9 n_12 m_at__1 m_open__1 m_steps_1 m_step_1 H locs ls hW hS (lv_sub hl [0] rfl) hv
  · replace hv := hv.2 c_3
    refine lv_iconst (v := 0) hx hb dX7_both_7 kic_0 ?_
    exact ret (m_at__1, m_open__1, m_steps_1, m_step_1) (0 : Int32) H locs ls _ (bl_narrow (Or.inl rfl)) hW hS ⟨(Or.inl rfl), hv⟩ dX7_both_8
set_option maxHeartbeats 4000000 in
set_option maxRecDepth 100000 in
theorem c_X7_whole (l : Launch) (f o : Nat) (O_X7_one : Int32 → Int32 → Int32 → Int32 → (Nat → Int32) → (Nat → Int32) → (Int32 → Int32 → Int32 → Int32 → (Nat → Int32) → Prop) → Prop) (hO_X7_one : ∀ (G : Gt) (b : Nat → Nat) (m_images : Int32) (m_at_ : Int32) (m_open_ : Int32) (m_steps : Int32) (m_use_ : Int32) (m_traced : Int32) (m_speaks : Int32) (m_isParted : Int32) (m_s : Nat → Int32) (m_step : Nat → Int32) (K : Int32 → Int32 → Int32 → Int32 → (Nat → Int32) → Prop), O_X7_one m_at_ m_open_ m_steps m_use_ m_s m_step K → CI l G yX7_one (.code yX7_one cX7_one 4 (some .boolean) :: wsG) (rmm f o) [.ref (b 0)] (wd_X7_7 G b m_images m_at_ m_open_ m_steps m_use_ m_traced m_speaks m_isParted m_s m_step) (S := Int32 × Int32 × Int32 × (Nat → Int32)) (fun u => wd_X7_7 G b m_images u.1 u.2.1 u.2.2.1 m_use_ m_traced m_speaks m_isParted m_s u.2.2.2) (fun r u => (r = 0 ∨ r = 1) ∧ K r u.1 u.2.1 u.2.2.1 u.2.2.2)) (G : Gt) (b : Nat → Nat) (m_images : Int32) (m_at_ : Int32) (m_open_ : Int32) (m_steps : Int32) (m_use_ : Int32) (m_traced : Int32) (m_speaks : Int32) (m_isParted : Int32) (m_s : Nat → Int32) (m_step : Nat → Int32) (K : Int32 → Int32 → Int32 → Int32 → (Nat → Int32) → Prop) (hv : v_X7_whole O_X7_one m_at_ m_open_ m_steps m_use_ m_s m_step K) : CI l G yX7_whole (.code yX7_whole cX7_whole 1 (some .boolean) :: wsG) (rmm (f + 5) (o + 106)) [.ref (b 0)] (wd_X7_7 G b m_images m_at_ m_open_ m_steps m_use_ m_traced m_speaks m_isParted m_s m_step) (S := Int32 × Int32 × Int32 × (Nat → Int32)) (fun u => wd_X7_7 G b m_images u.1 u.2.1 u.2.2.1 m_use_ m_traced m_speaks m_isParted m_s u.2.2.2) (fun r u => (r = 0 ∨ r = 1) ∧ K r u.1 u.2.1 u.2.2.1 u.2.2.2) := by
  refine ci_intro (by decide) rfl (fun _ => rfl) (Nat.le_of_ble_eq_true rfl) ?_
  intro p e s m args below meth c A H ls Q C hW hS hl ret
  have hx := C.1.1
  have hb := C.1.2.1
  generalize hls : ([] : List Loc) = locs at hS ⊢
  have hl : lv_has ls 1 [(0, .ref (b 0))] := hl
  have h_l_X7_whole_9 : ∀ (n : Nat), ∀ (m_at_ : Int32) (m_open_ : Int32) (m_steps : Int32) (m_step : Nat → Int32) (H : Heap) (locs : List Loc) (ls : Array Slot), wo G A (wd_X7_7 G b m_images m_at_ m_open_ m_steps m_use_ m_traced m_speaks m_isParted m_s m_step) H → va_S A s.heap H locs → lv_has ls 1 [(0, .ref (b 0))] → l_X7_whole_9 O_X7_one m_use_ m_s K n m_at_ m_open_ m_steps m_step → W p l e (rmm (f + 5) (o + 106)) s m args below meth c H locs 0 0 Q (F0 m 9 ls []) := by
    intro n
    induction n with
    | zero =>
      intro m_at_ m_open_ m_steps m_step H locs ls hW hS hl hv
      exact False.elim hv
    | succ n ih =>
      intro m_at_ m_open_ m_steps m_step H locs ls hW hS hl hv
      refine lv_aload_n hx hb dX7_whole_9 rfl (lv_at hl 0 rfl) ?_
      refine q_callV (rest := []) (n := 0) C (c_X7_look l G b m_images m_at_ m_open_ m_steps m_use_ m_traced m_speaks m_isParted m_s _ hv) ml_X7_81 kb_X7_look rfl ⟨⟨rfl, rfl⟩, (by show 0 + 1 ≤ f + 5; omega), (by show 8 + (1 + 11) + 0 ≤ o + 106; omega)⟩ hW hS [0, 1] rfl rfl kc7 (q0 := 0) rfl hl.1 rfl (Nat.le_of_ble_eq_true rfl) dX7_whole_10 ⟨Nat.zero_le _, Nat.zero_le _⟩ (fun r_4 u_5 H locs hv hW hS => ?_)
      try dsimp only at hv
      refine lv_bipush (v := 124) hx hb dX7_whole_13 kbp_124 ?_
      refine lv_icmp_ne (tgt := 47) hx hb dX7_whole_15 (by decide) (fun c_6 => ?_) (fun c_6 => ?_)
      · replace hv := hv.1 c_6
        refine lv_iconst (v := 1) hx hb dX7_whole_47 kic_1 ?_
        exact ret (m_at_, m_open_, m_steps, m_step) (1 : Int32) H locs ls _ (bl_narrow (Or.inr rfl)) hW hS ⟨(Or.inr rfl), hv⟩ dX7_whole_48
      · replace hv := hv.2 c_6
        refine lv_aload_n hx hb dX7_whole_18 rfl (lv_at hl 0 rfl) ?_
        refine lv_dup hx hb dX7_whole_19 rfl ?_
        refine q_get C kc7 hW 0 rfl 5 (by decide) fl_X7_67 rfl rfl dX7_whole_20 ?_
        refine lv_iconst (v := 1) hx hb dX7_whole_23 kic_1 ?_
        refine lv_iadd hx hb dX7_whole_24 ?_
        refine q_put C kc7 hW hS 0 rfl 5 (by decide) fl_X7_67 rfl rfl rfl rfl (Nat.le_of_ble_eq_true rfl) dX7_whole_25 (fun H locs hW hS => ?_)
        have hW : wo G A (wd_X7_7 G b m_images (m_at_ + (1 : Int32)) m_open_ m_steps m_use_ m_traced m_speaks m_isParted m_s m_step) H := hW
        refine lv_aload_n hx hb dX7_whole_28 rfl (lv_at hl 0 rfl) ?_
        refine q_callV (rest := []) (n := 0) C (c_X7_both l f o O_X7_one hO_X7_one G b m_images (m_at_ + (1 : Int32)) m_open_ m_steps m_use_ m_traced m_speaks m_isParted m_s m_step _ hv) ml_X7_77 kb_X7_both rfl ⟨⟨rfl, rfl⟩, (by show f + 4 + 1 ≤ f + 5; omega), (by show 8 + (1 + 11) + (o + 86) ≤ o + 106; omega)⟩ hW hS [0, 1, 2] rfl rfl kc7 (q0 := 0) rfl hl.1 rfl (Nat.le_of_ble_eq_true rfl) dX7_whole_29 ⟨Nat.zero_le _, Nat.zero_le _⟩ (fun r_7 u_8 H locs hv hW hS => ?_)
        obtain ⟨m_at__7, m_open__7, m_steps_7, m_step_7⟩ := u_8
        obtain ⟨hv_b_7, hv⟩ := hv
        try dsimp only at hv
        have hW : wo G A (wd_X7_7 G b m_images m_at__7 m_open__7 m_steps_7 m_use_ m_traced m_speaks m_isParted m_s m_step_7) H := hW
        refine lv_if_ne (tgt := 37) hx hb dX7_whole_32 (by decide) (fun c_9 => ?_) (fun c_9 => ?_)
        · replace hv := hv.1 c_9
          refine lv_aload_n hx hb dX7_whole_37 rfl (lv_at hl 0 rfl) ?_
          refine lv_iconst (v := 3) hx hb dX7_whole_38 kic_3 ?_
          refine lv_bipush (v := 124) hx hb dX7_whole_39 kbp_124 ?_
          refine q_callVv (rest := []) (n := 2) C (c_X7_step1 l G b m_images m_at__7 m_open__7 m_steps_7 m_use_ m_traced m_speaks m_isParted m_step_7 (3 : Int32) (124 : Int32) _ hv) ml_X7_85 kb_X7_step1 rfl ⟨⟨rfl, rfl⟩, (by show 0 + 1 ≤ f + 5; omega), (by show 8 + (3 + 11) + 0 ≤ o + 106; omega)⟩ hW hS [0, 2] rfl rfl kc7 (q0 := 0) rfl hl.1 rfl (Nat.le_of_ble_eq_true rfl) dX7_whole_41 ⟨Nat.zero_le _, Nat.zero_le _⟩ (fun u_11 H locs hv hW hS => ?_)
          obtain ⟨m_steps_10, m_step_10⟩ := u_11
          try dsimp only at hv
          have hW : wo G A (wd_X7_7 G b m_images m_at__7 m_open__7 m_steps_10 m_use_ m_traced m_speaks m_isParted m_s m_step_10) H := hW
          refine lv_goto (tgt := 9) hx hb dX7_whole_44 (by decide) ?_
          exact ih m_at__7 m_open__7 m_steps_10 m_step_10 H locs ls hW hS (lv_sub hl [0] rfl) hv
        · replace hv := hv.2 c_9
          refine lv_iconst (v := 0) hx hb dX7_whole_35 kic_0 ?_
          exact ret (m_at__7, m_open__7, m_steps_7, m_step_7) (0 : Int32) H locs ls _ (bl_narrow (Or.inl rfl)) hW hS ⟨(Or.inl rfl), hv⟩ dX7_whole_36
  refine lv_aload_n hx hb dX7_whole_0 rfl (lv_at hl 0 rfl) ?_
  refine q_callV (rest := []) (n := 0) C (c_X7_both l f o O_X7_one hO_X7_one G b m_images m_at_ m_open_ m_steps m_use_ m_traced m_speaks m_isParted m_s m_step _ hv) ml_X7_77 kb_X7_both rfl ⟨⟨rfl, rfl⟩, (by show f + 4 + 1 ≤ f + 5; omega), (by show 8 + (1 + 11) + (o + 86) ≤ o + 106; omega)⟩ hW hS [0, 1, 2] rfl rfl kc7 (q0 := 0) rfl hl.1 rfl (Nat.le_of_ble_eq_true rfl) dX7_whole_1 ⟨Nat.zero_le _, Nat.zero_le _⟩ (fun r_1 u_2 H locs hv hW hS => ?_)
  obtain ⟨m_at__1, m_open__1, m_steps_1, m_step_1⟩ := u_2
  obtain ⟨hv_b_1, hv⟩ := hv
  try dsimp only at hv
  have hW : wo G A (wd_X7_7 G b m_images m_at__1 m_open__1 m_steps_1 m_use_ m_traced m_speaks m_isParted m_s m_step_1) H := hW
  refine lv_if_ne (tgt := 9) hx hb dX7_whole_4 (by decide) (fun c_3 => ?_) (fun c_3 => ?_)
  · replace hv := hv.1 c_3
    obtain ⟨n_12, hv⟩ := hv
    exact h_l_X7_whole_9 n_12 m_at__1 m_open__1 m_steps_1 m_step_1 H locs ls hW hS (lv_sub hl [0] rfl) hv
  · replace hv := hv.2 c_3
    refine lv_iconst (v := 0) hx hb dX7_whole_7 kic_0 ?_
    exact ret (m_at__1, m_open__1, m_steps_1, m_step_1) (0 : Int32) H locs ls _ (bl_narrow (Or.inl rfl)) hW hS ⟨(Or.inl rfl), hv⟩ dX7_whole_8
set_option maxHeartbeats 4000000 in
set_option maxRecDepth 100000 in
theorem cb_X7_one (l : Launch) (f o : Nat) (O_X7_one : Int32 → Int32 → Int32 → Int32 → (Nat → Int32) → (Nat → Int32) → (Int32 → Int32 → Int32 → Int32 → (Nat → Int32) → Prop) → Prop) (hO_X7_one : ∀ (G : Gt) (b : Nat → Nat) (m_images : Int32) (m_at_ : Int32) (m_open_ : Int32) (m_steps : Int32) (m_use_ : Int32) (m_traced : Int32) (m_speaks : Int32) (m_isParted : Int32) (m_s : Nat → Int32) (m_step : Nat → Int32) (K : Int32 → Int32 → Int32 → Int32 → (Nat → Int32) → Prop), O_X7_one m_at_ m_open_ m_steps m_use_ m_s m_step K → CI l G yX7_one (.code yX7_one cX7_one 4 (some .boolean) :: wsG) (rmm f o) [.ref (b 0)] (wd_X7_7 G b m_images m_at_ m_open_ m_steps m_use_ m_traced m_speaks m_isParted m_s m_step) (S := Int32 × Int32 × Int32 × (Nat → Int32)) (fun u => wd_X7_7 G b m_images u.1 u.2.1 u.2.2.1 m_use_ m_traced m_speaks m_isParted m_s u.2.2.2) (fun r u => (r = 0 ∨ r = 1) ∧ K r u.1 u.2.1 u.2.2.1 u.2.2.2)) (G : Gt) (b : Nat → Nat) (m_images : Int32) (m_at_ : Int32) (m_open_ : Int32) (m_steps : Int32) (m_use_ : Int32) (m_traced : Int32) (m_speaks : Int32) (m_isParted : Int32) (m_s : Nat → Int32) (m_step : Nat → Int32) (K : Int32 → Int32 → Int32 → Int32 → (Nat → Int32) → Prop) (hv : b_X7_one O_X7_one m_at_ m_open_ m_steps m_use_ m_s m_step K) : CI l G yX7_one (.code yX7_one cX7_one 4 (some .boolean) :: wsG) (rmm (f + 6) (o + 126)) [.ref (b 0)] (wd_X7_7 G b m_images m_at_ m_open_ m_steps m_use_ m_traced m_speaks m_isParted m_s m_step) (S := Int32 × Int32 × Int32 × (Nat → Int32)) (fun u => wd_X7_7 G b m_images u.1 u.2.1 u.2.2.1 m_use_ m_traced m_speaks m_isParted m_s u.2.2.2) (fun r u => (r = 0 ∨ r = 1) ∧ K r u.1 u.2.1 u.2.2.1 u.2.2.2) := by
  refine ci_intro (by decide) rfl (fun _ => rfl) (Nat.le_of_ble_eq_true rfl) ?_
  intro p e s m args below meth c A H ls Q C hW hS hl ret
  have hx := C.1.1
  have hb := C.1.2.1
  generalize hls : ([] : List Loc) = locs at hS ⊢
  have hl : lv_has ls 4 [(0, .ref (b 0))] := hl
  have h_j_X7_one_94 : ∀ (x2 : Int32) (m_at_ : Int32) (m_open_ : Int32) (m_steps : Int32) (m_step : Nat → Int32) (H : Heap) (locs : List Loc) (ls : Array Slot), wo G A (wd_X7_7 G b m_images m_at_ m_open_ m_steps m_use_ m_traced m_speaks m_isParted m_s m_step) H → va_S A s.heap H locs → lv_has ls 4 [(0, .ref (b 0)), (2, .int x2)] → j_X7_one_94 O_X7_one m_use_ m_s K x2 m_at_ m_open_ m_steps m_step → W p l e (rmm (f + 6) (o + 126)) s m args below meth c H locs 0 0 Q (F0 m 94 ls []) := by
    intro x2 m_at_ m_open_ m_steps m_step H locs ls hW hS hl hv
    refine lv_aload_n hx hb dX7_one_94 rfl (lv_at hl 0 rfl) ?_
    refine lv_iconst (v := 0) hx hb dX7_one_95 kic_0 ?_
    refine lv_iload_n hx hb dX7_one_96 rfl (lv_at hl 1 rfl) ?_
    refine q_callVv (rest := []) (n := 2) C (c_X7_step1 l G b m_images m_at_ m_open_ m_steps m_use_ m_traced m_speaks m_isParted m_step (0 : Int32) x2 _ hv) ml_X7_85 kb_X7_step1 rfl ⟨⟨rfl, rfl⟩, (by show 0 + 1 ≤ f + 6; omega), (by show 8 + (3 + 11) + 0 ≤ o + 126; omega)⟩ hW hS [0, 2] rfl rfl kc7 (q0 := 0) rfl hl.1 rfl (Nat.le_of_ble_eq_true rfl) dX7_one_97 ⟨Nat.zero_le _, Nat.zero_le _⟩ (fun u_30 H locs hv hW hS => ?_)
    obtain ⟨m_steps_29, m_step_29⟩ := u_30
    try dsimp only at hv
    have hW : wo G A (wd_X7_7 G b m_images m_at_ m_open_ m_steps_29 m_use_ m_traced m_speaks m_isParted m_s m_step_29) H := hW
    refine lv_iconst (v := 1) hx hb dX7_one_100 kic_1 ?_
    exact ret (m_at_, m_open_, m_steps_29, m_step_29) (1 : Int32) H locs ls _ (bl_narrow (Or.inr rfl)) hW hS ⟨(Or.inr rfl), hv⟩ dX7_one_101
  have h_l_X7_one_46 : ∀ (n : Nat), ∀ (x2 : Int32) (x3 : Int32) (m_at_ : Int32) (m_open_ : Int32) (m_steps : Int32) (m_step : Nat → Int32) (H : Heap) (locs : List Loc) (ls : Array Slot), wo G A (wd_X7_7 G b m_images m_at_ m_open_ m_steps m_use_ m_traced m_speaks m_isParted m_s m_step) H → va_S A s.heap H locs → lv_has ls 4 [(0, .ref (b 0)), (2, .int x2), (3, .int x3)] → l_X7_one_46 O_X7_one m_use_ m_s K n x2 x3 m_at_ m_open_ m_steps m_step → W p l e (rmm (f + 6) (o + 126)) s m args below meth c H locs 0 0 Q (F0 m 46 ls []) := by
    intro n
    induction n with
    | zero =>
      intro x2 x3 m_at_ m_open_ m_steps m_step H locs ls hW hS hl hv
      exact False.elim hv
    | succ n ih =>
      intro x2 x3 m_at_ m_open_ m_steps m_step H locs ls hW hS hl hv
      refine lv_iload_n hx hb dX7_one_46 rfl (lv_at hl 2 rfl) ?_
      refine lv_iconst (v := 4) hx hb dX7_one_47 kic_4 ?_
      refine lv_icmp_ge (tgt := 94) hx hb dX7_one_48 (by decide) (fun c_28 => ?_) (fun c_28 => ?_)
      · replace hv := hv.1 c_28
        exact h_j_X7_one_94 x2 m_at_ m_open_ m_steps m_step H locs ls hW hS (lv_sub hl [0, 1] rfl) hv
      · replace hv := hv.2 c_28
        refine lv_aload_n hx hb dX7_one_51 rfl (lv_at hl 0 rfl) ?_
        refine q_callV (rest := []) (n := 0) C (c_X7_look l G b m_images m_at_ m_open_ m_steps m_use_ m_traced m_speaks m_isParted m_s _ hv) ml_X7_81 kb_X7_look rfl ⟨⟨rfl, rfl⟩, (by show 0 + 1 ≤ f + 6; omega), (by show 8 + (1 + 11) + 0 ≤ o + 126; omega)⟩ hW hS [0, 1] rfl rfl kc7 (q0 := 0) rfl hl.1 rfl (Nat.le_of_ble_eq_true rfl) dX7_one_52 ⟨Nat.zero_le _, Nat.zero_le _⟩ (fun r_31 u_32 H locs hv hW hS => ?_)
        try dsimp only at hv
        refine lv_bipush (v := 48) hx hb dX7_one_55 kbp_48 ?_
        refine lv_bipush (v := 57) hx hb dX7_one_57 kbp_57 ?_
        refine q_callS (rest := []) (n := 3) C (c_X7_in l G r_31 (48 : Int32) (57 : Int32) _ hv) ml_X7_53 kb_X7_in rfl ⟨⟨rfl, rfl⟩, (by show 0 + 1 ≤ f + 6; omega), (by show 8 + (3 + 11) + 0 ≤ o + 126; omega)⟩ hW hS hl.1 rfl (Nat.le_of_ble_eq_true rfl) dX7_one_59 ⟨Nat.zero_le _, Nat.zero_le _⟩ (fun r_33 u_34 H locs hv hW hS => ?_)
        obtain ⟨hv_b_33, hv⟩ := hv
        try dsimp only at hv
        refine lv_if_eq (tgt := 94) hx hb dX7_one_62 (by decide) (fun c_35 => ?_) (fun c_35 => ?_)
        · replace hv := hv.1 c_35
          exact h_j_X7_one_94 x2 m_at_ m_open_ m_steps m_step H locs ls hW hS (lv_sub hl [0, 1] rfl) hv
        · replace hv := hv.2 c_35
          refine lv_bipush (v := 10) hx hb dX7_one_65 kbp_10 ?_
          refine lv_iload_n hx hb dX7_one_67 rfl (lv_at hl 1 rfl) ?_
          refine lv_imul hx hb dX7_one_68 ?_
          refine lv_aload_n hx hb dX7_one_69 rfl (lv_at hl 0 rfl) ?_
          refine q_callV (rest := [.int ((10 : Int32) * x2)]) (n := 0) C (c_X7_look l G b m_images m_at_ m_open_ m_steps m_use_ m_traced m_speaks m_isParted m_s _ hv) ml_X7_81 kb_X7_look rfl ⟨⟨rfl, rfl⟩, (by show 0 + 1 ≤ f + 6; omega), (by show 8 + (1 + 11) + 0 ≤ o + 126; omega)⟩ hW hS [0, 1] rfl rfl kc7 (q0 := 0) rfl hl.1 rfl (Nat.le_of_ble_eq_true rfl) dX7_one_70 ⟨Nat.zero_le _, Nat.zero_le _⟩ (fun r_36 u_37 H locs hv hW hS => ?_)
          try dsimp only at hv
          refine lv_iadd hx hb dX7_one_73 ?_
          refine lv_bipush (v := 48) hx hb dX7_one_74 kbp_48 ?_
          refine lv_isub hx hb dX7_one_76 ?_
          refine lv_istore_n (lv' := [(2, .int ((((10 : Int32) * x2) + r_36) - (48 : Int32))), (0, .ref (b 0)), (3, .int x3)]) hx hb dX7_one_77 rfl hl (by decide) rfl (fun ls hl => ?_)
          refine lv_aload_n hx hb dX7_one_78 rfl (lv_at hl 1 rfl) ?_
          refine lv_dup hx hb dX7_one_79 rfl ?_
          refine q_get C kc7 hW 0 rfl 5 (by decide) fl_X7_67 rfl rfl dX7_one_80 ?_
          refine lv_iconst (v := 1) hx hb dX7_one_83 kic_1 ?_
          refine lv_iadd hx hb dX7_one_84 ?_
          refine q_put C kc7 hW hS 0 rfl 5 (by decide) fl_X7_67 rfl rfl rfl rfl (Nat.le_of_ble_eq_true rfl) dX7_one_85 (fun H locs hW hS => ?_)
          have hW : wo G A (wd_X7_7 G b m_images (m_at_ + (1 : Int32)) m_open_ m_steps m_use_ m_traced m_speaks m_isParted m_s m_step) H := hW
          refine lv_iinc (v := (x3 + 1)) (lv' := [(3, .int (x3 + 1)), (2, .int ((((10 : Int32) * x2) + r_36) - (48 : Int32))), (0, .ref (b 0))]) hx hb dX7_one_88 hl (k := 2) rfl rfl (by decide) rfl (fun ls hl => ?_)
          refine lv_goto (tgt := 46) hx hb dX7_one_91 (by decide) ?_
          exact ih ((((10 : Int32) * x2) + r_36) - (48 : Int32)) (x3 + 1) (m_at_ + (1 : Int32)) m_open_ m_steps m_step H locs ls hW hS (lv_sub hl [2, 1, 0] rfl) hv
  refine lv_aload_n hx hb dX7_one_0 rfl (lv_at hl 0 rfl) ?_
  refine q_callV (rest := []) (n := 0) C (c_X7_look l G b m_images m_at_ m_open_ m_steps m_use_ m_traced m_speaks m_isParted m_s _ hv) ml_X7_81 kb_X7_look rfl ⟨⟨rfl, rfl⟩, (by show 0 + 1 ≤ f + 6; omega), (by show 8 + (1 + 11) + 0 ≤ o + 126; omega)⟩ hW hS [0, 1] rfl rfl kc7 (q0 := 0) rfl hl.1 rfl (Nat.le_of_ble_eq_true rfl) dX7_one_1 ⟨Nat.zero_le _, Nat.zero_le _⟩ (fun r_1 u_2 H locs hv hW hS => ?_)
  try dsimp only at hv
  refine lv_istore_n (lv' := [(1, .int r_1), (0, .ref (b 0))]) hx hb dX7_one_4 rfl hl (by decide) rfl (fun ls hl => ?_)
  refine lv_aload_n hx hb dX7_one_5 rfl (lv_at hl 1 rfl) ?_
  refine lv_iload_n hx hb dX7_one_6 rfl (lv_at hl 0 rfl) ?_
  refine q_callV (rest := []) (n := 1) C (c_X7_isName l G b m_images m_at_ m_open_ m_steps m_use_ m_traced m_speaks m_isParted r_1 _ hv) ml_X7_104 kb_X7_isName rfl ⟨⟨rfl, rfl⟩, (by show 0 + 1 ≤ f + 6; omega), (by show 8 + (2 + 11) + 0 ≤ o + 126; omega)⟩ hW hS [0] rfl rfl kc7 (q0 := 0) rfl hl.1 rfl (Nat.le_of_ble_eq_true rfl) dX7_one_7 ⟨Nat.zero_le _, Nat.zero_le _⟩ (fun r_3 u_4 H locs hv hW hS => ?_)
  obtain ⟨hv_b_3, hv⟩ := hv
  try dsimp only at hv
  refine lv_if_eq (tgt := 31) hx hb dX7_one_10 (by decide) (fun c_5 => ?_) (fun c_5 => ?_)
  · replace hv := hv.1 c_5
    refine lv_iload_n hx hb dX7_one_31 rfl (lv_at hl 0 rfl) ?_
    refine lv_bipush (v := 48) hx hb dX7_one_32 kbp_48 ?_
    refine lv_bipush (v := 57) hx hb dX7_one_34 kbp_57 ?_
    refine q_callS (rest := []) (n := 3) C (c_X7_in l G r_1 (48 : Int32) (57 : Int32) _ hv) ml_X7_53 kb_X7_in rfl ⟨⟨rfl, rfl⟩, (by show 0 + 1 ≤ f + 6; omega), (by show 8 + (3 + 11) + 0 ≤ o + 126; omega)⟩ hW hS hl.1 rfl (Nat.le_of_ble_eq_true rfl) dX7_one_36 ⟨Nat.zero_le _, Nat.zero_le _⟩ (fun r_6 u_7 H locs hv hW hS => ?_)
    obtain ⟨hv_b_6, hv⟩ := hv
    try dsimp only at hv
    refine lv_if_eq (tgt := 102) hx hb dX7_one_39 (by decide) (fun c_8 => ?_) (fun c_8 => ?_)
    · replace hv := hv.1 c_8
      refine lv_iload_n hx hb dX7_one_102 rfl (lv_at hl 0 rfl) ?_
      refine lv_bipush (v := 33) hx hb dX7_one_103 kbp_33 ?_
      refine lv_icmp_ne (tgt := 142) hx hb dX7_one_105 (by decide) (fun c_9 => ?_) (fun c_9 => ?_)
      · replace hv := hv.1 c_9
        refine lv_iload_n hx hb dX7_one_142 rfl (lv_at hl 0 rfl) ?_
        refine lv_bipush (v := 40) hx hb dX7_one_143 kbp_40 ?_
        refine lv_icmp_ne (tgt := 171) hx hb dX7_one_145 (by decide) (fun c_10 => ?_) (fun c_10 => ?_)
        · replace hv := hv.1 c_10
          refine lv_iconst (v := 0) hx hb dX7_one_171 kic_0 ?_
          exact ret (m_at_, m_open_, m_steps, m_step) (0 : Int32) H locs ls _ (bl_narrow (Or.inl rfl)) hW hS ⟨(Or.inl rfl), hv⟩ dX7_one_172
        · replace hv := hv.2 c_10
          refine lv_aload_n hx hb dX7_one_148 rfl (lv_at hl 1 rfl) ?_
          refine q_callV (rest := []) (n := 0) C (c_X7_opens l G b m_images m_at_ m_open_ m_steps m_use_ m_traced m_speaks m_isParted _ hv) ml_X7_107 kb_X7_opens rfl ⟨⟨rfl, rfl⟩, (by show 0 + 1 ≤ f + 6; omega), (by show 8 + (1 + 11) + 0 ≤ o + 126; omega)⟩ hW hS [0] rfl rfl kc7 (q0 := 0) rfl hl.1 rfl (Nat.le_of_ble_eq_true rfl) dX7_one_149 ⟨Nat.zero_le _, Nat.zero_le _⟩ (fun r_11 u_12 H locs hv hW hS => ?_)
          obtain ⟨m_at__11, m_open__11⟩ := u_12
          obtain ⟨hv_b_11, hv⟩ := hv
          try dsimp only at hv
          have hW : wo G A (wd_X7_7 G b m_images m_at__11 m_open__11 m_steps m_use_ m_traced m_speaks m_isParted m_s m_step) H := hW
          refine lv_if_eq (tgt := 171) hx hb dX7_one_152 (by decide) (fun c_13 => ?_) (fun c_13 => ?_)
          · replace hv := hv.1 c_13
            refine lv_iconst (v := 0) hx hb dX7_one_171 kic_0 ?_
            exact ret (m_at__11, m_open__11, m_steps, m_step) (0 : Int32) H locs ls _ (bl_narrow (Or.inl rfl)) hW hS ⟨(Or.inl rfl), hv⟩ dX7_one_172
          · replace hv := hv.2 c_13
            refine lv_aload_n hx hb dX7_one_155 rfl (lv_at hl 1 rfl) ?_
            refine q_callV (rest := []) (n := 0) C (c_X7_whole l f o O_X7_one hO_X7_one G b m_images m_at__11 m_open__11 m_steps m_use_ m_traced m_speaks m_isParted m_s m_step _ hv) ml_X7_110 kb_X7_whole rfl ⟨⟨rfl, rfl⟩, (by show f + 5 + 1 ≤ f + 6; omega), (by show 8 + (1 + 11) + (o + 106) ≤ o + 126; omega)⟩ hW hS [0, 1, 2] rfl rfl kc7 (q0 := 0) rfl hl.1 rfl (Nat.le_of_ble_eq_true rfl) dX7_one_156 ⟨Nat.zero_le _, Nat.zero_le _⟩ (fun r_14 u_15 H locs hv hW hS => ?_)
            obtain ⟨m_at__14, m_open__14, m_steps_14, m_step_14⟩ := u_15
            obtain ⟨hv_b_14, hv⟩ := hv
            try dsimp only at hv
            have hW : wo G A (wd_X7_7 G b m_images m_at__14 m_open__14 m_steps_14 m_use_ m_traced m_speaks m_isParted m_s m_step_14) H := hW
            refine lv_if_eq (tgt := 171) hx hb dX7_one_159 (by decide) (fun c_16 => ?_) (fun c_16 => ?_)
            · replace hv := hv.1 c_16
              refine lv_iconst (v := 0) hx hb dX7_one_171 kic_0 ?_
              exact ret (m_at__14, m_open__14, m_steps_14, m_step_14) (0 : Int32) H locs ls _ (bl_narrow (Or.inl rfl)) hW hS ⟨(Or.inl rfl), hv⟩ dX7_one_172
            · replace hv := hv.2 c_16
              refine lv_aload_n hx hb dX7_one_162 rfl (lv_at hl 1 rfl) ?_
              refine q_callV (rest := []) (n := 0) C (c_X7_look l G b m_images m_at__14 m_open__14 m_steps_14 m_use_ m_traced m_speaks m_isParted m_s _ hv) ml_X7_81 kb_X7_look rfl ⟨⟨rfl, rfl⟩, (by show 0 + 1 ≤ f + 6; omega), (by show 8 + (1 + 11) + 0 ≤ o + 126; omega)⟩ hW hS [0, 1] rfl rfl kc7 (q0 := 0) rfl hl.1 rfl (Nat.le_of_ble_eq_true rfl) dX7_one_163 ⟨Nat.zero_le _, Nat.zero_le _⟩ (fun r_17 u_18 H locs hv hW hS => ?_)
              try dsimp only at hv
              refine lv_bipush (v := 41) hx hb dX7_one_166 kbp_41 ?_
              refine lv_icmp_eq (tgt := 173) hx hb dX7_one_168 (by decide) (fun c_19 => ?_) (fun c_19 => ?_)
              · replace hv := hv.1 c_19
                refine lv_aload_n hx hb dX7_one_173 rfl (lv_at hl 1 rfl) ?_
                refine lv_dup hx hb dX7_one_174 rfl ?_
                refine q_get C kc7 hW 0 rfl 5 (by decide) fl_X7_67 rfl rfl dX7_one_175 ?_
                refine lv_iconst (v := 1) hx hb dX7_one_178 kic_1 ?_
                refine lv_iadd hx hb dX7_one_179 ?_
                refine q_put C kc7 hW hS 0 rfl 5 (by decide) fl_X7_67 rfl rfl rfl rfl (Nat.le_of_ble_eq_true rfl) dX7_one_180 (fun H locs hW hS => ?_)
                have hW : wo G A (wd_X7_7 G b m_images (m_at__14 + (1 : Int32)) m_open__14 m_steps_14 m_use_ m_traced m_speaks m_isParted m_s m_step_14) H := hW
                refine lv_aload_n hx hb dX7_one_183 rfl (lv_at hl 1 rfl) ?_
                refine lv_dup hx hb dX7_one_184 rfl ?_
                refine q_get C kc7 hW 0 rfl 6 (by decide) fl_X7_101 rfl rfl dX7_one_185 ?_
                refine lv_iconst (v := 1) hx hb dX7_one_188 kic_1 ?_
                refine lv_isub hx hb dX7_one_189 ?_
                refine q_put C kc7 hW hS 0 rfl 6 (by decide) fl_X7_101 rfl rfl rfl rfl (Nat.le_of_ble_eq_true rfl) dX7_one_190 (fun H locs hW hS => ?_)
                have hW : wo G A (wd_X7_7 G b m_images (m_at__14 + (1 : Int32)) (m_open__14 - (1 : Int32)) m_steps_14 m_use_ m_traced m_speaks m_isParted m_s m_step_14) H := hW
                refine lv_iconst (v := 1) hx hb dX7_one_193 kic_1 ?_
                exact ret ((m_at__14 + (1 : Int32)), (m_open__14 - (1 : Int32)), m_steps_14, m_step_14) (1 : Int32) H locs ls _ (bl_narrow (Or.inr rfl)) hW hS ⟨(Or.inr rfl), hv⟩ dX7_one_194
              · replace hv := hv.2 c_19
                refine lv_iconst (v := 0) hx hb dX7_one_171 kic_0 ?_
                exact ret (m_at__14, m_open__14, m_steps_14, m_step_14) (0 : Int32) H locs ls _ (bl_narrow (Or.inl rfl)) hW hS ⟨(Or.inl rfl), hv⟩ dX7_one_172
      · replace hv := hv.2 c_9
        refine lv_aload_n hx hb dX7_one_108 rfl (lv_at hl 1 rfl) ?_
        refine q_callV (rest := []) (n := 0) C (c_X7_opens l G b m_images m_at_ m_open_ m_steps m_use_ m_traced m_speaks m_isParted _ hv) ml_X7_107 kb_X7_opens rfl ⟨⟨rfl, rfl⟩, (by show 0 + 1 ≤ f + 6; omega), (by show 8 + (1 + 11) + 0 ≤ o + 126; omega)⟩ hW hS [0] rfl rfl kc7 (q0 := 0) rfl hl.1 rfl (Nat.le_of_ble_eq_true rfl) dX7_one_109 ⟨Nat.zero_le _, Nat.zero_le _⟩ (fun r_20 u_21 H locs hv hW hS => ?_)
        obtain ⟨m_at__20, m_open__20⟩ := u_21
        obtain ⟨hv_b_20, hv⟩ := hv
        try dsimp only at hv
        have hW : wo G A (wd_X7_7 G b m_images m_at__20 m_open__20 m_steps m_use_ m_traced m_speaks m_isParted m_s m_step) H := hW
        refine lv_if_eq (tgt := 122) hx hb dX7_one_112 (by decide) (fun c_22 => ?_) (fun c_22 => ?_)
        · replace hv := hv.1 c_22
          refine lv_iconst (v := 0) hx hb dX7_one_122 kic_0 ?_
          exact ret (m_at__20, m_open__20, m_steps, m_step) (0 : Int32) H locs ls _ (bl_narrow (Or.inl rfl)) hW hS ⟨(Or.inl rfl), hv⟩ dX7_one_123
        · replace hv := hv.2 c_22
          refine lv_aload_n hx hb dX7_one_115 rfl (lv_at hl 1 rfl) ?_
          refine q_callV (rest := []) (n := 0) C (hO_X7_one G b m_images m_at__20 m_open__20 m_steps m_use_ m_traced m_speaks m_isParted m_s m_step _ hv) ml_X7_98 kb_X7_one rfl ⟨⟨rfl, rfl⟩, (by show f + 1 ≤ f + 6; omega), (by show 8 + (4 + 11) + o ≤ o + 126; omega)⟩ hW hS [0, 1, 2] rfl rfl kc7 (q0 := 0) rfl hl.1 rfl (Nat.le_of_ble_eq_true rfl) dX7_one_116 ⟨Nat.zero_le _, Nat.zero_le _⟩ (fun r_23 u_24 H locs hv hW hS => ?_)
          obtain ⟨m_at__23, m_open__23, m_steps_23, m_step_23⟩ := u_24
          obtain ⟨hv_b_23, hv⟩ := hv
          try dsimp only at hv
          have hW : wo G A (wd_X7_7 G b m_images m_at__23 m_open__23 m_steps_23 m_use_ m_traced m_speaks m_isParted m_s m_step_23) H := hW
          refine lv_if_ne (tgt := 124) hx hb dX7_one_119 (by decide) (fun c_25 => ?_) (fun c_25 => ?_)
          · replace hv := hv.1 c_25
            refine lv_aload_n hx hb dX7_one_124 rfl (lv_at hl 1 rfl) ?_
            refine lv_dup hx hb dX7_one_125 rfl ?_
            refine q_get C kc7 hW 0 rfl 6 (by decide) fl_X7_101 rfl rfl dX7_one_126 ?_
            refine lv_iconst (v := 1) hx hb dX7_one_129 kic_1 ?_
            refine lv_isub hx hb dX7_one_130 ?_
            refine q_put C kc7 hW hS 0 rfl 6 (by decide) fl_X7_101 rfl rfl rfl rfl (Nat.le_of_ble_eq_true rfl) dX7_one_131 (fun H locs hW hS => ?_)
            have hW : wo G A (wd_X7_7 G b m_images m_at__23 (m_open__23 - (1 : Int32)) m_steps_23 m_use_ m_traced m_speaks m_isParted m_s m_step_23) H := hW
            refine lv_aload_n hx hb dX7_one_134 rfl (lv_at hl 1 rfl) ?_
            refine lv_iconst (v := 2) hx hb dX7_one_135 kic_2 ?_
            refine lv_iconst (v := 0) hx hb dX7_one_136 kic_0 ?_
            refine q_callVv (rest := []) (n := 2) C (c_X7_step1 l G b m_images m_at__23 (m_open__23 - (1 : Int32)) m_steps_23 m_use_ m_traced m_speaks m_isParted m_step_23 (2 : Int32) (0 : Int32) _ hv) ml_X7_85 kb_X7_step1 rfl ⟨⟨rfl, rfl⟩, (by show 0 + 1 ≤ f + 6; omega), (by show 8 + (3 + 11) + 0 ≤ o + 126; omega)⟩ hW hS [0, 2] rfl rfl kc7 (q0 := 0) rfl hl.1 rfl (Nat.le_of_ble_eq_true rfl) dX7_one_137 ⟨Nat.zero_le _, Nat.zero_le _⟩ (fun u_27 H locs hv hW hS => ?_)
            obtain ⟨m_steps_26, m_step_26⟩ := u_27
            try dsimp only at hv
            have hW : wo G A (wd_X7_7 G b m_images m_at__23 (m_open__23 - (1 : Int32)) m_steps_26 m_use_ m_traced m_speaks m_isParted m_s m_step_26) H := hW
            refine lv_iconst (v := 1) hx hb dX7_one_140 kic_1 ?_
            exact ret (m_at__23, (m_open__23 - (1 : Int32)), m_steps_26, m_step_26) (1 : Int32) H locs ls _ (bl_narrow (Or.inr rfl)) hW hS ⟨(Or.inr rfl), hv⟩ dX7_one_141
          · replace hv := hv.2 c_25
            refine lv_iconst (v := 0) hx hb dX7_one_122 kic_0 ?_
            exact ret (m_at__23, m_open__23, m_steps_23, m_step_23) (0 : Int32) H locs ls _ (bl_narrow (Or.inl rfl)) hW hS ⟨(Or.inl rfl), hv⟩ dX7_one_123
    · replace hv := hv.2 c_8
      refine lv_iconst (v := 0) hx hb dX7_one_42 kic_0 ?_
      refine lv_istore_n (lv' := [(2, .int (0 : Int32)), (1, .int r_1), (0, .ref (b 0))]) hx hb dX7_one_43 rfl hl (by decide) rfl (fun ls hl => ?_)
      refine lv_iconst (v := 0) hx hb dX7_one_44 kic_0 ?_
      refine lv_istore_n (lv' := [(3, .int (0 : Int32)), (2, .int (0 : Int32)), (1, .int r_1), (0, .ref (b 0))]) hx hb dX7_one_45 rfl hl (by decide) rfl (fun ls hl => ?_)
      obtain ⟨n_38, hv⟩ := hv
      exact h_l_X7_one_46 n_38 (0 : Int32) (0 : Int32) m_at_ m_open_ m_steps m_step H locs ls hW hS (lv_sub hl [3, 1, 0] rfl) hv
  · replace hv := hv.2 c_5
    refine lv_aload_n hx hb dX7_one_13 rfl (lv_at hl 1 rfl) ?_
    refine lv_dup hx hb dX7_one_14 rfl ?_
    refine q_get C kc7 hW 0 rfl 5 (by decide) fl_X7_67 rfl rfl dX7_one_15 ?_
    refine lv_iconst (v := 1) hx hb dX7_one_18 kic_1 ?_
    refine lv_iadd hx hb dX7_one_19 ?_
    refine q_put C kc7 hW hS 0 rfl 5 (by decide) fl_X7_67 rfl rfl rfl rfl (Nat.le_of_ble_eq_true rfl) dX7_one_20 (fun H locs hW hS => ?_)
    have hW : wo G A (wd_X7_7 G b m_images (m_at_ + (1 : Int32)) m_open_ m_steps m_use_ m_traced m_speaks m_isParted m_s m_step) H := hW
    refine lv_aload_n hx hb dX7_one_23 rfl (lv_at hl 1 rfl) ?_
    refine lv_iconst (v := 1) hx hb dX7_one_24 kic_1 ?_
    refine lv_iload_n hx hb dX7_one_25 rfl (lv_at hl 0 rfl) ?_
    refine q_callVv (rest := []) (n := 2) C (c_X7_step1 l G b m_images (m_at_ + (1 : Int32)) m_open_ m_steps m_use_ m_traced m_speaks m_isParted m_step (1 : Int32) r_1 _ hv) ml_X7_85 kb_X7_step1 rfl ⟨⟨rfl, rfl⟩, (by show 0 + 1 ≤ f + 6; omega), (by show 8 + (3 + 11) + 0 ≤ o + 126; omega)⟩ hW hS [0, 2] rfl rfl kc7 (q0 := 0) rfl hl.1 rfl (Nat.le_of_ble_eq_true rfl) dX7_one_26 ⟨Nat.zero_le _, Nat.zero_le _⟩ (fun u_40 H locs hv hW hS => ?_)
    obtain ⟨m_steps_39, m_step_39⟩ := u_40
    try dsimp only at hv
    have hW : wo G A (wd_X7_7 G b m_images (m_at_ + (1 : Int32)) m_open_ m_steps_39 m_use_ m_traced m_speaks m_isParted m_s m_step_39) H := hW
    refine lv_iconst (v := 1) hx hb dX7_one_29 kic_1 ?_
    exact ret ((m_at_ + (1 : Int32)), m_open_, m_steps_39, m_step_39) (1 : Int32) H locs ls _ (bl_narrow (Or.inr rfl)) hW hS ⟨(Or.inr rfl), hv⟩ dX7_one_30
