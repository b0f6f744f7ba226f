set_option maxHeartbeats 4000000 in
set_option maxRecDepth 100000 in
theorem c_X7_compared (l : Launch) (f o : Nat) (O_X7_one : Int32 → Int32 → Int32 → Int32 → (Nat → Int32) → (Nat → Int32) → (Int32 → Int32 → Int32 → Int32 → (Nat → Int32) → Prop) → Prop) (hO_X7_one : ∀ (G : Gt) (b : Nat → Nat) (m_images : Int32) (m_at_ : Int32) (m_open_ : Int32) (m_steps : Int32) (m_use_ : Int32) (m_traced : Int32) (m_speaks : Int32) (m_isParted : Int32) (m_s : Nat → Int32) (m_step : Nat → Int32) (K : Int32 → Int32 → Int32 → Int32 → (Nat → Int32) → Prop), O_X7_one m_at_ m_open_ m_steps m_use_ m_s m_step K → CI l G yX7_one (.code yX7_one cX7_one 4 (some .boolean) :: wsG) (rmm f o) [.ref (b 0)] (wd_X7_7 G b m_images m_at_ m_open_ m_steps m_use_ m_traced m_speaks m_isParted m_s m_step) (S := Int32 × Int32 × Int32 × (Nat → Int32)) (fun u => wd_X7_7 G b m_images u.1 u.2.1 u.2.2.1 m_use_ m_traced m_speaks m_isParted m_s u.2.2.2) (fun r u => (r = 0 ∨ r = 1) ∧ K r u.1 u.2.1 u.2.2.1 u.2.2.2)) (G : Gt) (b : Nat → Nat) (m_images : Int32) (m_at_ : Int32) (m_open_ : Int32) (m_steps : Int32) (m_use_ : Int32) (m_traced : Int32) (m_speaks : Int32) (m_isParted : Int32) (m_s : Nat → Int32) (m_step : Nat → Int32) (K : Int32 → Int32 → Int32 → Int32 → (Nat → Int32) → Prop) (hv : v_X7_compared O_X7_one m_at_ m_open_ m_steps m_use_ m_s m_step K) : CI l G yX7_compared (.code yX7_compared cX7_compared 2 (some .boolean) :: wsG) (rmm (f + 3) (o + 65)) [.ref (b 0)] (wd_X7_7 G b m_images m_at_ m_open_ m_steps m_use_ m_traced m_speaks m_isParted m_s m_step) (S := Int32 × Int32 × Int32 × (Nat → Int32)) (fun u => wd_X7_7 G b m_images u.1 u.2.1 u.2.2.1 m_use_ m_traced m_speaks m_isParted m_s u.2.2.2) (fun r u => (r = 0 ∨ r = 1) ∧ K r u.1 u.2.1 u.2.2.1 u.2.2.2) := by
  refine ci_intro (by decide) rfl (fun _ => rfl) (Nat.le_of_ble_eq_true rfl) ?_
  intro p e s m args below meth c A H ls Q C hW hS hl ret
  have hx := C.1.1
  have hb := C.1.2.1
  generalize hls : ([] : List Loc) = locs at hS ⊢
  have hl : lv_has ls 2 [(0, .ref (b 0))] := hl
  have h_j_X7_compared_34 : ∀ (x1 : Int32) (m_at_ : Int32) (m_open_ : Int32) (m_steps : Int32) (m_step : Nat → Int32) (H : Heap) (locs : List Loc) (ls : Array Slot), wo G A (wd_X7_7 G b m_images m_at_ m_open_ m_steps m_use_ m_traced m_speaks m_isParted m_s m_step) H → va_S A s.heap H locs → lv_has ls 2 [(0, .ref (b 0)), (1, .int x1)] → j_X7_compared_34 O_X7_one m_use_ m_s K x1 m_at_ m_open_ m_steps m_step → W p l e (rmm (f + 3) (o + 65)) s m args below meth c H locs 0 0 Q (F0 m 34 ls []) := by
    intro x1 m_at_ m_open_ m_steps m_step H locs ls hW hS hl hv
    refine lv_aload_n hx hb dX7_compared_34 rfl (lv_at hl 0 rfl) ?_
    refine lv_dup hx hb dX7_compared_35 rfl ?_
    refine q_get C kc7 hW 0 rfl 5 (by decide) fl_X7_67 rfl rfl dX7_compared_36 ?_
    refine lv_iconst (v := 1) hx hb dX7_compared_39 kic_1 ?_
    refine lv_iadd hx hb dX7_compared_40 ?_
    refine q_put C kc7 hW hS 0 rfl 5 (by decide) fl_X7_67 rfl rfl rfl rfl (Nat.le_of_ble_eq_true rfl) dX7_compared_41 (fun H locs hW hS => ?_)
    have hW : wo G A (wd_X7_7 G b m_images (m_at_ + (1 : Int32)) m_open_ m_steps m_use_ m_traced m_speaks m_isParted m_s m_step) H := hW
    refine lv_aload_n hx hb dX7_compared_44 rfl (lv_at hl 0 rfl) ?_
    refine q_callV (rest := []) (n := 0) C (c_X7_sum l f o O_X7_one hO_X7_one G b m_images (m_at_ + (1 : Int32)) m_open_ m_steps m_use_ m_traced m_speaks m_isParted m_s m_step _ hv) ml_X7_92 kb_X7_sum rfl ⟨⟨rfl, rfl⟩, (by show f + 2 + 1 ≤ f + 3; omega), (by show 8 + (2 + 11) + (o + 44) ≤ o + 65; omega)⟩ hW hS [0, 1, 2] rfl rfl kc7 (q0 := 0) rfl hl.1 rfl (Nat.le_of_ble_eq_true rfl) dX7_compared_45 ⟨Nat.zero_le _, Nat.zero_le _⟩ (fun r_7 u_8 H locs hv hW hS => ?_)
    obtain ⟨m_at__7, m_open__7, m_steps_7, m_step_7⟩ := u_8
    obtain ⟨hv_b_7, hv⟩ := hv
    try dsimp only at hv
    have hW : wo G A (wd_X7_7 G b m_images m_at__7 m_open__7 m_steps_7 m_use_ m_traced m_speaks m_isParted m_s m_step_7) H := hW
    refine lv_if_ne (tgt := 53) hx hb dX7_compared_48 (by decide) (fun c_9 => ?_) (fun c_9 => ?_)
    · replace hv := hv.1 c_9
      refine lv_aload_n hx hb dX7_compared_53 rfl (lv_at hl 0 rfl) ?_
      refine lv_iconst (v := 3) hx hb dX7_compared_54 kic_3 ?_
      refine lv_iload_n hx hb dX7_compared_55 rfl (lv_at hl 1 rfl) ?_
      refine q_callVv (rest := []) (n := 2) C (c_X7_step1 l G b m_images m_at__7 m_open__7 m_steps_7 m_use_ m_traced m_speaks m_isParted m_step_7 (3 : Int32) x1 _ hv) ml_X7_85 kb_X7_step1 rfl ⟨⟨rfl, rfl⟩, (by show 0 + 1 ≤ f + 3; omega), (by show 8 + (3 + 11) + 0 ≤ o + 65; omega)⟩ hW hS [0, 2] rfl rfl kc7 (q0 := 0) rfl hl.1 rfl (Nat.le_of_ble_eq_true rfl) dX7_compared_56 ⟨Nat.zero_le _, Nat.zero_le _⟩ (fun u_11 H locs hv hW hS => ?_)
      obtain ⟨m_steps_10, m_step_10⟩ := u_11
      try dsimp only at hv
      have hW : wo G A (wd_X7_7 G b m_images m_at__7 m_open__7 m_steps_10 m_use_ m_traced m_speaks m_isParted m_s m_step_10) H := hW
      refine lv_iconst (v := 1) hx hb dX7_compared_59 kic_1 ?_
      exact ret (m_at__7, m_open__7, m_steps_10, m_step_10) (1 : Int32) H locs ls _ (bl_narrow (Or.inr rfl)) hW hS ⟨(Or.inr rfl), hv⟩ dX7_compared_60
    · replace hv := hv.2 c_9
      refine lv_iconst (v := 0) hx hb dX7_compared_51 kic_0 ?_
      exact ret (m_at__7, m_open__7, m_steps_7, m_step_7) (0 : Int32) H locs ls _ (bl_narrow (Or.inl rfl)) hW hS ⟨(Or.inl rfl), hv⟩ dX7_compared_52
  refine lv_aload_n hx hb dX7_compared_0 rfl (lv_at hl 0 rfl) ?_
  refine q_callV (rest := []) (n := 0) C (c_X7_sum l f o O_X7_one hO_X7_one G b m_images m_at_ m_open_ m_steps m_use_ m_traced m_speaks m_isParted m_s m_step _ hv) ml_X7_92 kb_X7_sum rfl ⟨⟨rfl, rfl⟩, (by show f + 2 + 1 ≤ f + 3; omega), (by show 8 + (2 + 11) + (o + 44) ≤ o + 65; omega)⟩ hW hS [0, 1, 2] rfl rfl kc7 (q0 := 0) rfl hl.1 rfl (Nat.le_of_ble_eq_true rfl) dX7_compared_1 ⟨Nat.zero_le _, Nat.zero_le _⟩ (fun r_1 u_2 H locs hv hW hS => ?_)
  obtain ⟨m_at__1, m_open__1, m_steps_1, m_step_1⟩ := u_2
  obtain ⟨hv_b_1, hv⟩ := hv
  try dsimp only at hv
  have hW : wo G A (wd_X7_7 G b m_images m_at__1 m_open__1 m_steps_1 m_use_ m_traced m_speaks m_isParted m_s m_step_1) H := hW
  refine lv_if_ne (tgt := 9) hx hb dX7_compared_4 (by decide) (fun c_3 => ?_) (fun c_3 => ?_)
  · replace hv := hv.1 c_3
    refine lv_aload_n hx hb dX7_compared_9 rfl (lv_at hl 0 rfl) ?_
    refine q_callV (rest := []) (n := 0) C (c_X7_look l G b m_images m_at__1 m_open__1 m_steps_1 m_use_ m_traced m_speaks m_isParted m_s _ hv) ml_X7_81 kb_X7_look rfl ⟨⟨rfl, rfl⟩, (by show 0 + 1 ≤ f + 3; omega), (by show 8 + (1 + 11) + 0 ≤ o + 65; omega)⟩ hW hS [0, 1] rfl rfl kc7 (q0 := 0) rfl hl.1 rfl (Nat.le_of_ble_eq_true rfl) dX7_compared_10 ⟨Nat.zero_le _, Nat.zero_le _⟩ (fun r_4 u_5 H locs hv hW hS => ?_)
    try dsimp only at hv
    refine lv_istore_n (lv' := [(1, .int r_4), (0, .ref (b 0))]) hx hb dX7_compared_13 rfl hl (by decide) rfl (fun ls hl => ?_)
    refine lv_iload_n hx hb dX7_compared_14 rfl (lv_at hl 0 rfl) ?_
    refine lv_bipush (v := 60) hx hb dX7_compared_15 kbp_60 ?_
    refine lv_icmp_eq (tgt := 34) hx hb dX7_compared_17 (by decide) (fun c_6 => ?_) (fun c_6 => ?_)
    · replace hv := hv.1 c_6
      exact h_j_X7_compared_34 r_4 m_at__1 m_open__1 m_steps_1 m_step_1 H locs ls hW hS (lv_sub hl [1, 0] rfl) hv
    · replace hv := hv.2 c_6
      refine lv_iload_n hx hb dX7_compared_20 rfl (lv_at hl 0 rfl) ?_
      refine lv_bipush (v := 61) hx hb dX7_compared_21 kbp_61 ?_
      refine lv_icmp_eq (tgt := 34) hx hb dX7_compared_23 (by decide) (fun c_12 => ?_) (fun c_12 => ?_)
      · replace hv := hv.1 c_12
        exact h_j_X7_compared_34 r_4 m_at__1 m_open__1 m_steps_1 m_step_1 H locs ls hW hS (lv_sub hl [1, 0] rfl) hv
      · replace hv := hv.2 c_12
        refine lv_iload_n hx hb dX7_compared_26 rfl (lv_at hl 0 rfl) ?_
        refine lv_bipush (v := 62) hx hb dX7_compared_27 kbp_62 ?_
        refine lv_icmp_eq (tgt := 34) hx hb dX7_compared_29 (by decide) (fun c_13 => ?_) (fun c_13 => ?_)
        · replace hv := hv.1 c_13
          exact h_j_X7_compared_34 r_4 m_at__1 m_open__1 m_steps_1 m_step_1 H locs ls hW hS (lv_sub hl [1, 0] rfl) hv
        · replace hv := hv.2 c_13
          refine lv_iconst (v := 1) hx hb dX7_compared_32 kic_1 ?_
          exact ret (m_at__1, m_open__1, m_steps_1, m_step_1) (1 : Int32) H locs ls _ (bl_narrow (Or.inr rfl)) hW hS ⟨(Or.inr rfl), hv⟩ dX7_compared_33
  · replace hv := hv.2 c_3
    refine lv_iconst (v := 0) hx hb dX7_compared_7 kic_0 ?_
    exact ret (m_at__1, m_open__1, m_steps_1, m_step_1) (0 : Int32) H locs ls _ (bl_narrow (Or.inl rfl)) hW hS ⟨(Or.inl rfl), hv⟩ dX7_compared_8
set_option maxHeartbeats 4000000 in
set_option maxRecDepth 100000 in
theorem c_X7_both (l : Launch) (f o : Nat) (O_X7_one : Int32 → Int32 → Int32 → Int32 → (Nat → Int32) → (Nat → Int32) → (Int32 → Int32 → Int32 → Int32 → (Nat → Int32) → Prop) → Prop) (hO_X7_one : ∀ (G : Gt) (b : Nat → Nat) (m_images : Int32) (m_at_ : Int32) (m_open_ : Int32) (m_steps : Int32) (m_use_ : Int32) (m_traced : Int32) (m_speaks : Int32) (m_isParted : Int32) (m_s : Nat → Int32) (m_step : Nat → Int32) (K : Int32 → Int32 → Int32 → Int32 → (Nat → Int32) → Prop), O_X7_one m_at_ m_open_ m_steps m_use_ m_s m_step K → CI l G yX7_one (.code yX7_one cX7_one 4 (some .boolean) :: wsG) (rmm f o) [.ref (b 0)] (wd_X7_7 G b m_images m_at_ m_open_ m_steps m_use_ m_traced m_speaks m_isParted m_s m_step) (S := Int32 × Int32 × Int32 × (Nat → Int32)) (fun u => wd_X7_7 G b m_images u.1 u.2.1 u.2.2.1 m_use_ m_traced m_speaks m_isParted m_s u.2.2.2) (fun r u => (r = 0 ∨ r = 1) ∧ K r u.1 u.2.1 u.2.2.1 u.2.2.2)) (G : Gt) (b : Nat → Nat) (m_images : Int32) (m_at_ : Int32) (m_open_ : Int32) (m_steps : Int32) (m_use_ : Int32) (m_traced : Int32) (m_speaks : Int32) (m_isParted : Int32) (m_s : Nat → Int32) (m_step : Nat → Int32) (K : Int32 → Int32 → Int32 → Int32 → (Nat → Int32) → Prop) (hv : v_X7_both O_X7_one m_at_ m_open_ m_steps m_use_ m_s m_step K) : CI l G yX7_both (.code yX7_both cX7_both 1 (some .boolean) :: wsG) (rmm (f + 4) (o + 86)) [.ref (b 0)] (wd_X7_7 G b m_images m_at_ m_open_ m_steps m_use_ m_traced m_speaks m_isParted m_s m_step) (S := Int32 × Int32 × Int32 × (Nat → Int32)) (fun u => wd_X7_7 G b m_images u.1 u.2.1 u.2.2.1 m_use_ m_traced m_speaks m_isParted m_s u.2.2.2) (fun r u => (r = 0 ∨ r = 1) ∧ K r u.1 u.2.1 u.2.2.1 u.2.2.2) := by
  refine ci_intro (by decide) rfl (fun _ => rfl) (Nat.le_of_ble_eq_true rfl) ?_
  intro p e s m args below meth c A H ls Q C hW hS hl ret
  have hx := C.1.1
  have hb := C.1.2.1
  generalize hls : ([] : List Loc) = locs at hS ⊢
  have hl : lv_has ls 1 [(0, .ref (b 0))] := hl
  have h_l_X7_both_9 : ∀ (n : Nat), ∀ (m_at_ : Int32) (m_open_ : Int32) (m_steps : Int32) (m_step : Nat → Int32) (H : Heap) (locs : List Loc) (ls : Array Slot), wo G A (wd_X7_7 G b m_images m_at_ m_open_ m_steps m_use_ m_traced m_speaks m_isParted m_s m_step) H → va_S A s.heap H locs → lv_has ls 1 [(0, .ref (b 0))] → l_X7_both_9 O_X7_one m_use_ m_s K n m_at_ m_open_ m_steps m_step → W p l e (rmm (f + 4) (o + 86)) s m args below meth c H locs 0 0 Q (F0 m 9 ls []) := by
    intro n
    induction n with
    | zero =>
      intro m_at_ m_open_ m_steps m_step H locs ls hW hS hl hv
      exact False.elim hv
    | succ n ih =>
      intro m_at_ m_open_ m_steps m_step H locs ls hW hS hl hv
      refine lv_aload_n hx hb dX7_both_9 rfl (lv_at hl 0 rfl) ?_
      refine q_callV (rest := []) (n := 0) C (c_X7_look l G b m_images m_at_ m_open_ m_steps m_use_ m_traced m_speaks m_isParted m_s _ hv) ml_X7_81 kb_X7_look rfl ⟨⟨rfl, rfl⟩, (by show 0 + 1 ≤ f + 4; omega), (by show 8 + (1 + 11) + 0 ≤ o + 86; omega)⟩ hW hS [0, 1] rfl rfl kc7 (q0 := 0) rfl hl.1 rfl (Nat.le_of_ble_eq_true rfl) dX7_both_10 ⟨Nat.zero_le _, Nat.zero_le _⟩ (fun r_4 u_5 H locs hv hW hS => ?_)
      try dsimp only at hv
      refine lv_bipush (v := 38) hx hb dX7_both_13 kbp_38 ?_
      refine lv_icmp_ne (tgt := 47) hx hb dX7_both_15 (by decide) (fun c_6 => ?_) (fun c_6 => ?_)
      · replace hv := hv.1 c_6
        refine lv_iconst (v := 1) hx hb dX7_both_47 kic_1 ?_
        exact ret (m_at_, m_open_, m_steps, m_step) (1 : Int32) H locs ls _ (bl_narrow (Or.inr rfl)) hW hS ⟨(Or.inr rfl), hv⟩ dX7_both_48
      · replace hv := hv.2 c_6
        refine lv_aload_n hx hb dX7_both_18 rfl (lv_at hl 0 rfl) ?_
        refine lv_dup hx hb dX7_both_19 rfl ?_
        refine q_get C kc7 hW 0 rfl 5 (by decide) fl_X7_67 rfl rfl dX7_both_20 ?_
        refine lv_iconst (v := 1) hx hb dX7_both_23 kic_1 ?_
        refine lv_iadd hx hb dX7_both_24 ?_
        refine q_put C kc7 hW hS 0 rfl 5 (by decide) fl_X7_67 rfl rfl rfl rfl (Nat.le_of_ble_eq_true rfl) dX7_both_25 (fun H locs hW hS => ?_)
        have hW : wo G A (wd_X7_7 G b m_images (m_at_ + (1 : Int32)) m_open_ m_steps m_use_ m_traced m_speaks m_isParted m_s m_step) H := hW
        refine lv_aload_n hx hb dX7_both_28 rfl (lv_at hl 0 rfl) ?_
        refine q_callV (rest := []) (n := 0) C (c_X7_compared l f o O_X7_one hO_X7_one G b m_images (m_at_ + (1 : Int32)) m_open_ m_steps m_use_ m_traced m_speaks m_isParted m_s m_step _ hv) ml_X7_89 kb_X7_compared rfl ⟨⟨rfl, rfl⟩, (by show f + 3 + 1 ≤ f + 4; omega), (by show 8 + (2 + 11) + (o + 65) ≤ o + 86; omega)⟩ hW hS [0, 1, 2] rfl rfl kc7 (q0 := 0) rfl hl.1 rfl (Nat.le_of_ble_eq_true rfl) dX7_both_29 ⟨Nat.zero_le _, Nat.zero_le _⟩ (fun r_7 u_8 H locs hv hW hS => ?_)
        obtain ⟨m_at__7, m_open__7, m_steps_7, m_step_7⟩ := u_8
        obtain ⟨hv_b_7, hv⟩ := hv
        try dsimp only at hv
        have hW : wo G A (wd_X7_7 G b m_images m_at__7 m_open__7 m_steps_7 m_use_ m_traced m_speaks m_isParted m_s m_step_7) H := hW
        refine lv_if_ne (tgt := 37) hx hb dX7_both_32 (by decide) (fun c_9 => ?_) (fun c_9 => ?_)
        · replace hv := hv.1 c_9
          refine lv_aload_n hx hb dX7_both_37 rfl (lv_at hl 0 rfl) ?_
          refine lv_iconst (v := 3) hx hb dX7_both_38 kic_3 ?_
          refine lv_bipush (v := 38) hx hb dX7_both_39 kbp_38 ?_
          refine q_callVv (rest := []) (n := 2) C (c_X7_step1 l G b m_images m_at__7 m_open__7 m_steps_7 m_use_ m_traced m_speaks m_isParted m_step_7 (3 : Int32) (38 : Int32) _ hv) ml_X7_85 kb_X7_step1 rfl ⟨⟨rfl, rfl⟩, (by show 0 + 1 ≤ f + 4; omega), (by show 8 + (3 + 11) + 0 ≤ o + 86; omega)⟩ hW hS [0, 2] rfl rfl kc7 (q0 := 0) rfl hl.1 rfl (Nat.le_of_ble_eq_true rfl) dX7_both_41 ⟨Nat.zero_le _, Nat.zero_le _⟩ (fun u_11 H locs hv hW hS => ?_)
          obtain ⟨m_steps_10, m_step_10⟩ := u_11
          try dsimp only at hv
          have hW : wo G A (wd_X7_7 G b m_images m_at__7 m_open__7 m_steps_10 m_use_ m_traced m_speaks m_isParted m_s m_step_10) H := hW
          refine lv_goto (tgt := 9) hx hb dX7_both_44 (by decide) ?_
          exact ih m_at__7 m_open__7 m_steps_10 m_step_10 H locs ls hW hS (lv_sub hl [0] rfl) hv
        · replace hv := hv.2 c_9
          refine lv_iconst (v := 0) hx hb dX7_both_35 kic_0 ?_
          exact ret (m_at__7, m_open__7, m_steps_7, m_step_7) (0 : Int32) H locs ls _ (bl_narrow (Or.inl rfl)) hW hS ⟨(Or.inl rfl), hv⟩ dX7_both_36
  refine lv_aload_n hx hb dX7_both_0 rfl (lv_at hl 0 rfl) ?_
  refine q_callV (rest := []) (n := 0) C (c_X7_compared l f o O_X7_one hO_X7_one G b m_images m_at_ m_open_ m_steps m_use_ m_traced m_speaks m_isParted m_s m_step _ hv) ml_X7_89 kb_X7_compared rfl ⟨⟨rfl, rfl⟩, (by show f + 3 + 1 ≤ f + 4; omega), (by show 8 + (2 + 11) + (o + 65) ≤ o + 86; omega)⟩ hW hS [0, 1, 2] rfl rfl kc7 (q0 := 0) rfl hl.1 rfl (Nat.le_of_ble_eq_true rfl) dX7_both_1 ⟨Nat.zero_le _, Nat.zero_le _⟩ (fun r_1 u_2 H locs hv hW hS => ?_)
  obtain ⟨m_at__1, m_open__1, m_steps_1, m_step_1⟩ := u_2
  obtain ⟨hv_b_1, hv⟩ := hv
  try dsimp only at hv
  have hW : wo G A (wd_X7_7 G b m_images m_at__1 m_open__1 m_steps_1 m_use_ m_traced m_speaks m_isParted m_s m_step_1) H := hW
  refine lv_if_ne (tgt := 9) hx hb dX7_both_4 (by decide) (fun c_3 => ?_) (fun c_3 => ?_)
  · replace hv := hv.1 c_3
    obtain ⟨n_12, hv⟩ := hv
    exact h_l_X7_both_9 n_12 m_at__1 m_open__1 m_steps_1 m_step_1 H locs ls hW hS (lv_sub hl [0] rfl) hv
  · replace hv := hv.2 c_3
    refine lv_iconst (v := 0) hx hb dX7_both_7 kic_0 ?_
    exact ret (m_at__1, m_open__1, m_steps_1, m_step_1) (0 : Int32) H locs ls _ (bl_narrow (Or.inl rfl)) hW hS ⟨(Or.inl rfl), hv⟩ dX7_both_8
set_option maxHeartbeats 4000000 in
set_option maxRecDepth 100000 in
theorem c_X7_whole (l : Launch) (f o : Nat) (O_X7_one : Int32 → Int32 → Int32 → Int32 → (Nat → Int32) → (Nat → Int32) → (Int32 → Int32 → Int32 → Int32 → (Nat → Int32) → Prop) → Prop) (hO_X7_one : ∀ (G : Gt) (b : Nat → Nat) (m_images : Int32) (m_at_ : Int32) (m_open_ : Int32) (m_steps : Int32) (m_use_ : Int32) (m_traced : Int32) (m_speaks : Int32) (m_isParted : Int32) (m_s : Nat → Int32) (m_step : Nat → Int32) (K : Int32 → Int32 → Int32 → Int32 → (Nat → Int32) → Prop), O_X7_one m_at_ m_open_ m_steps m_use_ m_s m_step K → CI l G yX7_one (.code yX7_one cX7_one 4 (some .boolean) :: wsG) (rmm f o) [.ref (b 0)] (wd_X7_7 G b m_images m_at_ m_open_ m_steps m_use_ m_traced m_speaks m_isParted m_s m_step) (S := Int32 × Int32 × Int32 × (Nat → Int32)) (fun u => wd_X7_7 G b m_images u.1 u.2.1 u.2.2.1 m_use_ m_traced m_speaks m_isParted m_s u.2.2.2) (fun r u => (r = 0 ∨ r = 1) ∧ K r u.1 u.2.1 u.2.2.1 u.2.2.2)) (G : Gt) (b : Nat → Nat) (m_images : Int32) (m_at_ : Int32) (m_open_ : Int32) (m_steps : Int32) (m_use_ : Int32) (m_traced : Int32) (m_speaks : Int32) (m_isParted : Int32) (m_s : Nat → Int32) (m_step : Nat → Int32) (K : Int32 → Int32 → Int32 → Int32 → (Nat → Int32) → Prop) (hv : v_X7_whole O_X7_one m_at_ m_open_ m_steps m_use_ m_s m_step K) : CI l G yX7_whole (.code yX7_whole cX7_whole 1 (some .boolean) :: wsG) (rmm (f + 5) (o + 106)) [.ref (b 0)] (wd_X7_7 G b m_images m_at_ m_open_ m_steps m_use_ m_traced m_speaks m_isParted m_s m_step) (S := Int32 × Int32 × Int32 × (Nat → Int32)) (fun u => wd_X7_7 G b m_images u.1 u.2.1 u.2.2.1 m_use_ m_traced m_speaks m_isParted m_s u.2.2.2) (fun r u => (r = 0 ∨ r = 1) ∧ K r u.1 u.2.1 u.2.2.1 u.2.2.2) := by
  refine ci_intro (by decide) rfl (fun _ => rfl) (Nat.le_of_ble_eq_true rfl) ?_
  intro p e s m args below meth c A H ls Q C hW hS hl ret
  have hx := C.1.1
  have hb := C.1.2.1
  generalize hls : ([] : List Loc) = locs at hS ⊢
  have hl : lv_has ls 1 [(0, .ref (b 0))] := hl
  have h_l_X7_whole_9 : ∀ (n : Nat), ∀ (m_at_ : Int32) (m_open_ : Int32) (m_steps : Int32) (m_step : Nat → Int32) (H : Heap) (locs : List Loc) (ls : Array Slot), wo G A (wd_X7_7 G b m_images m_at_ m_open_ m_steps m_use_ m_traced m_speaks m_isParted m_s m_step) H → va_S A s.heap H locs → lv_has ls 1 [(0, .ref (b 0))] → l_X7_whole_9 O_X7_one m_use_ m_s K n m_at_ m_open_ m_steps m_step → W p l e (rmm (f + 5) (o + 106)) s m args below meth c H locs 0 0 Q (F0 m 9 ls []) := by
    intro n
    induction n with
    | zero =>
      intro m_at_ m_open_ m_steps m_step H locs ls hW hS hl hv
      exact False.elim hv
    | succ n ih =>
      intro m_at_ m_open_ m_steps m_step H locs ls hW hS hl hv
      refine lv_aload_n hx hb dX7_whole_9 rfl (lv_at hl 0 rfl) ?_
      refine q_callV (rest := []) (n := 0) C (c_X7_look l G b m_images m_at_ m_open_ m_steps m_use_ m_traced m_speaks m_isParted m_s _ hv) ml_X7_81 kb_X7_look rfl ⟨⟨rfl, rfl⟩, (by show 0 + 1 ≤ f + 5; omega), (by show 8 + (1 + 11) + 0 ≤ o + 106; omega)⟩ hW hS [0, 1] rfl rfl kc7 (q0 := 0) rfl hl.1 rfl (Nat.le_of_ble_eq_true rfl) dX7_whole_10 ⟨Nat.zero_le _, Nat.zero_le _⟩ (fun r_4 u_5 H locs hv hW hS => ?_)
      try dsimp only at hv
      refine lv_bipush (v := 124) hx hb dX7_whole_13 kbp_124 ?_
      refine lv_icmp_ne (tgt := 47) hx hb dX7_whole_15 (by decide) (fun c_6 => ?_) (fun c_6 => ?_)
      · replace hv := hv.1 c_6
        refine lv_iconst (v := 1) hx hb dX7_whole_47 kic_1 ?_
        exact ret (m_at_, m_open_, m_steps, m_step) (1 : Int32) H locs ls _ (bl_narrow (Or.inr rfl)) hW hS ⟨(Or.inr rfl), hv⟩ dX7_whole_48
      · replace hv := hv.2 c_6
        refine lv_aload_n hx hb dX7_whole_18 rfl (lv_at hl 0 rfl) ?_
        refine lv_dup hx hb dX7_whole_19 rfl ?_
        refine q_get C kc7 hW 0 rfl 5 (by decide) fl_X7_67 rfl rfl dX7_whole_20 ?_
        refine lv_iconst (v := 1) hx hb dX7_whole_23 kic_1 ?_
        refine lv_iadd hx hb dX7_whole_24 ?_
        refine q_put C kc7 hW hS 0 rfl 5 (by decide) fl_X7_67 rfl rfl rfl rfl (Nat.le_of_ble_eq_true rfl) dX7_whole_25 (fun H locs hW hS => ?_)
        have hW : wo G A (wd_X7_7 G b m_images (m_at_ + (1 : Int32)) m_open_ m_steps m_use_ m_traced m_speaks m_isParted m_s m_step) H := hW
        refine lv_aload_n hx hb dX7_whole_28 rfl (lv_at hl 0 rfl) ?_
        refine q_callV (rest := []) (n := 0) C (c_X7_both l f o O_X7_one hO_X7_one G b m_images (m_at_ + (1 : Int32)) m_open_ m_steps m_use_ m_traced m_speaks m_isParted m_s m_step _ hv) ml_X7_77 kb_X7_both rfl ⟨⟨rfl, rfl⟩, (by show f + 4 + 1 ≤ f + 5; omega), (by show 8 + (1 + 11) + (o + 86) ≤ o + 106; omega)⟩ hW hS [0, 1, 2] rfl rfl kc7 (q0 := 0) rfl hl.1 rfl (Nat.le_of_ble_eq_true rfl) dX7_whole_29 ⟨Nat.zero_le _, Nat.zero_le _⟩ (fun r_7 u_8 H locs hv hW hS => ?_)
        obtain ⟨m_at__7, m_open__7, m_steps_7, m_step_7⟩ := u_8
        obtain ⟨hv_b_7, hv⟩ := hv
        try dsimp only at hv
        have hW : wo G A (wd_X7_7 G b m_images m_at__7 m_open__7 m_steps_7 m_use_ m_traced m_speaks m_isParted m_s m_step_7) H := hW
        refine lv_if_ne (tgt := 37) hx hb dX7_whole_32 (by decide) (fun c_9 => ?_) (fun c_9 => ?_)
        · replace hv := hv.1 c_9
          refine lv_aload_n hx hb dX7_whole_37 rfl (lv_at hl 0 rfl) ?_
          refine lv_iconst (v := 3) hx hb dX7_whole_38 kic_3 ?_
          refine lv_bipush (v := 124) hx hb dX7_whole_39 kbp_124 ?_
          refine q_callVv (rest := []) (n := 2) C (c_X7_step1 l G b m_images m_at__7 m_open__7 m_steps_7 m_use_ m_traced m_speaks m_isParted m_step_7 (3 : Int32) (124 : Int32) _ hv) ml_X7_85 kb_X7_step1 rfl ⟨⟨rfl, rfl⟩, (by show 0 + 1 ≤ f + 5; omega), (by show 8 + (3 + 11) + 0 ≤ o + 106; omega)⟩ hW hS [0, 2] rfl rfl kc7 (q0 := 0) rfl hl.1 rfl (Nat.le_of_ble_eq_true rfl) dX7_whole_41 ⟨Nat.zero_le _, Nat.zero_le _⟩ (fun u_11 H locs hv hW hS => ?_)
          obtain ⟨m_steps_10, m_step_10⟩ := u_11
          try dsimp only at hv
          have hW : wo G A (wd_X7_7 G b m_images m_at__7 m_open__7 m_steps_10 m_use_ m_traced m_speaks m_isParted m_s m_step_10) H := hW
          refine lv_goto (tgt := 9) hx hb dX7_whole_44 (by decide) ?_
          exact ih m_at__7 m_open__7 m_steps_10 m_step_10 H locs ls hW hS (lv_sub hl [0] rfl) hv
        · replace hv := hv.2 c_9
          refine lv_iconst (v := 0) hx hb dX7_whole_35 kic_0 ?_
          exact ret (m_at__7, m_open__7, m_steps_7, m_step_7) (0 : Int32) H locs ls _ (bl_narrow (Or.inl rfl)) hW hS ⟨(Or.inl rfl), hv⟩ dX7_whole_36
  refine lv_aload_n hx hb dX7_whole_0 rfl (lv_at hl 0 rfl) ?_
  refine q_callV (rest := []) (n := 0) C (c_X7_both l f o O_X7_one hO_X7_one G b m_images m_at_ m_open_ m_steps m_use_ m_traced m_speaks m_isParted m_s m_step _ hv) ml_X7_77 kb_X7_both rfl ⟨⟨rfl, rfl⟩, (by show f + 4 + 1 ≤ f + 5; omega), (by show 8 + (1 + 11) + (o + 86) ≤ o + 106; omega)⟩ hW hS [0, 1, 2] rfl rfl kc7 (q0 := 0) rfl hl.1 rfl (Nat.le_of_ble_eq_true rfl) dX7_whole_1 ⟨Nat.zero_le _, Nat.zero_le _⟩ (fun r_1 u_2 H locs hv hW hS => ?_)
  obtain ⟨m_at__1, m_open__1, m_steps_1, m_step_1⟩ := u_2
  obtain ⟨hv_b_1, hv⟩ := hv
  try dsimp only at hv
  have hW : wo G A (wd_X7_7 G b m_images m_at__1 m_open__1 m_steps_1 m_use_ m_traced m_speaks m_isParted m_s m_step_1) H := hW
  refine lv_if_ne (tgt := 9) hx hb dX7_whole_4 (by decide) (fun c_3 => ?_) (fun c_3 => ?_)
  · replace hv := hv.1 c_3
    obtain ⟨n_12, hv⟩ := hv
    exact h_l_X7_whole_9 n_12 m_at__1 m_open__1 m_steps_1 m_step_1 H locs ls hW hS (lv_sub hl [0] rfl) hv
  · replace hv := hv.2 c_3
    refine lv_iconst (v := 0) hx hb dX7_whole_7 kic_0 ?_
    exact ret (m_at__1, m_open__1, m_steps_1, m_step_1) (0 : Int32) H locs ls _ (bl_narrow (Or.inl rfl)) hW hS ⟨(Or.inl rfl), hv⟩ dX7_whole_8
set_option maxHeartbeats 4000000 in
set_option maxRecDepth 100000 in
theorem cb_X7_one (l : Launch) (f o : Nat) (O_X7_one : Int32 → Int32 → Int32 → Int32 → (Nat → Int32) → (Nat → Int32) → (Int32 → Int32 → Int32 → Int32 → (Nat → Int32) → Prop) → Prop) (hO_X7_one : ∀ (G : Gt) (b : Nat → Nat) (m_images : Int32) (m_at_ : Int32) (m_open_ : Int32) (m_steps : Int32) (m_use_ : Int32) (m_traced : Int32) (m_speaks : Int32) (m_isParted : Int32) (m_s : Nat → Int32) (m_step : Nat → Int32) (K : Int32 → Int32 → Int32 → Int32 → (Nat → Int32) → Prop), O_X7_one m_at_ m_open_ m_steps m_use_ m_s m_step K → CI l G yX7_one (.code yX7_one cX7_one 4 (some .boolean) :: wsG) (rmm f o) [.ref (b 0)] (wd_X7_7 G b m_images m_at_ m_open_ m_steps m_use_ m_traced m_speaks m_isParted m_s m_step) (S := Int32 × Int32 × Int32 × (Nat → Int32)) (fun u => wd_X7_7 G b m_images u.1 u.2.1 u.2.2.1 m_use_ m_traced m_speaks m_isParted m_s u.2.2.2) (fun r u => (r = 0 ∨ r = 1) ∧ K r u.1 u.2.1 u.2.2.1 u.2.2.2)) (G : Gt) (b : Nat → Nat) (m_images : Int32) (m_at_ : Int32) (m_open_ : Int32) (m_steps : Int32) (m_use_ : Int32) (m_traced : Int32) (m_speaks : Int32) (m_isParted : Int32) (m_s : Nat → Int32) (m_step : Nat → Int32) (K : Int32 → Int32 → Int32 → Int32 → (Nat → Int32) → Prop) (hv : b_X7_one O_X7_one m_at_ m_open_ m_steps m_use_ m_s m_step K) : CI l G yX7_one (.code yX7_one cX7_one 4 (some .boolean) :: wsG) (rmm (f + 6) (o + 126)) [.ref (b 0)] (wd_X7_7 G b m_images m_at_ m_open_ m_steps m_use_ m_traced m_speaks m_isParted m_s m_step) (S := Int32 × Int32 × Int32 × (Nat → Int32)) (fun u => wd_X7_7 G b m_images u.1 u.2.1 u.2.2.1 m_use_ m_traced m_speaks m_isParted m_s u.2.2.2) (fun r u => (r = 0 ∨ r = 1) ∧ K r u.1 u.2.1 u.2.2.1 u.2.2.2) := by
  refine ci_intro (by decide) rfl (fun _ => rfl) (Nat.le_of_ble_eq_true rfl) ?_
  intro p e s m args below meth c A H ls Q C hW hS hl ret
  have hx := C.1.1
  have hb := C.1.2.1
  generalize hls : ([] : List Loc) = locs at hS ⊢
  have hl : lv_has ls 4 [(0, .ref (b 0))] := hl
  have h_j_X7_one_94 : ∀ (x2 : Int32) (m_at_ : Int32) (m_open_ : Int32) (m_steps : Int32) (m_step : Nat → Int32) (H : Heap) (locs : List Loc) (ls : Array Slot), wo G A (wd_X7_7 G b m_images m_at_ m_open_ m_steps m_use_ m_traced m_speaks m_isParted m_s m_step) H → va_S A s.heap H locs → lv_has ls 4 [(0, .ref (b 0)), (2, .int x2)] → j_X7_one_94 O_X7_one m_use_ m_s K x2 m_at_ m_open_ m_steps m_step → W p l e (rmm (f + 6) (o + 126)) s m args below meth c H locs 0 0 Q (F0 m 94 ls []) := by
    intro x2 m_at_ m_open_ m_steps m_step H locs ls hW hS hl hv
    refine lv_aload_n hx hb dX7_one_94 rfl (lv_at hl 0 rfl) ?_
    refine lv_iconst (v := 0) hx hb dX7_one_95 kic_0 ?_
    refine lv_iload_n hx hb dX7_one_96 rfl (lv_at hl 1 rfl) ?_
    refine q_callVv (rest := []) (n := 2) C (c_X7_step1 l G b m_images m_at_ m_open_ m_steps m_use_ m_traced m_speaks m_isParted m_step (0 : Int32) x2 _ hv) ml_X7_85 kb_X7_step1 rfl ⟨⟨rfl, rfl⟩, (by show 0 + 1 ≤ f + 6; omega), (by show 8 + (3 + 11) + 0 ≤ o + 126; omega)⟩ hW hS [0, 2] rfl rfl kc7 (q0 := 0) rfl hl.1 rfl (Nat.le_of_ble_eq_true rfl) dX7_one_97 ⟨Nat.zero_le _, Nat.zero_le _⟩ (fun u_30 H locs hv hW hS => ?_)
    obtain ⟨m_steps_29, m_step_29⟩ := u_30
    try dsimp only at hv
    have hW : wo G A (wd_X7_7 G b m_images m_at_ m_open_ m_steps_29 m_use_ m_traced m_speaks m_isParted m_s m_step_29) H := hW
    refine lv_iconst (v := 1) hx hb dX7_one_100 kic_1 ?_
    exact ret (m_at_, m_open_, m_steps_29, m_step_29) (1 : Int32) H locs ls _ (bl_narrow (Or.inr rfl)) hW hS ⟨(Or.inr rfl), hv⟩ dX7_one_101
  have h_l_X7_one_46 : ∀ (n : Nat), ∀ (x2 : Int32) (x3 : Int32) (m_at_ : Int32) (m_open_ : Int32) (m_steps : Int32) (m_step : Nat → Int32) (H : Heap) (locs : List Loc) (ls : Array Slot), wo G A (wd_X7_7 G b m_images m_at_ m_open_ m_steps m_use_ m_traced m_speaks m_isParted m_s m_step) H → va_S A s.heap H locs → lv_has ls 4 [(0, .ref (b 0)), (2, .int x2), (3, .int x3)] → l_X7_one_46 O_X7_one m_use_ m_s K n x2 x3 m_at_ m_open_ m_steps m_step → W p l e (rmm (f + 6) (o + 126)) s m args below meth c H locs 0 0 Q (F0 m 46 ls []) := by
    intro n
    induction n with
    | zero =>
      intro x2 x3 m_at_ m_open_ m_steps m_step H locs ls hW hS hl hv
      exact False.elim hv
    | succ n ih =>
      intro x2 x3 m_at_ m_open_ m_steps m_step H locs ls hW hS hl hv
      refine lv_iload_n hx hb dX7_one_46 rfl (lv_at hl 2 rfl) ?_
      refine lv_iconst (v := 4) hx hb dX7_one_47 kic_4 ?_
      refine lv_icmp_ge (tgt := 94) hx hb dX7_one_48 (by decide) (fun c_28 => ?_) (fun c_28 => ?_)
      · replace hv := hv.1 c_28
        exact h_j_X7_one_94 x2 m_at_ m_open_ m_steps m_step H locs ls hW hS (lv_sub hl [0, 1] rfl) hv
      · replace hv := hv.2 c_28
        refine lv_aload_n hx hb dX7_one_51 rfl (lv_at hl 0 rfl) ?_
        refine q_callV (rest := []) (n := 0) C (c_X7_look l G b m_images m_at_ m_open_ m_steps m_use_ m_traced m_speaks m_isParted m_s _ hv) ml_X7_81 kb_X7_look rfl ⟨⟨rfl, rfl⟩, (by show 0 + 1 ≤ f + 6; omega), (by show 8 + (1 + 11) + 0 ≤ o + 126; omega)⟩ hW hS [0, 1] rfl rfl kc7 (q0 := 0) rfl hl.1 rfl (Nat.le_of_ble_eq_true rfl) dX7_one_52 ⟨Nat.zero_le _, Nat.zero_le _⟩ (fun r_31 u_32 H locs hv hW hS => ?_)
        try dsimp only at hv
        refine lv_bipush (v := 48) hx hb dX7_one_55 kbp_48 ?_
        refine lv_bipush (v := 57) hx hb dX7_one_57 kbp_57 ?_
        refine q_callS (rest := []) (n := 3) C (c_X7_in l G r_31 (48 : Int32) (57 : Int32) _ hv) ml_X7_53 kb_X7_in rfl ⟨⟨rfl, rfl⟩, (by show 0 + 1 ≤ f + 6; omega), (by show 8 + (3 + 11) + 0 ≤ o + 126; omega)⟩ hW hS hl.1 rfl (Nat.le_of_ble_eq_true rfl) dX7_one_59 ⟨Nat.zero_le _, Nat.zero_le _⟩ (fun r_33 u_34 H locs hv hW hS => ?_)
        obtain ⟨hv_b_33, hv⟩ := hv
        try dsimp only at hv
        refine lv_if_eq (tgt := 94) hx hb dX7_one_62 (by decide) (fun c_35 => ?_) (fun c_35 => ?_)
        · replace hv := hv.1 c_35
          exact h_j_X7_one_94 x2 m_at_ m_open_ m_steps m_step H locs ls hW hS (lv_sub hl [0, 1] rfl) hv
        · replace hv := hv.2 c_35
          refine lv_bipush (v := 10) hx hb dX7_one_65 kbp_10 ?_
          refine lv_iload_n hx hb dX7_one_67 rfl (lv_at hl 1 rfl) ?_
          refine lv_imul hx hb dX7_one_68 ?_
          refine lv_aload_n hx hb dX7_one_69 rfl (lv_at hl 0 rfl) ?_
          refine q_callV (rest := [.int ((10 : Int32) * x2)]) (n := 0) C (c_X7_look l G b m_images m_at_ m_open_ m_steps m_use_ m_traced m_speaks m_isParted m_s _ hv) ml_X7_81 kb_X7_look rfl ⟨⟨rfl, rfl⟩, (by show 0 + 1 ≤ f + 6; omega), (by show 8 + (1 + 11) + 0 ≤ o + 126; omega)⟩ hW hS [0, 1] rfl rfl kc7 (q0 := 0) rfl hl.1 rfl (Nat.le_of_ble_eq_true rfl) dX7_one_70 ⟨Nat.zero_le _, Nat.zero_le _⟩ (fun r_36 u_37 H locs hv hW hS => ?_)
          try dsimp only at hv
          refine lv_iadd hx hb dX7_one_73 ?_
          refine lv_bipush (v := 48) hx hb dX7_one_74 kbp_48 ?_
          refine lv_isub hx hb dX7_one_76 ?_
          refine lv_istore_n (lv' := [(2, .int ((((10 : Int32) * x2) + r_36) - (48 : Int32))), (0, .ref (b 0)), (3, .int x3)]) hx hb dX7_one_77 rfl hl (by decide) rfl (fun ls hl => ?_)
          refine lv_aload_n hx hb dX7_one_78 rfl (lv_at hl 1 rfl) ?_
          refine lv_dup hx hb dX7_one_79 rfl ?_
          refine q_get C kc7 hW 0 rfl 5 (by decide) fl_X7_67 rfl rfl dX7_one_80 ?_
          refine lv_iconst (v := 1) hx hb dX7_one_83 kic_1 ?_
          refine lv_iadd hx hb dX7_one_84 ?_
          refine q_put C kc7 hW hS 0 rfl 5 (by decide) fl_X7_67 rfl rfl rfl rfl (Nat.le_of_ble_eq_true rfl) dX7_one_85 (fun H locs hW hS => ?_)
          have hW : wo G A (wd_X7_7 G b m_images (m_at_ + (1 : Int32)) m_open_ m_steps m_use_ m_traced m_speaks m_isParted m_s m_step) H := hW
          refine lv_iinc (v := (x3 + 1)) (lv' := [(3, .int (x3 + 1)), (2, .int ((((10 : Int32) * x2) + r_36) - (48 : Int32))), (0, .ref (b 0))]) hx hb dX7_one_88 hl (k := 2) rfl rfl (by decide) rfl (fun ls hl => ?_)
          refine lv_goto (tgt := 46) hx hb dX7_one_91 (by decide) ?_
          exact ih ((((10 : Int32) * x2) + r_36) - (48 : Int32)) (x3 + 1) (m_at_ + (1 : Int32)) m_open_ m_steps m_step H locs ls hW hS (lv_sub hl [2, 1, 0] rfl) hv
  refine lv_aload_n hx hb dX7_one_0 rfl (lv_at hl 0 rfl) ?_
  refine q_callV (rest := []) (n := 0) C (c_X7_look l G b m_images m_at_ m_open_ m_steps m_use_ m_traced m_speaks m_isParted m_s _ hv) ml_X7_81 kb_X7_look rfl ⟨⟨rfl, rfl⟩, (by show 0 + 1 ≤ f + 6; omega), (by show 8 + (1 + 11) + 0 ≤ o + 126; omega)⟩ hW hS [0, 1] rfl rfl kc7 (q0 := 0) rfl hl.1 rfl (Nat.le_of_ble_eq_true rfl) dX7_one_1 ⟨Nat.zero_le _, Nat.zero_le _⟩ (fun r_1 u_2 H locs hv hW hS => ?_)
  try dsimp only at hv
  refine lv_istore_n (lv' := [(1, .int r_1), (0, .ref (b 0))]) hx hb dX7_one_4 rfl hl (by decide) rfl (fun ls hl => ?_)
  refine lv_aload_n hx hb dX7_one_5 rfl (lv_at hl 1 rfl) ?_
  refine lv_iload_n hx hb dX7_one_6 rfl (lv_at hl 0 rfl) ?_
  refine q_callV (rest := []) (n := 1) C (c_X7_isName l G b m_images m_at_ m_open_ m_steps m_use_ m_traced m_speaks m_isParted r_1 _ hv) ml_X7_104 kb_X7_isName rfl ⟨⟨rfl, rfl⟩, (by show 0 + 1 ≤ f + 6; omega), (by show 8 + (2 + 11) + 0 ≤ o + 126; omega)⟩ hW hS [0] rfl rfl kc7 (q0 := 0) rfl hl.1 rfl (Nat.le_of_ble_eq_true rfl) dX7_one_7 ⟨Nat.zero_le _, Nat.zero_le _⟩ (fun r_3 u_4 H locs hv hW hS => ?_)
  obtain ⟨hv_b_3, hv⟩ := hv
  try dsimp only at hv
  refine lv_if_eq (tgt := 31) hx hb dX7_one_10 (by decide) (fun c_5 => ?_) (fun c_5 => ?_)
  · replace hv := hv.1 c_5
    refine lv_iload_n hx hb dX7_one_31 rfl (lv_at hl 0 rfl) ?_
    refine lv_bipush (v := 48) hx hb dX7_one_32 kbp_48 ?_
    refine lv_bipush (v := 57) hx hb dX7_one_34 kbp_57 ?_
    refine q_callS (rest := []) (n := 3) C (c_X7_in l G r_1 (48 : Int32) (57 : Int32) _ hv) ml_X7_53 kb_X7_in rfl ⟨⟨rfl, rfl⟩, (by show 0 + 1 ≤ f + 6; omega), (by show 8 + (3 + 11) + 0 ≤ o + 126; omega)⟩ hW hS hl.1 rfl (Nat.le_of_ble_eq_true rfl) dX7_one_36 ⟨Nat.zero_le _, Nat.zero_le _⟩ (fun r_6 u_7 H locs hv hW hS => ?_)
    obtain ⟨hv_b_6, hv⟩ := hv
    try dsimp only at hv
    refine lv_if_eq (tgt := 102) hx hb dX7_one_39 (by decide) (fun c_8 => ?_) (fun c_8 => ?_)
    · replace hv := hv.1 c_8
      refine lv_iload_n hx hb dX7_one_102 rfl (lv_at hl 0 rfl) ?_
      refine lv_bipush (v := 33) hx hb dX7_one_103 kbp_33 ?_
      refine lv_icmp_ne (tgt := 142) hx hb dX7_one_105 (by decide) (fun c_9 => ?_) (fun c_9 => ?_)
      · replace hv := hv.1 c_9
        refine lv_iload_n hx hb dX7_one_142 rfl (lv_at hl 0 rfl) ?_
        refine lv_bipush (v := 40) hx hb dX7_one_143 kbp_40 ?_
        refine lv_icmp_ne (tgt := 171) hx hb dX7_one_145 (by decide) (fun c_10 => ?_) (fun c_10 => ?_)
        · replace hv := hv.1 c_10
          refine lv_iconst (v := 0) hx hb dX7_one_171 kic_0 ?_
          exact ret (m_at_, m_open_, m_steps, m_step) (0 : Int32) H locs ls _ (bl_narrow (Or.inl rfl)) hW hS ⟨(Or.inl rfl), hv⟩ dX7_one_172
        · replace hv := hv.2 c_10
          refine lv_aload_n hx hb dX7_one_148 rfl (lv_at hl 1 rfl) ?_
          refine q_callV (rest := []) (n := 0) C (c_X7_opens l G b m_images m_at_ m_open_ m_steps m_use_ m_traced m_speaks m_isParted _ hv) ml_X7_107 kb_X7_opens rfl ⟨⟨rfl, rfl⟩, (by show 0 + 1 ≤ f + 6; omega), (by show 8 + (1 + 11) + 0 ≤ o + 126; omega)⟩ hW hS [0] rfl rfl kc7 (q0 := 0) rfl hl.1 rfl (Nat.le_of_ble_eq_true rfl) dX7_one_149 ⟨Nat.zero_le _, Nat.zero_le _⟩ (fun r_11 u_12 H locs hv hW hS => ?_)
          obtain ⟨m_at__11, m_open__11⟩ := u_12
          obtain ⟨hv_b_11, hv⟩ := hv
          try dsimp only at hv
          have hW : wo G A (wd_X7_7 G b m_images m_at__11 m_open__11 m_steps m_use_ m_traced m_speaks m_isParted m_s m_step) H := hW
          refine lv_if_eq (tgt := 171) hx hb dX7_one_152 (by decide) (fun c_13 => ?_) (fun c_13 => ?_)
          · replace hv := hv.1 c_13
            refine lv_iconst (v := 0) hx hb dX7_one_171 kic_0 ?_
            exact ret (m_at__11, m_open__11, m_steps, m_step) (0 : Int32) H locs ls _ (bl_narrow (Or.inl rfl)) hW hS ⟨(Or.inl rfl), hv⟩ dX7_one_172
          · replace hv := hv.2 c_13
            refine lv_aload_n hx hb dX7_one_155 rfl (lv_at hl 1 rfl) ?_
            refine q_callV (rest := []) (n := 0) C (c_X7_whole l f o O_X7_one hO_X7_one G b m_images m_at__11 m_open__11 m_steps m_use_ m_traced m_speaks m_isParted m_s m_step _ hv) ml_X7_110 kb_X7_whole rfl ⟨⟨rfl, rfl⟩, (by show f + 5 + 1 ≤ f + 6; omega), (by show 8 + (1 + 11) + (o + 106) ≤ o + 126; omega)⟩ hW hS [0, 1, 2] rfl rfl kc7 (q0 := 0) rfl hl.1 rfl (Nat.le_of_ble_eq_true rfl) dX7_one_156 ⟨Nat.zero_le _, Nat.zero_le _⟩ (fun r_14 u_15 H locs hv hW hS => ?_)
            obtain ⟨m_at__14, m_open__14, m_steps_14, m_step_14⟩ := u_15
            obtain ⟨hv_b_14, hv⟩ := hv
            try dsimp only at hv
            have hW : wo G A (wd_X7_7 G b m_images m_at__14 m_open__14 m_steps_14 m_use_ m_traced m_speaks m_isParted m_s m_step_14) H := hW
            refine lv_if_eq (tgt := 171) hx hb dX7_one_159 (by decide) (fun c_16 => ?_) (fun c_16 => ?_)
            · replace hv := hv.1 c_16
              refine lv_iconst (v := 0) hx hb dX7_one_171 kic_0 ?_
              exact ret (m_at__14, m_open__14, m_steps_14, m_step_14) (0 : Int32) H locs ls _ (bl_narrow (Or.inl rfl)) hW hS ⟨(Or.inl rfl), hv⟩ dX7_one_172
            · replace hv := hv.2 c_16
              refine lv_aload_n hx hb dX7_one_162 rfl (lv_at hl 1 rfl) ?_
              refine q_callV (rest := []) (n := 0) C (c_X7_look l G b m_images m_at__14 m_open__14 m_steps_14 m_use_ m_traced m_speaks m_isParted m_s _ hv) ml_X7_81 kb_X7_look rfl ⟨⟨rfl, rfl⟩, (by show 0 + 1 ≤ f + 6; omega), (by show 8 + (1 + 11) + 0 ≤ o + 126; omega)⟩ hW hS [0, 1] rfl rfl kc7 (q0 := 0) rfl hl.1 rfl (Nat.le_of_ble_eq_true rfl) dX7_one_163 ⟨Nat.zero_le _, Nat.zero_le _⟩ (fun r_17 u_18 H locs hv hW hS => ?_)
              try dsimp only at hv
              refine lv_bipush (v := 41) hx hb dX7_one_166 kbp_41 ?_
              refine lv_icmp_eq (tgt := 173) hx hb dX7_one_168 (by decide) (fun c_19 => ?_) (fun c_19 => ?_)
              · replace hv := hv.1 c_19
                refine lv_aload_n hx hb dX7_one_173 rfl (lv_at hl 1 rfl) ?_
                refine lv_dup hx hb dX7_one_174 rfl ?_
                refine q_get C kc7 hW 0 rfl 5 (by decide) fl_X7_67 rfl rfl dX7_one_175 ?_
                refine lv_iconst (v := 1) hx hb dX7_one_178 kic_1 ?_
                refine lv_iadd hx hb dX7_one_179 ?_
                refine q_put C kc7 hW hS 0 rfl 5 (by decide) fl_X7_67 rfl rfl rfl rfl (Nat.le_of_ble_eq_true rfl) dX7_one_180 (fun H locs hW hS => ?_)
                have hW : wo G A (wd_X7_7 G b m_images (m_at__14 + (1 : Int32)) m_open__14 m_steps_14 m_use_ m_traced m_speaks m_isParted m_s m_step_14) H := hW
                refine lv_aload_n hx hb dX7_one_183 rfl (lv_at hl 1 rfl) ?_
                refine lv_dup hx hb dX7_one_184 rfl ?_
                refine q_get C kc7 hW 0 rfl 6 (by decide) fl_X7_101 rfl rfl dX7_one_185 ?_
                refine lv_iconst (v := 1) hx hb dX7_one_188 kic_1 ?_
                refine lv_isub hx hb dX7_one_189 ?_
                refine q_put C kc7 hW hS 0 rfl 6 (by decide) fl_X7_101 rfl rfl rfl rfl (Nat.le_of_ble_eq_true rfl) dX7_one_190 (fun H locs hW hS => ?_)
                have hW : wo G A (wd_X7_7 G b m_images (m_at__14 + (1 : Int32)) (m_open__14 - (1 : Int32)) m_steps_14 m_use_ m_traced m_speaks m_isParted m_s m_step_14) H := hW
                refine lv_iconst (v := 1) hx hb dX7_one_193 kic_1 ?_
                exact ret ((m_at__14 + (1 : Int32)), (m_open__14 - (1 : Int32)), m_steps_14, m_step_14) (1 : Int32) H locs ls _ (bl_narrow (Or.inr rfl)) hW hS ⟨(Or.inr rfl), hv⟩ dX7_one_194
              · replace hv := hv.2 c_19
                refine lv_iconst (v := 0) hx hb dX7_one_171 kic_0 ?_
                exact ret (m_at__14, m_open__14, m_steps_14, m_step_14) (0 : Int32) H locs ls _ (bl_narrow (Or.inl rfl)) hW hS ⟨(Or.inl rfl), hv⟩ dX7_one_172
      · replace hv := hv.2 c_9
        refine lv_aload_n hx hb dX7_one_108 rfl (lv_at hl 1 rfl) ?_
        refine q_callV (rest := []) (n := 0) C (c_X7_opens l G b m_images m_at_ m_open_ m_steps m_use_ m_traced m_speaks m_isParted _ hv) ml_X7_107 kb_X7_opens rfl ⟨⟨rfl, rfl⟩, (by show 0 + 1 ≤ f + 6; omega), (by show 8 + (1 + 11) + 0 ≤ o + 126; omega)⟩ hW hS [0] rfl rfl kc7 (q0 := 0) rfl hl.1 rfl (Nat.le_of_ble_eq_true rfl) dX7_one_109 ⟨Nat.zero_le _, Nat.zero_le _⟩ (fun r_20 u_21 H locs hv hW hS => ?_)
        obtain ⟨m_at__20, m_open__20⟩ := u_21
        obtain ⟨hv_b_20, hv⟩ := hv
        try dsimp only at hv
        have hW : wo G A (wd_X7_7 G b m_images m_at__20 m_open__20 m_steps m_use_ m_traced m_speaks m_isParted m_s m_step) H := hW
        refine lv_if_eq (tgt := 122) hx hb dX7_one_112 (by decide) (fun c_22 => ?_) (fun c_22 => ?_)
        · replace hv := hv.1 c_22
          refine lv_iconst (v := 0) hx hb dX7_one_122 kic_0 ?_
          exact ret (m_at__20, m_open__20, m_steps, m_step) (0 : Int32) H locs ls _ (bl_narrow (Or.inl rfl)) hW hS ⟨(Or.inl rfl), hv⟩ dX7_one_123
        · replace hv := hv.2 c_22
          refine lv_aload_n hx hb dX7_one_115 rfl (lv_at hl 1 rfl) ?_
          refine q_callV (rest := []) (n := 0) C (hO_X7_one G b m_images m_at__20 m_open__20 m_steps m_use_ m_traced m_speaks m_isParted m_s m_step _ hv) ml_X7_98 kb_X7_one rfl ⟨⟨rfl, rfl⟩, (by show f + 1 ≤ f + 6; omega), (by show 8 + (4 + 11) + o ≤ o + 126; omega)⟩ hW hS [0, 1, 2] rfl rfl kc7 (q0 := 0) rfl hl.1 rfl (Nat.le_of_ble_eq_true rfl) dX7_one_116 ⟨Nat.zero_le _, Nat.zero_le _⟩ (fun r_23 u_24 H locs hv hW hS => ?_)
          obtain ⟨m_at__23, m_open__23, m_steps_23, m_step_23⟩ := u_24
          obtain ⟨hv_b_23, hv⟩ := hv
          try dsimp only at hv
          have hW : wo G A (wd_X7_7 G b m_images m_at__23 m_open__23 m_steps_23 m_use_ m_traced m_speaks m_isParted m_s m_step_23) H := hW
          refine lv_if_ne (tgt := 124) hx hb dX7_one_119 (by decide) (fun c_25 => ?_) (fun c_25 => ?_)
          · replace hv := hv.1 c_25
            refine lv_aload_n hx hb dX7_one_124 rfl (lv_at hl 1 rfl) ?_
            refine lv_dup hx hb dX7_one_125 rfl ?_
            refine q_get C kc7 hW 0 rfl 6 (by decide) fl_X7_101 rfl rfl dX7_one_126 ?_
            refine lv_iconst (v := 1) hx hb dX7_one_129 kic_1 ?_
            refine lv_isub hx hb dX7_one_130 ?_
            refine q_put C kc7 hW hS 0 rfl 6 (by decide) fl_X7_101 rfl rfl rfl rfl (Nat.le_of_ble_eq_true rfl) dX7_one_131 (fun H locs hW hS => ?_)
            have hW : wo G A (wd_X7_7 G b m_images m_at__23 (m_open__23 - (1 : Int32)) m_steps_23 m_use_ m_traced m_speaks m_isParted m_s m_step_23) H := hW
            refine lv_aload_n hx hb dX7_one_134 rfl (lv_at hl 1 rfl) ?_
            refine lv_iconst (v := 2) hx hb dX7_one_135 kic_2 ?_
            refine lv_iconst (v := 0) hx hb dX7_one_136 kic_0 ?_
            refine q_callVv (rest := []) (n := 2) C (c_X7_step1 l G b m_images m_at__23 (m_open__23 - (1 : Int32)) m_steps_23 m_use_ m_traced m_speaks m_isParted m_step_23 (2 : Int32) (0 : Int32) _ hv) ml_X7_85 kb_X7_step1 rfl ⟨⟨rfl, rfl⟩, (by show 0 + 1 ≤ f + 6; omega), (by show 8 + (3 + 11) + 0 ≤ o + 126; omega)⟩ hW hS [0, 2] rfl rfl kc7 (q0 := 0) rfl hl.1 rfl (Nat.le_of_ble_eq_true rfl) dX7_one_137 ⟨Nat.zero_le _, Nat.zero_le _⟩ (fun u_27 H locs hv hW hS => ?_)
            obtain ⟨m_steps_26, m_step_26⟩ := u_27
            try dsimp only at hv
            have hW : wo G A (wd_X7_7 G b m_images m_at__23 (m_open__23 - (1 : Int32)) m_steps_26 m_use_ m_traced m_speaks m_isParted m_s m_step_26) H := hW
            refine lv_iconst (v := 1) hx hb dX7_one_140 kic_1 ?_
            exact ret (m_at__23, (m_open__23 - (1 : Int32)), m_steps_26, m_step_26) (1 : Int32) H locs ls _ (bl_narrow (Or.inr rfl)) hW hS ⟨(Or.inr rfl), hv⟩ dX7_one_141
          · replace hv := hv.2 c_25
            refine lv_iconst (v := 0) hx hb dX7_one_122 kic_0 ?_
            exact ret (m_at__23, m_open__23, m_steps_23, m_step_23) (0 : Int32) H locs ls _ (bl_narrow (Or.inl rfl)) hW hS ⟨(Or.inl rfl), hv⟩ dX7_one_123
    · replace hv := hv.2 c_8
      refine lv_iconst (v := 0) hx hb dX7_one_42 kic_0 ?_
      refine lv_istore_n (lv' := [(2, .int (0 : Int32)), (1, .int r_1), (0, .ref (b 0))]) hx hb dX7_one_43 rfl hl (by decide) rfl (fun ls hl => ?_)
      refine lv_iconst (v := 0) hx hb dX7_one_44 kic_0 ?_
      refine lv_istore_n (lv' := [(3, .int (0 : Int32)), (2, .int (0 : Int32)), (1, .int r_1), (0, .ref (b 0))]) hx hb dX7_one_45 rfl hl (by decide) rfl (fun ls hl => ?_)
      obtain ⟨n_38, hv⟩ := hv
      exact h_l_X7_one_46 n_38 (0 : Int32) (0 : Int32) m_at_ m_open_ m_steps m_step H locs ls hW hS (lv_sub hl [3, 1, 0] rfl) hv
  · replace hv := hv.2 c_5
    refine lv_aload_n hx hb dX7_one_13 rfl (lv_at hl 1 rfl) ?_
    refine lv_dup hx hb dX7_one_14 rfl ?_
    refine q_get C kc7 hW 0 rfl 5 (by decide) fl_X7_67 rfl rfl dX7_one_15 ?_
    refine lv_iconst (v := 1) hx hb dX7_one_18 kic_1 ?_
    refine lv_iadd hx hb dX7_one_19 ?_
    refine q_put C kc7 hW hS 0 rfl 5 (by decide) fl_X7_67 rfl rfl rfl rfl (Nat.le_of_ble_eq_true rfl) dX7_one_20 (fun H locs hW hS => ?_)
    have hW : wo G A (wd_X7_7 G b m_images (m_at_ + (1 : Int32)) m_open_ m_steps m_use_ m_traced m_speaks m_isParted m_s m_step) H := hW
    refine lv_aload_n hx hb dX7_one_23 rfl (lv_at hl 1 rfl) ?_
    refine lv_iconst (v := 1) hx hb dX7_one_24 kic_1 ?_
    refine lv_iload_n hx hb dX7_one_25 rfl (lv_at hl 0 rfl) ?_
    refine q_callVv (rest := []) (n := 2) C (c_X7_step1 l G b m_images (m_at_ + (1 : Int32)) m_open_ m_steps m_use_ m_traced m_speaks m_isParted m_step (1 : Int32) r_1 _ hv) ml_X7_85 kb_X7_step1 rfl ⟨⟨rfl, rfl⟩, (by show 0 + 1 ≤ f + 6; omega), (by show 8 + (3 + 11) + 0 ≤ o + 126; omega)⟩ hW hS [0, 2] rfl rfl kc7 (q0 := 0) rfl hl.1 rfl (Nat.le_of_ble_eq_true rfl) dX7_one_26 ⟨Nat.zero_le _, Nat.zero_le _⟩ (fun u_40 H locs hv hW hS => ?_)
    obtain ⟨m_steps_39, m_step_39⟩ := u_40
    try dsimp only at hv
    have hW : wo G A (wd_X7_7 G b m_images (m_at_ + (1 : Int32)) m_open_ m_steps_39 m_use_ m_traced m_speaks m_isParted m_s m_step_39) H := hW
    refine lv_iconst (v := 1) hx hb dX7_one_29 kic_1 ?_
    exact ret ((m_at_ + (1 : Int32)), m_open_, m_steps_39, m_step_39) (1 : Int32) H locs ls _ (bl_narrow (Or.inr rfl)) hW hS ⟨(Or.inr rfl), hv⟩ dX7_one_30
theorem c_X7_one (l : Launch) : ∀ (d : Nat) (G : Gt) (b : Nat → Nat) (m_images : Int32) (m_at_ : Int32) (m_open_ : Int32) (m_steps : Int32) (m_use_ : Int32) (m_traced : Int32) (m_speaks : Int32) (m_isParted : Int32) (m_s : Nat → Int32) (m_step : Nat → Int32) (K : Int32 → Int32 → Int32 → Int32 → (Nat → Int32) → Prop) (hv : v_X7_one d m_at_ m_open_ m_steps m_use_ m_s m_step K), CI l G yX7_one (.code yX7_one cX7_one 4 (some .boolean) :: wsG) (rmm (6 * d) (126 * d)) [.ref (b 0)] (wd_X7_7 G b m_images m_at_ m_open_ m_steps m_use_ m_traced m_speaks m_isParted m_s m_step) (S := Int32 × Int32 × Int32 × (Nat → Int32)) (fun u => wd_X7_7 G b m_images u.1 u.2.1 u.2.2.1 m_use_ m_traced m_speaks m_isParted m_s u.2.2.2) (fun r u => (r = 0 ∨ r = 1) ∧ K r u.1 u.2.1 u.2.2.1 u.2.2.2)
  | 0, _, _, _, _, _, _, _, _, _, _, _, _, _, hv => False.elim hv
  | d + 1, G, b, m_images, m_at_, m_open_, m_steps, m_use_, m_traced, m_speaks, m_isParted, m_s, m_step, K, hv => cb_X7_one l (6 * d) (126 * d) (fun a0 a1 a2 a3 a4 a5 K => v_X7_one d a0 a1 a2 a3 a4 a5 K) (fun G b m_images m_at_ m_open_ m_steps m_use_ m_traced m_speaks m_isParted m_s m_step K hv => c_X7_one l d G b m_images m_at_ m_open_ m_steps m_use_ m_traced m_speaks m_isParted m_s m_step K hv) G b m_images m_at_ m_open_ m_steps m_use_ m_traced m_speaks m_isParted m_s m_step K hv
set_option maxHeartbeats 4000000 in
set_option maxRecDepth 100000 in
theorem c_X7_hasText (l : Launch) (G : Gt) (b : Nat → Nat) (m_images : Int32) (m_at_ : Int32) (m_open_ : Int32) (m_steps : Int32) (m_use_ : Int32) (m_traced : Int32) (m_speaks : Int32) (m_isParted : Int32) (m_s : Nat → Int32) (p1 : Int32) (K : Int32 → Prop) (hv : v_X7_hasText p1 m_s K) : CI l G yX7_hasText (.code yX7_hasText cX7_hasText 2 (some .boolean) :: wsG) (rmm 0 0) [.ref (b 0), .int p1] (wd_X7_3 G b m_images m_at_ m_open_ m_steps m_use_ m_traced m_speaks m_isParted m_s) (S := Unit) (fun u => wd_X7_3 G b m_images m_at_ m_open_ m_steps m_use_ m_traced m_speaks m_isParted m_s) (fun r u => (r = 0 ∨ r = 1) ∧ K r) := by
  refine ci_intro (by decide) rfl (fun _ => rfl) (Nat.le_of_ble_eq_true rfl) ?_
  intro p e s m args below meth c A H ls Q C hW hS hl ret
  have hx := C.1.1
  have hb := C.1.2.1
  generalize hls : ([] : List Loc) = locs at hS ⊢
  have hl : lv_has ls 2 [(0, .ref (b 0)), (1, .int p1)] := hl
  refine lv_aload_n hx hb dX7_hasText_0 rfl (lv_at hl 0 rfl) ?_
  refine q_get C kc7 hW 0 rfl 0 (by decide) fl_X7_7 rfl rfl dX7_hasText_1 ?_
  refine lv_bipush (v := 48) hx hb dX7_hasText_4 kbp_48 ?_
  refine lv_bipush (v := 125) hx hb dX7_hasText_6 kbp_125 ?_
  refine lv_iload_n hx hb dX7_hasText_8 rfl (lv_at hl 1 rfl) ?_
  refine lv_imul hx hb dX7_hasText_9 ?_
  refine lv_iadd hx hb dX7_hasText_10 ?_
  obtain ⟨h_1, hv⟩ := hv
  refine q_iald C hW 1 rfl h_1 dX7_hasText_11 ?_
  refine lv_if_le (tgt := 19) hx hb dX7_hasText_12 (by decide) (fun c_2 => ?_) (fun c_2 => ?_)
  · replace hv := hv.1 c_2
    refine lv_iconst (v := 0) hx hb dX7_hasText_19 kic_0 ?_
    exact ret () (0 : Int32) H locs ls _ (bl_narrow (Or.inl rfl)) hW hS ⟨(Or.inl rfl), hv⟩ dX7_hasText_20
  · replace hv := hv.2 c_2
    refine lv_iconst (v := 1) hx hb dX7_hasText_15 kic_1 ?_
    refine lv_goto (tgt := 20) hx hb dX7_hasText_16 (by decide) ?_
    exact ret () (1 : Int32) H locs ls _ (bl_narrow (Or.inr rfl)) hW hS ⟨(Or.inr rfl), hv⟩ dX7_hasText_20
set_option maxHeartbeats 4000000 in
set_option maxRecDepth 100000 in
theorem c_X7_text (l : Launch) (G : Gt) (b : Nat → Nat) (m_images : Int32) (m_at_ : Int32) (m_open_ : Int32) (m_steps : Int32) (m_use_ : Int32) (m_traced : Int32) (m_speaks : Int32) (m_isParted : Int32) (m_s : Nat → Int32) (m_errors : Nat → Int32) (m_step : Nat → Int32) (p1 : Int32) (K : Int32 → Int32 → Int32 → Int32 → Int32 → (Nat → Int32) → (Nat → Int32) → (Nat → Int32) → Prop) (hv : v_X7_text p1 m_at_ m_open_ m_steps m_use_ m_s m_errors m_step K) : CI l G yX7_text (.code yX7_text cX7_text 5 (some .int) :: wsG) (rmm 54 1134) [.ref (b 0), .int p1] (wd_X7_8 G b m_images m_at_ m_open_ m_steps m_use_ m_traced m_speaks m_isParted m_s m_errors m_step) (S := Int32 × Int32 × Int32 × Int32 × (Nat → Int32) × (Nat → Int32) × (Nat → Int32)) (fun u => wd_X7_8 G b m_images u.1 u.2.1 u.2.2.1 u.2.2.2.1 m_traced m_speaks m_isParted u.2.2.2.2.1 u.2.2.2.2.2.1 u.2.2.2.2.2.2) (fun r u => K r u.1 u.2.1 u.2.2.1 u.2.2.2.1 u.2.2.2.2.1 u.2.2.2.2.2.1 u.2.2.2.2.2.2) := by
  refine ci_intro (by decide) rfl (fun _ => rfl) (Nat.le_of_ble_eq_true rfl) ?_
  intro p e s m args below meth c A H ls Q C hW hS hl ret
  have hx := C.1.1
  have hb := C.1.2.1
  generalize hls : ([] : List Loc) = locs at hS ⊢
  have hl : lv_has ls 5 [(0, .ref (b 0)), (1, .int p1)] := hl
  have h_l_X7_text_101 : ∀ (n : Nat), ∀ (x3 : Int32) (x4 : Int32) (m_at_ : Int32) (m_open_ : Int32) (m_steps : Int32) (m_use_ : Int32) (m_s : Nat → Int32) (m_errors : Nat → Int32) (m_step : Nat → Int32) (H : Heap) (locs : List Loc) (ls : Array Slot), wo G A (wd_X7_8 G b m_images m_at_ m_open_ m_steps m_use_ m_traced m_speaks m_isParted m_s m_errors m_step) H → va_S A s.heap H locs → lv_has ls 5 [(0, .ref (b 0)), (3, .int x3), (4, .int x4)] → l_X7_text_101 p1 K n x3 x4 m_at_ m_open_ m_steps m_use_ m_s m_errors m_step → W p l e (rmm 54 1134) s m args below meth c H locs 0 0 Q (F0 m 101 ls []) := by
    intro n
    induction n with
    | zero =>
      intro x3 x4 m_at_ m_open_ m_steps m_use_ m_s m_errors m_step H locs ls hW hS hl hv
      exact False.elim hv
    | succ n ih =>
      intro x3 x4 m_at_ m_open_ m_steps m_use_ m_s m_errors m_step H locs ls hW hS hl hv
      refine lv_iload hx hb dX7_text_101 (lv_at hl 2 rfl) ?_
      refine lv_iconst (v := 2) hx hb dX7_text_103 kic_2 ?_
      refine lv_aload_n hx hb dX7_text_104 rfl (lv_at hl 0 rfl) ?_
      refine q_get C kc7 hW 0 rfl 7 (by decide) fl_X7_74 rfl rfl dX7_text_105 ?_
      refine lv_imul hx hb dX7_text_108 ?_
      refine lv_icmp_ge (tgt := 136) hx hb dX7_text_109 (by decide) (fun c_10 => ?_) (fun c_10 => ?_)
      · replace hv := hv.1 c_10
        refine lv_iconst (v := 1) hx hb dX7_text_136 kic_1 ?_
        exact ret (m_at_, m_open_, m_steps, m_use_, m_s, m_errors, m_step) (1 : Int32) H locs ls _ rfl hW hS hv dX7_text_137
      · replace hv := hv.2 c_10
        refine lv_aload_n hx hb dX7_text_112 rfl (lv_at hl 0 rfl) ?_
        refine q_get C kc7 hW 0 rfl 0 (by decide) fl_X7_7 rfl rfl dX7_text_113 ?_
        refine lv_iload_n hx hb dX7_text_116 rfl (lv_at hl 1 rfl) ?_
        refine lv_iconst (v := 1) hx hb dX7_text_117 kic_1 ?_
        refine lv_iadd hx hb dX7_text_118 ?_
        refine lv_iload hx hb dX7_text_119 (lv_at hl 2 rfl) ?_
        refine lv_iadd hx hb dX7_text_121 ?_
        refine lv_aload_n hx hb dX7_text_122 rfl (lv_at hl 0 rfl) ?_
        refine q_get C kc7 hW 0 rfl 9 (by decide) fl_X7_22 rfl rfl dX7_text_123 ?_
        refine lv_iload hx hb dX7_text_126 (lv_at hl 2 rfl) ?_
        obtain ⟨h_11, hv⟩ := hv
        refine q_iald C hW 3 rfl h_11 dX7_text_128 ?_
        obtain ⟨h_12, hv⟩ := hv
        refine q_iast C hW hS 1 rfl h_12 dX7_text_129 (fun H locs hW hS => ?_)
        have hW : wo G A (wd_X7_8 G b m_images m_at_ m_open_ m_steps m_use_ m_traced m_speaks m_isParted (upd m_s ((x3 + (1 : Int32)) + x4).toNatClampNeg (m_step x4.toNatClampNeg)) m_errors m_step) H := hW
        refine lv_iinc (v := (x4 + 1)) (lv' := [(4, .int (x4 + 1)), (0, .ref (b 0)), (3, .int x3)]) hx hb dX7_text_130 hl (k := 2) rfl rfl (by decide) rfl (fun ls hl => ?_)
        refine lv_goto (tgt := 101) hx hb dX7_text_133 (by decide) ?_
        exact ih x3 (x4 + 1) m_at_ m_open_ m_steps m_use_ (upd m_s ((x3 + (1 : Int32)) + x4).toNatClampNeg (m_step x4.toNatClampNeg)) m_errors m_step H locs ls hW hS (lv_sub hl [1, 2, 0] rfl) hv
  have h_j_X7_text_60 : ∀ (t0 : Int32) (m_at_ : Int32) (m_open_ : Int32) (m_steps : Int32) (m_use_ : Int32) (m_s : Nat → Int32) (m_errors : Nat → Int32) (m_step : Nat → Int32) (H : Heap) (locs : List Loc) (ls : Array Slot), t0 = 0 ∨ t0 = 1 → wo G A (wd_X7_8 G b m_images m_at_ m_open_ m_steps m_use_ m_traced m_speaks m_isParted m_s m_errors m_step) H → va_S A s.heap H locs → lv_has ls 5 [(0, .ref (b 0)), (1, .int p1)] → j_X7_text_60 p1 K t0 m_at_ m_open_ m_steps m_use_ m_s m_errors m_step → W p l e (rmm 54 1134) s m args below meth c H locs 0 0 Q (F0 m 60 ls [.int t0]) := by
    intro t0 m_at_ m_open_ m_steps m_use_ m_s m_errors m_step H locs ls hz_t0 hW hS hl hv
    refine lv_istore_n (lv' := [(2, .int t0), (0, .ref (b 0)), (1, .int p1)]) hx hb dX7_text_60 rfl hl (by decide) rfl (fun ls hl => ?_)
    refine lv_aload_n hx hb dX7_text_61 rfl (lv_at hl 1 rfl) ?_
    refine q_get C kc7 hW 0 rfl 0 (by decide) fl_X7_7 rfl rfl dX7_text_62 ?_
    refine lv_iconst (v := 2) hx hb dX7_text_65 kic_2 ?_
    refine lv_iconst (v := 0) hx hb dX7_text_66 kic_0 ?_
    obtain ⟨h_7, hv⟩ := hv
    refine q_iast C hW hS 1 rfl h_7 dX7_text_67 (fun H locs hW hS => ?_)
    have hW : wo G A (wd_X7_8 G b m_images m_at_ m_open_ m_steps m_use_ m_traced m_speaks m_isParted (upd m_s (2 : Int32).toNatClampNeg (0 : Int32)) m_errors m_step) H := hW
    refine lv_iload_n hx hb dX7_text_68 rfl (lv_at hl 0 rfl) ?_
    refine lv_if_ne (tgt := 80) hx hb dX7_text_69 (by decide) (fun c_8 => ?_) (fun c_8 => ?_)
    · replace hv := hv.1 c_8
      refine lv_bipush (v := 48) hx hb dX7_text_80 kbp_48 ?_
      refine lv_bipush (v := 125) hx hb dX7_text_82 kbp_125 ?_
      refine lv_iload_n hx hb dX7_text_84 rfl (lv_at hl 2 rfl) ?_
      refine lv_imul hx hb dX7_text_85 ?_
      refine lv_iadd hx hb dX7_text_86 ?_
      refine lv_istore_n (lv' := [(3, .int ((48 : Int32) + ((125 : Int32) * p1))), (2, .int t0), (0, .ref (b 0)), (1, .int p1)]) hx hb dX7_text_87 rfl hl (by decide) rfl (fun ls hl => ?_)
      refine lv_aload_n hx hb dX7_text_88 rfl (lv_at hl 2 rfl) ?_
      refine q_get C kc7 hW 0 rfl 0 (by decide) fl_X7_7 rfl rfl dX7_text_89 ?_
      refine lv_iload_n hx hb dX7_text_92 rfl (lv_at hl 0 rfl) ?_
      refine lv_aload_n hx hb dX7_text_93 rfl (lv_at hl 2 rfl) ?_
      refine q_get C kc7 hW 0 rfl 7 (by decide) fl_X7_74 rfl rfl dX7_text_94 ?_
      obtain ⟨h_9, hv⟩ := hv
      refine q_iast C hW hS 1 rfl h_9 dX7_text_97 (fun H locs hW hS => ?_)
      have hW : wo G A (wd_X7_8 G b m_images m_at_ m_open_ m_steps m_use_ m_traced m_speaks m_isParted (upd (upd m_s (2 : Int32).toNatClampNeg (0 : Int32)) ((48 : Int32) + ((125 : Int32) * p1)).toNatClampNeg m_steps) m_errors m_step) H := hW
      refine lv_iconst (v := 0) hx hb dX7_text_98 kic_0 ?_
      refine lv_istore (lv' := [(4, .int (0 : Int32)), (3, .int ((48 : Int32) + ((125 : Int32) * p1))), (2, .int t0), (0, .ref (b 0)), (1, .int p1)]) hx hb dX7_text_99 hl (by decide) rfl (fun ls hl => ?_)
      obtain ⟨n_13, hv⟩ := hv
      exact h_l_X7_text_101 n_13 ((48 : Int32) + ((125 : Int32) * p1)) (0 : Int32) m_at_ m_open_ m_steps m_use_ (upd (upd m_s (2 : Int32).toNatClampNeg (0 : Int32)) ((48 : Int32) + ((125 : Int32) * p1)).toNatClampNeg m_steps) m_errors m_step H locs ls hW hS (lv_sub hl [3, 1, 0] rfl) hv
    · replace hv := hv.2 c_8
      refine lv_bipush (v := (-10)) hx hb dX7_text_72 kbp_m10 ?_
      refine lv_aload_n hx hb dX7_text_74 rfl (lv_at hl 1 rfl) ?_
      refine q_get C kc7 hW 0 rfl 5 (by decide) fl_X7_67 rfl rfl dX7_text_75 ?_
      refine lv_isub hx hb dX7_text_78 ?_
      exact ret (m_at_, m_open_, m_steps, m_use_, (upd m_s (2 : Int32).toNatClampNeg (0 : Int32)), m_errors, m_step) ((-10 : Int32) - m_at_) H locs ls _ rfl hW hS hv dX7_text_79
  have h_j_X7_text_59 : ∀ (m_at_ : Int32) (m_open_ : Int32) (m_steps : Int32) (m_use_ : Int32) (m_s : Nat → Int32) (m_errors : Nat → Int32) (m_step : Nat → Int32) (H : Heap) (locs : List Loc) (ls : Array Slot), wo G A (wd_X7_8 G b m_images m_at_ m_open_ m_steps m_use_ m_traced m_speaks m_isParted m_s m_errors m_step) H → va_S A s.heap H locs → lv_has ls 5 [(0, .ref (b 0)), (1, .int p1)] → j_X7_text_59 p1 K m_at_ m_open_ m_steps m_use_ m_s m_errors m_step → W p l e (rmm 54 1134) s m args below meth c H locs 0 0 Q (F0 m 59 ls []) := by
    intro m_at_ m_open_ m_steps m_use_ m_s m_errors m_step H locs ls hW hS hl hv
    refine lv_iconst (v := 0) hx hb dX7_text_59 kic_0 ?_
    exact h_j_X7_text_60 (0 : Int32) m_at_ m_open_ m_steps m_use_ m_s m_errors m_step H locs ls (Or.inl rfl) hW hS (lv_sub hl [0, 1] rfl) hv
  refine lv_iload_n hx hb dX7_text_0 rfl (lv_at hl 1 rfl) ?_
  refine lv_iconst (v := 0) hx hb dX7_text_1 kic_0 ?_
  refine lv_iconst (v := 1) hx hb dX7_text_2 kic_1 ?_
  refine q_callS (rest := []) (n := 3) C (c_X7_in l G p1 (0 : Int32) (1 : Int32) _ hv) ml_X7_53 kb_X7_in rfl ⟨⟨rfl, rfl⟩, (Nat.le_of_ble_eq_true rfl), (Nat.le_of_ble_eq_true rfl)⟩ hW hS hl.1 rfl (Nat.le_of_ble_eq_true rfl) dX7_text_3 ⟨Nat.zero_le _, Nat.zero_le _⟩ (fun r_1 u_2 H locs hv hW hS => ?_)
  obtain ⟨hv_b_1, hv⟩ := hv
  try dsimp only at hv
  refine lv_if_ne (tgt := 15) hx hb dX7_text_6 (by decide) (fun c_3 => ?_) (fun c_3 => ?_)
  · replace hv := hv.1 c_3
    refine lv_aload_n hx hb dX7_text_15 rfl (lv_at hl 0 rfl) ?_
    refine lv_iload_n hx hb dX7_text_16 rfl (lv_at hl 1 rfl) ?_
    refine q_put C kc7 hW hS 0 rfl 8 (by decide) fl_X7_71 rfl rfl rfl rfl (Nat.le_of_ble_eq_true rfl) dX7_text_17 (fun H locs hW hS => ?_)
    have hW : wo G A (wd_X7_8 G b m_images m_at_ m_open_ m_steps p1 m_traced m_speaks m_isParted m_s m_errors m_step) H := hW
    refine lv_aload_n hx hb dX7_text_20 rfl (lv_at hl 0 rfl) ?_
    refine lv_iconst (v := 0) hx hb dX7_text_21 kic_0 ?_
    refine q_put C kc7 hW hS 0 rfl 5 (by decide) fl_X7_67 rfl rfl rfl rfl (Nat.le_of_ble_eq_true rfl) dX7_text_22 (fun H locs hW hS => ?_)
    have hW : wo G A (wd_X7_8 G b m_images (0 : Int32) m_open_ m_steps p1 m_traced m_speaks m_isParted m_s m_errors m_step) H := hW
    refine lv_aload_n hx hb dX7_text_25 rfl (lv_at hl 0 rfl) ?_
    refine lv_iconst (v := 0) hx hb dX7_text_26 kic_0 ?_
    refine q_put C kc7 hW hS 0 rfl 6 (by decide) fl_X7_101 rfl rfl rfl rfl (Nat.le_of_ble_eq_true rfl) dX7_text_27 (fun H locs hW hS => ?_)
    have hW : wo G A (wd_X7_8 G b m_images (0 : Int32) (0 : Int32) m_steps p1 m_traced m_speaks m_isParted m_s m_errors m_step) H := hW
    refine lv_aload_n hx hb dX7_text_30 rfl (lv_at hl 0 rfl) ?_
    refine lv_iconst (v := 0) hx hb dX7_text_31 kic_0 ?_
    refine q_put C kc7 hW hS 0 rfl 7 (by decide) fl_X7_74 rfl rfl rfl rfl (Nat.le_of_ble_eq_true rfl) dX7_text_32 (fun H locs hW hS => ?_)
    have hW : wo G A (wd_X7_8 G b m_images (0 : Int32) (0 : Int32) (0 : Int32) p1 m_traced m_speaks m_isParted m_s m_errors m_step) H := hW
    refine lv_aload_n hx hb dX7_text_35 rfl (lv_at hl 0 rfl) ?_
    refine q_callV (rest := []) (n := 0) C (c_X7_whole l 48 1008 (v_X7_one 8) (c_X7_one l 8) G b m_images (0 : Int32) (0 : Int32) (0 : Int32) p1 m_traced m_speaks m_isParted m_s m_step _ hv) ml_X7_110 kb_X7_whole rfl ⟨⟨rfl, rfl⟩, (Nat.le_of_ble_eq_true rfl), (Nat.le_of_ble_eq_true rfl)⟩ hW hS [0, 1, 3] rfl rfl kc7 (q0 := 0) rfl hl.1 rfl (Nat.le_of_ble_eq_true rfl) dX7_text_36 ⟨Nat.zero_le _, Nat.zero_le _⟩ (fun r_4 u_5 H locs hv hW hS => ?_)
    obtain ⟨m_at__4, m_open__4, m_steps_4, m_step_4⟩ := u_5
    obtain ⟨hv_b_4, hv⟩ := hv
    try dsimp only at hv
    have hW : wo G A (wd_X7_8 G b m_images m_at__4 m_open__4 m_steps_4 p1 m_traced m_speaks m_isParted m_s m_errors m_step_4) H := hW
    refine lv_if_eq (tgt := 59) hx hb dX7_text_39 (by decide) (fun c_6 => ?_) (fun c_6 => ?_)
    · replace hv := hv.1 c_6
      exact h_j_X7_text_59 m_at__4 m_open__4 m_steps_4 p1 m_s m_errors m_step_4 H locs ls hW hS (lv_sub hl [0, 1] rfl) hv
    · replace hv := hv.2 c_6
      refine lv_aload_n hx hb dX7_text_42 rfl (lv_at hl 0 rfl) ?_
      refine q_get C kc7 hW 0 rfl 5 (by decide) fl_X7_67 rfl rfl dX7_text_43 ?_
      refine lv_aload_n hx hb dX7_text_46 rfl (lv_at hl 0 rfl) ?_
      refine q_get C kc7 hW 0 rfl 0 (by decide) fl_X7_7 rfl rfl dX7_text_47 ?_
      refine lv_iconst (v := 2) hx hb dX7_text_50 kic_2 ?_
      obtain ⟨h_14, hv⟩ := hv
      refine q_iald C hW 1 rfl h_14 dX7_text_51 ?_
      refine lv_icmp_ne (tgt := 59) hx hb dX7_text_52 (by decide) (fun c_15 => ?_) (fun c_15 => ?_)
      · replace hv := hv.1 c_15
        exact h_j_X7_text_59 m_at__4 m_open__4 m_steps_4 p1 m_s m_errors m_step_4 H locs ls hW hS (lv_sub hl [0, 1] rfl) hv
      · replace hv := hv.2 c_15
        refine lv_iconst (v := 1) hx hb dX7_text_55 kic_1 ?_
        refine lv_goto (tgt := 60) hx hb dX7_text_56 (by decide) ?_
        exact h_j_X7_text_60 (1 : Int32) m_at__4 m_open__4 m_steps_4 p1 m_s m_errors m_step_4 H locs ls (Or.inr rfl) hW hS (lv_sub hl [0, 1] rfl) hv
  · replace hv := hv.2 c_3
    refine lv_aload_n hx hb dX7_text_9 rfl (lv_at hl 0 rfl) ?_
    refine lv_iconst (v := 1) hx hb dX7_text_10 kic_1 ?_
    refine q_callV (rest := []) (n := 1) C (c_X7_error l G b m_images m_at_ m_open_ m_steps m_use_ m_traced m_speaks m_isParted m_errors (1 : Int32) _ hv) ml_X7_61 kb_X7_error rfl ⟨⟨rfl, rfl⟩, (Nat.le_of_ble_eq_true rfl), (Nat.le_of_ble_eq_true rfl)⟩ hW hS [0, 2] rfl rfl kc7 (q0 := 0) rfl hl.1 rfl (Nat.le_of_ble_eq_true rfl) dX7_text_11 ⟨Nat.zero_le _, Nat.zero_le _⟩ (fun r_16 u_17 H locs hv hW hS => ?_)
    obtain ⟨m_errors_16, rfl⟩ : ∃ z, z = u_17 := ⟨_, rfl⟩
    try dsimp only at hv
    have hW : wo G A (wd_X7_8 G b m_images m_at_ m_open_ m_steps m_use_ m_traced m_speaks m_isParted m_s m_errors_16 m_step) H := hW
    exact ret (m_at_, m_open_, m_steps, m_use_, m_s, m_errors_16, m_step) r_16 H locs ls _ rfl hW hS hv dX7_text_14
set_option maxHeartbeats 4000000 in
set_option maxRecDepth 100000 in
theorem c_X7_untell (l : Launch) (G : Gt) (b : Nat → Nat) (m_images : Int32) (m_at_ : Int32) (m_open_ : Int32) (m_steps : Int32) (m_use_ : Int32) (m_traced : Int32) (m_speaks : Int32) (m_isParted : Int32) (m_s : Nat → Int32) (m_errors : Nat → Int32) (p1 : Int32) (K : Int32 → (Nat → Int32) → (Nat → Int32) → Prop) (hv : v_X7_untell p1 m_s m_errors K) : CI l G yX7_untell (.code yX7_untell cX7_untell 3 (some .int) :: wsG) (rmm 1 22) [.ref (b 0), .int p1] (wd_X7_4 G b m_images m_at_ m_open_ m_steps m_use_ m_traced m_speaks m_isParted m_s m_errors) (S := (Nat → Int32) × (Nat → Int32)) (fun u => wd_X7_4 G b m_images m_at_ m_open_ m_steps m_use_ m_traced m_speaks m_isParted u.1 u.2) (fun r u => K r u.1 u.2) := by
  refine ci_intro (by decide) rfl (fun _ => rfl) (Nat.le_of_ble_eq_true rfl) ?_
  intro p e s m args below meth c A H ls Q C hW hS hl ret
  have hx := C.1.1
  have hb := C.1.2.1
  generalize hls : ([] : List Loc) = locs at hS ⊢
  have hl : lv_has ls 3 [(0, .ref (b 0)), (1, .int p1)] := hl
  have h_j_X7_untell_28 : ∀ (t0 : Int32) (m_s : Nat → Int32) (m_errors : Nat → Int32) (H : Heap) (locs : List Loc) (ls : Array Slot), t0 = 0 ∨ t0 = 1 → wo G A (wd_X7_4 G b m_images m_at_ m_open_ m_steps m_use_ m_traced m_speaks m_isParted m_s m_errors) H → va_S A s.heap H locs → lv_has ls 3 [(0, .ref (b 0)), (1, .int p1)] → j_X7_untell_28 p1 K t0 m_s m_errors → W p l e (rmm 1 22) s m args below meth c H locs 0 0 Q (F0 m 28 ls [.int t0]) := by
    intro t0 m_s m_errors H locs ls hz_t0 hW hS hl hv
    refine lv_istore_n (lv' := [(2, .int t0), (0, .ref (b 0)), (1, .int p1)]) hx hb dX7_untell_28 rfl hl (by decide) rfl (fun ls hl => ?_)
    refine lv_aload_n hx hb dX7_untell_29 rfl (lv_at hl 1 rfl) ?_
    refine q_get C kc7 hW 0 rfl 0 (by decide) fl_X7_7 rfl rfl dX7_untell_30 ?_
    refine lv_bipush (v := 48) hx hb dX7_untell_33 kbp_48 ?_
    refine lv_bipush (v := 125) hx hb dX7_untell_35 kbp_125 ?_
    refine lv_iload_n hx hb dX7_untell_37 rfl (lv_at hl 2 rfl) ?_
    refine lv_imul hx hb dX7_untell_38 ?_
    refine lv_iadd hx hb dX7_untell_39 ?_
    refine lv_iconst (v := 0) hx hb dX7_untell_40 kic_0 ?_
    obtain ⟨h_7, hv⟩ := hv
    refine q_iast C hW hS 1 rfl h_7 dX7_untell_41 (fun H locs hW hS => ?_)
    have hW : wo G A (wd_X7_4 G b m_images m_at_ m_open_ m_steps m_use_ m_traced m_speaks m_isParted (upd m_s ((48 : Int32) + ((125 : Int32) * p1)).toNatClampNeg (0 : Int32)) m_errors) H := hW
    refine lv_iload_n hx hb dX7_untell_42 rfl (lv_at hl 0 rfl) ?_
    exact ret ((upd m_s ((48 : Int32) + ((125 : Int32) * p1)).toNatClampNeg (0 : Int32)), m_errors) t0 H locs ls _ rfl hW hS hv dX7_untell_43
  refine lv_iload_n hx hb dX7_untell_0 rfl (lv_at hl 1 rfl) ?_
  refine lv_iconst (v := 0) hx hb dX7_untell_1 kic_0 ?_
  refine lv_iconst (v := 1) hx hb dX7_untell_2 kic_1 ?_
  refine q_callS (rest := []) (n := 3) C (c_X7_in l G p1 (0 : Int32) (1 : Int32) _ hv) ml_X7_53 kb_X7_in rfl ⟨⟨rfl, rfl⟩, (Nat.le_of_ble_eq_true rfl), (Nat.le_of_ble_eq_true rfl)⟩ hW hS hl.1 rfl (Nat.le_of_ble_eq_true rfl) dX7_untell_3 ⟨Nat.zero_le _, Nat.zero_le _⟩ (fun r_1 u_2 H locs hv hW hS => ?_)
  obtain ⟨hv_b_1, hv⟩ := hv
  try dsimp only at hv
  refine lv_if_ne (tgt := 15) hx hb dX7_untell_6 (by decide) (fun c_3 => ?_) (fun c_3 => ?_)
  · replace hv := hv.1 c_3
    refine lv_aload_n hx hb dX7_untell_15 rfl (lv_at hl 0 rfl) ?_
    refine lv_iload_n hx hb dX7_untell_16 rfl (lv_at hl 1 rfl) ?_
    refine q_callV (rest := []) (n := 1) C (c_X7_hasText l G b m_images m_at_ m_open_ m_steps m_use_ m_traced m_speaks m_isParted m_s p1 _ hv) ml_X7_113 kb_X7_hasText rfl ⟨⟨rfl, rfl⟩, (Nat.le_of_ble_eq_true rfl), (Nat.le_of_ble_eq_true rfl)⟩ hW hS [0, 1] rfl rfl kc7 (q0 := 0) rfl hl.1 rfl (Nat.le_of_ble_eq_true rfl) dX7_untell_17 ⟨Nat.zero_le _, Nat.zero_le _⟩ (fun r_4 u_5 H locs hv hW hS => ?_)
    obtain ⟨hv_b_4, hv⟩ := hv
    try dsimp only at hv
    refine lv_if_eq (tgt := 27) hx hb dX7_untell_20 (by decide) (fun c_6 => ?_) (fun c_6 => ?_)
    · replace hv := hv.1 c_6
      refine lv_iconst (v := 0) hx hb dX7_untell_27 kic_0 ?_
      exact h_j_X7_untell_28 (0 : Int32) m_s m_errors H locs ls (Or.inl rfl) hW hS (lv_sub hl [0, 1] rfl) hv
    · replace hv := hv.2 c_6
      refine lv_iconst (v := 1) hx hb dX7_untell_23 kic_1 ?_
      refine lv_goto (tgt := 28) hx hb dX7_untell_24 (by decide) ?_
      exact h_j_X7_untell_28 (1 : Int32) m_s m_errors H locs ls (Or.inr rfl) hW hS (lv_sub hl [0, 1] rfl) hv
  · replace hv := hv.2 c_3
    refine lv_aload_n hx hb dX7_untell_9 rfl (lv_at hl 0 rfl) ?_
    refine lv_iconst (v := 1) hx hb dX7_untell_10 kic_1 ?_
    refine q_callV (rest := []) (n := 1) C (c_X7_error l G b m_images m_at_ m_open_ m_steps m_use_ m_traced m_speaks m_isParted m_errors (1 : Int32) _ hv) ml_X7_61 kb_X7_error rfl ⟨⟨rfl, rfl⟩, (Nat.le_of_ble_eq_true rfl), (Nat.le_of_ble_eq_true rfl)⟩ hW hS [0, 2] rfl rfl kc7 (q0 := 0) rfl hl.1 rfl (Nat.le_of_ble_eq_true rfl) dX7_untell_11 ⟨Nat.zero_le _, Nat.zero_le _⟩ (fun r_8 u_9 H locs hv hW hS => ?_)
    obtain ⟨m_errors_8, rfl⟩ : ∃ z, z = u_9 := ⟨_, rfl⟩
    try dsimp only at hv
    have hW : wo G A (wd_X7_4 G b m_images m_at_ m_open_ m_steps m_use_ m_traced m_speaks m_isParted m_s m_errors_8) H := hW
    exact ret (m_s, m_errors_8) r_8 H locs ls _ rfl hW hS hv dX7_untell_14
set_option maxHeartbeats 4000000 in
set_option maxRecDepth 100000 in
theorem c_X7_joined (l : Launch) (G : Gt) (p1 : Int32) (p2 : Int32) (p3 : Int32) (K : Int32 → Prop) (hv : v_X7_joined p1 p2 p3 K) : CI l G yX7_joined (.code yX7_joined cX7_joined 3 (some .int) :: wsG) (rmm 0 0) [.int p1, .int p2, .int p3] [] (S := Unit) (fun _ => []) (fun r u => K r) := by
  refine ci_intro (by decide) rfl (fun _ => rfl) (Nat.le_of_ble_eq_true rfl) ?_
  intro p e s m args below meth c A H ls Q C hW hS hl ret
  have hx := C.1.1
  have hb := C.1.2.1
  generalize hls : ([] : List Loc) = locs at hS ⊢
  have hl : lv_has ls 3 [(0, .int p1), (1, .int p2), (2, .int p3)] := hl
  refine lv_iload_n hx hb dX7_joined_0 rfl (lv_at hl 0 rfl) ?_
  by_cases c_1_0 : p1 = 37
  · replace hv := hv.1 c_1_0
    refine lv_tableIn (tgt := 154) hx hb dX7_joined_1 (by rw [c_1_0]; decide) (by rw [c_1_0]; decide) (by rw [c_1_0]; rfl) (by decide) ?_
    refine lv_iload_n hx hb dX7_joined_154 rfl (lv_at hl 2 rfl) ?_
    refine lv_if_eq (tgt := 163) hx hb dX7_joined_155 (by decide) (fun c_2 => ?_) (fun c_2 => ?_)
    · replace hv := hv.1 c_2
      refine lv_iconst (v := 0) hx hb dX7_joined_163 kic_0 ?_
      refine lv_goto (tgt := 170) hx hb dX7_joined_164 (by decide) ?_
      exact ret () (0 : Int32) H locs ls _ rfl hW hS hv dX7_joined_170
    · replace hv := hv.2 c_2
      refine lv_iload_n hx hb dX7_joined_158 rfl (lv_at hl 2 rfl) ?_
      refine lv_iconst (v := (-1)) hx hb dX7_joined_159 kic_m1 ?_
      refine lv_icmp_ne (tgt := 167) hx hb dX7_joined_160 (by decide) (fun c_3 => ?_) (fun c_3 => ?_)
      · replace hv := hv.1 c_3
        refine lv_iload_n hx hb dX7_joined_167 rfl (lv_at hl 1 rfl) ?_
        refine lv_iload_n hx hb dX7_joined_168 rfl (lv_at hl 2 rfl) ?_
        obtain ⟨h_4, hv⟩ := hv
        refine lv_irem hx hb dX7_joined_169 h_4 ?_
        exact ret () (p2 - p2 / p3 * p3) H locs ls _ rfl hW hS hv dX7_joined_170
      · replace hv := hv.2 c_3
        refine lv_iconst (v := 0) hx hb dX7_joined_163 kic_0 ?_
        refine lv_goto (tgt := 170) hx hb dX7_joined_164 (by decide) ?_
        exact ret () (0 : Int32) H locs ls _ rfl hW hS hv dX7_joined_170
  · replace hv := hv.2 c_1_0
    by_cases c_1_1 : p1 = 38
    · replace hv := hv.1 c_1_1
      refine lv_tableIn (tgt := 204) hx hb dX7_joined_1 (by rw [c_1_1]; decide) (by rw [c_1_1]; decide) (by rw [c_1_1]; rfl) (by decide) ?_
      refine lv_iload_n hx hb dX7_joined_204 rfl (lv_at hl 1 rfl) ?_
      refine lv_if_eq (tgt := 216) hx hb dX7_joined_205 (by decide) (fun c_5 => ?_) (fun c_5 => ?_)
      · replace hv := hv.1 c_5
        refine lv_iconst (v := 0) hx hb dX7_joined_216 kic_0 ?_
        exact ret () (0 : Int32) H locs ls _ rfl hW hS hv dX7_joined_217
      · replace hv := hv.2 c_5
        refine lv_iload_n hx hb dX7_joined_208 rfl (lv_at hl 2 rfl) ?_
        refine lv_if_eq (tgt := 216) hx hb dX7_joined_209 (by decide) (fun c_6 => ?_) (fun c_6 => ?_)
        · replace hv := hv.1 c_6
          refine lv_iconst (v := 0) hx hb dX7_joined_216 kic_0 ?_
          exact ret () (0 : Int32) H locs ls _ rfl hW hS hv dX7_joined_217
        · replace hv := hv.2 c_6
          refine lv_iconst (v := 1) hx hb dX7_joined_212 kic_1 ?_
          refine lv_goto (tgt := 217) hx hb dX7_joined_213 (by decide) ?_
          exact ret () (1 : Int32) H locs ls _ rfl hW hS hv dX7_joined_217
    · replace hv := hv.2 c_1_1
      by_cases c_1_2 : p1 = 42
      · replace hv := hv.1 c_1_2
        refine lv_tableIn (tgt := 128) hx hb dX7_joined_1 (by rw [c_1_2]; decide) (by rw [c_1_2]; decide) (by rw [c_1_2]; rfl) (by decide) ?_
        refine lv_iload_n hx hb dX7_joined_128 rfl (lv_at hl 1 rfl) ?_
        refine lv_iload_n hx hb dX7_joined_129 rfl (lv_at hl 2 rfl) ?_
        refine lv_imul hx hb dX7_joined_130 ?_
        exact ret () (p2 * p3) H locs ls _ rfl hW hS hv dX7_joined_131
      · replace hv := hv.2 c_1_2
        by_cases c_1_3 : p1 = 43
        · replace hv := hv.1 c_1_3
          refine lv_tableIn (tgt := 120) hx hb dX7_joined_1 (by rw [c_1_3]; decide) (by rw [c_1_3]; decide) (by rw [c_1_3]; rfl) (by decide) ?_
          refine lv_iload_n hx hb dX7_joined_120 rfl (lv_at hl 1 rfl) ?_
          refine lv_iload_n hx hb dX7_joined_121 rfl (lv_at hl 2 rfl) ?_
          refine lv_iadd hx hb dX7_joined_122 ?_
          exact ret () (p2 + p3) H locs ls _ rfl hW hS hv dX7_joined_123
        · replace hv := hv.2 c_1_3
          by_cases c_1_4 : p1 = 45
          · replace hv := hv.1 c_1_4
            refine lv_tableIn (tgt := 124) hx hb dX7_joined_1 (by rw [c_1_4]; decide) (by rw [c_1_4]; decide) (by rw [c_1_4]; rfl) (by decide) ?_
            refine lv_iload_n hx hb dX7_joined_124 rfl (lv_at hl 1 rfl) ?_
            refine lv_iload_n hx hb dX7_joined_125 rfl (lv_at hl 2 rfl) ?_
            refine lv_isub hx hb dX7_joined_126 ?_
            exact ret () (p2 - p3) H locs ls _ rfl hW hS hv dX7_joined_127
          · replace hv := hv.2 c_1_4
            by_cases c_1_5 : p1 = 47
            · replace hv := hv.1 c_1_5
              refine lv_tableIn (tgt := 132) hx hb dX7_joined_1 (by rw [c_1_5]; decide) (by rw [c_1_5]; decide) (by rw [c_1_5]; rfl) (by decide) ?_
              refine lv_iload_n hx hb dX7_joined_132 rfl (lv_at hl 2 rfl) ?_
              refine lv_if_ne (tgt := 140) hx hb dX7_joined_133 (by decide) (fun c_7 => ?_) (fun c_7 => ?_)
              · replace hv := hv.1 c_7
                refine lv_iload_n hx hb dX7_joined_140 rfl (lv_at hl 2 rfl) ?_
                refine lv_iconst (v := (-1)) hx hb dX7_joined_141 kic_m1 ?_
                refine lv_icmp_ne (tgt := 150) hx hb dX7_joined_142 (by decide) (fun c_8 => ?_) (fun c_8 => ?_)
                · replace hv := hv.1 c_8
                  refine lv_iload_n hx hb dX7_joined_150 rfl (lv_at hl 1 rfl) ?_
                  refine lv_iload_n hx hb dX7_joined_151 rfl (lv_at hl 2 rfl) ?_
                  obtain ⟨h_9, hv⟩ := hv
                  refine lv_idiv hx hb dX7_joined_152 h_9 ?_
                  exact ret () (p2 / p3) H locs ls _ rfl hW hS hv dX7_joined_153
                · replace hv := hv.2 c_8
                  refine lv_iload_n hx hb dX7_joined_145 rfl (lv_at hl 1 rfl) ?_
                  refine lv_ineg hx hb dX7_joined_146 ?_
                  refine lv_goto (tgt := 153) hx hb dX7_joined_147 (by decide) ?_
                  exact ret () (-p2) H locs ls _ rfl hW hS hv dX7_joined_153
              · replace hv := hv.2 c_7
                refine lv_iconst (v := 0) hx hb dX7_joined_136 kic_0 ?_
                refine lv_goto (tgt := 153) hx hb dX7_joined_137 (by decide) ?_
                exact ret () (0 : Int32) H locs ls _ rfl hW hS hv dX7_joined_153
            · replace hv := hv.2 c_1_5
              by_cases c_1_6 : p1 = 60
              · replace hv := hv.1 c_1_6
                refine lv_tableIn (tgt := 171) hx hb dX7_joined_1 (by rw [c_1_6]; decide) (by rw [c_1_6]; decide) (by rw [c_1_6]; rfl) (by decide) ?_
                refine lv_iload_n hx hb dX7_joined_171 rfl (lv_at hl 1 rfl) ?_
                refine lv_iload_n hx hb dX7_joined_172 rfl (lv_at hl 2 rfl) ?_
                refine lv_icmp_ge (tgt := 180) hx hb dX7_joined_173 (by decide) (fun c_10 => ?_) (fun c_10 => ?_)
                · replace hv := hv.1 c_10
                  refine lv_iconst (v := 0) hx hb dX7_joined_180 kic_0 ?_
                  exact ret () (0 : Int32) H locs ls _ rfl hW hS hv dX7_joined_181
                · replace hv := hv.2 c_10
                  refine lv_iconst (v := 1) hx hb dX7_joined_176 kic_1 ?_
                  refine lv_goto (tgt := 181) hx hb dX7_joined_177 (by decide) ?_
                  exact ret () (1 : Int32) H locs ls _ rfl hW hS hv dX7_joined_181
              · replace hv := hv.2 c_1_6
                by_cases c_1_7 : p1 = 61
                · replace hv := hv.1 c_1_7
                  refine lv_tableIn (tgt := 193) hx hb dX7_joined_1 (by rw [c_1_7]; decide) (by rw [c_1_7]; decide) (by rw [c_1_7]; rfl) (by decide) ?_
                  refine lv_iload_n hx hb dX7_joined_193 rfl (lv_at hl 1 rfl) ?_
                  refine lv_iload_n hx hb dX7_joined_194 rfl (lv_at hl 2 rfl) ?_
                  refine lv_icmp_ne (tgt := 202) hx hb dX7_joined_195 (by decide) (fun c_11 => ?_) (fun c_11 => ?_)
                  · replace hv := hv.1 c_11
                    refine lv_iconst (v := 0) hx hb dX7_joined_202 kic_0 ?_
                    exact ret () (0 : Int32) H locs ls _ rfl hW hS hv dX7_joined_203
                  · replace hv := hv.2 c_11
                    refine lv_iconst (v := 1) hx hb dX7_joined_198 kic_1 ?_
                    refine lv_goto (tgt := 203) hx hb dX7_joined_199 (by decide) ?_
                    exact ret () (1 : Int32) H locs ls _ rfl hW hS hv dX7_joined_203
                · replace hv := hv.2 c_1_7
                  by_cases c_1_8 : p1 = 62
                  · replace hv := hv.1 c_1_8
                    refine lv_tableIn (tgt := 182) hx hb dX7_joined_1 (by rw [c_1_8]; decide) (by rw [c_1_8]; decide) (by rw [c_1_8]; rfl) (by decide) ?_
                    refine lv_iload_n hx hb dX7_joined_182 rfl (lv_at hl 1 rfl) ?_
                    refine lv_iload_n hx hb dX7_joined_183 rfl (lv_at hl 2 rfl) ?_
                    refine lv_icmp_le (tgt := 191) hx hb dX7_joined_184 (by decide) (fun c_12 => ?_) (fun c_12 => ?_)
                    · replace hv := hv.1 c_12
                      refine lv_iconst (v := 0) hx hb dX7_joined_191 kic_0 ?_
                      exact ret () (0 : Int32) H locs ls _ rfl hW hS hv dX7_joined_192
                    · replace hv := hv.2 c_12
                      refine lv_iconst (v := 1) hx hb dX7_joined_187 kic_1 ?_
                      refine lv_goto (tgt := 192) hx hb dX7_joined_188 (by decide) ?_
                      exact ret () (1 : Int32) H locs ls _ rfl hW hS hv dX7_joined_192
                  · replace hv := hv.2 c_1_8
                    refine sw_row (tgt := 218) hx hb dX7_joined_1 rfl (lt_s (lt_s (lt_s (lt_s (lt_s (lt_s (lt_s (lt_s (lt_s (lt_s (lt_s (lt_s (lt_s (lt_s (lt_s (lt_s (lt_s (lt_s (lt_s (lt_s (lt_s (lt_s (lt_s (lt_s (lt_s (lt_s lt_0 (Or.inr (lv_neT c_1_0 rfl))) (Or.inr (lv_neT c_1_1 rfl))) (Or.inl rfl)) (Or.inl rfl)) (Or.inl rfl)) (Or.inr (lv_neT c_1_2 rfl))) (Or.inr (lv_neT c_1_3 rfl))) (Or.inl rfl)) (Or.inr (lv_neT c_1_4 rfl))) (Or.inl rfl)) (Or.inr (lv_neT c_1_5 rfl))) (Or.inl rfl)) (Or.inl rfl)) (Or.inl rfl)) (Or.inl rfl)) (Or.inl rfl)) (Or.inl rfl)) (Or.inl rfl)) (Or.inl rfl)) (Or.inl rfl)) (Or.inl rfl)) (Or.inl rfl)) (Or.inl rfl)) (Or.inr (lv_neT c_1_6 rfl))) (Or.inr (lv_neT c_1_7 rfl))) (Or.inr (lv_neT c_1_8 rfl))) (by decide) ?_
                    refine lv_iload_n hx hb dX7_joined_218 rfl (lv_at hl 1 rfl) ?_
                    refine lv_if_ne (tgt := 226) hx hb dX7_joined_219 (by decide) (fun c_13 => ?_) (fun c_13 => ?_)
                    · replace hv := hv.1 c_13
                      refine lv_iconst (v := 1) hx hb dX7_joined_226 kic_1 ?_
                      refine lv_goto (tgt := 231) hx hb dX7_joined_227 (by decide) ?_
                      exact ret () (1 : Int32) H locs ls _ rfl hW hS hv dX7_joined_231
                    · replace hv := hv.2 c_13
                      refine lv_iload_n hx hb dX7_joined_222 rfl (lv_at hl 2 rfl) ?_
                      refine lv_if_eq (tgt := 230) hx hb dX7_joined_223 (by decide) (fun c_14 => ?_) (fun c_14 => ?_)
                      · replace hv := hv.1 c_14
                        refine lv_iconst (v := 0) hx hb dX7_joined_230 kic_0 ?_
                        exact ret () (0 : Int32) H locs ls _ rfl hW hS hv dX7_joined_231
                      · replace hv := hv.2 c_14
                        refine lv_iconst (v := 1) hx hb dX7_joined_226 kic_1 ?_
                        refine lv_goto (tgt := 231) hx hb dX7_joined_227 (by decide) ?_
                        exact ret () (1 : Int32) H locs ls _ rfl hW hS hv dX7_joined_231
set_option maxHeartbeats 4000000 in
set_option maxRecDepth 100000 in
theorem c_X7_worked (l : Launch) (G : Gt) (b : Nat → Nat) (m_images : Int32) (m_at_ : Int32) (m_open_ : Int32) (m_steps : Int32) (m_use_ : Int32) (m_traced : Int32) (m_speaks : Int32) (m_isParted : Int32) (m_s : Nat → Int32) (m_named : Nat → Int32) (m_pile : Nat → Int32) (p1 : Int32) (K : Int32 → (Nat → Int32) → Prop) (hv : v_X7_worked p1 m_s m_named m_pile K) : CI l G yX7_worked (.code yX7_worked cX7_worked 7 (some .int) :: wsG) (rmm 1 22) [.ref (b 0), .int p1] (wd_X7_9 G b m_images m_at_ m_open_ m_steps m_use_ m_traced m_speaks m_isParted m_s m_named m_pile) (S := (Nat → Int32)) (fun u => wd_X7_9 G b m_images m_at_ m_open_ m_steps m_use_ m_traced m_speaks m_isParted m_s m_named u) (fun r u => K r u) := by
  refine ci_intro (by decide) rfl (fun _ => rfl) (Nat.le_of_ble_eq_true rfl) ?_
  intro p e s m args below meth c A H ls Q C hW hS hl ret
  have hx := C.1.1
  have hb := C.1.2.1
  generalize hls : ([] : List Loc) = locs at hS ⊢
  have hl : lv_has ls 7 [(0, .ref (b 0)), (1, .int p1)] := hl
  have h_j_X7_worked_157 : ∀ (B13 : Int32 → Int32 → Int32 → (Nat → Int32) → Prop) (hB13 : ∀ (x2 : Int32) (x3 : Int32) (x4 : Int32) (m_pile : Nat → Int32) (H : Heap) (locs : List Loc) (ls : Array Slot), wo G A (wd_X7_9 G b m_images m_at_ m_open_ m_steps m_use_ m_traced m_speaks m_isParted m_s m_named m_pile) H → va_S A s.heap H locs → lv_has ls 7 [(0, .ref (b 0)), (2, .int x2), (3, .int x3), (4, .int x4)] → B13 x2 x3 x4 m_pile → W p l e (rmm 1 22) s m args below meth c H locs 0 0 Q (F0 m 13 ls [])), ∀ (x2 : Int32) (x3 : Int32) (x4 : Int32) (m_pile : Nat → Int32) (H : Heap) (locs : List Loc) (ls : Array Slot), wo G A (wd_X7_9 G b m_images m_at_ m_open_ m_steps m_use_ m_traced m_speaks m_isParted m_s m_named m_pile) H → va_S A s.heap H locs → lv_has ls 7 [(0, .ref (b 0)), (2, .int x2), (3, .int x3), (4, .int x4)] → j_X7_worked_157 p1 m_s m_named B13 K x2 x3 x4 m_pile → W p l e (rmm 1 22) s m args below meth c H locs 0 0 Q (F0 m 157 ls []) := by
    intro B13 hB13 x2 x3 x4 m_pile H locs ls hW hS hl hv
    refine lv_iinc (v := (x4 + 1)) (lv' := [(4, .int (x4 + 1)), (0, .ref (b 0)), (2, .int x2), (3, .int x3)]) hx hb dX7_worked_157 hl (k := 3) rfl rfl (by decide) rfl (fun ls hl => ?_)
    refine lv_goto (tgt := 13) hx hb dX7_worked_160 (by decide) ?_
    exact hB13 x2 x3 (x4 + 1) m_pile H locs ls hW hS (lv_sub hl [1, 2, 3, 0] rfl) hv
  have h_j_X7_worked_87 : ∀ (B13 : Int32 → Int32 → Int32 → (Nat → Int32) → Prop) (hB13 : ∀ (x2 : Int32) (x3 : Int32) (x4 : Int32) (m_pile : Nat → Int32) (H : Heap) (locs : List Loc) (ls : Array Slot), wo G A (wd_X7_9 G b m_images m_at_ m_open_ m_steps m_use_ m_traced m_speaks m_isParted m_s m_named m_pile) H → va_S A s.heap H locs → lv_has ls 7 [(0, .ref (b 0)), (2, .int x2), (3, .int x3), (4, .int x4)] → B13 x2 x3 x4 m_pile → W p l e (rmm 1 22) s m args below meth c H locs 0 0 Q (F0 m 13 ls [])), ∀ (x2 : Int32) (x3 : Int32) (x4 : Int32) (t1 : Int32) (t2 : Int32) (m_pile : Nat → Int32) (H : Heap) (locs : List Loc) (ls : Array Slot), wo G A (wd_X7_9 G b m_images m_at_ m_open_ m_steps m_use_ m_traced m_speaks m_isParted m_s m_named m_pile) H → va_S A s.heap H locs → lv_has ls 7 [(0, .ref (b 0)), (2, .int x2), (3, .int x3), (4, .int x4)] → j_X7_worked_87 p1 m_s m_named B13 K x2 x3 x4 t1 t2 m_pile → W p l e (rmm 1 22) s m args below meth c H locs 0 0 Q (F0 m 87 ls [.int t2, .int t1, .ref (b 7)]) := by
    intro B13 hB13 x2 x3 x4 t1 t2 m_pile H locs ls hW hS hl hv
    obtain ⟨h_9, hv⟩ := hv
    refine q_iast C hW hS 3 rfl h_9 dX7_worked_87 (fun H locs hW hS => ?_)
    have hW : wo G A (wd_X7_9 G b m_images m_at_ m_open_ m_steps m_use_ m_traced m_speaks m_isParted m_s m_named (upd m_pile t1.toNatClampNeg t2)) H := hW
    refine lv_iinc (v := (x3 + 1)) (lv' := [(3, .int (x3 + 1)), (0, .ref (b 0)), (2, .int x2), (4, .int x4)]) hx hb dX7_worked_88 hl (k := 2) rfl rfl (by decide) rfl (fun ls hl => ?_)
    refine lv_goto (tgt := 157) hx hb dX7_worked_91 (by decide) ?_
    exact h_j_X7_worked_157 B13 hB13 x2 (x3 + 1) x4 (upd m_pile t1.toNatClampNeg t2) H locs ls hW hS (lv_sub hl [1, 2, 0, 3] rfl) hv
  have h_j_X7_worked_65 : ∀ (B13 : Int32 → Int32 → Int32 → (Nat → Int32) → Prop) (hB13 : ∀ (x2 : Int32) (x3 : Int32) (x4 : Int32) (m_pile : Nat → Int32) (H : Heap) (locs : List Loc) (ls : Array Slot), wo G A (wd_X7_9 G b m_images m_at_ m_open_ m_steps m_use_ m_traced m_speaks m_isParted m_s m_named m_pile) H → va_S A s.heap H locs → lv_has ls 7 [(0, .ref (b 0)), (2, .int x2), (3, .int x3), (4, .int x4)] → B13 x2 x3 x4 m_pile → W p l e (rmm 1 22) s m args below meth c H locs 0 0 Q (F0 m 13 ls [])), ∀ (x2 : Int32) (x3 : Int32) (x4 : Int32) (x5 : Int32) (x6 : Int32) (m_pile : Nat → Int32) (H : Heap) (locs : List Loc) (ls : Array Slot), wo G A (wd_X7_9 G b m_images m_at_ m_open_ m_steps m_use_ m_traced m_speaks m_isParted m_s m_named m_pile) H → va_S A s.heap H locs → lv_has ls 7 [(0, .ref (b 0)), (2, .int x2), (3, .int x3), (4, .int x4), (5, .int x5), (6, .int x6)] → j_X7_worked_65 p1 m_s m_named B13 K x2 x3 x4 x5 x6 m_pile → W p l e (rmm 1 22) s m args below meth c H locs 0 0 Q (F0 m 65 ls []) := by
    intro B13 hB13 x2 x3 x4 x5 x6 m_pile H locs ls hW hS hl hv
    refine lv_aload_n hx hb dX7_worked_65 rfl (lv_at hl 0 rfl) ?_
    refine q_get C kc7 hW 0 rfl 11 (by decide) fl_X7_28 rfl rfl dX7_worked_66 ?_
    refine lv_iload_n hx hb dX7_worked_69 rfl (lv_at hl 2 rfl) ?_
    refine lv_iload hx hb dX7_worked_70 (lv_at hl 4 rfl) ?_
    refine lv_if_ne (tgt := 80) hx hb dX7_worked_72 (by decide) (fun c_7 => ?_) (fun c_7 => ?_)
    · replace hv := hv.1 c_7
      refine lv_aload_n hx hb dX7_worked_80 rfl (lv_at hl 0 rfl) ?_
      refine q_get C kc7 hW 0 rfl 10 (by decide) fl_X7_25 rfl rfl dX7_worked_81 ?_
      refine lv_iload hx hb dX7_worked_84 (lv_at hl 5 rfl) ?_
      obtain ⟨h_8, hv⟩ := hv
      refine q_iald C hW 2 rfl h_8 dX7_worked_86 ?_
      exact h_j_X7_worked_87 B13 hB13 x2 x3 x4 x3 (m_named x6.toNatClampNeg) m_pile H locs ls hW hS (lv_sub hl [0, 1, 2, 3] rfl) hv
    · replace hv := hv.2 c_7
      refine lv_iload hx hb dX7_worked_75 (lv_at hl 5 rfl) ?_
      refine lv_goto (tgt := 87) hx hb dX7_worked_77 (by decide) ?_
      exact h_j_X7_worked_87 B13 hB13 x2 x3 x4 x3 x6 m_pile H locs ls hW hS (lv_sub hl [0, 1, 2, 3] rfl) hv
  have h_j_X7_worked_123 : ∀ (B13 : Int32 → Int32 → Int32 → (Nat → Int32) → Prop) (hB13 : ∀ (x2 : Int32) (x3 : Int32) (x4 : Int32) (m_pile : Nat → Int32) (H : Heap) (locs : List Loc) (ls : Array Slot), wo G A (wd_X7_9 G b m_images m_at_ m_open_ m_steps m_use_ m_traced m_speaks m_isParted m_s m_named m_pile) H → va_S A s.heap H locs → lv_has ls 7 [(0, .ref (b 0)), (2, .int x2), (3, .int x3), (4, .int x4)] → B13 x2 x3 x4 m_pile → W p l e (rmm 1 22) s m args below meth c H locs 0 0 Q (F0 m 13 ls [])), ∀ (x2 : Int32) (x3 : Int32) (x4 : Int32) (t1 : Int32) (t2 : Int32) (m_pile : Nat → Int32) (H : Heap) (locs : List Loc) (ls : Array Slot), t2 = 0 ∨ t2 = 1 → wo G A (wd_X7_9 G b m_images m_at_ m_open_ m_steps m_use_ m_traced m_speaks m_isParted m_s m_named m_pile) H → va_S A s.heap H locs → lv_has ls 7 [(0, .ref (b 0)), (2, .int x2), (3, .int x3), (4, .int x4)] → j_X7_worked_123 p1 m_s m_named B13 K x2 x3 x4 t1 t2 m_pile → W p l e (rmm 1 22) s m args below meth c H locs 0 0 Q (F0 m 123 ls [.int t2, .int t1, .ref (b 7)]) := by
    intro B13 hB13 x2 x3 x4 t1 t2 m_pile H locs ls hz_t2 hW hS hl hv
    obtain ⟨h_19, hv⟩ := hv
    refine q_iast C hW hS 3 rfl h_19 dX7_worked_123 (fun H locs hW hS => ?_)
    have hW : wo G A (wd_X7_9 G b m_images m_at_ m_open_ m_steps m_use_ m_traced m_speaks m_isParted m_s m_named (upd m_pile t1.toNatClampNeg t2)) H := hW
    refine lv_goto (tgt := 157) hx hb dX7_worked_124 (by decide) ?_
    exact h_j_X7_worked_157 B13 hB13 x2 x3 x4 (upd m_pile t1.toNatClampNeg t2) H locs ls hW hS (lv_sub hl [0, 1, 2, 3] rfl) hv
  have h_l_X7_worked_13 : ∀ (n : Nat), ∀ (x2 : Int32) (x3 : Int32) (x4 : Int32) (m_pile : Nat → Int32) (H : Heap) (locs : List Loc) (ls : Array Slot), wo G A (wd_X7_9 G b m_images m_at_ m_open_ m_steps m_use_ m_traced m_speaks m_isParted m_s m_named m_pile) H → va_S A s.heap H locs → lv_has ls 7 [(0, .ref (b 0)), (2, .int x2), (3, .int x3), (4, .int x4)] → l_X7_worked_13 p1 m_s m_named K n x2 x3 x4 m_pile → W p l e (rmm 1 22) s m args below meth c H locs 0 0 Q (F0 m 13 ls []) := by
    intro n
    induction n with
    | zero =>
      intro x2 x3 x4 m_pile H locs ls hW hS hl hv
      exact False.elim hv
    | succ n ih =>
      intro x2 x3 x4 m_pile H locs ls hW hS hl hv
      refine lv_iload hx hb dX7_worked_13 (lv_at hl 3 rfl) ?_
      refine lv_aload_n hx hb dX7_worked_15 rfl (lv_at hl 0 rfl) ?_
      refine q_get C kc7 hW 0 rfl 0 (by decide) fl_X7_7 rfl rfl dX7_worked_16 ?_
      refine lv_iload_n hx hb dX7_worked_19 rfl (lv_at hl 1 rfl) ?_
      obtain ⟨h_1, hv⟩ := hv
      refine q_iald C hW 1 rfl h_1 dX7_worked_20 ?_
      refine lv_icmp_ge (tgt := 163) hx hb dX7_worked_21 (by decide) (fun c_2 => ?_) (fun c_2 => ?_)
      · replace hv := hv.1 c_2
        refine lv_aload_n hx hb dX7_worked_163 rfl (lv_at hl 0 rfl) ?_
        refine q_get C kc7 hW 0 rfl 11 (by decide) fl_X7_28 rfl rfl dX7_worked_164 ?_
        refine lv_iconst (v := 0) hx hb dX7_worked_167 kic_0 ?_
        obtain ⟨h_3, hv⟩ := hv
        refine q_iald C hW 3 rfl h_3 dX7_worked_168 ?_
        exact ret (m_pile) (m_pile (0 : Int32).toNatClampNeg) H locs ls _ rfl hW hS hv dX7_worked_169
      · replace hv := hv.2 c_2
        refine lv_aload_n hx hb dX7_worked_24 rfl (lv_at hl 0 rfl) ?_
        refine q_get C kc7 hW 0 rfl 0 (by decide) fl_X7_7 rfl rfl dX7_worked_25 ?_
        refine lv_iload_n hx hb dX7_worked_28 rfl (lv_at hl 1 rfl) ?_
        refine lv_iconst (v := 1) hx hb dX7_worked_29 kic_1 ?_
        refine lv_iadd hx hb dX7_worked_30 ?_
        refine lv_iconst (v := 2) hx hb dX7_worked_31 kic_2 ?_
        refine lv_iload hx hb dX7_worked_32 (lv_at hl 3 rfl) ?_
        refine lv_imul hx hb dX7_worked_34 ?_
        refine lv_iadd hx hb dX7_worked_35 ?_
        obtain ⟨h_4, hv⟩ := hv
        refine q_iald C hW 1 rfl h_4 dX7_worked_36 ?_
        refine lv_istore (lv' := [(5, .int (m_s ((x2 + (1 : Int32)) + ((2 : Int32) * x4)).toNatClampNeg)), (0, .ref (b 0)), (2, .int x2), (3, .int x3), (4, .int x4)]) hx hb dX7_worked_37 hl (by decide) rfl (fun ls hl => ?_)
        refine lv_aload_n hx hb dX7_worked_39 rfl (lv_at hl 1 rfl) ?_
        refine q_get C kc7 hW 0 rfl 0 (by decide) fl_X7_7 rfl rfl dX7_worked_40 ?_
        refine lv_iload_n hx hb dX7_worked_43 rfl (lv_at hl 2 rfl) ?_
        refine lv_iconst (v := 2) hx hb dX7_worked_44 kic_2 ?_
        refine lv_iadd hx hb dX7_worked_45 ?_
        refine lv_iconst (v := 2) hx hb dX7_worked_46 kic_2 ?_
        refine lv_iload hx hb dX7_worked_47 (lv_at hl 4 rfl) ?_
        refine lv_imul hx hb dX7_worked_49 ?_
        refine lv_iadd hx hb dX7_worked_50 ?_
        obtain ⟨h_5, hv⟩ := hv
        refine q_iald C hW 1 rfl h_5 dX7_worked_51 ?_
        refine lv_istore (lv' := [(6, .int (m_s ((x2 + (2 : Int32)) + ((2 : Int32) * x4)).toNatClampNeg)), (5, .int (m_s ((x2 + (1 : Int32)) + ((2 : Int32) * x4)).toNatClampNeg)), (0, .ref (b 0)), (2, .int x2), (3, .int x3), (4, .int x4)]) hx hb dX7_worked_52 hl (by decide) rfl (fun ls hl => ?_)
        refine lv_iload hx hb dX7_worked_54 (lv_at hl 1 rfl) ?_
        refine lv_if_eq (tgt := 65) hx hb dX7_worked_56 (by decide) (fun c_6 => ?_) (fun c_6 => ?_)
        · replace hv := hv.1 c_6
          exact h_j_X7_worked_65 (fun x2' x3' x4' m_pile' => l_X7_worked_13 p1 m_s m_named K n x2' x3' x4' m_pile') ih x2 x3 x4 (m_s ((x2 + (1 : Int32)) + ((2 : Int32) * x4)).toNatClampNeg) (m_s ((x2 + (2 : Int32)) + ((2 : Int32) * x4)).toNatClampNeg) m_pile H locs ls hW hS (lv_sub hl [2, 3, 4, 5, 1, 0] rfl) hv
        · replace hv := hv.2 c_6
          refine lv_iload hx hb dX7_worked_59 (lv_at hl 1 rfl) ?_
          refine lv_iconst (v := 1) hx hb dX7_worked_61 kic_1 ?_
          refine lv_icmp_ne (tgt := 94) hx hb dX7_worked_62 (by decide) (fun c_10 => ?_) (fun c_10 => ?_)
          · replace hv := hv.1 c_10
            refine lv_iload hx hb dX7_worked_94 (lv_at hl 1 rfl) ?_
            refine lv_iconst (v := 2) hx hb dX7_worked_96 kic_2 ?_
            refine lv_icmp_ne (tgt := 127) hx hb dX7_worked_97 (by decide) (fun c_11 => ?_) (fun c_11 => ?_)
            · replace hv := hv.1 c_11
              refine lv_iinc (v := (x3 + (-1))) (lv' := [(3, .int (x3 + (-1))), (6, .int (m_s ((x2 + (2 : Int32)) + ((2 : Int32) * x4)).toNatClampNeg)), (5, .int (m_s ((x2 + (1 : Int32)) + ((2 : Int32) * x4)).toNatClampNeg)), (0, .ref (b 0)), (2, .int x2), (4, .int x4)]) hx hb dX7_worked_127 hl (k := 4) rfl rfl (by decide) rfl (fun ls hl => ?_)
              refine lv_aload_n hx hb dX7_worked_130 rfl (lv_at hl 3 rfl) ?_
              refine q_get C kc7 hW 0 rfl 11 (by decide) fl_X7_28 rfl rfl dX7_worked_131 ?_
              refine lv_iload_n hx hb dX7_worked_134 rfl (lv_at hl 0 rfl) ?_
              refine lv_iconst (v := 1) hx hb dX7_worked_135 kic_1 ?_
              refine lv_isub hx hb dX7_worked_136 ?_
              refine lv_iload hx hb dX7_worked_137 (lv_at hl 1 rfl) ?_
              refine lv_aload_n hx hb dX7_worked_139 rfl (lv_at hl 3 rfl) ?_
              refine q_get C kc7 hW 0 rfl 11 (by decide) fl_X7_28 rfl rfl dX7_worked_140 ?_
              refine lv_iload_n hx hb dX7_worked_143 rfl (lv_at hl 0 rfl) ?_
              refine lv_iconst (v := 1) hx hb dX7_worked_144 kic_1 ?_
              refine lv_isub hx hb dX7_worked_145 ?_
              obtain ⟨h_12, hv⟩ := hv
              refine q_iald C hW 3 rfl h_12 dX7_worked_146 ?_
              refine lv_aload_n hx hb dX7_worked_147 rfl (lv_at hl 3 rfl) ?_
              refine q_get C kc7 hW 0 rfl 11 (by decide) fl_X7_28 rfl rfl dX7_worked_148 ?_
              refine lv_iload_n hx hb dX7_worked_151 rfl (lv_at hl 0 rfl) ?_
              obtain ⟨h_13, hv⟩ := hv
              refine q_iald C hW 3 rfl h_13 dX7_worked_152 ?_
              refine q_callS (rest := [.int ((x3 + (-1)) - (1 : Int32)), .ref (b 7)]) (n := 3) C (c_X7_joined l G (m_s ((x2 + (2 : Int32)) + ((2 : Int32) * x4)).toNatClampNeg) (m_pile ((x3 + (-1)) - (1 : Int32)).toNatClampNeg) (m_pile (x3 + (-1)).toNatClampNeg) _ hv) ml_X7_116 kb_X7_joined rfl ⟨⟨rfl, rfl⟩, (Nat.le_of_ble_eq_true rfl), (Nat.le_of_ble_eq_true rfl)⟩ hW hS hl.1 rfl (Nat.le_of_ble_eq_true rfl) dX7_worked_153 ⟨Nat.zero_le _, Nat.zero_le _⟩ (fun r_14 u_15 H locs hv hW hS => ?_)
              try dsimp only at hv
              obtain ⟨h_16, hv⟩ := hv
              refine q_iast C hW hS 3 rfl h_16 dX7_worked_156 (fun H locs hW hS => ?_)
              have hW : wo G A (wd_X7_9 G b m_images m_at_ m_open_ m_steps m_use_ m_traced m_speaks m_isParted m_s m_named (upd m_pile ((x3 + (-1)) - (1 : Int32)).toNatClampNeg r_14)) H := hW
              exact h_j_X7_worked_157 (fun x2' x3' x4' m_pile' => l_X7_worked_13 p1 m_s m_named K n x2' x3' x4' m_pile') ih x2 (x3 + (-1)) x4 (upd m_pile ((x3 + (-1)) - (1 : Int32)).toNatClampNeg r_14) H locs ls hW hS (lv_sub hl [3, 4, 0, 5] rfl) hv
            · replace hv := hv.2 c_11
              refine lv_aload_n hx hb dX7_worked_100 rfl (lv_at hl 2 rfl) ?_
              refine q_get C kc7 hW 0 rfl 11 (by decide) fl_X7_28 rfl rfl dX7_worked_101 ?_
              refine lv_iload_n hx hb dX7_worked_104 rfl (lv_at hl 4 rfl) ?_
              refine lv_iconst (v := 1) hx hb dX7_worked_105 kic_1 ?_
              refine lv_isub hx hb dX7_worked_106 ?_
              refine lv_aload_n hx hb dX7_worked_107 rfl (lv_at hl 2 rfl) ?_
              refine q_get C kc7 hW 0 rfl 11 (by decide) fl_X7_28 rfl rfl dX7_worked_108 ?_
              refine lv_iload_n hx hb dX7_worked_111 rfl (lv_at hl 4 rfl) ?_
              refine lv_iconst (v := 1) hx hb dX7_worked_112 kic_1 ?_
              refine lv_isub hx hb dX7_worked_113 ?_
              obtain ⟨h_17, hv⟩ := hv
              refine q_iald C hW 3 rfl h_17 dX7_worked_114 ?_
              refine lv_if_ne (tgt := 122) hx hb dX7_worked_115 (by decide) (fun c_18 => ?_) (fun c_18 => ?_)
              · replace hv := hv.1 c_18
                refine lv_iconst (v := 0) hx hb dX7_worked_122 kic_0 ?_
                exact h_j_X7_worked_123 (fun x2' x3' x4' m_pile' => l_X7_worked_13 p1 m_s m_named K n x2' x3' x4' m_pile') ih x2 x3 x4 (x3 - (1 : Int32)) (0 : Int32) m_pile H locs ls (Or.inl rfl) hW hS (lv_sub hl [2, 3, 4, 5] rfl) hv
              · replace hv := hv.2 c_18
                refine lv_iconst (v := 1) hx hb dX7_worked_118 kic_1 ?_
                refine lv_goto (tgt := 123) hx hb dX7_worked_119 (by decide) ?_
                exact h_j_X7_worked_123 (fun x2' x3' x4' m_pile' => l_X7_worked_13 p1 m_s m_named K n x2' x3' x4' m_pile') ih x2 x3 x4 (x3 - (1 : Int32)) (1 : Int32) m_pile H locs ls (Or.inr rfl) hW hS (lv_sub hl [2, 3, 4, 5] rfl) hv
          · replace hv := hv.2 c_10
            exact h_j_X7_worked_65 (fun x2' x3' x4' m_pile' => l_X7_worked_13 p1 m_s m_named K n x2' x3' x4' m_pile') ih x2 x3 x4 (m_s ((x2 + (1 : Int32)) + ((2 : Int32) * x4)).toNatClampNeg) (m_s ((x2 + (2 : Int32)) + ((2 : Int32) * x4)).toNatClampNeg) m_pile H locs ls hW hS (lv_sub hl [2, 3, 4, 5, 1, 0] rfl) hv
  refine lv_bipush (v := 48) hx hb dX7_worked_0 kbp_48 ?_
  refine lv_bipush (v := 125) hx hb dX7_worked_2 kbp_125 ?_
  refine lv_iload_n hx hb dX7_worked_4 rfl (lv_at hl 1 rfl) ?_
  refine lv_imul hx hb dX7_worked_5 ?_
  refine lv_iadd hx hb dX7_worked_6 ?_
  refine lv_istore_n (lv' := [(2, .int ((48 : Int32) + ((125 : Int32) * p1))), (0, .ref (b 0)), (1, .int p1)]) hx hb dX7_worked_7 rfl hl (by decide) rfl (fun ls hl => ?_)
  refine lv_iconst (v := 0) hx hb dX7_worked_8 kic_0 ?_
  refine lv_istore_n (lv' := [(3, .int (0 : Int32)), (2, .int ((48 : Int32) + ((125 : Int32) * p1))), (0, .ref (b 0)), (1, .int p1)]) hx hb dX7_worked_9 rfl hl (by decide) rfl (fun ls hl => ?_)
  refine lv_iconst (v := 0) hx hb dX7_worked_10 kic_0 ?_
  refine lv_istore (lv' := [(4, .int (0 : Int32)), (3, .int (0 : Int32)), (2, .int ((48 : Int32) + ((125 : Int32) * p1))), (0, .ref (b 0)), (1, .int p1)]) hx hb dX7_worked_11 hl (by decide) rfl (fun ls hl => ?_)
  obtain ⟨n_20, hv⟩ := hv
  exact h_l_X7_worked_13 n_20 ((48 : Int32) + ((125 : Int32) * p1)) (0 : Int32) (0 : Int32) m_pile H locs ls hW hS (lv_sub hl [3, 2, 1, 0] rfl) hv
set_option maxHeartbeats 4000000 in
set_option maxRecDepth 100000 in
theorem c_X7_readsOf (l : Launch) (G : Gt) (b : Nat → Nat) (m_images : Int32) (m_at_ : Int32) (m_open_ : Int32) (m_steps : Int32) (m_use_ : Int32) (m_traced : Int32) (m_speaks : Int32) (m_isParted : Int32) (m_s : Nat → Int32) (p1 : Int32) (p2 : Int32) (K : Int32 → Prop) (hv : v_X7_readsOf p1 p2 m_s K) : CI l G yX7_readsOf (.code yX7_readsOf cX7_readsOf 5 (some .int) :: wsG) (rmm 1 22) [.ref (b 0), .int p1, .int p2] (wd_X7_3 G b m_images m_at_ m_open_ m_steps m_use_ m_traced m_speaks m_isParted m_s) (S := Unit) (fun u => wd_X7_3 G b m_images m_at_ m_open_ m_steps m_use_ m_traced m_speaks m_isParted m_s) (fun r u => K r) := by
  refine ci_intro (by decide) rfl (fun _ => rfl) (Nat.le_of_ble_eq_true rfl) ?_
  intro p e s m args below meth c A H ls Q C hW hS hl ret
  have hx := C.1.1
  have hb := C.1.2.1
  generalize hls : ([] : List Loc) = locs at hS ⊢
  have hl : lv_has ls 5 [(0, .ref (b 0)), (1, .int p1), (2, .int p2)] := hl
  refine lv_bipush (v := 10) hx hb dX7_readsOf_0 kbp_10 ?_
  refine lv_aload_n hx hb dX7_readsOf_2 rfl (lv_at hl 0 rfl) ?_
  refine lv_iload_n hx hb dX7_readsOf_3 rfl (lv_at hl 2 rfl) ?_
  refine lv_iconst (v := 3) hx hb dX7_readsOf_4 kic_3 ?_
  refine q_callV (rest := [.int (10 : Int32)]) (n := 2) C (c_X7_its l G b m_images m_at_ m_open_ m_steps m_use_ m_traced m_speaks m_isParted m_s p2 (3 : Int32) _ hv) ml_X7_120 kb_X7_its rfl ⟨⟨rfl, rfl⟩, (Nat.le_of_ble_eq_true rfl), (Nat.le_of_ble_eq_true rfl)⟩ hW hS [0, 1] rfl rfl kc7 (q0 := 0) rfl hl.1 rfl (Nat.le_of_ble_eq_true rfl) dX7_readsOf_5 ⟨Nat.zero_le _, Nat.zero_le _⟩ (fun r_1 u_2 H locs hv hW hS => ?_)
  try dsimp only at hv
  refine lv_imul hx hb dX7_readsOf_8 ?_
  refine lv_istore_n (lv' := [(3, .int ((10 : Int32) * r_1)), (0, .ref (b 0)), (1, .int p1), (2, .int p2)]) hx hb dX7_readsOf_9 rfl hl (by decide) rfl (fun ls hl => ?_)
  refine lv_aload_n hx hb dX7_readsOf_10 rfl (lv_at hl 1 rfl) ?_
  refine lv_iload_n hx hb dX7_readsOf_11 rfl (lv_at hl 2 rfl) ?_
  refine lv_iconst (v := 1) hx hb dX7_readsOf_12 kic_1 ?_
  refine q_callV (rest := []) (n := 2) C (c_X7_its l G b m_images m_at_ m_open_ m_steps m_use_ m_traced m_speaks m_isParted m_s p1 (1 : Int32) _ hv) ml_X7_120 kb_X7_its rfl ⟨⟨rfl, rfl⟩, (Nat.le_of_ble_eq_true rfl), (Nat.le_of_ble_eq_true rfl)⟩ hW hS [0, 1] rfl rfl kc7 (q0 := 0) rfl hl.1 rfl (Nat.le_of_ble_eq_true rfl) dX7_readsOf_13 ⟨Nat.zero_le _, Nat.zero_le _⟩ (fun r_3 u_4 H locs hv hW hS => ?_)
  try dsimp only at hv
  refine lv_istore (lv' := [(4, .int r_3), (3, .int ((10 : Int32) * r_1)), (0, .ref (b 0)), (1, .int p1), (2, .int p2)]) hx hb dX7_readsOf_16 hl (by decide) rfl (fun ls hl => ?_)
  refine lv_aload_n hx hb dX7_readsOf_18 rfl (lv_at hl 2 rfl) ?_
  refine lv_iload_n hx hb dX7_readsOf_19 rfl (lv_at hl 3 rfl) ?_
  refine lv_iconst (v := 0) hx hb dX7_readsOf_20 kic_0 ?_
  refine q_callV (rest := []) (n := 2) C (c_X7_its l G b m_images m_at_ m_open_ m_steps m_use_ m_traced m_speaks m_isParted m_s p1 (0 : Int32) _ hv) ml_X7_120 kb_X7_its rfl ⟨⟨rfl, rfl⟩, (Nat.le_of_ble_eq_true rfl), (Nat.le_of_ble_eq_true rfl)⟩ hW hS [0, 1] rfl rfl kc7 (q0 := 0) rfl hl.1 rfl (Nat.le_of_ble_eq_true rfl) dX7_readsOf_21 ⟨Nat.zero_le _, Nat.zero_le _⟩ (fun r_5 u_6 H locs hv hW hS => ?_)
  try dsimp only at hv
  by_cases c_7_0 : r_5 = 1
  · replace hv := hv.1 c_7_0
    refine lv_tableIn (tgt := 64) hx hb dX7_readsOf_24 (by rw [c_7_0]; decide) (by rw [c_7_0]; decide) (by rw [c_7_0]; rfl) (by decide) ?_
    refine lv_iload_n hx hb dX7_readsOf_64 rfl (lv_at hl 1 rfl) ?_
    refine lv_iconst (v := 5) hx hb dX7_readsOf_65 kic_5 ?_
    refine lv_iadd hx hb dX7_readsOf_66 ?_
    refine lv_iload hx hb dX7_readsOf_67 (lv_at hl 0 rfl) ?_
    refine lv_iadd hx hb dX7_readsOf_69 ?_
    exact ret () ((((10 : Int32) * r_1) + (5 : Int32)) + r_3) H locs ls _ rfl hW hS hv dX7_readsOf_70
  · replace hv := hv.2 c_7_0
    by_cases c_7_1 : r_5 = 2
    · replace hv := hv.1 c_7_1
      refine lv_tableIn (tgt := 71) hx hb dX7_readsOf_24 (by rw [c_7_1]; decide) (by rw [c_7_1]; decide) (by rw [c_7_1]; rfl) (by decide) ?_
      refine lv_iload_n hx hb dX7_readsOf_71 rfl (lv_at hl 1 rfl) ?_
      refine lv_aload_n hx hb dX7_readsOf_72 rfl (lv_at hl 2 rfl) ?_
      refine lv_iload_n hx hb dX7_readsOf_73 rfl (lv_at hl 4 rfl) ?_
      refine lv_iconst (v := 2) hx hb dX7_readsOf_74 kic_2 ?_
      refine q_callV (rest := [.int ((10 : Int32) * r_1)]) (n := 2) C (c_X7_its l G b m_images m_at_ m_open_ m_steps m_use_ m_traced m_speaks m_isParted m_s p2 (2 : Int32) _ hv) ml_X7_120 kb_X7_its rfl ⟨⟨rfl, rfl⟩, (Nat.le_of_ble_eq_true rfl), (Nat.le_of_ble_eq_true rfl)⟩ hW hS [0, 1] rfl rfl kc7 (q0 := 0) rfl hl.1 rfl (Nat.le_of_ble_eq_true rfl) dX7_readsOf_75 ⟨Nat.zero_le _, Nat.zero_le _⟩ (fun r_8 u_9 H locs hv hW hS => ?_)
      try dsimp only at hv
      refine lv_iadd hx hb dX7_readsOf_78 ?_
      refine lv_iconst (v := 2) hx hb dX7_readsOf_79 kic_2 ?_
      obtain ⟨h_10, hv⟩ := hv
      refine lv_idiv hx hb dX7_readsOf_80 h_10 ?_
      exact ret () ((((10 : Int32) * r_1) + r_8) / (2 : Int32)) H locs ls _ rfl hW hS hv dX7_readsOf_81
    · replace hv := hv.2 c_7_1
      by_cases c_7_2 : r_5 = 3
      · replace hv := hv.1 c_7_2
        refine lv_tableIn (tgt := 82) hx hb dX7_readsOf_24 (by rw [c_7_2]; decide) (by rw [c_7_2]; decide) (by rw [c_7_2]; rfl) (by decide) ?_
        refine lv_bipush (v := 99) hx hb dX7_readsOf_82 kbp_99 ?_
        refine lv_iload_n hx hb dX7_readsOf_84 rfl (lv_at hl 1 rfl) ?_
        refine lv_isub hx hb dX7_readsOf_85 ?_
        exact ret () ((99 : Int32) - ((10 : Int32) * r_1)) H locs ls _ rfl hW hS hv dX7_readsOf_86
      · replace hv := hv.2 c_7_2
        by_cases c_7_3 : r_5 = 4
        · replace hv := hv.1 c_7_3
          refine lv_tableIn (tgt := 87) hx hb dX7_readsOf_24 (by rw [c_7_3]; decide) (by rw [c_7_3]; decide) (by rw [c_7_3]; rfl) (by decide) ?_
          refine lv_iload_n hx hb dX7_readsOf_87 rfl (lv_at hl 1 rfl) ?_
          refine lv_iconst (v := 5) hx hb dX7_readsOf_88 kic_5 ?_
          refine lv_iadd hx hb dX7_readsOf_89 ?_
          refine lv_iload hx hb dX7_readsOf_90 (lv_at hl 0 rfl) ?_
          refine lv_iadd hx hb dX7_readsOf_92 ?_
          refine lv_aload_n hx hb dX7_readsOf_93 rfl (lv_at hl 2 rfl) ?_
          refine q_get C kc7 hW 0 rfl 0 (by decide) fl_X7_7 rfl rfl dX7_readsOf_94 ?_
          refine lv_iconst (v := 0) hx hb dX7_readsOf_97 kic_0 ?_
          obtain ⟨h_11, hv⟩ := hv
          refine q_iald C hW 1 rfl h_11 dX7_readsOf_98 ?_
          refine lv_bipush (v := 7) hx hb dX7_readsOf_99 kbp_7 ?_
          obtain ⟨h_12, hv⟩ := hv
          refine lv_irem hx hb dX7_readsOf_101 h_12 ?_
          refine lv_iadd hx hb dX7_readsOf_102 ?_
          exact ret () (((((10 : Int32) * r_1) + (5 : Int32)) + r_3) + ((m_s (0 : Int32).toNatClampNeg) - (m_s (0 : Int32).toNatClampNeg) / (7 : Int32) * (7 : Int32))) H locs ls _ rfl hW hS hv dX7_readsOf_103
        · replace hv := hv.2 c_7_3
          by_cases c_7_4 : r_5 = 5
          · replace hv := hv.1 c_7_4
            refine lv_tableIn (tgt := 104) hx hb dX7_readsOf_24 (by rw [c_7_4]; decide) (by rw [c_7_4]; decide) (by rw [c_7_4]; rfl) (by decide) ?_
            refine lv_bipush (v := 11) hx hb dX7_readsOf_104 kbp_11 ?_
            refine lv_iload hx hb dX7_readsOf_106 (lv_at hl 0 rfl) ?_
            refine lv_imul hx hb dX7_readsOf_108 ?_
            exact ret () ((11 : Int32) * r_3) H locs ls _ rfl hW hS hv dX7_readsOf_109
          · replace hv := hv.2 c_7_4
            by_cases c_7_5 : r_5 = 6
            · replace hv := hv.1 c_7_5
              refine lv_tableIn (tgt := 110) hx hb dX7_readsOf_24 (by rw [c_7_5]; decide) (by rw [c_7_5]; decide) (by rw [c_7_5]; rfl) (by decide) ?_
              refine lv_aload_n hx hb dX7_readsOf_110 rfl (lv_at hl 2 rfl) ?_
              refine lv_iload_n hx hb dX7_readsOf_111 rfl (lv_at hl 4 rfl) ?_
              refine lv_iconst (v := 3) hx hb dX7_readsOf_112 kic_3 ?_
              refine q_callV (rest := []) (n := 2) C (c_X7_its l G b m_images m_at_ m_open_ m_steps m_use_ m_traced m_speaks m_isParted m_s p2 (3 : Int32) _ hv) ml_X7_120 kb_X7_its rfl ⟨⟨rfl, rfl⟩, (Nat.le_of_ble_eq_true rfl), (Nat.le_of_ble_eq_true rfl)⟩ hW hS [0, 1] rfl rfl kc7 (q0 := 0) rfl hl.1 rfl (Nat.le_of_ble_eq_true rfl) dX7_readsOf_113 ⟨Nat.zero_le _, Nat.zero_le _⟩ (fun r_13 u_14 H locs hv hW hS => ?_)
              try dsimp only at hv
              refine lv_if_ne (tgt := 127) hx hb dX7_readsOf_116 (by decide) (fun c_15 => ?_) (fun c_15 => ?_)
              · replace hv := hv.1 c_15
                refine lv_iload_n hx hb dX7_readsOf_127 rfl (lv_at hl 1 rfl) ?_
                exact ret () ((10 : Int32) * r_1) H locs ls _ rfl hW hS hv dX7_readsOf_128
              · replace hv := hv.2 c_15
                refine lv_bipush (v := 90) hx hb dX7_readsOf_119 kbp_90 ?_
                refine lv_iload hx hb dX7_readsOf_121 (lv_at hl 0 rfl) ?_
                refine lv_isub hx hb dX7_readsOf_123 ?_
                refine lv_goto (tgt := 128) hx hb dX7_readsOf_124 (by decide) ?_
                exact ret () ((90 : Int32) - r_3) H locs ls _ rfl hW hS hv dX7_readsOf_128
            · replace hv := hv.2 c_7_5
              refine sw_row (tgt := 129) hx hb dX7_readsOf_24 rfl (lt_s (lt_s (lt_s (lt_s (lt_s (lt_s lt_0 (Or.inr (lv_neT c_7_0 rfl))) (Or.inr (lv_neT c_7_1 rfl))) (Or.inr (lv_neT c_7_2 rfl))) (Or.inr (lv_neT c_7_3 rfl))) (Or.inr (lv_neT c_7_4 rfl))) (Or.inr (lv_neT c_7_5 rfl))) (by decide) ?_
              refine lv_iload_n hx hb dX7_readsOf_129 rfl (lv_at hl 1 rfl) ?_
              exact ret () ((10 : Int32) * r_1) H locs ls _ rfl hW hS hv dX7_readsOf_130
set_option maxHeartbeats 4000000 in
set_option maxRecDepth 100000 in
theorem c_X7_tellsOf (l : Launch) (G : Gt) (b : Nat → Nat) (m_images : Int32) (m_at_ : Int32) (m_open_ : Int32) (m_steps : Int32) (m_use_ : Int32) (m_traced : Int32) (m_speaks : Int32) (m_isParted : Int32) (m_s : Nat → Int32) (p1 : Int32) (K : Int32 → Prop) (hv : v_X7_tellsOf p1 m_s K) : CI l G yX7_tellsOf (.code yX7_tellsOf cX7_tellsOf 4 (some .int) :: wsG) (rmm 1 22) [.ref (b 0), .int p1] (wd_X7_3 G b m_images m_at_ m_open_ m_steps m_use_ m_traced m_speaks m_isParted m_s) (S := Unit) (fun u => wd_X7_3 G b m_images m_at_ m_open_ m_steps m_use_ m_traced m_speaks m_isParted m_s) (fun r u => K r) := by
  refine ci_intro (by decide) rfl (fun _ => rfl) (Nat.le_of_ble_eq_true rfl) ?_
  intro p e s m args below meth c A H ls Q C hW hS hl ret
  have hx := C.1.1
  have hb := C.1.2.1
  generalize hls : ([] : List Loc) = locs at hS ⊢
  have hl : lv_has ls 4 [(0, .ref (b 0)), (1, .int p1)] := hl
  have h_j_X7_tellsOf_23 : ∀ (x2 : Int32) (t0 : Int32) (H : Heap) (locs : List Loc) (ls : Array Slot), t0 = 0 ∨ t0 = 1 → wo G A (wd_X7_3 G b m_images m_at_ m_open_ m_steps m_use_ m_traced m_speaks m_isParted m_s) H → va_S A s.heap H locs → lv_has ls 4 [(0, .ref (b 0)), (1, .int p1), (2, .int x2)] → j_X7_tellsOf_23 p1 m_s K x2 t0 → W p l e (rmm 1 22) s m args below meth c H locs 0 0 Q (F0 m 23 ls [.int t0]) := by
    intro x2 t0 H locs ls hz_t0 hW hS hl hv
    refine lv_istore_n (lv' := [(3, .int t0), (0, .ref (b 0)), (1, .int p1), (2, .int x2)]) hx hb dX7_tellsOf_23 rfl hl (by decide) rfl (fun ls hl => ?_)
    refine lv_aload_n hx hb dX7_tellsOf_24 rfl (lv_at hl 1 rfl) ?_
    refine lv_iload_n hx hb dX7_tellsOf_25 rfl (lv_at hl 2 rfl) ?_
    refine lv_iconst (v := 0) hx hb dX7_tellsOf_26 kic_0 ?_
    refine q_callV (rest := []) (n := 2) C (c_X7_its l G b m_images m_at_ m_open_ m_steps m_use_ m_traced m_speaks m_isParted m_s p1 (0 : Int32) _ hv) ml_X7_120 kb_X7_its rfl ⟨⟨rfl, rfl⟩, (Nat.le_of_ble_eq_true rfl), (Nat.le_of_ble_eq_true rfl)⟩ hW hS [0, 1] rfl rfl kc7 (q0 := 0) rfl hl.1 rfl (Nat.le_of_ble_eq_true rfl) dX7_tellsOf_27 ⟨Nat.zero_le _, Nat.zero_le _⟩ (fun r_6 u_7 H locs hv hW hS => ?_)
    try dsimp only at hv
    by_cases c_8_0 : r_6 = 1
    · replace hv := hv.1 c_8_0
      refine lv_tableIn (tgt := 68) hx hb dX7_tellsOf_30 (by rw [c_8_0]; decide) (by rw [c_8_0]; decide) (by rw [c_8_0]; rfl) (by decide) ?_
      refine lv_iload_n hx hb dX7_tellsOf_68 rfl (lv_at hl 3 rfl) ?_
      refine lv_iload_n hx hb dX7_tellsOf_69 rfl (lv_at hl 0 rfl) ?_
      refine lv_iadd hx hb dX7_tellsOf_70 ?_
      exact ret () (x2 + t0) H locs ls _ rfl hW hS hv dX7_tellsOf_71
    · replace hv := hv.2 c_8_0
      by_cases c_8_1 : r_6 = 2
      · replace hv := hv.1 c_8_1
        refine lv_tableIn (tgt := 72) hx hb dX7_tellsOf_30 (by rw [c_8_1]; decide) (by rw [c_8_1]; decide) (by rw [c_8_1]; rfl) (by decide) ?_
        refine lv_iload_n hx hb dX7_tellsOf_72 rfl (lv_at hl 3 rfl) ?_
        refine lv_iconst (v := 1) hx hb dX7_tellsOf_73 kic_1 ?_
        refine lv_isub hx hb dX7_tellsOf_74 ?_
        exact ret () (x2 - (1 : Int32)) H locs ls _ rfl hW hS hv dX7_tellsOf_75
      · replace hv := hv.2 c_8_1
        by_cases c_8_2 : r_6 = 4
        · replace hv := hv.1 c_8_2
          refine lv_tableIn (tgt := 76) hx hb dX7_tellsOf_30 (by rw [c_8_2]; decide) (by rw [c_8_2]; decide) (by rw [c_8_2]; rfl) (by decide) ?_
          refine lv_iload_n hx hb dX7_tellsOf_76 rfl (lv_at hl 3 rfl) ?_
          refine lv_iload_n hx hb dX7_tellsOf_77 rfl (lv_at hl 0 rfl) ?_
          refine lv_iadd hx hb dX7_tellsOf_78 ?_
          refine lv_aload_n hx hb dX7_tellsOf_79 rfl (lv_at hl 1 rfl) ?_
          refine q_get C kc7 hW 0 rfl 0 (by decide) fl_X7_7 rfl rfl dX7_tellsOf_80 ?_
          refine lv_iconst (v := 0) hx hb dX7_tellsOf_83 kic_0 ?_
          obtain ⟨h_9, hv⟩ := hv
          refine q_iald C hW 1 rfl h_9 dX7_tellsOf_84 ?_
          refine lv_iconst (v := 3) hx hb dX7_tellsOf_85 kic_3 ?_
          obtain ⟨h_10, hv⟩ := hv
          refine lv_irem hx hb dX7_tellsOf_86 h_10 ?_
          refine lv_if_ne (tgt := 94) hx hb dX7_tellsOf_87 (by decide) (fun c_11 => ?_) (fun c_11 => ?_)
          · replace hv := hv.1 c_11
            refine lv_iconst (v := 0) hx hb dX7_tellsOf_94 kic_0 ?_
            refine lv_iadd hx hb dX7_tellsOf_95 ?_
            exact ret () ((x2 + t0) + (0 : Int32)) H locs ls _ rfl hW hS hv dX7_tellsOf_96
          · replace hv := hv.2 c_11
            refine lv_iconst (v := 1) hx hb dX7_tellsOf_90 kic_1 ?_
            refine lv_goto (tgt := 95) hx hb dX7_tellsOf_91 (by decide) ?_
            refine lv_iadd hx hb dX7_tellsOf_95 ?_
            exact ret () ((x2 + t0) + (1 : Int32)) H locs ls _ rfl hW hS hv dX7_tellsOf_96
        · replace hv := hv.2 c_8_2
          by_cases c_8_3 : r_6 = 5
          · replace hv := hv.1 c_8_3
            refine lv_tableIn (tgt := 97) hx hb dX7_tellsOf_30 (by rw [c_8_3]; decide) (by rw [c_8_3]; decide) (by rw [c_8_3]; rfl) (by decide) ?_
            refine lv_aload_n hx hb dX7_tellsOf_97 rfl (lv_at hl 1 rfl) ?_
            refine lv_iload_n hx hb dX7_tellsOf_98 rfl (lv_at hl 2 rfl) ?_
            refine lv_iconst (v := 2) hx hb dX7_tellsOf_99 kic_2 ?_
            refine q_callV (rest := []) (n := 2) C (c_X7_its l G b m_images m_at_ m_open_ m_steps m_use_ m_traced m_speaks m_isParted m_s p1 (2 : Int32) _ hv) ml_X7_120 kb_X7_its rfl ⟨⟨rfl, rfl⟩, (Nat.le_of_ble_eq_true rfl), (Nat.le_of_ble_eq_true rfl)⟩ hW hS [0, 1] rfl rfl kc7 (q0 := 0) rfl hl.1 rfl (Nat.le_of_ble_eq_true rfl) dX7_tellsOf_100 ⟨Nat.zero_le _, Nat.zero_le _⟩ (fun r_12 u_13 H locs hv hW hS => ?_)
            try dsimp only at hv
            refine lv_bipush (v := 10) hx hb dX7_tellsOf_103 kbp_10 ?_
            obtain ⟨h_14, hv⟩ := hv
            refine lv_idiv hx hb dX7_tellsOf_105 h_14 ?_
            exact ret () (r_12 / (10 : Int32)) H locs ls _ rfl hW hS hv dX7_tellsOf_106
          · replace hv := hv.2 c_8_3
            by_cases c_8_4 : r_6 = 6
            · replace hv := hv.1 c_8_4
              refine lv_tableIn (tgt := 107) hx hb dX7_tellsOf_30 (by rw [c_8_4]; decide) (by rw [c_8_4]; decide) (by rw [c_8_4]; rfl) (by decide) ?_
              refine lv_iconst (v := 0) hx hb dX7_tellsOf_107 kic_0 ?_
              exact ret () (0 : Int32) H locs ls _ rfl hW hS hv dX7_tellsOf_108
            · replace hv := hv.2 c_8_4
              refine sw_row (tgt := 109) hx hb dX7_tellsOf_30 rfl (lt_s (lt_s (lt_s (lt_s (lt_s (lt_s lt_0 (Or.inr (lv_neT c_8_0 rfl))) (Or.inr (lv_neT c_8_1 rfl))) (Or.inl rfl)) (Or.inr (lv_neT c_8_2 rfl))) (Or.inr (lv_neT c_8_3 rfl))) (Or.inr (lv_neT c_8_4 rfl))) (by decide) ?_
              refine lv_iload_n hx hb dX7_tellsOf_109 rfl (lv_at hl 3 rfl) ?_
              exact ret () x2 H locs ls _ rfl hW hS hv dX7_tellsOf_110
  refine lv_aload_n hx hb dX7_tellsOf_0 rfl (lv_at hl 0 rfl) ?_
  refine lv_iload_n hx hb dX7_tellsOf_1 rfl (lv_at hl 1 rfl) ?_
  refine lv_iconst (v := 3) hx hb dX7_tellsOf_2 kic_3 ?_
  refine q_callV (rest := []) (n := 2) C (c_X7_its l G b m_images m_at_ m_open_ m_steps m_use_ m_traced m_speaks m_isParted m_s p1 (3 : Int32) _ hv) ml_X7_120 kb_X7_its rfl ⟨⟨rfl, rfl⟩, (Nat.le_of_ble_eq_true rfl), (Nat.le_of_ble_eq_true rfl)⟩ hW hS [0, 1] rfl rfl kc7 (q0 := 0) rfl hl.1 rfl (Nat.le_of_ble_eq_true rfl) dX7_tellsOf_3 ⟨Nat.zero_le _, Nat.zero_le _⟩ (fun r_1 u_2 H locs hv hW hS => ?_)
  try dsimp only at hv
  refine lv_istore_n (lv' := [(2, .int r_1), (0, .ref (b 0)), (1, .int p1)]) hx hb dX7_tellsOf_6 rfl hl (by decide) rfl (fun ls hl => ?_)
  refine lv_aload_n hx hb dX7_tellsOf_7 rfl (lv_at hl 1 rfl) ?_
  refine lv_iload_n hx hb dX7_tellsOf_8 rfl (lv_at hl 2 rfl) ?_
  refine lv_iconst (v := 2) hx hb dX7_tellsOf_9 kic_2 ?_
  refine q_callV (rest := []) (n := 2) C (c_X7_its l G b m_images m_at_ m_open_ m_steps m_use_ m_traced m_speaks m_isParted m_s p1 (2 : Int32) _ hv) ml_X7_120 kb_X7_its rfl ⟨⟨rfl, rfl⟩, (Nat.le_of_ble_eq_true rfl), (Nat.le_of_ble_eq_true rfl)⟩ hW hS [0, 1] rfl rfl kc7 (q0 := 0) rfl hl.1 rfl (Nat.le_of_ble_eq_true rfl) dX7_tellsOf_10 ⟨Nat.zero_le _, Nat.zero_le _⟩ (fun r_3 u_4 H locs hv hW hS => ?_)
  try dsimp only at hv
  refine lv_bipush (v := 50) hx hb dX7_tellsOf_13 kbp_50 ?_
  refine lv_icmp_le (tgt := 22) hx hb dX7_tellsOf_15 (by decide) (fun c_5 => ?_) (fun c_5 => ?_)
  · replace hv := hv.1 c_5
    refine lv_iconst (v := 0) hx hb dX7_tellsOf_22 kic_0 ?_
    exact h_j_X7_tellsOf_23 r_1 (0 : Int32) H locs ls (Or.inl rfl) hW hS (lv_sub hl [1, 2, 0] rfl) hv
  · replace hv := hv.2 c_5
    refine lv_iconst (v := 1) hx hb dX7_tellsOf_18 kic_1 ?_
    refine lv_goto (tgt := 23) hx hb dX7_tellsOf_19 (by decide) ?_
    exact h_j_X7_tellsOf_23 r_1 (1 : Int32) H locs ls (Or.inr rfl) hW hS (lv_sub hl [1, 2, 0] rfl) hv
set_option maxHeartbeats 4000000 in
set_option maxRecDepth 100000 in
theorem c_X7_takesTold (l : Launch) (G : Gt) (b : Nat → Nat) (m_images : Int32) (m_at_ : Int32) (m_open_ : Int32) (m_steps : Int32) (m_use_ : Int32) (m_traced : Int32) (m_speaks : Int32) (m_isParted : Int32) (m_s : Nat → Int32) (m_named : Nat → Int32) (m_pile : Nat → Int32) (p1 : Int32) (p2 : Int32) (p3 : Int32) (K : Int32 → (Nat → Int32) → (Nat → Int32) → Prop) (hv : v_X7_takesTold p1 p2 p3 m_s m_named m_pile K) : CI l G yX7_takesTold (.code yX7_takesTold cX7_takesTold 4 (some .int) :: wsG) (rmm 2 48) [.ref (b 0), .int p1, .int p2, .int p3] (wd_X7_9 G b m_images m_at_ m_open_ m_steps m_use_ m_traced m_speaks m_isParted m_s m_named m_pile) (S := (Nat → Int32) × (Nat → Int32)) (fun u => wd_X7_9 G b m_images m_at_ m_open_ m_steps m_use_ m_traced m_speaks m_isParted m_s u.1 u.2) (fun r u => K r u.1 u.2) := by
  refine ci_intro (by decide) rfl (fun _ => rfl) (Nat.le_of_ble_eq_true rfl) ?_
  intro p e s m args below meth c A H ls Q C hW hS hl ret
  have hx := C.1.1
  have hb := C.1.2.1
  generalize hls : ([] : List Loc) = locs at hS ⊢
  have hl : lv_has ls 4 [(0, .ref (b 0)), (1, .int p1), (2, .int p2), (3, .int p3)] := hl
  have h_j_X7_takesTold_41 : ∀ (t0 : Int32) (m_named : Nat → Int32) (m_pile : Nat → Int32) (H : Heap) (locs : List Loc) (ls : Array Slot), wo G A (wd_X7_9 G b m_images m_at_ m_open_ m_steps m_use_ m_traced m_speaks m_isParted m_s m_named m_pile) H → va_S A s.heap H locs → lv_has ls 4 [] → j_X7_takesTold_41 p1 p2 p3 m_s K t0 m_named m_pile → W p l e (rmm 2 48) s m args below meth c H locs 0 0 Q (F0 m 41 ls [.int t0]) := by
    intro t0 m_named m_pile H locs ls hW hS hl hv
    refine lv_iconst (v := 0) hx hb dX7_takesTold_41 kic_0 ?_
    refine lv_bipush (v := 99) hx hb dX7_takesTold_42 kbp_99 ?_
    refine q_callS (rest := []) (n := 3) C (c_X7_held l G t0 (0 : Int32) (99 : Int32) _ hv) ml_X7_127 kb_X7_held rfl ⟨⟨rfl, rfl⟩, (Nat.le_of_ble_eq_true rfl), (Nat.le_of_ble_eq_true rfl)⟩ hW hS hl.1 rfl (Nat.le_of_ble_eq_true rfl) dX7_takesTold_44 ⟨Nat.zero_le _, Nat.zero_le _⟩ (fun r_7 u_8 H locs hv hW hS => ?_)
    try dsimp only at hv
    exact ret (m_named, m_pile) r_7 H locs ls _ rfl hW hS hv dX7_takesTold_47
  refine lv_aload_n hx hb dX7_takesTold_0 rfl (lv_at hl 0 rfl) ?_
  refine q_get C kc7 hW 0 rfl 10 (by decide) fl_X7_25 rfl rfl dX7_takesTold_1 ?_
  refine lv_bipush (v := 114) hx hb dX7_takesTold_4 kbp_114 ?_
  refine lv_iload_n hx hb dX7_takesTold_6 rfl (lv_at hl 1 rfl) ?_
  obtain ⟨h_1, hv⟩ := hv
  refine q_iast C hW hS 2 rfl h_1 dX7_takesTold_7 (fun H locs hW hS => ?_)
  have hW : wo G A (wd_X7_9 G b m_images m_at_ m_open_ m_steps m_use_ m_traced m_speaks m_isParted m_s (upd m_named (114 : Int32).toNatClampNeg p1) m_pile) H := hW
  refine lv_aload_n hx hb dX7_takesTold_8 rfl (lv_at hl 0 rfl) ?_
  refine q_get C kc7 hW 0 rfl 10 (by decide) fl_X7_25 rfl rfl dX7_takesTold_9 ?_
  refine lv_bipush (v := 110) hx hb dX7_takesTold_12 kbp_110 ?_
  refine lv_iload_n hx hb dX7_takesTold_14 rfl (lv_at hl 2 rfl) ?_
  obtain ⟨h_2, hv⟩ := hv
  refine q_iast C hW hS 2 rfl h_2 dX7_takesTold_15 (fun H locs hW hS => ?_)
  have hW : wo G A (wd_X7_9 G b m_images m_at_ m_open_ m_steps m_use_ m_traced m_speaks m_isParted m_s (upd (upd m_named (114 : Int32).toNatClampNeg p1) (110 : Int32).toNatClampNeg p2) m_pile) H := hW
  refine lv_aload_n hx hb dX7_takesTold_16 rfl (lv_at hl 0 rfl) ?_
  refine q_get C kc7 hW 0 rfl 10 (by decide) fl_X7_25 rfl rfl dX7_takesTold_17 ?_
  refine lv_bipush (v := 115) hx hb dX7_takesTold_20 kbp_115 ?_
  refine lv_iload_n hx hb dX7_takesTold_22 rfl (lv_at hl 3 rfl) ?_
  obtain ⟨h_3, hv⟩ := hv
  refine q_iast C hW hS 2 rfl h_3 dX7_takesTold_23 (fun H locs hW hS => ?_)
  have hW : wo G A (wd_X7_9 G b m_images m_at_ m_open_ m_steps m_use_ m_traced m_speaks m_isParted m_s (upd (upd (upd m_named (114 : Int32).toNatClampNeg p1) (110 : Int32).toNatClampNeg p2) (115 : Int32).toNatClampNeg p3) m_pile) H := hW
  refine lv_aload_n hx hb dX7_takesTold_24 rfl (lv_at hl 0 rfl) ?_
  refine lv_iconst (v := 0) hx hb dX7_takesTold_25 kic_0 ?_
  refine q_callV (rest := []) (n := 1) C (c_X7_hasText l G b m_images m_at_ m_open_ m_steps m_use_ m_traced m_speaks m_isParted m_s (0 : Int32) _ hv) ml_X7_113 kb_X7_hasText rfl ⟨⟨rfl, rfl⟩, (Nat.le_of_ble_eq_true rfl), (Nat.le_of_ble_eq_true rfl)⟩ hW hS [0, 1] rfl rfl kc7 (q0 := 0) rfl hl.1 rfl (Nat.le_of_ble_eq_true rfl) dX7_takesTold_26 ⟨Nat.zero_le _, Nat.zero_le _⟩ (fun r_4 u_5 H locs hv hW hS => ?_)
  obtain ⟨hv_b_4, hv⟩ := hv
  try dsimp only at hv
  refine lv_if_eq (tgt := 40) hx hb dX7_takesTold_29 (by decide) (fun c_6 => ?_) (fun c_6 => ?_)
  · replace hv := hv.1 c_6
    refine lv_iload_n hx hb dX7_takesTold_40 rfl (lv_at hl 1 rfl) ?_
    exact h_j_X7_takesTold_41 p1 (upd (upd (upd m_named (114 : Int32).toNatClampNeg p1) (110 : Int32).toNatClampNeg p2) (115 : Int32).toNatClampNeg p3) m_pile H locs ls hW hS (lv_sub hl [] rfl) hv
  · replace hv := hv.2 c_6
    refine lv_aload_n hx hb dX7_takesTold_32 rfl (lv_at hl 0 rfl) ?_
    refine lv_iconst (v := 0) hx hb dX7_takesTold_33 kic_0 ?_
    refine q_callV (rest := []) (n := 1) C (c_X7_worked l G b m_images m_at_ m_open_ m_steps m_use_ m_traced m_speaks m_isParted m_s (upd (upd (upd m_named (114 : Int32).toNatClampNeg p1) (110 : Int32).toNatClampNeg p2) (115 : Int32).toNatClampNeg p3) m_pile (0 : Int32) _ hv) ml_X7_124 kb_X7_worked rfl ⟨⟨rfl, rfl⟩, (Nat.le_of_ble_eq_true rfl), (Nat.le_of_ble_eq_true rfl)⟩ hW hS [0, 1, 2, 3] rfl rfl kc7 (q0 := 0) rfl hl.1 rfl (Nat.le_of_ble_eq_true rfl) dX7_takesTold_34 ⟨Nat.zero_le _, Nat.zero_le _⟩ (fun r_9 u_10 H locs hv hW hS => ?_)
    obtain ⟨m_pile_9, rfl⟩ : ∃ z, z = u_10 := ⟨_, rfl⟩
    try dsimp only at hv
    have hW : wo G A (wd_X7_9 G b m_images m_at_ m_open_ m_steps m_use_ m_traced m_speaks m_isParted m_s (upd (upd (upd m_named (114 : Int32).toNatClampNeg p1) (110 : Int32).toNatClampNeg p2) (115 : Int32).toNatClampNeg p3) m_pile_9) H := hW
    refine lv_goto (tgt := 41) hx hb dX7_takesTold_37 (by decide) ?_
    exact h_j_X7_takesTold_41 r_9 (upd (upd (upd m_named (114 : Int32).toNatClampNeg p1) (110 : Int32).toNatClampNeg p2) (115 : Int32).toNatClampNeg p3) m_pile_9 H locs ls hW hS (lv_sub hl [] rfl) hv
set_option maxHeartbeats 4000000 in
set_option maxRecDepth 100000 in
theorem c_X7_signTold (l : Launch) (G : Gt) (b : Nat → Nat) (m_images : Int32) (m_at_ : Int32) (m_open_ : Int32) (m_steps : Int32) (m_use_ : Int32) (m_traced : Int32) (m_speaks : Int32) (m_isParted : Int32) (m_s : Nat → Int32) (m_named : Nat → Int32) (m_pile : Nat → Int32) (p1 : Int32) (p2 : Int32) (p3 : Int32) (K : Int32 → (Nat → Int32) → (Nat → Int32) → Prop) (hv : v_X7_signTold p1 p2 p3 m_s m_named m_pile K) : CI l G yX7_signTold (.code yX7_signTold cX7_signTold 4 (some .int) :: wsG) (rmm 2 48) [.ref (b 0), .int p1, .int p2, .int p3] (wd_X7_9 G b m_images m_at_ m_open_ m_steps m_use_ m_traced m_speaks m_isParted m_s m_named m_pile) (S := (Nat → Int32) × (Nat → Int32)) (fun u => wd_X7_9 G b m_images m_at_ m_open_ m_steps m_use_ m_traced m_speaks m_isParted m_s u.1 u.2) (fun r u => K r u.1 u.2) := by
  refine ci_intro (by decide) rfl (fun _ => rfl) (Nat.le_of_ble_eq_true rfl) ?_
  intro p e s m args below meth c A H ls Q C hW hS hl ret
  have hx := C.1.1
  have hb := C.1.2.1
  generalize hls : ([] : List Loc) = locs at hS ⊢
  have hl : lv_has ls 4 [(0, .ref (b 0)), (1, .int p1), (2, .int p2), (3, .int p3)] := hl
  have h_j_X7_signTold_41 : ∀ (t0 : Int32) (m_named : Nat → Int32) (m_pile : Nat → Int32) (H : Heap) (locs : List Loc) (ls : Array Slot), wo G A (wd_X7_9 G b m_images m_at_ m_open_ m_steps m_use_ m_traced m_speaks m_isParted m_s m_named m_pile) H → va_S A s.heap H locs → lv_has ls 4 [] → j_X7_signTold_41 p1 p2 p3 m_s K t0 m_named m_pile → W p l e (rmm 2 48) s m args below meth c H locs 0 0 Q (F0 m 41 ls [.int t0]) := by
    intro t0 m_named m_pile H locs ls hW hS hl hv
    refine lv_iconst (v := 0) hx hb dX7_signTold_41 kic_0 ?_
    refine lv_bipush (v := 9) hx hb dX7_signTold_42 kbp_9 ?_
    refine q_callS (rest := []) (n := 3) C (c_X7_held l G t0 (0 : Int32) (9 : Int32) _ hv) ml_X7_127 kb_X7_held rfl ⟨⟨rfl, rfl⟩, (Nat.le_of_ble_eq_true rfl), (Nat.le_of_ble_eq_true rfl)⟩ hW hS hl.1 rfl (Nat.le_of_ble_eq_true rfl) dX7_signTold_44 ⟨Nat.zero_le _, Nat.zero_le _⟩ (fun r_7 u_8 H locs hv hW hS => ?_)
    try dsimp only at hv
    exact ret (m_named, m_pile) r_7 H locs ls _ rfl hW hS hv dX7_signTold_47
  refine lv_aload_n hx hb dX7_signTold_0 rfl (lv_at hl 0 rfl) ?_
  refine q_get C kc7 hW 0 rfl 10 (by decide) fl_X7_25 rfl rfl dX7_signTold_1 ?_
  refine lv_bipush (v := 103) hx hb dX7_signTold_4 kbp_103 ?_
  refine lv_iload_n hx hb dX7_signTold_6 rfl (lv_at hl 1 rfl) ?_
  obtain ⟨h_1, hv⟩ := hv
  refine q_iast C hW hS 2 rfl h_1 dX7_signTold_7 (fun H locs hW hS => ?_)
  have hW : wo G A (wd_X7_9 G b m_images m_at_ m_open_ m_steps m_use_ m_traced m_speaks m_isParted m_s (upd m_named (103 : Int32).toNatClampNeg p1) m_pile) H := hW
  refine lv_aload_n hx hb dX7_signTold_8 rfl (lv_at hl 0 rfl) ?_
  refine q_get C kc7 hW 0 rfl 10 (by decide) fl_X7_25 rfl rfl dX7_signTold_9 ?_
  refine lv_bipush (v := 110) hx hb dX7_signTold_12 kbp_110 ?_
  refine lv_iload_n hx hb dX7_signTold_14 rfl (lv_at hl 2 rfl) ?_
  obtain ⟨h_2, hv⟩ := hv
  refine q_iast C hW hS 2 rfl h_2 dX7_signTold_15 (fun H locs hW hS => ?_)
  have hW : wo G A (wd_X7_9 G b m_images m_at_ m_open_ m_steps m_use_ m_traced m_speaks m_isParted m_s (upd (upd m_named (103 : Int32).toNatClampNeg p1) (110 : Int32).toNatClampNeg p2) m_pile) H := hW
  refine lv_aload_n hx hb dX7_signTold_16 rfl (lv_at hl 0 rfl) ?_
  refine q_get C kc7 hW 0 rfl 10 (by decide) fl_X7_25 rfl rfl dX7_signTold_17 ?_
  refine lv_bipush (v := 100) hx hb dX7_signTold_20 kbp_100 ?_
  refine lv_iload_n hx hb dX7_signTold_22 rfl (lv_at hl 3 rfl) ?_
  obtain ⟨h_3, hv⟩ := hv
  refine q_iast C hW hS 2 rfl h_3 dX7_signTold_23 (fun H locs hW hS => ?_)
  have hW : wo G A (wd_X7_9 G b m_images m_at_ m_open_ m_steps m_use_ m_traced m_speaks m_isParted m_s (upd (upd (upd m_named (103 : Int32).toNatClampNeg p1) (110 : Int32).toNatClampNeg p2) (100 : Int32).toNatClampNeg p3) m_pile) H := hW
  refine lv_aload_n hx hb dX7_signTold_24 rfl (lv_at hl 0 rfl) ?_
  refine lv_iconst (v := 1) hx hb dX7_signTold_25 kic_1 ?_
  refine q_callV (rest := []) (n := 1) C (c_X7_hasText l G b m_images m_at_ m_open_ m_steps m_use_ m_traced m_speaks m_isParted m_s (1 : Int32) _ hv) ml_X7_113 kb_X7_hasText rfl ⟨⟨rfl, rfl⟩, (Nat.le_of_ble_eq_true rfl), (Nat.le_of_ble_eq_true rfl)⟩ hW hS [0, 1] rfl rfl kc7 (q0 := 0) rfl hl.1 rfl (Nat.le_of_ble_eq_true rfl) dX7_signTold_26 ⟨Nat.zero_le _, Nat.zero_le _⟩ (fun r_4 u_5 H locs hv hW hS => ?_)
  obtain ⟨hv_b_4, hv⟩ := hv
  try dsimp only at hv
  refine lv_if_eq (tgt := 40) hx hb dX7_signTold_29 (by decide) (fun c_6 => ?_) (fun c_6 => ?_)
  · replace hv := hv.1 c_6
    refine lv_iload_n hx hb dX7_signTold_40 rfl (lv_at hl 1 rfl) ?_
    exact h_j_X7_signTold_41 p1 (upd (upd (upd m_named (103 : Int32).toNatClampNeg p1) (110 : Int32).toNatClampNeg p2) (100 : Int32).toNatClampNeg p3) m_pile H locs ls hW hS (lv_sub hl [] rfl) hv
  · replace hv := hv.2 c_6
    refine lv_aload_n hx hb dX7_signTold_32 rfl (lv_at hl 0 rfl) ?_
    refine lv_iconst (v := 1) hx hb dX7_signTold_33 kic_1 ?_
    refine q_callV (rest := []) (n := 1) C (c_X7_worked l G b m_images m_at_ m_open_ m_steps m_use_ m_traced m_speaks m_isParted m_s (upd (upd (upd m_named (103 : Int32).toNatClampNeg p1) (110 : Int32).toNatClampNeg p2) (100 : Int32).toNatClampNeg p3) m_pile (1 : Int32) _ hv) ml_X7_124 kb_X7_worked rfl ⟨⟨rfl, rfl⟩, (Nat.le_of_ble_eq_true rfl), (Nat.le_of_ble_eq_true rfl)⟩ hW hS [0, 1, 2, 3] rfl rfl kc7 (q0 := 0) rfl hl.1 rfl (Nat.le_of_ble_eq_true rfl) dX7_signTold_34 ⟨Nat.zero_le _, Nat.zero_le _⟩ (fun r_9 u_10 H locs hv hW hS => ?_)
    obtain ⟨m_pile_9, rfl⟩ : ∃ z, z = u_10 := ⟨_, rfl⟩
    try dsimp only at hv
    have hW : wo G A (wd_X7_9 G b m_images m_at_ m_open_ m_steps m_use_ m_traced m_speaks m_isParted m_s (upd (upd (upd m_named (103 : Int32).toNatClampNeg p1) (110 : Int32).toNatClampNeg p2) (100 : Int32).toNatClampNeg p3) m_pile_9) H := hW
    refine lv_goto (tgt := 41) hx hb dX7_signTold_37 (by decide) ?_
    exact h_j_X7_signTold_41 r_9 (upd (upd (upd m_named (103 : Int32).toNatClampNeg p1) (110 : Int32).toNatClampNeg p2) (100 : Int32).toNatClampNeg p3) m_pile_9 H locs ls hW hS (lv_sub hl [] rfl) hv
set_option maxHeartbeats 4000000 in
set_option maxRecDepth 100000 in
theorem c_X7_takes (l : Launch) (G : Gt) (b : Nat → Nat) (m_images : Int32) (m_at_ : Int32) (m_open_ : Int32) (m_steps : Int32) (m_use_ : Int32) (m_traced : Int32) (m_speaks : Int32) (m_isParted : Int32) (m_s : Nat → Int32) (m_named : Nat → Int32) (m_pile : Nat → Int32) (p1 : Int32) (p2 : Int32) (K : Int32 → (Nat → Int32) → (Nat → Int32) → Prop) (hv : v_X7_takes p1 p2 m_s m_named m_pile K) : CI l G yX7_takes (.code yX7_takes cX7_takes 3 (some .int) :: wsG) (rmm 3 71) [.ref (b 0), .int p1, .int p2] (wd_X7_9 G b m_images m_at_ m_open_ m_steps m_use_ m_traced m_speaks m_isParted m_s m_named m_pile) (S := (Nat → Int32) × (Nat → Int32)) (fun u => wd_X7_9 G b m_images m_at_ m_open_ m_steps m_use_ m_traced m_speaks m_isParted m_s u.1 u.2) (fun r u => K r u.1 u.2) := by
  refine ci_intro (by decide) rfl (fun _ => rfl) (Nat.le_of_ble_eq_true rfl) ?_
  intro p e s m args below meth c A H ls Q C hW hS hl ret
  have hx := C.1.1
  have hb := C.1.2.1
  generalize hls : ([] : List Loc) = locs at hS ⊢
  have hl : lv_has ls 3 [(0, .ref (b 0)), (1, .int p1), (2, .int p2)] := hl
  refine lv_aload_n hx hb dX7_takes_0 rfl (lv_at hl 0 rfl) ?_
  refine lv_aload_n hx hb dX7_takes_1 rfl (lv_at hl 0 rfl) ?_
  refine lv_iload_n hx hb dX7_takes_2 rfl (lv_at hl 1 rfl) ?_
  refine lv_iload_n hx hb dX7_takes_3 rfl (lv_at hl 2 rfl) ?_
  refine q_callV (rest := [.ref (b 0)]) (n := 2) C (c_X7_readsOf l G b m_images m_at_ m_open_ m_steps m_use_ m_traced m_speaks m_isParted m_s p1 p2 _ hv) ml_X7_130 kb_X7_readsOf rfl ⟨⟨rfl, rfl⟩, (Nat.le_of_ble_eq_true rfl), (Nat.le_of_ble_eq_true rfl)⟩ hW hS [0, 1] rfl rfl kc7 (q0 := 0) rfl hl.1 rfl (Nat.le_of_ble_eq_true rfl) dX7_takes_4 ⟨Nat.zero_le _, Nat.zero_le _⟩ (fun r_1 u_2 H locs hv hW hS => ?_)
  try dsimp only at hv
  refine lv_aload_n hx hb dX7_takes_7 rfl (lv_at hl 0 rfl) ?_
  refine lv_iload_n hx hb dX7_takes_8 rfl (lv_at hl 2 rfl) ?_
  refine lv_iconst (v := 2) hx hb dX7_takes_9 kic_2 ?_
  refine q_callV (rest := [.int r_1, .ref (b 0)]) (n := 2) C (c_X7_its l G b m_images m_at_ m_open_ m_steps m_use_ m_traced m_speaks m_isParted m_s p2 (2 : Int32) _ hv) ml_X7_120 kb_X7_its rfl ⟨⟨rfl, rfl⟩, (Nat.le_of_ble_eq_true rfl), (Nat.le_of_ble_eq_true rfl)⟩ hW hS [0, 1] rfl rfl kc7 (q0 := 0) rfl hl.1 rfl (Nat.le_of_ble_eq_true rfl) dX7_takes_10 ⟨Nat.zero_le _, Nat.zero_le _⟩ (fun r_3 u_4 H locs hv hW hS => ?_)
  try dsimp only at hv
  refine lv_aload_n hx hb dX7_takes_13 rfl (lv_at hl 0 rfl) ?_
  refine lv_iload_n hx hb dX7_takes_14 rfl (lv_at hl 2 rfl) ?_
  refine lv_iconst (v := 3) hx hb dX7_takes_15 kic_3 ?_
  refine q_callV (rest := [.int r_3, .int r_1, .ref (b 0)]) (n := 2) C (c_X7_its l G b m_images m_at_ m_open_ m_steps m_use_ m_traced m_speaks m_isParted m_s p2 (3 : Int32) _ hv) ml_X7_120 kb_X7_its rfl ⟨⟨rfl, rfl⟩, (Nat.le_of_ble_eq_true rfl), (Nat.le_of_ble_eq_true rfl)⟩ hW hS [0, 1] rfl rfl kc7 (q0 := 0) rfl hl.1 rfl (Nat.le_of_ble_eq_true rfl) dX7_takes_16 ⟨Nat.zero_le _, Nat.zero_le _⟩ (fun r_5 u_6 H locs hv hW hS => ?_)
  try dsimp only at hv
  refine q_callV (rest := []) (n := 3) C (c_X7_takesTold l G b m_images m_at_ m_open_ m_steps m_use_ m_traced m_speaks m_isParted m_s m_named m_pile r_1 r_3 r_5 _ hv) ml_X7_133 kb_X7_takesTold rfl ⟨⟨rfl, rfl⟩, (Nat.le_of_ble_eq_true rfl), (Nat.le_of_ble_eq_true rfl)⟩ hW hS [0, 1, 2, 3] rfl rfl kc7 (q0 := 0) rfl hl.1 rfl (Nat.le_of_ble_eq_true rfl) dX7_takes_19 ⟨Nat.zero_le _, Nat.zero_le _⟩ (fun r_7 u_8 H locs hv hW hS => ?_)
  obtain ⟨m_named_7, m_pile_7⟩ := u_8
  try dsimp only at hv
  have hW : wo G A (wd_X7_9 G b m_images m_at_ m_open_ m_steps m_use_ m_traced m_speaks m_isParted m_s m_named_7 m_pile_7) H := hW
  exact ret (m_named_7, m_pile_7) r_7 H locs ls _ rfl hW hS hv dX7_takes_22
set_option maxHeartbeats 4000000 in
set_option maxRecDepth 100000 in
theorem c_X7_signOf (l : Launch) (G : Gt) (b : Nat → Nat) (m_images : Int32) (m_at_ : Int32) (m_open_ : Int32) (m_steps : Int32) (m_use_ : Int32) (m_traced : Int32) (m_speaks : Int32) (m_isParted : Int32) (m_s : Nat → Int32) (m_named : Nat → Int32) (m_pile : Nat → Int32) (p1 : Int32) (K : Int32 → (Nat → Int32) → (Nat → Int32) → Prop) (hv : v_X7_signOf p1 m_s m_named m_pile K) : CI l G yX7_signOf (.code yX7_signOf cX7_signOf 2 (some .int) :: wsG) (rmm 3 71) [.ref (b 0), .int p1] (wd_X7_9 G b m_images m_at_ m_open_ m_steps m_use_ m_traced m_speaks m_isParted m_s m_named m_pile) (S := (Nat → Int32) × (Nat → Int32)) (fun u => wd_X7_9 G b m_images m_at_ m_open_ m_steps m_use_ m_traced m_speaks m_isParted m_s u.1 u.2) (fun r u => K r u.1 u.2) := by
  refine ci_intro (by decide) rfl (fun _ => rfl) (Nat.le_of_ble_eq_true rfl) ?_
  intro p e s m args below meth c A H ls Q C hW hS hl ret
  have hx := C.1.1
  have hb := C.1.2.1
  generalize hls : ([] : List Loc) = locs at hS ⊢
  have hl : lv_has ls 2 [(0, .ref (b 0)), (1, .int p1)] := hl
  refine lv_aload_n hx hb dX7_signOf_0 rfl (lv_at hl 0 rfl) ?_
  refine lv_aload_n hx hb dX7_signOf_1 rfl (lv_at hl 0 rfl) ?_
  refine lv_iload_n hx hb dX7_signOf_2 rfl (lv_at hl 1 rfl) ?_
  refine q_callV (rest := [.ref (b 0)]) (n := 1) C (c_X7_tellsOf l G b m_images m_at_ m_open_ m_steps m_use_ m_traced m_speaks m_isParted m_s p1 _ hv) ml_X7_136 kb_X7_tellsOf rfl ⟨⟨rfl, rfl⟩, (Nat.le_of_ble_eq_true rfl), (Nat.le_of_ble_eq_true rfl)⟩ hW hS [0, 1] rfl rfl kc7 (q0 := 0) rfl hl.1 rfl (Nat.le_of_ble_eq_true rfl) dX7_signOf_3 ⟨Nat.zero_le _, Nat.zero_le _⟩ (fun r_1 u_2 H locs hv hW hS => ?_)
  try dsimp only at hv
  refine lv_aload_n hx hb dX7_signOf_6 rfl (lv_at hl 0 rfl) ?_
  refine lv_iload_n hx hb dX7_signOf_7 rfl (lv_at hl 1 rfl) ?_
  refine lv_iconst (v := 2) hx hb dX7_signOf_8 kic_2 ?_
  refine q_callV (rest := [.int r_1, .ref (b 0)]) (n := 2) C (c_X7_its l G b m_images m_at_ m_open_ m_steps m_use_ m_traced m_speaks m_isParted m_s p1 (2 : Int32) _ hv) ml_X7_120 kb_X7_its rfl ⟨⟨rfl, rfl⟩, (Nat.le_of_ble_eq_true rfl), (Nat.le_of_ble_eq_true rfl)⟩ hW hS [0, 1] rfl rfl kc7 (q0 := 0) rfl hl.1 rfl (Nat.le_of_ble_eq_true rfl) dX7_signOf_9 ⟨Nat.zero_le _, Nat.zero_le _⟩ (fun r_3 u_4 H locs hv hW hS => ?_)
  try dsimp only at hv
  refine lv_aload_n hx hb dX7_signOf_12 rfl (lv_at hl 0 rfl) ?_
  refine q_get C kc7 hW 0 rfl 0 (by decide) fl_X7_7 rfl rfl dX7_signOf_13 ?_
  refine lv_iconst (v := 0) hx hb dX7_signOf_16 kic_0 ?_
  obtain ⟨h_5, hv⟩ := hv
  refine q_iald C hW 1 rfl h_5 dX7_signOf_17 ?_
  refine lv_bipush (v := 7) hx hb dX7_signOf_18 kbp_7 ?_
  obtain ⟨h_6, hv⟩ := hv
  refine lv_irem hx hb dX7_signOf_20 h_6 ?_
  refine q_callV (rest := []) (n := 3) C (c_X7_signTold l G b m_images m_at_ m_open_ m_steps m_use_ m_traced m_speaks m_isParted m_s m_named m_pile r_1 r_3 ((m_s (0 : Int32).toNatClampNeg) - (m_s (0 : Int32).toNatClampNeg) / (7 : Int32) * (7 : Int32)) _ hv) ml_X7_139 kb_X7_signTold rfl ⟨⟨rfl, rfl⟩, (Nat.le_of_ble_eq_true rfl), (Nat.le_of_ble_eq_true rfl)⟩ hW hS [0, 1, 2, 3] rfl rfl kc7 (q0 := 0) rfl hl.1 rfl (Nat.le_of_ble_eq_true rfl) dX7_signOf_21 ⟨Nat.zero_le _, Nat.zero_le _⟩ (fun r_7 u_8 H locs hv hW hS => ?_)
  obtain ⟨m_named_7, m_pile_7⟩ := u_8
  try dsimp only at hv
  have hW : wo G A (wd_X7_9 G b m_images m_at_ m_open_ m_steps m_use_ m_traced m_speaks m_isParted m_s m_named_7 m_pile_7) H := hW
  exact ret (m_named_7, m_pile_7) r_7 H locs ls _ rfl hW hS hv dX7_signOf_24
set_option maxHeartbeats 4000000 in
set_option maxRecDepth 100000 in
theorem c_X7_findThen (l : Launch) (G : Gt) (b : Nat → Nat) (m_images : Int32) (m_at_ : Int32) (m_open_ : Int32) (m_steps : Int32) (m_use_ : Int32) (m_traced : Int32) (m_speaks : Int32) (m_isParted : Int32) (m_s : Nat → Int32) (m_named : Nat → Int32) (m_pile : Nat → Int32) (m_nearThen : Nat → Int32) (m_shownThen : Nat → Int32) (K : (Nat → Int32) → (Nat → Int32) → (Nat → Int32) → (Nat → Int32) → Prop) (hv : v_X7_findThen m_s m_named m_pile m_nearThen m_shownThen K) : CV l G yX7_findThen (.code yX7_findThen cX7_findThen 4 none :: wsG) (rmm 4 93) [.ref (b 0)] (wd_X7_10 G b m_images m_at_ m_open_ m_steps m_use_ m_traced m_speaks m_isParted m_s m_named m_pile m_nearThen m_shownThen) (S := (Nat → Int32) × (Nat → Int32) × (Nat → Int32) × (Nat → Int32)) (fun u => wd_X7_10 G b m_images m_at_ m_open_ m_steps m_use_ m_traced m_speaks m_isParted m_s u.1 u.2.1 u.2.2.1 u.2.2.2) (fun u => K u.1 u.2.1 u.2.2.1 u.2.2.2) := by
  refine cv_intro (by decide) rfl (fun _ => rfl) (Nat.le_of_ble_eq_true rfl) ?_
  intro p e s m args below meth c A H ls Q C hW hS hl ret
  have hx := C.1.1
  have hb := C.1.2.1
  generalize hls : ([] : List Loc) = locs at hS ⊢
  have hl : lv_has ls 4 [(0, .ref (b 0))] := hl
  have h_j_X7_findThen_84 : ∀ (B2 : Int32 → (Nat → Int32) → (Nat → Int32) → (Nat → Int32) → (Nat → Int32) → Prop) (hB2 : ∀ (x1 : Int32) (m_named : Nat → Int32) (m_pile : Nat → Int32) (m_nearThen : Nat → Int32) (m_shownThen : Nat → Int32) (H : Heap) (locs : List Loc) (ls : Array Slot), wo G A (wd_X7_10 G b m_images m_at_ m_open_ m_steps m_use_ m_traced m_speaks m_isParted m_s m_named m_pile m_nearThen m_shownThen) H → va_S A s.heap H locs → lv_has ls 4 [(0, .ref (b 0)), (1, .int x1)] → B2 x1 m_named m_pile m_nearThen m_shownThen → W p l e (rmm 4 93) s m args below meth c H locs 0 0 Q (F0 m 2 ls [])), ∀ (x1 : Int32) (t1 : Int32) (t2 : Int32) (m_named : Nat → Int32) (m_pile : Nat → Int32) (m_nearThen : Nat → Int32) (m_shownThen : Nat → Int32) (H : Heap) (locs : List Loc) (ls : Array Slot), wo G A (wd_X7_10 G b m_images m_at_ m_open_ m_steps m_use_ m_traced m_speaks m_isParted m_s m_named m_pile m_nearThen m_shownThen) H → va_S A s.heap H locs → lv_has ls 4 [(0, .ref (b 0)), (1, .int x1)] → j_X7_findThen_84 m_s B2 K x1 t1 t2 m_named m_pile m_nearThen m_shownThen → W p l e (rmm 4 93) s m args below meth c H locs 0 0 Q (F0 m 84 ls [.int t2, .int t1, .ref (b 8)]) := by
    intro B2 hB2 x1 t1 t2 m_named m_pile m_nearThen m_shownThen H locs ls hW hS hl hv
    obtain ⟨h_9, hv⟩ := hv
    refine q_iast C hW hS 4 rfl h_9 dX7_findThen_84 (fun H locs hW hS => ?_)
    have hW : wo G A (wd_X7_10 G b m_images m_at_ m_open_ m_steps m_use_ m_traced m_speaks m_isParted m_s m_named m_pile (upd m_nearThen t1.toNatClampNeg t2) m_shownThen) H := hW
    refine lv_aload_n hx hb dX7_findThen_85 rfl (lv_at hl 0 rfl) ?_
    refine q_get C kc7 hW 0 rfl 13 (by decide) fl_X7_34 rfl rfl dX7_findThen_86 ?_
    refine lv_iload_n hx hb dX7_findThen_89 rfl (lv_at hl 1 rfl) ?_
    refine lv_aload_n hx hb dX7_findThen_90 rfl (lv_at hl 0 rfl) ?_
    refine lv_iload_n hx hb dX7_findThen_91 rfl (lv_at hl 1 rfl) ?_
    refine q_callV (rest := [.int x1, .ref (b 9)]) (n := 1) C (c_X7_signOf l G b m_images m_at_ m_open_ m_steps m_use_ m_traced m_speaks m_isParted m_s m_named m_pile x1 _ hv) ml_X7_145 kb_X7_signOf rfl ⟨⟨rfl, rfl⟩, (Nat.le_of_ble_eq_true rfl), (Nat.le_of_ble_eq_true rfl)⟩ hW hS [0, 1, 2, 3] rfl rfl kc7 (q0 := 0) rfl hl.1 rfl (Nat.le_of_ble_eq_true rfl) dX7_findThen_92 ⟨Nat.zero_le _, Nat.zero_le _⟩ (fun r_10 u_11 H locs hv hW hS => ?_)
    obtain ⟨m_named_10, m_pile_10⟩ := u_11
    try dsimp only at hv
    have hW : wo G A (wd_X7_10 G b m_images m_at_ m_open_ m_steps m_use_ m_traced m_speaks m_isParted m_s m_named_10 m_pile_10 (upd m_nearThen t1.toNatClampNeg t2) m_shownThen) H := hW
    obtain ⟨h_12, hv⟩ := hv
    refine q_iast C hW hS 5 rfl h_12 dX7_findThen_95 (fun H locs hW hS => ?_)
    have hW : wo G A (wd_X7_10 G b m_images m_at_ m_open_ m_steps m_use_ m_traced m_speaks m_isParted m_s m_named_10 m_pile_10 (upd m_nearThen t1.toNatClampNeg t2) (upd m_shownThen x1.toNatClampNeg r_10)) H := hW
    refine lv_iinc (v := (x1 + 1)) (lv' := [(1, .int (x1 + 1)), (0, .ref (b 0))]) hx hb dX7_findThen_96 hl (k := 1) rfl rfl (by decide) rfl (fun ls hl => ?_)
    refine lv_goto (tgt := 2) hx hb dX7_findThen_99 (by decide) ?_
    exact hB2 (x1 + 1) m_named_10 m_pile_10 (upd m_nearThen t1.toNatClampNeg t2) (upd m_shownThen x1.toNatClampNeg r_10) H locs ls hW hS (lv_sub hl [1, 0] rfl) hv
  have h_j_X7_findThen_42 : ∀ (B2 : Int32 → (Nat → Int32) → (Nat → Int32) → (Nat → Int32) → (Nat → Int32) → Prop) (hB2 : ∀ (x1 : Int32) (m_named : Nat → Int32) (m_pile : Nat → Int32) (m_nearThen : Nat → Int32) (m_shownThen : Nat → Int32) (H : Heap) (locs : List Loc) (ls : Array Slot), wo G A (wd_X7_10 G b m_images m_at_ m_open_ m_steps m_use_ m_traced m_speaks m_isParted m_s m_named m_pile m_nearThen m_shownThen) H → va_S A s.heap H locs → lv_has ls 4 [(0, .ref (b 0)), (1, .int x1)] → B2 x1 m_named m_pile m_nearThen m_shownThen → W p l e (rmm 4 93) s m args below meth c H locs 0 0 Q (F0 m 2 ls [])) (B16 : Int32 → Int32 → Int32 → (Nat → Int32) → (Nat → Int32) → (Nat → Int32) → (Nat → Int32) → Prop) (hB16 : ∀ (x1 : Int32) (x2 : Int32) (x3 : Int32) (m_named : Nat → Int32) (m_pile : Nat → Int32) (m_nearThen : Nat → Int32) (m_shownThen : Nat → Int32) (H : Heap) (locs : List Loc) (ls : Array Slot), wo G A (wd_X7_10 G b m_images m_at_ m_open_ m_steps m_use_ m_traced m_speaks m_isParted m_s m_named m_pile m_nearThen m_shownThen) H → va_S A s.heap H locs → lv_has ls 4 [(0, .ref (b 0)), (1, .int x1), (2, .int x2), (3, .int x3)] → B16 x1 x2 x3 m_named m_pile m_nearThen m_shownThen → W p l e (rmm 4 93) s m args below meth c H locs 0 0 Q (F0 m 16 ls [])), ∀ (x1 : Int32) (x3 : Int32) (t0 : Int32) (t1 : Int32) (m_named : Nat → Int32) (m_pile : Nat → Int32) (m_nearThen : Nat → Int32) (m_shownThen : Nat → Int32) (H : Heap) (locs : List Loc) (ls : Array Slot), wo G A (wd_X7_10 G b m_images m_at_ m_open_ m_steps m_use_ m_traced m_speaks m_isParted m_s m_named m_pile m_nearThen m_shownThen) H → va_S A s.heap H locs → lv_has ls 4 [(0, .ref (b 0)), (1, .int x1), (3, .int x3)] → j_X7_findThen_42 m_s B2 B16 K x1 x3 t0 t1 m_named m_pile m_nearThen m_shownThen → W p l e (rmm 4 93) s m args below meth c H locs 0 0 Q (F0 m 42 ls [.int t1, .int t0]) := by
    intro B2 hB2 B16 hB16 x1 x3 t0 t1 m_named m_pile m_nearThen m_shownThen H locs ls hW hS hl hv
    refine lv_iadd hx hb dX7_findThen_42 ?_
    refine lv_istore_n (lv' := [(2, .int (t0 + t1)), (0, .ref (b 0)), (1, .int x1), (3, .int x3)]) hx hb dX7_findThen_43 rfl hl (by decide) rfl (fun ls hl => ?_)
    refine lv_iinc (v := (x3 + 1)) (lv' := [(3, .int (x3 + 1)), (2, .int (t0 + t1)), (0, .ref (b 0)), (1, .int x1)]) hx hb dX7_findThen_44 hl (k := 3) rfl rfl (by decide) rfl (fun ls hl => ?_)
    refine lv_goto (tgt := 16) hx hb dX7_findThen_47 (by decide) ?_
    exact hB16 x1 (t0 + t1) (x3 + 1) m_named m_pile m_nearThen m_shownThen H locs ls hW hS (lv_sub hl [2, 3, 1, 0] rfl) hv
  have h_l_X7_findThen_16 : ∀ (B2 : Int32 → (Nat → Int32) → (Nat → Int32) → (Nat → Int32) → (Nat → Int32) → Prop) (hB2 : ∀ (x1 : Int32) (m_named : Nat → Int32) (m_pile : Nat → Int32) (m_nearThen : Nat → Int32) (m_shownThen : Nat → Int32) (H : Heap) (locs : List Loc) (ls : Array Slot), wo G A (wd_X7_10 G b m_images m_at_ m_open_ m_steps m_use_ m_traced m_speaks m_isParted m_s m_named m_pile m_nearThen m_shownThen) H → va_S A s.heap H locs → lv_has ls 4 [(0, .ref (b 0)), (1, .int x1)] → B2 x1 m_named m_pile m_nearThen m_shownThen → W p l e (rmm 4 93) s m args below meth c H locs 0 0 Q (F0 m 2 ls [])) (n : Nat), ∀ (x1 : Int32) (x2 : Int32) (x3 : Int32) (m_named : Nat → Int32) (m_pile : Nat → Int32) (m_nearThen : Nat → Int32) (m_shownThen : Nat → Int32) (H : Heap) (locs : List Loc) (ls : Array Slot), wo G A (wd_X7_10 G b m_images m_at_ m_open_ m_steps m_use_ m_traced m_speaks m_isParted m_s m_named m_pile m_nearThen m_shownThen) H → va_S A s.heap H locs → lv_has ls 4 [(0, .ref (b 0)), (1, .int x1), (2, .int x2), (3, .int x3)] → l_X7_findThen_16 m_s B2 K n x1 x2 x3 m_named m_pile m_nearThen m_shownThen → W p l e (rmm 4 93) s m args below meth c H locs 0 0 Q (F0 m 16 ls []) := by
    intro B2 hB2 n
    induction n with
    | zero =>
      intro x1 x2 x3 m_named m_pile m_nearThen m_shownThen H locs ls hW hS hl hv
      exact False.elim hv
    | succ n ih =>
      intro x1 x2 x3 m_named m_pile m_nearThen m_shownThen H locs ls hW hS hl hv
      refine lv_iload_n hx hb dX7_findThen_16 rfl (lv_at hl 3 rfl) ?_
      refine lv_aload_n hx hb dX7_findThen_17 rfl (lv_at hl 0 rfl) ?_
      refine q_get C kc7 hW 0 rfl 0 (by decide) fl_X7_7 rfl rfl dX7_findThen_18 ?_
      refine lv_iconst (v := 4) hx hb dX7_findThen_21 kic_4 ?_
      obtain ⟨h_3, hv⟩ := hv
      refine q_iald C hW 1 rfl h_3 dX7_findThen_22 ?_
      refine lv_icmp_ge (tgt := 50) hx hb dX7_findThen_23 (by decide) (fun c_4 => ?_) (fun c_4 => ?_)
      · replace hv := hv.1 c_4
        refine lv_aload_n hx hb dX7_findThen_50 rfl (lv_at hl 0 rfl) ?_
        refine q_get C kc7 hW 0 rfl 12 (by decide) fl_X7_31 rfl rfl dX7_findThen_51 ?_
        refine lv_iload_n hx hb dX7_findThen_54 rfl (lv_at hl 1 rfl) ?_
        refine lv_aload_n hx hb dX7_findThen_55 rfl (lv_at hl 0 rfl) ?_
        refine q_get C kc7 hW 0 rfl 0 (by decide) fl_X7_7 rfl rfl dX7_findThen_56 ?_
        refine lv_iconst (v := 4) hx hb dX7_findThen_59 kic_4 ?_
        obtain ⟨h_5, hv⟩ := hv
        refine q_iald C hW 1 rfl h_5 dX7_findThen_60 ?_
        refine lv_iconst (v := 1) hx hb dX7_findThen_61 kic_1 ?_
        refine lv_icmp_ne (tgt := 74) hx hb dX7_findThen_62 (by decide) (fun c_6 => ?_) (fun c_6 => ?_)
        · replace hv := hv.1 c_6
          refine lv_iload_n hx hb dX7_findThen_74 rfl (lv_at hl 2 rfl) ?_
          refine lv_aload_n hx hb dX7_findThen_75 rfl (lv_at hl 0 rfl) ?_
          refine q_get C kc7 hW 0 rfl 0 (by decide) fl_X7_7 rfl rfl dX7_findThen_76 ?_
          refine lv_iconst (v := 4) hx hb dX7_findThen_79 kic_4 ?_
          obtain ⟨h_7, hv⟩ := hv
          refine q_iald C hW 1 rfl h_7 dX7_findThen_80 ?_
          refine lv_iconst (v := 1) hx hb dX7_findThen_81 kic_1 ?_
          refine lv_isub hx hb dX7_findThen_82 ?_
          obtain ⟨h_8, hv⟩ := hv
          refine lv_idiv hx hb dX7_findThen_83 h_8 ?_
          exact h_j_X7_findThen_84 B2 hB2 x1 x1 (x2 / ((m_s (4 : Int32).toNatClampNeg) - (1 : Int32))) m_named m_pile m_nearThen m_shownThen H locs ls hW hS (lv_sub hl [0, 1] rfl) hv
        · replace hv := hv.2 c_6
          refine lv_aload_n hx hb dX7_findThen_65 rfl (lv_at hl 0 rfl) ?_
          refine lv_iload_n hx hb dX7_findThen_66 rfl (lv_at hl 1 rfl) ?_
          refine lv_iconst (v := 2) hx hb dX7_findThen_67 kic_2 ?_
          refine q_callV (rest := [.int x1, .ref (b 8)]) (n := 2) C (c_X7_its l G b m_images m_at_ m_open_ m_steps m_use_ m_traced m_speaks m_isParted m_s x1 (2 : Int32) _ hv) ml_X7_120 kb_X7_its rfl ⟨⟨rfl, rfl⟩, (Nat.le_of_ble_eq_true rfl), (Nat.le_of_ble_eq_true rfl)⟩ hW hS [0, 1] rfl rfl kc7 (q0 := 0) rfl hl.1 rfl (Nat.le_of_ble_eq_true rfl) dX7_findThen_68 ⟨Nat.zero_le _, Nat.zero_le _⟩ (fun r_13 u_14 H locs hv hW hS => ?_)
          try dsimp only at hv
          refine lv_goto (tgt := 84) hx hb dX7_findThen_71 (by decide) ?_
          exact h_j_X7_findThen_84 B2 hB2 x1 x1 r_13 m_named m_pile m_nearThen m_shownThen H locs ls hW hS (lv_sub hl [0, 1] rfl) hv
      · replace hv := hv.2 c_4
        refine lv_iload_n hx hb dX7_findThen_26 rfl (lv_at hl 2 rfl) ?_
        refine lv_iload_n hx hb dX7_findThen_27 rfl (lv_at hl 3 rfl) ?_
        refine lv_iload_n hx hb dX7_findThen_28 rfl (lv_at hl 1 rfl) ?_
        refine lv_icmp_ne (tgt := 36) hx hb dX7_findThen_29 (by decide) (fun c_15 => ?_) (fun c_15 => ?_)
        · replace hv := hv.1 c_15
          refine lv_aload_n hx hb dX7_findThen_36 rfl (lv_at hl 0 rfl) ?_
          refine lv_iload_n hx hb dX7_findThen_37 rfl (lv_at hl 3 rfl) ?_
          refine lv_iload_n hx hb dX7_findThen_38 rfl (lv_at hl 1 rfl) ?_
          refine q_callV (rest := [.int x2]) (n := 2) C (c_X7_takes l G b m_images m_at_ m_open_ m_steps m_use_ m_traced m_speaks m_isParted m_s m_named m_pile x3 x1 _ hv) ml_X7_142 kb_X7_takes rfl ⟨⟨rfl, rfl⟩, (Nat.le_of_ble_eq_true rfl), (Nat.le_of_ble_eq_true rfl)⟩ hW hS [0, 1, 2, 3] rfl rfl kc7 (q0 := 0) rfl hl.1 rfl (Nat.le_of_ble_eq_true rfl) dX7_findThen_39 ⟨Nat.zero_le _, Nat.zero_le _⟩ (fun r_16 u_17 H locs hv hW hS => ?_)
          obtain ⟨m_named_16, m_pile_16⟩ := u_17
          try dsimp only at hv
          have hW : wo G A (wd_X7_10 G b m_images m_at_ m_open_ m_steps m_use_ m_traced m_speaks m_isParted m_s m_named_16 m_pile_16 m_nearThen m_shownThen) H := hW
          exact h_j_X7_findThen_42 B2 hB2 (fun x1' x2' x3' m_named' m_pile' m_nearThen' m_shownThen' => l_X7_findThen_16 m_s B2 K n x1' x2' x3' m_named' m_pile' m_nearThen' m_shownThen') ih x1 x3 x2 r_16 m_named_16 m_pile_16 m_nearThen m_shownThen H locs ls hW hS (lv_sub hl [0, 1, 3] rfl) hv
        · replace hv := hv.2 c_15
          refine lv_iconst (v := 0) hx hb dX7_findThen_32 kic_0 ?_
          refine lv_goto (tgt := 42) hx hb dX7_findThen_33 (by decide) ?_
          exact h_j_X7_findThen_42 B2 hB2 (fun x1' x2' x3' m_named' m_pile' m_nearThen' m_shownThen' => l_X7_findThen_16 m_s B2 K n x1' x2' x3' m_named' m_pile' m_nearThen' m_shownThen') ih x1 x3 x2 (0 : Int32) m_named m_pile m_nearThen m_shownThen H locs ls hW hS (lv_sub hl [0, 1, 3] rfl) hv
  have h_l_X7_findThen_2 : ∀ (n : Nat), ∀ (x1 : Int32) (m_named : Nat → Int32) (m_pile : Nat → Int32) (m_nearThen : Nat → Int32) (m_shownThen : Nat → Int32) (H : Heap) (locs : List Loc) (ls : Array Slot), wo G A (wd_X7_10 G b m_images m_at_ m_open_ m_steps m_use_ m_traced m_speaks m_isParted m_s m_named m_pile m_nearThen m_shownThen) H → va_S A s.heap H locs → lv_has ls 4 [(0, .ref (b 0)), (1, .int x1)] → l_X7_findThen_2 m_s K n x1 m_named m_pile m_nearThen m_shownThen → W p l e (rmm 4 93) s m args below meth c H locs 0 0 Q (F0 m 2 ls []) := by
    intro n
    induction n with
    | zero =>
      intro x1 m_named m_pile m_nearThen m_shownThen H locs ls hW hS hl hv
      exact False.elim hv
    | succ n ih =>
      intro x1 m_named m_pile m_nearThen m_shownThen H locs ls hW hS hl hv
      refine lv_iload_n hx hb dX7_findThen_2 rfl (lv_at hl 1 rfl) ?_
      refine lv_aload_n hx hb dX7_findThen_3 rfl (lv_at hl 0 rfl) ?_
      refine q_get C kc7 hW 0 rfl 0 (by decide) fl_X7_7 rfl rfl dX7_findThen_4 ?_
      refine lv_iconst (v := 4) hx hb dX7_findThen_7 kic_4 ?_
      obtain ⟨h_1, hv⟩ := hv
      refine q_iald C hW 1 rfl h_1 dX7_findThen_8 ?_
      refine lv_icmp_ge (tgt := 102) hx hb dX7_findThen_9 (by decide) (fun c_2 => ?_) (fun c_2 => ?_)
      · replace hv := hv.1 c_2
        exact ret (m_named, m_pile, m_nearThen, m_shownThen) H locs ls _ hW hS hv dX7_findThen_102
      · replace hv := hv.2 c_2
        refine lv_iconst (v := 0) hx hb dX7_findThen_12 kic_0 ?_
        refine lv_istore_n (lv' := [(2, .int (0 : Int32)), (0, .ref (b 0)), (1, .int x1)]) hx hb dX7_findThen_13 rfl hl (by decide) rfl (fun ls hl => ?_)
        refine lv_iconst (v := 0) hx hb dX7_findThen_14 kic_0 ?_
        refine lv_istore_n (lv' := [(3, .int (0 : Int32)), (2, .int (0 : Int32)), (0, .ref (b 0)), (1, .int x1)]) hx hb dX7_findThen_15 rfl hl (by decide) rfl (fun ls hl => ?_)
        obtain ⟨n_18, hv⟩ := hv
        exact h_l_X7_findThen_16 (fun x1' m_named' m_pile' m_nearThen' m_shownThen' => l_X7_findThen_2 m_s K n x1' m_named' m_pile' m_nearThen' m_shownThen') ih n_18 x1 (0 : Int32) (0 : Int32) m_named m_pile m_nearThen m_shownThen H locs ls hW hS (lv_sub hl [2, 3, 1, 0] rfl) hv
  refine lv_iconst (v := 0) hx hb dX7_findThen_0 kic_0 ?_
  refine lv_istore_n (lv' := [(1, .int (0 : Int32)), (0, .ref (b 0))]) hx hb dX7_findThen_1 rfl hl (by decide) rfl (fun ls hl => ?_)
  obtain ⟨n_19, hv⟩ := hv
  exact h_l_X7_findThen_2 n_19 (0 : Int32) m_named m_pile m_nearThen m_shownThen H locs ls hW hS (lv_sub hl [1, 0] rfl) hv
