set_option maxHeartbeats 4000000 in
set_option maxRecDepth 100000 in
theorem c_X7_loose (l : Launch) (G : Gt) (b : Nat → Nat) (m_images : Int32) (m_at_ : Int32) (m_open_ : Int32) (m_steps : Int32) (m_use_ : Int32) (m_traced : Int32) (m_speaks : Int32) (m_isParted : Int32) (m_s : Nat → Int32) (m_errors : Nat → Int32) (m_named : Nat → Int32) (m_pile : Nat → Int32) (m_nearThen : Nat → Int32) (m_shownThen : Nat → Int32) (p1 : Int32) (K : Int32 → (Nat → Int32) → (Nat → Int32) → (Nat → Int32) → (Nat → Int32) → (Nat → Int32) → (Nat → Int32) → Prop) (hv : v_X7_loose p1 m_s m_errors m_named m_pile m_nearThen m_shownThen K) : CI l G yX7_loose (.code yX7_loose cX7_loose 4 (some .int) :: wsG) (rmm 6 137) [.ref (b 0), .int p1] (wd_X7_13 G b m_images m_at_ m_open_ m_steps m_use_ m_traced m_speaks m_isParted m_s m_errors m_named m_pile m_nearThen m_shownThen) (S := (Nat → Int32) × (Nat → Int32) × (Nat → Int32) × (Nat → Int32) × (Nat → Int32) × (Nat → Int32)) (fun u => wd_X7_13 G b m_images m_at_ m_open_ m_steps m_use_ m_traced m_speaks m_isParted u.1 u.2.1 u.2.2.1 u.2.2.2.1 u.2.2.2.2.1 u.2.2.2.2.2) (fun r u => K r u.1 u.2.1 u.2.2.1 u.2.2.2.1 u.2.2.2.2.1 u.2.2.2.2.2) := by
  refine ci_intro (by decide) rfl (fun _ => rfl) (Nat.le_of_ble_eq_true rfl) ?_
  intro p e s m args below meth c A H ls Q C hW hS hl ret
  have hx := C.1.1
  have hb := C.1.2.1
  generalize hls : ([] : List Loc) = locs at hS ⊢
  have hl : lv_has ls 4 [(0, .ref (b 0)), (1, .int p1)] := hl
  have h_j_X7_loose_39 : ∀ (B20 : Int32 → (Nat → Int32) → (Nat → Int32) → (Nat → Int32) → (Nat → Int32) → (Nat → Int32) → (Nat → Int32) → Prop) (hB20 : ∀ (x3 : Int32) (m_s : Nat → Int32) (m_errors : Nat → Int32) (m_named : Nat → Int32) (m_pile : Nat → Int32) (m_nearThen : Nat → Int32) (m_shownThen : Nat → Int32) (H : Heap) (locs : List Loc) (ls : Array Slot), wo G A (wd_X7_13 G b m_images m_at_ m_open_ m_steps m_use_ m_traced m_speaks m_isParted m_s m_errors m_named m_pile m_nearThen m_shownThen) H → va_S A s.heap H locs → lv_has ls 4 [(0, .ref (b 0)), (1, .int p1), (3, .int x3)] → B20 x3 m_s m_errors m_named m_pile m_nearThen m_shownThen → W p l e (rmm 6 137) s m args below meth c H locs 0 0 Q (F0 m 20 ls [])), ∀ (x3 : Int32) (m_s : Nat → Int32) (m_errors : Nat → Int32) (m_named : Nat → Int32) (m_pile : Nat → Int32) (m_nearThen : Nat → Int32) (m_shownThen : Nat → Int32) (H : Heap) (locs : List Loc) (ls : Array Slot), wo G A (wd_X7_13 G b m_images m_at_ m_open_ m_steps m_use_ m_traced m_speaks m_isParted m_s m_errors m_named m_pile m_nearThen m_shownThen) H → va_S A s.heap H locs → lv_has ls 4 [(0, .ref (b 0)), (1, .int p1), (3, .int x3)] → j_X7_loose_39 p1 B20 K x3 m_s m_errors m_named m_pile m_nearThen m_shownThen → W p l e (rmm 6 137) s m args below meth c H locs 0 0 Q (F0 m 39 ls []) := by
    intro B20 hB20 x3 m_s m_errors m_named m_pile m_nearThen m_shownThen H locs ls hW hS hl hv
    refine lv_aload_n hx hb dX7_loose_39 rfl (lv_at hl 0 rfl) ?_
    refine q_callVv (rest := []) (n := 0) C (c_X7_aDay l G b m_images m_at_ m_open_ m_steps m_use_ m_traced m_speaks m_isParted m_s m_named m_pile m_nearThen m_shownThen _ hv) ml_X7_155 kb_X7_aDay rfl ⟨⟨rfl, rfl⟩, (Nat.le_of_ble_eq_true rfl), (Nat.le_of_ble_eq_true rfl)⟩ hW hS [0, 1, 3, 4, 5, 6] rfl rfl kc7 (q0 := 0) rfl hl.1 rfl (Nat.le_of_ble_eq_true rfl) dX7_loose_40 ⟨Nat.zero_le _, Nat.zero_le _⟩ (fun u_10 H locs hv hW hS => ?_)
    obtain ⟨m_s_9, m_named_9, m_pile_9, m_nearThen_9, m_shownThen_9⟩ := u_10
    try dsimp only at hv
    have hW : wo G A (wd_X7_13 G b m_images m_at_ m_open_ m_steps m_use_ m_traced m_speaks m_isParted m_s_9 m_errors m_named_9 m_pile_9 m_nearThen_9 m_shownThen_9) H := hW
    refine lv_iinc (v := (x3 + 1)) (lv' := [(3, .int (x3 + 1)), (0, .ref (b 0)), (1, .int p1)]) hx hb dX7_loose_43 hl (k := 2) rfl rfl (by decide) rfl (fun ls hl => ?_)
    refine lv_goto (tgt := 20) hx hb dX7_loose_46 (by decide) ?_
    exact hB20 (x3 + 1) m_s_9 m_errors m_named_9 m_pile_9 m_nearThen_9 m_shownThen_9 H locs ls hW hS (lv_sub hl [1, 2, 0] rfl) hv
  have h_l_X7_loose_20 : ∀ (n : Nat), ∀ (x3 : Int32) (m_s : Nat → Int32) (m_errors : Nat → Int32) (m_named : Nat → Int32) (m_pile : Nat → Int32) (m_nearThen : Nat → Int32) (m_shownThen : Nat → Int32) (H : Heap) (locs : List Loc) (ls : Array Slot), wo G A (wd_X7_13 G b m_images m_at_ m_open_ m_steps m_use_ m_traced m_speaks m_isParted m_s m_errors m_named m_pile m_nearThen m_shownThen) H → va_S A s.heap H locs → lv_has ls 4 [(0, .ref (b 0)), (1, .int p1), (3, .int x3)] → l_X7_loose_20 p1 K n x3 m_s m_errors m_named m_pile m_nearThen m_shownThen → W p l e (rmm 6 137) s m args below meth c H locs 0 0 Q (F0 m 20 ls []) := by
    intro n
    induction n with
    | zero =>
      intro x3 m_s m_errors m_named m_pile m_nearThen m_shownThen H locs ls hW hS hl hv
      exact False.elim hv
    | succ n ih =>
      intro x3 m_s m_errors m_named m_pile m_nearThen m_shownThen H locs ls hW hS hl hv
      refine lv_iload_n hx hb dX7_loose_20 rfl (lv_at hl 2 rfl) ?_
      refine lv_iload_n hx hb dX7_loose_21 rfl (lv_at hl 1 rfl) ?_
      refine lv_icmp_ge (tgt := 49) hx hb dX7_loose_22 (by decide) (fun c_4 => ?_) (fun c_4 => ?_)
      · replace hv := hv.1 c_4
        refine lv_aload_n hx hb dX7_loose_49 rfl (lv_at hl 0 rfl) ?_
        refine q_callV (rest := []) (n := 0) C (c_X7_nearestNow l G b m_images m_at_ m_open_ m_steps m_use_ m_traced m_speaks m_isParted m_s _ hv) ml_X7_188 kb_X7_nearestNow rfl ⟨⟨rfl, rfl⟩, (Nat.le_of_ble_eq_true rfl), (Nat.le_of_ble_eq_true rfl)⟩ hW hS [0, 1] rfl rfl kc7 (q0 := 0) rfl hl.1 rfl (Nat.le_of_ble_eq_true rfl) dX7_loose_50 ⟨Nat.zero_le _, Nat.zero_le _⟩ (fun r_5 u_6 H locs hv hW hS => ?_)
        try dsimp only at hv
        exact ret (m_s, m_errors, m_named, m_pile, m_nearThen, m_shownThen) r_5 H locs ls _ rfl hW hS hv dX7_loose_53
      · replace hv := hv.2 c_4
        refine lv_aload_n hx hb dX7_loose_25 rfl (lv_at hl 0 rfl) ?_
        refine q_get C kc7 hW 0 rfl 0 (by decide) fl_X7_7 rfl rfl dX7_loose_26 ?_
        refine lv_iconst (v := 4) hx hb dX7_loose_29 kic_4 ?_
        obtain ⟨h_7, hv⟩ := hv
        refine q_iald C hW 1 rfl h_7 dX7_loose_30 ?_
        refine lv_iconst (v := 1) hx hb dX7_loose_31 kic_1 ?_
        refine lv_icmp_le (tgt := 39) hx hb dX7_loose_32 (by decide) (fun c_8 => ?_) (fun c_8 => ?_)
        · replace hv := hv.1 c_8
          exact h_j_X7_loose_39 (fun x3' m_s' m_errors' m_named' m_pile' m_nearThen' m_shownThen' => l_X7_loose_20 p1 K n x3' m_s' m_errors' m_named' m_pile' m_nearThen' m_shownThen') ih x3 m_s m_errors m_named m_pile m_nearThen m_shownThen H locs ls hW hS (lv_sub hl [0, 1, 2] rfl) hv
        · replace hv := hv.2 c_8
          refine lv_aload_n hx hb dX7_loose_35 rfl (lv_at hl 0 rfl) ?_
          refine q_callVv (rest := []) (n := 0) C (c_X7_errands l G b m_images m_at_ m_open_ m_steps m_use_ m_traced m_speaks m_isParted m_s _ hv) ml_X7_185 kb_X7_errands rfl ⟨⟨rfl, rfl⟩, (Nat.le_of_ble_eq_true rfl), (Nat.le_of_ble_eq_true rfl)⟩ hW hS [0, 1] rfl rfl kc7 (q0 := 0) rfl hl.1 rfl (Nat.le_of_ble_eq_true rfl) dX7_loose_36 ⟨Nat.zero_le _, Nat.zero_le _⟩ (fun u_12 H locs hv hW hS => ?_)
          obtain ⟨m_s_11, rfl⟩ : ∃ z, z = u_12 := ⟨_, rfl⟩
          try dsimp only at hv
          have hW : wo G A (wd_X7_13 G b m_images m_at_ m_open_ m_steps m_use_ m_traced m_speaks m_isParted m_s_11 m_errors m_named m_pile m_nearThen m_shownThen) H := hW
          exact h_j_X7_loose_39 (fun x3' m_s' m_errors' m_named' m_pile' m_nearThen' m_shownThen' => l_X7_loose_20 p1 K n x3' m_s' m_errors' m_named' m_pile' m_nearThen' m_shownThen') ih x3 m_s_11 m_errors m_named m_pile m_nearThen m_shownThen H locs ls hW hS (lv_sub hl [0, 1, 2] rfl) hv
  refine lv_aload_n hx hb dX7_loose_0 rfl (lv_at hl 0 rfl) ?_
  refine lv_iload_n hx hb dX7_loose_1 rfl (lv_at hl 1 rfl) ?_
  refine lv_bipush (v := 30) hx hb dX7_loose_2 kbp_30 ?_
  refine q_callV (rest := []) (n := 2) C (c_X7_whyNot l G b m_images m_at_ m_open_ m_steps m_use_ m_traced m_speaks m_isParted m_s p1 (30 : Int32) _ hv) ml_X7_175 kb_X7_whyNot rfl ⟨⟨rfl, rfl⟩, (Nat.le_of_ble_eq_true rfl), (Nat.le_of_ble_eq_true rfl)⟩ hW hS [0, 1] rfl rfl kc7 (q0 := 0) rfl hl.1 rfl (Nat.le_of_ble_eq_true rfl) dX7_loose_4 ⟨Nat.zero_le _, Nat.zero_le _⟩ (fun r_1 u_2 H locs hv hW hS => ?_)
  try dsimp only at hv
  refine lv_istore_n (lv' := [(2, .int r_1), (0, .ref (b 0)), (1, .int p1)]) hx hb dX7_loose_7 rfl hl (by decide) rfl (fun ls hl => ?_)
  refine lv_iload_n hx hb dX7_loose_8 rfl (lv_at hl 0 rfl) ?_
  refine lv_if_eq (tgt := 18) hx hb dX7_loose_9 (by decide) (fun c_3 => ?_) (fun c_3 => ?_)
  · replace hv := hv.1 c_3
    refine lv_iconst (v := 0) hx hb dX7_loose_18 kic_0 ?_
    refine lv_istore_n (lv' := [(3, .int (0 : Int32)), (2, .int r_1), (0, .ref (b 0)), (1, .int p1)]) hx hb dX7_loose_19 rfl hl (by decide) rfl (fun ls hl => ?_)
    obtain ⟨n_13, hv⟩ := hv
    exact h_l_X7_loose_20 n_13 (0 : Int32) m_s m_errors m_named m_pile m_nearThen m_shownThen H locs ls hW hS (lv_sub hl [2, 3, 0] rfl) hv
  · replace hv := hv.2 c_3
    refine lv_aload_n hx hb dX7_loose_12 rfl (lv_at hl 1 rfl) ?_
    refine lv_iload_n hx hb dX7_loose_13 rfl (lv_at hl 0 rfl) ?_
    refine q_callV (rest := []) (n := 1) C (c_X7_error l G b m_images m_at_ m_open_ m_steps m_use_ m_traced m_speaks m_isParted m_errors r_1 _ hv) ml_X7_61 kb_X7_error rfl ⟨⟨rfl, rfl⟩, (Nat.le_of_ble_eq_true rfl), (Nat.le_of_ble_eq_true rfl)⟩ hW hS [0, 2] rfl rfl kc7 (q0 := 0) rfl hl.1 rfl (Nat.le_of_ble_eq_true rfl) dX7_loose_14 ⟨Nat.zero_le _, Nat.zero_le _⟩ (fun r_14 u_15 H locs hv hW hS => ?_)
    obtain ⟨m_errors_14, rfl⟩ : ∃ z, z = u_15 := ⟨_, rfl⟩
    try dsimp only at hv
    have hW : wo G A (wd_X7_13 G b m_images m_at_ m_open_ m_steps m_use_ m_traced m_speaks m_isParted m_s m_errors_14 m_named m_pile m_nearThen m_shownThen) H := hW
    exact ret (m_s, m_errors_14, m_named, m_pile, m_nearThen, m_shownThen) r_14 H locs ls _ rfl hW hS hv dX7_loose_17
set_option maxHeartbeats 4000000 in
set_option maxRecDepth 100000 in
theorem c_X7_seed (l : Launch) (G : Gt) (b : Nat → Nat) (m_images : Int32) (m_at_ : Int32) (m_open_ : Int32) (m_steps : Int32) (m_use_ : Int32) (m_traced : Int32) (m_speaks : Int32) (m_isParted : Int32) (m_s : Nat → Int32) (p1 : Int32) (K : Int32 → (Nat → Int32) → Prop) (hv : v_X7_seed p1 m_s K) : CI l G yX7_seed (.code yX7_seed cX7_seed 2 (some .int) :: wsG) (rmm 1 23) [.ref (b 0), .int p1] (wd_X7_3 G b m_images m_at_ m_open_ m_steps m_use_ m_traced m_speaks m_isParted m_s) (S := (Nat → Int32)) (fun u => wd_X7_3 G b m_images m_at_ m_open_ m_steps m_use_ m_traced m_speaks m_isParted u) (fun r u => K r u) := by
  refine ci_intro (by decide) rfl (fun _ => rfl) (Nat.le_of_ble_eq_true rfl) ?_
  intro p e s m args below meth c A H ls Q C hW hS hl ret
  have hx := C.1.1
  have hb := C.1.2.1
  generalize hls : ([] : List Loc) = locs at hS ⊢
  have hl : lv_has ls 2 [(0, .ref (b 0)), (1, .int p1)] := hl
  refine lv_aload_n hx hb dX7_seed_0 rfl (lv_at hl 0 rfl) ?_
  refine lv_iconst (v := 1) hx hb dX7_seed_1 kic_1 ?_
  refine lv_iload_n hx hb dX7_seed_2 rfl (lv_at hl 1 rfl) ?_
  refine q_callV (rest := []) (n := 2) C (c_X7_change1 l G b m_images m_at_ m_open_ m_steps m_use_ m_traced m_speaks m_isParted m_s (1 : Int32) p1 _ hv) ml_X7_162 kb_X7_change1 rfl ⟨⟨rfl, rfl⟩, (Nat.le_of_ble_eq_true rfl), (Nat.le_of_ble_eq_true rfl)⟩ hW hS [0, 1] rfl rfl kc7 (q0 := 0) rfl hl.1 rfl (Nat.le_of_ble_eq_true rfl) dX7_seed_3 ⟨Nat.zero_le _, Nat.zero_le _⟩ (fun r_1 u_2 H locs hv hW hS => ?_)
  obtain ⟨m_s_1, rfl⟩ : ∃ z, z = u_2 := ⟨_, rfl⟩
  try dsimp only at hv
  have hW : wo G A (wd_X7_3 G b m_images m_at_ m_open_ m_steps m_use_ m_traced m_speaks m_isParted m_s_1) H := hW
  exact ret (m_s_1) r_1 H locs ls _ rfl hW hS hv dX7_seed_6
set_option maxHeartbeats 4000000 in
set_option maxRecDepth 100000 in
theorem c_X7_nearest (l : Launch) (G : Gt) (b : Nat → Nat) (m_images : Int32) (m_at_ : Int32) (m_open_ : Int32) (m_steps : Int32) (m_use_ : Int32) (m_traced : Int32) (m_speaks : Int32) (m_isParted : Int32) (m_s : Nat → Int32) (m_laid : Nat → Int32) (m_errors : Nat → Int32) (m_named : Nat → Int32) (m_pile : Nat → Int32) (m_nearThen : Nat → Int32) (m_shownThen : Nat → Int32) (p1 : Int32) (K : Int32 → (Nat → Int32) → (Nat → Int32) → (Nat → Int32) → (Nat → Int32) → (Nat → Int32) → (Nat → Int32) → (Nat → Int32) → Prop) (hv : v_X7_nearest p1 m_s m_laid m_errors m_named m_pile m_nearThen m_shownThen K) : CI l G yX7_nearest (.code yX7_nearest cX7_nearest 3 (some .int) :: wsG) (rmm 7 159) [.ref (b 0), .int p1] (wd_X7_14 G b m_images m_at_ m_open_ m_steps m_use_ m_traced m_speaks m_isParted m_s m_laid m_errors m_named m_pile m_nearThen m_shownThen) (S := (Nat → Int32) × (Nat → Int32) × (Nat → Int32) × (Nat → Int32) × (Nat → Int32) × (Nat → Int32) × (Nat → Int32)) (fun u => wd_X7_14 G b m_images m_at_ m_open_ m_steps m_use_ m_traced m_speaks m_isParted u.1 u.2.1 u.2.2.1 u.2.2.2.1 u.2.2.2.2.1 u.2.2.2.2.2.1 u.2.2.2.2.2.2) (fun r u => K r u.1 u.2.1 u.2.2.1 u.2.2.2.1 u.2.2.2.2.1 u.2.2.2.2.2.1 u.2.2.2.2.2.2) := by
  refine ci_intro (by decide) rfl (fun _ => rfl) (Nat.le_of_ble_eq_true rfl) ?_
  intro p e s m args below meth c A H ls Q C hW hS hl ret
  have hx := C.1.1
  have hb := C.1.2.1
  generalize hls : ([] : List Loc) = locs at hS ⊢
  have hl : lv_has ls 3 [(0, .ref (b 0)), (1, .int p1)] := hl
  refine lv_iload_n hx hb dX7_nearest_0 rfl (lv_at hl 1 rfl) ?_
  refine lv_iconst (v := 0) hx hb dX7_nearest_1 kic_0 ?_
  refine lv_bipush (v := 100) hx hb dX7_nearest_2 kbp_100 ?_
  refine q_callS (rest := []) (n := 3) C (c_X7_in l G p1 (0 : Int32) (100 : Int32) _ hv) ml_X7_53 kb_X7_in rfl ⟨⟨rfl, rfl⟩, (Nat.le_of_ble_eq_true rfl), (Nat.le_of_ble_eq_true rfl)⟩ hW hS hl.1 rfl (Nat.le_of_ble_eq_true rfl) dX7_nearest_4 ⟨Nat.zero_le _, Nat.zero_le _⟩ (fun r_1 u_2 H locs hv hW hS => ?_)
  obtain ⟨hv_b_1, hv⟩ := hv
  try dsimp only at hv
  refine lv_if_ne (tgt := 16) hx hb dX7_nearest_7 (by decide) (fun c_3 => ?_) (fun c_3 => ?_)
  · replace hv := hv.1 c_3
    refine lv_aload_n hx hb dX7_nearest_16 rfl (lv_at hl 0 rfl) ?_
    refine q_get C kc7 hW 0 rfl 0 (by decide) fl_X7_7 rfl rfl dX7_nearest_17 ?_
    refine lv_iconst (v := 4) hx hb dX7_nearest_20 kic_4 ?_
    obtain ⟨h_4, hv⟩ := hv
    refine q_iald C hW 1 rfl h_4 dX7_nearest_21 ?_
    refine lv_if_ne (tgt := 31) hx hb dX7_nearest_22 (by decide) (fun c_5 => ?_) (fun c_5 => ?_)
    · replace hv := hv.1 c_5
      refine lv_aload_n hx hb dX7_nearest_31 rfl (lv_at hl 0 rfl) ?_
      refine q_callVv (rest := []) (n := 0) C (c_X7_layDown l G b m_images m_at_ m_open_ m_steps m_use_ m_traced m_speaks m_isParted m_s m_laid _ hv) ml_X7_191 kb_X7_layDown rfl ⟨⟨rfl, rfl⟩, (Nat.le_of_ble_eq_true rfl), (Nat.le_of_ble_eq_true rfl)⟩ hW hS [0, 1, 2] rfl rfl kc7 (q0 := 0) rfl hl.1 rfl (Nat.le_of_ble_eq_true rfl) dX7_nearest_32 ⟨Nat.zero_le _, Nat.zero_le _⟩ (fun u_7 H locs hv hW hS => ?_)
      obtain ⟨m_laid_6, rfl⟩ : ∃ z, z = u_7 := ⟨_, rfl⟩
      try dsimp only at hv
      have hW : wo G A (wd_X7_14 G b m_images m_at_ m_open_ m_steps m_use_ m_traced m_speaks m_isParted m_s m_laid_6 m_errors m_named m_pile m_nearThen m_shownThen) H := hW
      refine lv_aload_n hx hb dX7_nearest_35 rfl (lv_at hl 0 rfl) ?_
      refine lv_iload_n hx hb dX7_nearest_36 rfl (lv_at hl 1 rfl) ?_
      refine q_callVv (rest := []) (n := 1) C (c_X7_goes l G b m_images m_at_ m_open_ m_steps m_use_ m_traced m_speaks m_isParted m_s m_named m_pile m_nearThen m_shownThen p1 _ hv) ml_X7_178 kb_X7_goes rfl ⟨⟨rfl, rfl⟩, (Nat.le_of_ble_eq_true rfl), (Nat.le_of_ble_eq_true rfl)⟩ hW hS [0, 1, 4, 5, 6, 7] rfl rfl kc7 (q0 := 0) rfl hl.1 rfl (Nat.le_of_ble_eq_true rfl) dX7_nearest_37 ⟨Nat.zero_le _, Nat.zero_le _⟩ (fun u_9 H locs hv hW hS => ?_)
      obtain ⟨m_s_8, m_named_8, m_pile_8, m_nearThen_8, m_shownThen_8⟩ := u_9
      try dsimp only at hv
      have hW : wo G A (wd_X7_14 G b m_images m_at_ m_open_ m_steps m_use_ m_traced m_speaks m_isParted m_s_8 m_laid_6 m_errors m_named_8 m_pile_8 m_nearThen_8 m_shownThen_8) H := hW
      refine lv_aload_n hx hb dX7_nearest_40 rfl (lv_at hl 0 rfl) ?_
      refine q_callV (rest := []) (n := 0) C (c_X7_nearestNow l G b m_images m_at_ m_open_ m_steps m_use_ m_traced m_speaks m_isParted m_s_8 _ hv) ml_X7_188 kb_X7_nearestNow rfl ⟨⟨rfl, rfl⟩, (Nat.le_of_ble_eq_true rfl), (Nat.le_of_ble_eq_true rfl)⟩ hW hS [0, 1] rfl rfl kc7 (q0 := 0) rfl hl.1 rfl (Nat.le_of_ble_eq_true rfl) dX7_nearest_41 ⟨Nat.zero_le _, Nat.zero_le _⟩ (fun r_10 u_11 H locs hv hW hS => ?_)
      try dsimp only at hv
      refine lv_istore_n (lv' := [(2, .int r_10), (0, .ref (b 0)), (1, .int p1)]) hx hb dX7_nearest_44 rfl hl (by decide) rfl (fun ls hl => ?_)
      refine lv_aload_n hx hb dX7_nearest_45 rfl (lv_at hl 1 rfl) ?_
      refine q_callVv (rest := []) (n := 0) C (c_X7_layBack l G b m_images m_at_ m_open_ m_steps m_use_ m_traced m_speaks m_isParted m_s_8 m_laid_6 _ hv) ml_X7_194 kb_X7_layBack rfl ⟨⟨rfl, rfl⟩, (Nat.le_of_ble_eq_true rfl), (Nat.le_of_ble_eq_true rfl)⟩ hW hS [0, 1, 2] rfl rfl kc7 (q0 := 0) rfl hl.1 rfl (Nat.le_of_ble_eq_true rfl) dX7_nearest_46 ⟨Nat.zero_le _, Nat.zero_le _⟩ (fun u_13 H locs hv hW hS => ?_)
      obtain ⟨m_s_12, rfl⟩ : ∃ z, z = u_13 := ⟨_, rfl⟩
      try dsimp only at hv
      have hW : wo G A (wd_X7_14 G b m_images m_at_ m_open_ m_steps m_use_ m_traced m_speaks m_isParted m_s_12 m_laid_6 m_errors m_named_8 m_pile_8 m_nearThen_8 m_shownThen_8) H := hW
      refine lv_iload_n hx hb dX7_nearest_49 rfl (lv_at hl 0 rfl) ?_
      exact ret (m_s_12, m_laid_6, m_errors, m_named_8, m_pile_8, m_nearThen_8, m_shownThen_8) r_10 H locs ls _ rfl hW hS hv dX7_nearest_50
    · replace hv := hv.2 c_5
      refine lv_aload_n hx hb dX7_nearest_25 rfl (lv_at hl 0 rfl) ?_
      refine lv_iconst (v := 3) hx hb dX7_nearest_26 kic_3 ?_
      refine q_callV (rest := []) (n := 1) C (c_X7_error l G b m_images m_at_ m_open_ m_steps m_use_ m_traced m_speaks m_isParted m_errors (3 : Int32) _ hv) ml_X7_61 kb_X7_error rfl ⟨⟨rfl, rfl⟩, (Nat.le_of_ble_eq_true rfl), (Nat.le_of_ble_eq_true rfl)⟩ hW hS [0, 3] rfl rfl kc7 (q0 := 0) rfl hl.1 rfl (Nat.le_of_ble_eq_true rfl) dX7_nearest_27 ⟨Nat.zero_le _, Nat.zero_le _⟩ (fun r_14 u_15 H locs hv hW hS => ?_)
      obtain ⟨m_errors_14, rfl⟩ : ∃ z, z = u_15 := ⟨_, rfl⟩
      try dsimp only at hv
      have hW : wo G A (wd_X7_14 G b m_images m_at_ m_open_ m_steps m_use_ m_traced m_speaks m_isParted m_s m_laid m_errors_14 m_named m_pile m_nearThen m_shownThen) H := hW
      exact ret (m_s, m_laid, m_errors_14, m_named, m_pile, m_nearThen, m_shownThen) r_14 H locs ls _ rfl hW hS hv dX7_nearest_30
  · replace hv := hv.2 c_3
    refine lv_aload_n hx hb dX7_nearest_10 rfl (lv_at hl 0 rfl) ?_
    refine lv_iconst (v := 1) hx hb dX7_nearest_11 kic_1 ?_
    refine q_callV (rest := []) (n := 1) C (c_X7_error l G b m_images m_at_ m_open_ m_steps m_use_ m_traced m_speaks m_isParted m_errors (1 : Int32) _ hv) ml_X7_61 kb_X7_error rfl ⟨⟨rfl, rfl⟩, (Nat.le_of_ble_eq_true rfl), (Nat.le_of_ble_eq_true rfl)⟩ hW hS [0, 3] rfl rfl kc7 (q0 := 0) rfl hl.1 rfl (Nat.le_of_ble_eq_true rfl) dX7_nearest_12 ⟨Nat.zero_le _, Nat.zero_le _⟩ (fun r_16 u_17 H locs hv hW hS => ?_)
    obtain ⟨m_errors_16, rfl⟩ : ∃ z, z = u_17 := ⟨_, rfl⟩
    try dsimp only at hv
    have hW : wo G A (wd_X7_14 G b m_images m_at_ m_open_ m_steps m_use_ m_traced m_speaks m_isParted m_s m_laid m_errors_16 m_named m_pile m_nearThen m_shownThen) H := hW
    exact ret (m_s, m_laid, m_errors_16, m_named, m_pile, m_nearThen, m_shownThen) r_16 H locs ls _ rfl hW hS hv dX7_nearest_15
set_option maxHeartbeats 4000000 in
set_option maxRecDepth 100000 in
theorem c_X7_then (l : Launch) (G : Gt) (b : Nat → Nat) (m_images : Int32) (m_at_ : Int32) (m_open_ : Int32) (m_steps : Int32) (m_use_ : Int32) (m_traced : Int32) (m_speaks : Int32) (m_isParted : Int32) (m_s : Nat → Int32) (m_laid : Nat → Int32) (m_errors : Nat → Int32) (m_named : Nat → Int32) (m_pile : Nat → Int32) (m_nearThen : Nat → Int32) (m_shownThen : Nat → Int32) (p1 : Int32) (p2 : Int32) (p3 : Int32) (K : Int32 → (Nat → Int32) → (Nat → Int32) → (Nat → Int32) → (Nat → Int32) → (Nat → Int32) → (Nat → Int32) → (Nat → Int32) → Prop) (hv : v_X7_then p1 p2 p3 m_s m_laid m_errors m_named m_pile m_nearThen m_shownThen K) : CI l G yX7_then (.code yX7_then cX7_then 5 (some .int) :: wsG) (rmm 7 159) [.ref (b 0), .int p1, .int p2, .int p3] (wd_X7_14 G b m_images m_at_ m_open_ m_steps m_use_ m_traced m_speaks m_isParted m_s m_laid m_errors m_named m_pile m_nearThen m_shownThen) (S := (Nat → Int32) × (Nat → Int32) × (Nat → Int32) × (Nat → Int32) × (Nat → Int32) × (Nat → Int32) × (Nat → Int32)) (fun u => wd_X7_14 G b m_images m_at_ m_open_ m_steps m_use_ m_traced m_speaks m_isParted u.1 u.2.1 u.2.2.1 u.2.2.2.1 u.2.2.2.2.1 u.2.2.2.2.2.1 u.2.2.2.2.2.2) (fun r u => K r u.1 u.2.1 u.2.2.1 u.2.2.2.1 u.2.2.2.2.1 u.2.2.2.2.2.1 u.2.2.2.2.2.2) := by
  refine ci_intro (by decide) rfl (fun _ => rfl) (Nat.le_of_ble_eq_true rfl) ?_
  intro p e s m args below meth c A H ls Q C hW hS hl ret
  have hx := C.1.1
  have hb := C.1.2.1
  generalize hls : ([] : List Loc) = locs at hS ⊢
  have hl : lv_has ls 5 [(0, .ref (b 0)), (1, .int p1), (2, .int p2), (3, .int p3)] := hl
  have h_j_X7_then_27 : ∀ (m_s : Nat → Int32) (m_laid : Nat → Int32) (m_errors : Nat → Int32) (m_named : Nat → Int32) (m_pile : Nat → Int32) (m_nearThen : Nat → Int32) (m_shownThen : Nat → Int32) (H : Heap) (locs : List Loc) (ls : Array Slot), wo G A (wd_X7_14 G b m_images m_at_ m_open_ m_steps m_use_ m_traced m_speaks m_isParted m_s m_laid m_errors m_named m_pile m_nearThen m_shownThen) H → va_S A s.heap H locs → lv_has ls 5 [(0, .ref (b 0))] → j_X7_then_27 p1 p2 p3 K m_s m_laid m_errors m_named m_pile m_nearThen m_shownThen → W p l e (rmm 7 159) s m args below meth c H locs 0 0 Q (F0 m 27 ls []) := by
    intro m_s m_laid m_errors m_named m_pile m_nearThen m_shownThen H locs ls hW hS hl hv
    refine lv_aload_n hx hb dX7_then_27 rfl (lv_at hl 0 rfl) ?_
    refine lv_iconst (v := 1) hx hb dX7_then_28 kic_1 ?_
    refine q_callV (rest := []) (n := 1) C (c_X7_error l G b m_images m_at_ m_open_ m_steps m_use_ m_traced m_speaks m_isParted m_errors (1 : Int32) _ hv) ml_X7_61 kb_X7_error rfl ⟨⟨rfl, rfl⟩, (Nat.le_of_ble_eq_true rfl), (Nat.le_of_ble_eq_true rfl)⟩ hW hS [0, 3] rfl rfl kc7 (q0 := 0) rfl hl.1 rfl (Nat.le_of_ble_eq_true rfl) dX7_then_29 ⟨Nat.zero_le _, Nat.zero_le _⟩ (fun r_4 u_5 H locs hv hW hS => ?_)
    obtain ⟨m_errors_4, rfl⟩ : ∃ z, z = u_5 := ⟨_, rfl⟩
    try dsimp only at hv
    have hW : wo G A (wd_X7_14 G b m_images m_at_ m_open_ m_steps m_use_ m_traced m_speaks m_isParted m_s m_laid m_errors_4 m_named m_pile m_nearThen m_shownThen) H := hW
    exact ret (m_s, m_laid, m_errors_4, m_named, m_pile, m_nearThen, m_shownThen) r_4 H locs ls _ rfl hW hS hv dX7_then_32
  refine lv_aload_n hx hb dX7_then_0 rfl (lv_at hl 0 rfl) ?_
  refine lv_iload_n hx hb dX7_then_1 rfl (lv_at hl 1 rfl) ?_
  refine q_callV (rest := []) (n := 1) C (c_X7_isPerson l G b m_images m_at_ m_open_ m_steps m_use_ m_traced m_speaks m_isParted m_s p1 _ hv) ml_X7_57 kb_X7_isPerson rfl ⟨⟨rfl, rfl⟩, (Nat.le_of_ble_eq_true rfl), (Nat.le_of_ble_eq_true rfl)⟩ hW hS [0, 1] rfl rfl kc7 (q0 := 0) rfl hl.1 rfl (Nat.le_of_ble_eq_true rfl) dX7_then_2 ⟨Nat.zero_le _, Nat.zero_le _⟩ (fun r_1 u_2 H locs hv hW hS => ?_)
  obtain ⟨hv_b_1, hv⟩ := hv
  try dsimp only at hv
  refine lv_if_eq (tgt := 27) hx hb dX7_then_5 (by decide) (fun c_3 => ?_) (fun c_3 => ?_)
  · replace hv := hv.1 c_3
    exact h_j_X7_then_27 m_s m_laid m_errors m_named m_pile m_nearThen m_shownThen H locs ls hW hS (lv_sub hl [0] rfl) hv
  · replace hv := hv.2 c_3
    refine lv_iload_n hx hb dX7_then_8 rfl (lv_at hl 2 rfl) ?_
    refine lv_iconst (v := 0) hx hb dX7_then_9 kic_0 ?_
    refine lv_bipush (v := 100) hx hb dX7_then_10 kbp_100 ?_
    refine q_callS (rest := []) (n := 3) C (c_X7_in l G p2 (0 : Int32) (100 : Int32) _ hv) ml_X7_53 kb_X7_in rfl ⟨⟨rfl, rfl⟩, (Nat.le_of_ble_eq_true rfl), (Nat.le_of_ble_eq_true rfl)⟩ hW hS hl.1 rfl (Nat.le_of_ble_eq_true rfl) dX7_then_12 ⟨Nat.zero_le _, Nat.zero_le _⟩ (fun r_6 u_7 H locs hv hW hS => ?_)
    obtain ⟨hv_b_6, hv⟩ := hv
    try dsimp only at hv
    refine lv_if_eq (tgt := 27) hx hb dX7_then_15 (by decide) (fun c_8 => ?_) (fun c_8 => ?_)
    · replace hv := hv.1 c_8
      exact h_j_X7_then_27 m_s m_laid m_errors m_named m_pile m_nearThen m_shownThen H locs ls hW hS (lv_sub hl [0] rfl) hv
    · replace hv := hv.2 c_8
      refine lv_iload_n hx hb dX7_then_18 rfl (lv_at hl 3 rfl) ?_
      refine lv_iconst (v := 0) hx hb dX7_then_19 kic_0 ?_
      refine lv_iconst (v := 1) hx hb dX7_then_20 kic_1 ?_
      refine q_callS (rest := []) (n := 3) C (c_X7_in l G p3 (0 : Int32) (1 : Int32) _ hv) ml_X7_53 kb_X7_in rfl ⟨⟨rfl, rfl⟩, (Nat.le_of_ble_eq_true rfl), (Nat.le_of_ble_eq_true rfl)⟩ hW hS hl.1 rfl (Nat.le_of_ble_eq_true rfl) dX7_then_21 ⟨Nat.zero_le _, Nat.zero_le _⟩ (fun r_9 u_10 H locs hv hW hS => ?_)
      obtain ⟨hv_b_9, hv⟩ := hv
      try dsimp only at hv
      refine lv_if_ne (tgt := 33) hx hb dX7_then_24 (by decide) (fun c_11 => ?_) (fun c_11 => ?_)
      · replace hv := hv.1 c_11
        refine lv_aload_n hx hb dX7_then_33 rfl (lv_at hl 0 rfl) ?_
        refine q_callVv (rest := []) (n := 0) C (c_X7_layDown l G b m_images m_at_ m_open_ m_steps m_use_ m_traced m_speaks m_isParted m_s m_laid _ hv) ml_X7_191 kb_X7_layDown rfl ⟨⟨rfl, rfl⟩, (Nat.le_of_ble_eq_true rfl), (Nat.le_of_ble_eq_true rfl)⟩ hW hS [0, 1, 2] rfl rfl kc7 (q0 := 0) rfl hl.1 rfl (Nat.le_of_ble_eq_true rfl) dX7_then_34 ⟨Nat.zero_le _, Nat.zero_le _⟩ (fun u_13 H locs hv hW hS => ?_)
        obtain ⟨m_laid_12, rfl⟩ : ∃ z, z = u_13 := ⟨_, rfl⟩
        try dsimp only at hv
        have hW : wo G A (wd_X7_14 G b m_images m_at_ m_open_ m_steps m_use_ m_traced m_speaks m_isParted m_s m_laid_12 m_errors m_named m_pile m_nearThen m_shownThen) H := hW
        refine lv_aload_n hx hb dX7_then_37 rfl (lv_at hl 0 rfl) ?_
        refine lv_iload_n hx hb dX7_then_38 rfl (lv_at hl 2 rfl) ?_
        refine q_callVv (rest := []) (n := 1) C (c_X7_goes l G b m_images m_at_ m_open_ m_steps m_use_ m_traced m_speaks m_isParted m_s m_named m_pile m_nearThen m_shownThen p2 _ hv) ml_X7_178 kb_X7_goes rfl ⟨⟨rfl, rfl⟩, (Nat.le_of_ble_eq_true rfl), (Nat.le_of_ble_eq_true rfl)⟩ hW hS [0, 1, 4, 5, 6, 7] rfl rfl kc7 (q0 := 0) rfl hl.1 rfl (Nat.le_of_ble_eq_true rfl) dX7_then_39 ⟨Nat.zero_le _, Nat.zero_le _⟩ (fun u_15 H locs hv hW hS => ?_)
        obtain ⟨m_s_14, m_named_14, m_pile_14, m_nearThen_14, m_shownThen_14⟩ := u_15
        try dsimp only at hv
        have hW : wo G A (wd_X7_14 G b m_images m_at_ m_open_ m_steps m_use_ m_traced m_speaks m_isParted m_s_14 m_laid_12 m_errors m_named_14 m_pile_14 m_nearThen_14 m_shownThen_14) H := hW
        refine lv_aload_n hx hb dX7_then_42 rfl (lv_at hl 0 rfl) ?_
        refine lv_iload_n hx hb dX7_then_43 rfl (lv_at hl 1 rfl) ?_
        refine lv_iconst (v := 2) hx hb dX7_then_44 kic_2 ?_
        refine lv_iload_n hx hb dX7_then_45 rfl (lv_at hl 3 rfl) ?_
        refine lv_iadd hx hb dX7_then_46 ?_
        refine q_callV (rest := []) (n := 2) C (c_X7_its l G b m_images m_at_ m_open_ m_steps m_use_ m_traced m_speaks m_isParted m_s_14 p1 ((2 : Int32) + p3) _ hv) ml_X7_120 kb_X7_its rfl ⟨⟨rfl, rfl⟩, (Nat.le_of_ble_eq_true rfl), (Nat.le_of_ble_eq_true rfl)⟩ hW hS [0, 1] rfl rfl kc7 (q0 := 0) rfl hl.1 rfl (Nat.le_of_ble_eq_true rfl) dX7_then_47 ⟨Nat.zero_le _, Nat.zero_le _⟩ (fun r_16 u_17 H locs hv hW hS => ?_)
        try dsimp only at hv
        refine lv_istore (lv' := [(4, .int r_16), (0, .ref (b 0)), (1, .int p1), (2, .int p2), (3, .int p3)]) hx hb dX7_then_50 hl (by decide) rfl (fun ls hl => ?_)
        refine lv_aload_n hx hb dX7_then_52 rfl (lv_at hl 1 rfl) ?_
        refine q_callVv (rest := []) (n := 0) C (c_X7_layBack l G b m_images m_at_ m_open_ m_steps m_use_ m_traced m_speaks m_isParted m_s_14 m_laid_12 _ hv) ml_X7_194 kb_X7_layBack rfl ⟨⟨rfl, rfl⟩, (Nat.le_of_ble_eq_true rfl), (Nat.le_of_ble_eq_true rfl)⟩ hW hS [0, 1, 2] rfl rfl kc7 (q0 := 0) rfl hl.1 rfl (Nat.le_of_ble_eq_true rfl) dX7_then_53 ⟨Nat.zero_le _, Nat.zero_le _⟩ (fun u_19 H locs hv hW hS => ?_)
        obtain ⟨m_s_18, rfl⟩ : ∃ z, z = u_19 := ⟨_, rfl⟩
        try dsimp only at hv
        have hW : wo G A (wd_X7_14 G b m_images m_at_ m_open_ m_steps m_use_ m_traced m_speaks m_isParted m_s_18 m_laid_12 m_errors m_named_14 m_pile_14 m_nearThen_14 m_shownThen_14) H := hW
        refine lv_iload hx hb dX7_then_56 (lv_at hl 0 rfl) ?_
        exact ret (m_s_18, m_laid_12, m_errors, m_named_14, m_pile_14, m_nearThen_14, m_shownThen_14) r_16 H locs ls _ rfl hW hS hv dX7_then_58
      · replace hv := hv.2 c_11
        exact h_j_X7_then_27 m_s m_laid m_errors m_named m_pile m_nearThen m_shownThen H locs ls hW hS (lv_sub hl [0] rfl) hv
set_option maxHeartbeats 4000000 in
set_option maxRecDepth 100000 in
theorem c_X7_isSettled (l : Launch) (G : Gt) (b : Nat → Nat) (m_images : Int32) (m_at_ : Int32) (m_open_ : Int32) (m_steps : Int32) (m_use_ : Int32) (m_traced : Int32) (m_speaks : Int32) (m_isParted : Int32) (m_s : Nat → Int32) (m_named : Nat → Int32) (m_pile : Nat → Int32) (m_nearThen : Nat → Int32) (m_shownThen : Nat → Int32) (K : Int32 → (Nat → Int32) → (Nat → Int32) → (Nat → Int32) → (Nat → Int32) → Prop) (hv : v_X7_isSettled m_s m_named m_pile m_nearThen m_shownThen K) : CI l G yX7_isSettled (.code yX7_isSettled cX7_isSettled 3 (some .boolean) :: wsG) (rmm 5 116) [.ref (b 0)] (wd_X7_10 G b m_images m_at_ m_open_ m_steps m_use_ m_traced m_speaks m_isParted m_s m_named m_pile m_nearThen m_shownThen) (S := (Nat → Int32) × (Nat → Int32) × (Nat → Int32) × (Nat → Int32)) (fun u => wd_X7_10 G b m_images m_at_ m_open_ m_steps m_use_ m_traced m_speaks m_isParted m_s u.1 u.2.1 u.2.2.1 u.2.2.2) (fun r u => (r = 0 ∨ r = 1) ∧ K r u.1 u.2.1 u.2.2.1 u.2.2.2) := by
  refine ci_intro (by decide) rfl (fun _ => rfl) (Nat.le_of_ble_eq_true rfl) ?_
  intro p e s m args below meth c A H ls Q C hW hS hl ret
  have hx := C.1.1
  have hb := C.1.2.1
  generalize hls : ([] : List Loc) = locs at hS ⊢
  have hl : lv_has ls 3 [(0, .ref (b 0))] := hl
  have h_j_X7_isSettled_57 : ∀ (B8 : Int32 → Int32 → (Nat → Int32) → (Nat → Int32) → (Nat → Int32) → (Nat → Int32) → Prop) (hB8 : ∀ (x1 : Int32) (x2 : Int32) (m_named : Nat → Int32) (m_pile : Nat → Int32) (m_nearThen : Nat → Int32) (m_shownThen : Nat → Int32) (H : Heap) (locs : List Loc) (ls : Array Slot), x1 = 0 ∨ x1 = 1 → wo G A (wd_X7_10 G b m_images m_at_ m_open_ m_steps m_use_ m_traced m_speaks m_isParted m_s m_named m_pile m_nearThen m_shownThen) H → va_S A s.heap H locs → lv_has ls 3 [(0, .ref (b 0)), (1, .int x1), (2, .int x2)] → B8 x1 x2 m_named m_pile m_nearThen m_shownThen → W p l e (rmm 5 116) s m args below meth c H locs 0 0 Q (F0 m 8 ls [])), ∀ (x2 : Int32) (t0 : Int32) (m_named : Nat → Int32) (m_pile : Nat → Int32) (m_nearThen : Nat → Int32) (m_shownThen : Nat → Int32) (H : Heap) (locs : List Loc) (ls : Array Slot), t0 = 0 ∨ t0 = 1 → wo G A (wd_X7_10 G b m_images m_at_ m_open_ m_steps m_use_ m_traced m_speaks m_isParted m_s m_named m_pile m_nearThen m_shownThen) H → va_S A s.heap H locs → lv_has ls 3 [(0, .ref (b 0)), (2, .int x2)] → j_X7_isSettled_57 m_s B8 K x2 t0 m_named m_pile m_nearThen m_shownThen → W p l e (rmm 5 116) s m args below meth c H locs 0 0 Q (F0 m 57 ls [.int t0]) := by
    intro B8 hB8 x2 t0 m_named m_pile m_nearThen m_shownThen H locs ls hz_t0 hW hS hl hv
    refine lv_istore_n (lv' := [(1, .int t0), (0, .ref (b 0)), (2, .int x2)]) hx hb dX7_isSettled_57 rfl hl (by decide) rfl (fun ls hl => ?_)
    refine lv_iinc (v := (x2 + 1)) (lv' := [(2, .int (x2 + 1)), (1, .int t0), (0, .ref (b 0))]) hx hb dX7_isSettled_58 hl (k := 2) rfl rfl (by decide) rfl (fun ls hl => ?_)
    refine lv_goto (tgt := 8) hx hb dX7_isSettled_61 (by decide) ?_
    exact hB8 t0 (x2 + 1) m_named m_pile m_nearThen m_shownThen H locs ls hz_t0 hW hS (lv_sub hl [2, 1, 0] rfl) hv
  have h_j_X7_isSettled_56 : ∀ (B8 : Int32 → Int32 → (Nat → Int32) → (Nat → Int32) → (Nat → Int32) → (Nat → Int32) → Prop) (hB8 : ∀ (x1 : Int32) (x2 : Int32) (m_named : Nat → Int32) (m_pile : Nat → Int32) (m_nearThen : Nat → Int32) (m_shownThen : Nat → Int32) (H : Heap) (locs : List Loc) (ls : Array Slot), x1 = 0 ∨ x1 = 1 → wo G A (wd_X7_10 G b m_images m_at_ m_open_ m_steps m_use_ m_traced m_speaks m_isParted m_s m_named m_pile m_nearThen m_shownThen) H → va_S A s.heap H locs → lv_has ls 3 [(0, .ref (b 0)), (1, .int x1), (2, .int x2)] → B8 x1 x2 m_named m_pile m_nearThen m_shownThen → W p l e (rmm 5 116) s m args below meth c H locs 0 0 Q (F0 m 8 ls [])), ∀ (x2 : Int32) (m_named : Nat → Int32) (m_pile : Nat → Int32) (m_nearThen : Nat → Int32) (m_shownThen : Nat → Int32) (H : Heap) (locs : List Loc) (ls : Array Slot), wo G A (wd_X7_10 G b m_images m_at_ m_open_ m_steps m_use_ m_traced m_speaks m_isParted m_s m_named m_pile m_nearThen m_shownThen) H → va_S A s.heap H locs → lv_has ls 3 [(0, .ref (b 0)), (2, .int x2)] → j_X7_isSettled_56 m_s B8 K x2 m_named m_pile m_nearThen m_shownThen → W p l e (rmm 5 116) s m args below meth c H locs 0 0 Q (F0 m 56 ls []) := by
    intro B8 hB8 x2 m_named m_pile m_nearThen m_shownThen H locs ls hW hS hl hv
    refine lv_iconst (v := 0) hx hb dX7_isSettled_56 kic_0 ?_
    exact h_j_X7_isSettled_57 B8 hB8 x2 (0 : Int32) m_named m_pile m_nearThen m_shownThen H locs ls (Or.inl rfl) hW hS (lv_sub hl [0, 1] rfl) hv
  have h_l_X7_isSettled_8 : ∀ (n : Nat), ∀ (x1 : Int32) (x2 : Int32) (m_named : Nat → Int32) (m_pile : Nat → Int32) (m_nearThen : Nat → Int32) (m_shownThen : Nat → Int32) (H : Heap) (locs : List Loc) (ls : Array Slot), x1 = 0 ∨ x1 = 1 → wo G A (wd_X7_10 G b m_images m_at_ m_open_ m_steps m_use_ m_traced m_speaks m_isParted m_s m_named m_pile m_nearThen m_shownThen) H → va_S A s.heap H locs → lv_has ls 3 [(0, .ref (b 0)), (1, .int x1), (2, .int x2)] → l_X7_isSettled_8 m_s K n x1 x2 m_named m_pile m_nearThen m_shownThen → W p l e (rmm 5 116) s m args below meth c H locs 0 0 Q (F0 m 8 ls []) := by
    intro n
    induction n with
    | zero =>
      intro x1 x2 m_named m_pile m_nearThen m_shownThen H locs ls hz_x1 hW hS hl hv
      exact False.elim hv
    | succ n ih =>
      intro x1 x2 m_named m_pile m_nearThen m_shownThen H locs ls hz_x1 hW hS hl hv
      refine lv_iload_n hx hb dX7_isSettled_8 rfl (lv_at hl 2 rfl) ?_
      refine lv_aload_n hx hb dX7_isSettled_9 rfl (lv_at hl 0 rfl) ?_
      refine q_get C kc7 hW 0 rfl 0 (by decide) fl_X7_7 rfl rfl dX7_isSettled_10 ?_
      refine lv_iconst (v := 4) hx hb dX7_isSettled_13 kic_4 ?_
      obtain ⟨h_3, hv⟩ := hv
      refine q_iald C hW 1 rfl h_3 dX7_isSettled_14 ?_
      refine lv_icmp_ge (tgt := 64) hx hb dX7_isSettled_15 (by decide) (fun c_4 => ?_) (fun c_4 => ?_)
      · replace hv := hv.1 c_4
        refine lv_iload_n hx hb dX7_isSettled_64 rfl (lv_at hl 1 rfl) ?_
        exact ret (m_named, m_pile, m_nearThen, m_shownThen) x1 H locs ls _ (bl_narrow hz_x1) hW hS ⟨hz_x1, hv⟩ dX7_isSettled_65
      · replace hv := hv.2 c_4
        refine lv_iload_n hx hb dX7_isSettled_18 rfl (lv_at hl 1 rfl) ?_
        refine lv_if_eq (tgt := 56) hx hb dX7_isSettled_19 (by decide) (fun c_5 => ?_) (fun c_5 => ?_)
        · replace hv := hv.1 c_5
          exact h_j_X7_isSettled_56 (fun x1' x2' m_named' m_pile' m_nearThen' m_shownThen' => l_X7_isSettled_8 m_s K n x1' x2' m_named' m_pile' m_nearThen' m_shownThen') ih x2 m_named m_pile m_nearThen m_shownThen H locs ls hW hS (lv_sub hl [0, 2] rfl) hv
        · replace hv := hv.2 c_5
          refine lv_aload_n hx hb dX7_isSettled_22 rfl (lv_at hl 0 rfl) ?_
          refine q_get C kc7 hW 0 rfl 12 (by decide) fl_X7_31 rfl rfl dX7_isSettled_23 ?_
          refine lv_iload_n hx hb dX7_isSettled_26 rfl (lv_at hl 2 rfl) ?_
          obtain ⟨h_6, hv⟩ := hv
          refine q_iald C hW 4 rfl h_6 dX7_isSettled_27 ?_
          refine lv_aload_n hx hb dX7_isSettled_28 rfl (lv_at hl 0 rfl) ?_
          refine lv_iload_n hx hb dX7_isSettled_29 rfl (lv_at hl 2 rfl) ?_
          refine lv_iconst (v := 2) hx hb dX7_isSettled_30 kic_2 ?_
          refine q_callV (rest := [.int (m_nearThen x2.toNatClampNeg)]) (n := 2) C (c_X7_its l G b m_images m_at_ m_open_ m_steps m_use_ m_traced m_speaks m_isParted m_s x2 (2 : Int32) _ hv) ml_X7_120 kb_X7_its rfl ⟨⟨rfl, rfl⟩, (Nat.le_of_ble_eq_true rfl), (Nat.le_of_ble_eq_true rfl)⟩ hW hS [0, 1] rfl rfl kc7 (q0 := 0) rfl hl.1 rfl (Nat.le_of_ble_eq_true rfl) dX7_isSettled_31 ⟨Nat.zero_le _, Nat.zero_le _⟩ (fun r_7 u_8 H locs hv hW hS => ?_)
          try dsimp only at hv
          refine lv_icmp_ne (tgt := 56) hx hb dX7_isSettled_34 (by decide) (fun c_9 => ?_) (fun c_9 => ?_)
          · replace hv := hv.1 c_9
            exact h_j_X7_isSettled_56 (fun x1' x2' m_named' m_pile' m_nearThen' m_shownThen' => l_X7_isSettled_8 m_s K n x1' x2' m_named' m_pile' m_nearThen' m_shownThen') ih x2 m_named m_pile m_nearThen m_shownThen H locs ls hW hS (lv_sub hl [0, 2] rfl) hv
          · replace hv := hv.2 c_9
            refine lv_aload_n hx hb dX7_isSettled_37 rfl (lv_at hl 0 rfl) ?_
            refine q_get C kc7 hW 0 rfl 13 (by decide) fl_X7_34 rfl rfl dX7_isSettled_38 ?_
            refine lv_iload_n hx hb dX7_isSettled_41 rfl (lv_at hl 2 rfl) ?_
            obtain ⟨h_10, hv⟩ := hv
            refine q_iald C hW 5 rfl h_10 dX7_isSettled_42 ?_
            refine lv_aload_n hx hb dX7_isSettled_43 rfl (lv_at hl 0 rfl) ?_
            refine lv_iload_n hx hb dX7_isSettled_44 rfl (lv_at hl 2 rfl) ?_
            refine lv_iconst (v := 3) hx hb dX7_isSettled_45 kic_3 ?_
            refine q_callV (rest := [.int (m_shownThen x2.toNatClampNeg)]) (n := 2) C (c_X7_its l G b m_images m_at_ m_open_ m_steps m_use_ m_traced m_speaks m_isParted m_s x2 (3 : Int32) _ hv) ml_X7_120 kb_X7_its rfl ⟨⟨rfl, rfl⟩, (Nat.le_of_ble_eq_true rfl), (Nat.le_of_ble_eq_true rfl)⟩ hW hS [0, 1] rfl rfl kc7 (q0 := 0) rfl hl.1 rfl (Nat.le_of_ble_eq_true rfl) dX7_isSettled_46 ⟨Nat.zero_le _, Nat.zero_le _⟩ (fun r_11 u_12 H locs hv hW hS => ?_)
            try dsimp only at hv
            refine lv_icmp_ne (tgt := 56) hx hb dX7_isSettled_49 (by decide) (fun c_13 => ?_) (fun c_13 => ?_)
            · replace hv := hv.1 c_13
              exact h_j_X7_isSettled_56 (fun x1' x2' m_named' m_pile' m_nearThen' m_shownThen' => l_X7_isSettled_8 m_s K n x1' x2' m_named' m_pile' m_nearThen' m_shownThen') ih x2 m_named m_pile m_nearThen m_shownThen H locs ls hW hS (lv_sub hl [0, 2] rfl) hv
            · replace hv := hv.2 c_13
              refine lv_iconst (v := 1) hx hb dX7_isSettled_52 kic_1 ?_
              refine lv_goto (tgt := 57) hx hb dX7_isSettled_53 (by decide) ?_
              exact h_j_X7_isSettled_57 (fun x1' x2' m_named' m_pile' m_nearThen' m_shownThen' => l_X7_isSettled_8 m_s K n x1' x2' m_named' m_pile' m_nearThen' m_shownThen') ih x2 (1 : Int32) m_named m_pile m_nearThen m_shownThen H locs ls (Or.inr rfl) hW hS (lv_sub hl [0, 2] rfl) hv
  refine lv_aload_n hx hb dX7_isSettled_0 rfl (lv_at hl 0 rfl) ?_
  refine q_callVv (rest := []) (n := 0) C (c_X7_findThen l G b m_images m_at_ m_open_ m_steps m_use_ m_traced m_speaks m_isParted m_s m_named m_pile m_nearThen m_shownThen _ hv) ml_X7_148 kb_X7_findThen rfl ⟨⟨rfl, rfl⟩, (Nat.le_of_ble_eq_true rfl), (Nat.le_of_ble_eq_true rfl)⟩ hW hS [0, 1, 2, 3, 4, 5] rfl rfl kc7 (q0 := 0) rfl hl.1 rfl (Nat.le_of_ble_eq_true rfl) dX7_isSettled_1 ⟨Nat.zero_le _, Nat.zero_le _⟩ (fun u_2 H locs hv hW hS => ?_)
  obtain ⟨m_named_1, m_pile_1, m_nearThen_1, m_shownThen_1⟩ := u_2
  try dsimp only at hv
  have hW : wo G A (wd_X7_10 G b m_images m_at_ m_open_ m_steps m_use_ m_traced m_speaks m_isParted m_s m_named_1 m_pile_1 m_nearThen_1 m_shownThen_1) H := hW
  refine lv_iconst (v := 1) hx hb dX7_isSettled_4 kic_1 ?_
  refine lv_istore_n (lv' := [(1, .int (1 : Int32)), (0, .ref (b 0))]) hx hb dX7_isSettled_5 rfl hl (by decide) rfl (fun ls hl => ?_)
  refine lv_iconst (v := 0) hx hb dX7_isSettled_6 kic_0 ?_
  refine lv_istore_n (lv' := [(2, .int (0 : Int32)), (1, .int (1 : Int32)), (0, .ref (b 0))]) hx hb dX7_isSettled_7 rfl hl (by decide) rfl (fun ls hl => ?_)
  obtain ⟨n_14, hv⟩ := hv
  exact h_l_X7_isSettled_8 n_14 (1 : Int32) (0 : Int32) m_named_1 m_pile_1 m_nearThen_1 m_shownThen_1 H locs ls (Or.inr rfl) hW hS (lv_sub hl [2, 1, 0] rfl) hv
set_option maxHeartbeats 4000000 in
set_option maxRecDepth 100000 in
theorem c_X7_settles (l : Launch) (G : Gt) (b : Nat → Nat) (m_images : Int32) (m_at_ : Int32) (m_open_ : Int32) (m_steps : Int32) (m_use_ : Int32) (m_traced : Int32) (m_speaks : Int32) (m_isParted : Int32) (m_s : Nat → Int32) (m_laid : Nat → Int32) (m_errors : Nat → Int32) (m_named : Nat → Int32) (m_pile : Nat → Int32) (m_nearThen : Nat → Int32) (m_shownThen : Nat → Int32) (K : Int32 → (Nat → Int32) → (Nat → Int32) → (Nat → Int32) → (Nat → Int32) → (Nat → Int32) → (Nat → Int32) → (Nat → Int32) → Prop) (hv : v_X7_settles m_s m_laid m_errors m_named m_pile m_nearThen m_shownThen K) : CI l G yX7_settles (.code yX7_settles cX7_settles 2 (some .int) :: wsG) (rmm 6 138) [.ref (b 0)] (wd_X7_14 G b m_images m_at_ m_open_ m_steps m_use_ m_traced m_speaks m_isParted m_s m_laid m_errors m_named m_pile m_nearThen m_shownThen) (S := (Nat → Int32) × (Nat → Int32) × (Nat → Int32) × (Nat → Int32) × (Nat → Int32) × (Nat → Int32) × (Nat → Int32)) (fun u => wd_X7_14 G b m_images m_at_ m_open_ m_steps m_use_ m_traced m_speaks m_isParted u.1 u.2.1 u.2.2.1 u.2.2.2.1 u.2.2.2.2.1 u.2.2.2.2.2.1 u.2.2.2.2.2.2) (fun r u => K r u.1 u.2.1 u.2.2.1 u.2.2.2.1 u.2.2.2.2.1 u.2.2.2.2.2.1 u.2.2.2.2.2.2) := by
  refine ci_intro (by decide) rfl (fun _ => rfl) (Nat.le_of_ble_eq_true rfl) ?_
  intro p e s m args below meth c A H ls Q C hW hS hl ret
  have hx := C.1.1
  have hb := C.1.2.1
  generalize hls : ([] : List Loc) = locs at hS ⊢
  have hl : lv_has ls 2 [(0, .ref (b 0))] := hl
  have h_j_X7_settles_29 : ∀ (x1 : Int32) (m_s : Nat → Int32) (m_laid : Nat → Int32) (m_errors : Nat → Int32) (m_named : Nat → Int32) (m_pile : Nat → Int32) (m_nearThen : Nat → Int32) (m_shownThen : Nat → Int32) (H : Heap) (locs : List Loc) (ls : Array Slot), wo G A (wd_X7_14 G b m_images m_at_ m_open_ m_steps m_use_ m_traced m_speaks m_isParted m_s m_laid m_errors m_named m_pile m_nearThen m_shownThen) H → va_S A s.heap H locs → lv_has ls 2 [(0, .ref (b 0)), (1, .int x1)] → j_X7_settles_29 K x1 m_s m_laid m_errors m_named m_pile m_nearThen m_shownThen → W p l e (rmm 6 138) s m args below meth c H locs 0 0 Q (F0 m 29 ls []) := by
    intro x1 m_s m_laid m_errors m_named m_pile m_nearThen m_shownThen H locs ls hW hS hl hv
    refine lv_aload_n hx hb dX7_settles_29 rfl (lv_at hl 0 rfl) ?_
    refine q_callVv (rest := []) (n := 0) C (c_X7_layBack l G b m_images m_at_ m_open_ m_steps m_use_ m_traced m_speaks m_isParted m_s m_laid _ hv) ml_X7_194 kb_X7_layBack rfl ⟨⟨rfl, rfl⟩, (Nat.le_of_ble_eq_true rfl), (Nat.le_of_ble_eq_true rfl)⟩ hW hS [0, 1, 2] rfl rfl kc7 (q0 := 0) rfl hl.1 rfl (Nat.le_of_ble_eq_true rfl) dX7_settles_30 ⟨Nat.zero_le _, Nat.zero_le _⟩ (fun u_5 H locs hv hW hS => ?_)
    obtain ⟨m_s_4, rfl⟩ : ∃ z, z = u_5 := ⟨_, rfl⟩
    try dsimp only at hv
    have hW : wo G A (wd_X7_14 G b m_images m_at_ m_open_ m_steps m_use_ m_traced m_speaks m_isParted m_s_4 m_laid m_errors m_named m_pile m_nearThen m_shownThen) H := hW
    refine lv_iload_n hx hb dX7_settles_33 rfl (lv_at hl 1 rfl) ?_
    refine lv_bipush (v := 100) hx hb dX7_settles_34 kbp_100 ?_
    refine lv_icmp_le (tgt := 47) hx hb dX7_settles_36 (by decide) (fun c_6 => ?_) (fun c_6 => ?_)
    · replace hv := hv.1 c_6
      refine lv_iload_n hx hb dX7_settles_47 rfl (lv_at hl 1 rfl) ?_
      exact ret (m_s_4, m_laid, m_errors, m_named, m_pile, m_nearThen, m_shownThen) x1 H locs ls _ rfl hW hS hv dX7_settles_48
    · replace hv := hv.2 c_6
      refine lv_aload_n hx hb dX7_settles_39 rfl (lv_at hl 0 rfl) ?_
      refine lv_iconst (v := 2) hx hb dX7_settles_40 kic_2 ?_
      refine q_callV (rest := []) (n := 1) C (c_X7_error l G b m_images m_at_ m_open_ m_steps m_use_ m_traced m_speaks m_isParted m_errors (2 : Int32) _ hv) ml_X7_61 kb_X7_error rfl ⟨⟨rfl, rfl⟩, (Nat.le_of_ble_eq_true rfl), (Nat.le_of_ble_eq_true rfl)⟩ hW hS [0, 3] rfl rfl kc7 (q0 := 0) rfl hl.1 rfl (Nat.le_of_ble_eq_true rfl) dX7_settles_41 ⟨Nat.zero_le _, Nat.zero_le _⟩ (fun r_7 u_8 H locs hv hW hS => ?_)
      obtain ⟨m_errors_7, rfl⟩ : ∃ z, z = u_8 := ⟨_, rfl⟩
      try dsimp only at hv
      have hW : wo G A (wd_X7_14 G b m_images m_at_ m_open_ m_steps m_use_ m_traced m_speaks m_isParted m_s_4 m_laid m_errors_7 m_named m_pile m_nearThen m_shownThen) H := hW
      refine lv_goto (tgt := 48) hx hb dX7_settles_44 (by decide) ?_
      exact ret (m_s_4, m_laid, m_errors_7, m_named, m_pile, m_nearThen, m_shownThen) r_7 H locs ls _ rfl hW hS hv dX7_settles_48
  have h_l_X7_settles_6 : ∀ (n : Nat), ∀ (x1 : Int32) (m_s : Nat → Int32) (m_laid : Nat → Int32) (m_errors : Nat → Int32) (m_named : Nat → Int32) (m_pile : Nat → Int32) (m_nearThen : Nat → Int32) (m_shownThen : Nat → Int32) (H : Heap) (locs : List Loc) (ls : Array Slot), wo G A (wd_X7_14 G b m_images m_at_ m_open_ m_steps m_use_ m_traced m_speaks m_isParted m_s m_laid m_errors m_named m_pile m_nearThen m_shownThen) H → va_S A s.heap H locs → lv_has ls 2 [(0, .ref (b 0)), (1, .int x1)] → l_X7_settles_6 K n x1 m_s m_laid m_errors m_named m_pile m_nearThen m_shownThen → W p l e (rmm 6 138) s m args below meth c H locs 0 0 Q (F0 m 6 ls []) := by
    intro n
    induction n with
    | zero =>
      intro x1 m_s m_laid m_errors m_named m_pile m_nearThen m_shownThen H locs ls hW hS hl hv
      exact False.elim hv
    | succ n ih =>
      intro x1 m_s m_laid m_errors m_named m_pile m_nearThen m_shownThen H locs ls hW hS hl hv
      refine lv_iload_n hx hb dX7_settles_6 rfl (lv_at hl 1 rfl) ?_
      refine lv_bipush (v := 100) hx hb dX7_settles_7 kbp_100 ?_
      refine lv_icmp_gt (tgt := 29) hx hb dX7_settles_9 (by decide) (fun c_3 => ?_) (fun c_3 => ?_)
      · replace hv := hv.1 c_3
        exact h_j_X7_settles_29 x1 m_s m_laid m_errors m_named m_pile m_nearThen m_shownThen H locs ls hW hS (lv_sub hl [0, 1] rfl) hv
      · replace hv := hv.2 c_3
        refine lv_aload_n hx hb dX7_settles_12 rfl (lv_at hl 0 rfl) ?_
        refine q_callV (rest := []) (n := 0) C (c_X7_isSettled l G b m_images m_at_ m_open_ m_steps m_use_ m_traced m_speaks m_isParted m_s m_named m_pile m_nearThen m_shownThen _ hv) ml_X7_197 kb_X7_isSettled rfl ⟨⟨rfl, rfl⟩, (Nat.le_of_ble_eq_true rfl), (Nat.le_of_ble_eq_true rfl)⟩ hW hS [0, 1, 4, 5, 6, 7] rfl rfl kc7 (q0 := 0) rfl hl.1 rfl (Nat.le_of_ble_eq_true rfl) dX7_settles_13 ⟨Nat.zero_le _, Nat.zero_le _⟩ (fun r_9 u_10 H locs hv hW hS => ?_)
        obtain ⟨m_named_9, m_pile_9, m_nearThen_9, m_shownThen_9⟩ := u_10
        obtain ⟨hv_b_9, hv⟩ := hv
        try dsimp only at hv
        have hW : wo G A (wd_X7_14 G b m_images m_at_ m_open_ m_steps m_use_ m_traced m_speaks m_isParted m_s m_laid m_errors m_named_9 m_pile_9 m_nearThen_9 m_shownThen_9) H := hW
        refine lv_if_ne (tgt := 29) hx hb dX7_settles_16 (by decide) (fun c_11 => ?_) (fun c_11 => ?_)
        · replace hv := hv.1 c_11
          exact h_j_X7_settles_29 x1 m_s m_laid m_errors m_named_9 m_pile_9 m_nearThen_9 m_shownThen_9 H locs ls hW hS (lv_sub hl [0, 1] rfl) hv
        · replace hv := hv.2 c_11
          refine lv_aload_n hx hb dX7_settles_19 rfl (lv_at hl 0 rfl) ?_
          refine q_callVv (rest := []) (n := 0) C (c_X7_aDay l G b m_images m_at_ m_open_ m_steps m_use_ m_traced m_speaks m_isParted m_s m_named_9 m_pile_9 m_nearThen_9 m_shownThen_9 _ hv) ml_X7_155 kb_X7_aDay rfl ⟨⟨rfl, rfl⟩, (Nat.le_of_ble_eq_true rfl), (Nat.le_of_ble_eq_true rfl)⟩ hW hS [0, 1, 4, 5, 6, 7] rfl rfl kc7 (q0 := 0) rfl hl.1 rfl (Nat.le_of_ble_eq_true rfl) dX7_settles_20 ⟨Nat.zero_le _, Nat.zero_le _⟩ (fun u_13 H locs hv hW hS => ?_)
          obtain ⟨m_s_12, m_named_12, m_pile_12, m_nearThen_12, m_shownThen_12⟩ := u_13
          try dsimp only at hv
          have hW : wo G A (wd_X7_14 G b m_images m_at_ m_open_ m_steps m_use_ m_traced m_speaks m_isParted m_s_12 m_laid m_errors m_named_12 m_pile_12 m_nearThen_12 m_shownThen_12) H := hW
          refine lv_iinc (v := (x1 + 1)) (lv' := [(1, .int (x1 + 1)), (0, .ref (b 0))]) hx hb dX7_settles_23 hl (k := 1) rfl rfl (by decide) rfl (fun ls hl => ?_)
          refine lv_goto (tgt := 6) hx hb dX7_settles_26 (by decide) ?_
          exact ih (x1 + 1) m_s_12 m_laid m_errors m_named_12 m_pile_12 m_nearThen_12 m_shownThen_12 H locs ls hW hS (lv_sub hl [1, 0] rfl) hv
  refine lv_aload_n hx hb dX7_settles_0 rfl (lv_at hl 0 rfl) ?_
  refine q_callVv (rest := []) (n := 0) C (c_X7_layDown l G b m_images m_at_ m_open_ m_steps m_use_ m_traced m_speaks m_isParted m_s m_laid _ hv) ml_X7_191 kb_X7_layDown rfl ⟨⟨rfl, rfl⟩, (Nat.le_of_ble_eq_true rfl), (Nat.le_of_ble_eq_true rfl)⟩ hW hS [0, 1, 2] rfl rfl kc7 (q0 := 0) rfl hl.1 rfl (Nat.le_of_ble_eq_true rfl) dX7_settles_1 ⟨Nat.zero_le _, Nat.zero_le _⟩ (fun u_2 H locs hv hW hS => ?_)
  obtain ⟨m_laid_1, rfl⟩ : ∃ z, z = u_2 := ⟨_, rfl⟩
  try dsimp only at hv
  have hW : wo G A (wd_X7_14 G b m_images m_at_ m_open_ m_steps m_use_ m_traced m_speaks m_isParted m_s m_laid_1 m_errors m_named m_pile m_nearThen m_shownThen) H := hW
  refine lv_iconst (v := 0) hx hb dX7_settles_4 kic_0 ?_
  refine lv_istore_n (lv' := [(1, .int (0 : Int32)), (0, .ref (b 0))]) hx hb dX7_settles_5 rfl hl (by decide) rfl (fun ls hl => ?_)
  obtain ⟨n_14, hv⟩ := hv
  exact h_l_X7_settles_6 n_14 (0 : Int32) m_s m_laid_1 m_errors m_named m_pile m_nearThen m_shownThen H locs ls hW hS (lv_sub hl [1, 0] rfl) hv
set_option maxHeartbeats 4000000 in
set_option maxRecDepth 100000 in
theorem c_X7_rank (l : Launch) (G : Gt) (b : Nat → Nat) (m_images : Int32) (m_at_ : Int32) (m_open_ : Int32) (m_steps : Int32) (m_use_ : Int32) (m_traced : Int32) (m_speaks : Int32) (m_isParted : Int32) (m_s : Nat → Int32) (m_errors : Nat → Int32) (p1 : Int32) (K : Int32 → (Nat → Int32) → Prop) (hv : v_X7_rank p1 m_s m_errors K) : CI l G yX7_rank (.code yX7_rank cX7_rank 4 (some .int) :: wsG) (rmm 2 43) [.ref (b 0), .int p1] (wd_X7_4 G b m_images m_at_ m_open_ m_steps m_use_ m_traced m_speaks m_isParted m_s m_errors) (S := (Nat → Int32)) (fun u => wd_X7_4 G b m_images m_at_ m_open_ m_steps m_use_ m_traced m_speaks m_isParted m_s u) (fun r u => K r u) := by
  refine ci_intro (by decide) rfl (fun _ => rfl) (Nat.le_of_ble_eq_true rfl) ?_
  intro p e s m args below meth c A H ls Q C hW hS hl ret
  have hx := C.1.1
  have hb := C.1.2.1
  generalize hls : ([] : List Loc) = locs at hS ⊢
  have hl : lv_has ls 4 [(0, .ref (b 0)), (1, .int p1)] := hl
  have h_j_X7_rank_49 : ∀ (B18 : Int32 → Int32 → (Nat → Int32) → Prop) (hB18 : ∀ (x2 : Int32) (x3 : Int32) (m_errors : Nat → Int32) (H : Heap) (locs : List Loc) (ls : Array Slot), wo G A (wd_X7_4 G b m_images m_at_ m_open_ m_steps m_use_ m_traced m_speaks m_isParted m_s m_errors) H → va_S A s.heap H locs → lv_has ls 4 [(0, .ref (b 0)), (1, .int p1), (2, .int x2), (3, .int x3)] → B18 x2 x3 m_errors → W p l e (rmm 2 43) s m args below meth c H locs 0 0 Q (F0 m 18 ls [])), ∀ (x3 : Int32) (t0 : Int32) (t1 : Int32) (m_errors : Nat → Int32) (H : Heap) (locs : List Loc) (ls : Array Slot), t1 = 0 ∨ t1 = 1 → wo G A (wd_X7_4 G b m_images m_at_ m_open_ m_steps m_use_ m_traced m_speaks m_isParted m_s m_errors) H → va_S A s.heap H locs → lv_has ls 4 [(0, .ref (b 0)), (1, .int p1), (3, .int x3)] → j_X7_rank_49 p1 m_s B18 K x3 t0 t1 m_errors → W p l e (rmm 2 43) s m args below meth c H locs 0 0 Q (F0 m 49 ls [.int t1, .int t0]) := by
    intro B18 hB18 x3 t0 t1 m_errors H locs ls hz_t1 hW hS hl hv
    refine lv_iadd hx hb dX7_rank_49 ?_
    refine lv_istore_n (lv' := [(2, .int (t0 + t1)), (0, .ref (b 0)), (1, .int p1), (3, .int x3)]) hx hb dX7_rank_50 rfl hl (by decide) rfl (fun ls hl => ?_)
    refine lv_iinc (v := (x3 + 1)) (lv' := [(3, .int (x3 + 1)), (2, .int (t0 + t1)), (0, .ref (b 0)), (1, .int p1)]) hx hb dX7_rank_51 hl (k := 3) rfl rfl (by decide) rfl (fun ls hl => ?_)
    refine lv_goto (tgt := 18) hx hb dX7_rank_54 (by decide) ?_
    exact hB18 (t0 + t1) (x3 + 1) m_errors H locs ls hW hS (lv_sub hl [2, 3, 1, 0] rfl) hv
  have h_l_X7_rank_18 : ∀ (n : Nat), ∀ (x2 : Int32) (x3 : Int32) (m_errors : Nat → Int32) (H : Heap) (locs : List Loc) (ls : Array Slot), wo G A (wd_X7_4 G b m_images m_at_ m_open_ m_steps m_use_ m_traced m_speaks m_isParted m_s m_errors) H → va_S A s.heap H locs → lv_has ls 4 [(0, .ref (b 0)), (1, .int p1), (2, .int x2), (3, .int x3)] → l_X7_rank_18 p1 m_s K n x2 x3 m_errors → W p l e (rmm 2 43) s m args below meth c H locs 0 0 Q (F0 m 18 ls []) := by
    intro n
    induction n with
    | zero =>
      intro x2 x3 m_errors H locs ls hW hS hl hv
      exact False.elim hv
    | succ n ih =>
      intro x2 x3 m_errors H locs ls hW hS hl hv
      refine lv_iload_n hx hb dX7_rank_18 rfl (lv_at hl 3 rfl) ?_
      refine lv_aload_n hx hb dX7_rank_19 rfl (lv_at hl 0 rfl) ?_
      refine q_get C kc7 hW 0 rfl 0 (by decide) fl_X7_7 rfl rfl dX7_rank_20 ?_
      refine lv_iconst (v := 4) hx hb dX7_rank_23 kic_4 ?_
      obtain ⟨h_4, hv⟩ := hv
      refine q_iald C hW 1 rfl h_4 dX7_rank_24 ?_
      refine lv_icmp_ge (tgt := 57) hx hb dX7_rank_25 (by decide) (fun c_5 => ?_) (fun c_5 => ?_)
      · replace hv := hv.1 c_5
        refine lv_iload_n hx hb dX7_rank_57 rfl (lv_at hl 2 rfl) ?_
        exact ret (m_errors) x2 H locs ls _ rfl hW hS hv dX7_rank_58
      · replace hv := hv.2 c_5
        refine lv_iload_n hx hb dX7_rank_28 rfl (lv_at hl 2 rfl) ?_
        refine lv_aload_n hx hb dX7_rank_29 rfl (lv_at hl 0 rfl) ?_
        refine lv_iload_n hx hb dX7_rank_30 rfl (lv_at hl 3 rfl) ?_
        refine lv_iconst (v := 2) hx hb dX7_rank_31 kic_2 ?_
        refine q_callV (rest := [.int x2]) (n := 2) C (c_X7_its l G b m_images m_at_ m_open_ m_steps m_use_ m_traced m_speaks m_isParted m_s x3 (2 : Int32) _ hv) ml_X7_120 kb_X7_its rfl ⟨⟨rfl, rfl⟩, (Nat.le_of_ble_eq_true rfl), (Nat.le_of_ble_eq_true rfl)⟩ hW hS [0, 1] rfl rfl kc7 (q0 := 0) rfl hl.1 rfl (Nat.le_of_ble_eq_true rfl) dX7_rank_32 ⟨Nat.zero_le _, Nat.zero_le _⟩ (fun r_6 u_7 H locs hv hW hS => ?_)
        try dsimp only at hv
        refine lv_aload_n hx hb dX7_rank_35 rfl (lv_at hl 0 rfl) ?_
        refine lv_iload_n hx hb dX7_rank_36 rfl (lv_at hl 1 rfl) ?_
        refine lv_iconst (v := 2) hx hb dX7_rank_37 kic_2 ?_
        refine q_callV (rest := [.int r_6, .int x2]) (n := 2) C (c_X7_its l G b m_images m_at_ m_open_ m_steps m_use_ m_traced m_speaks m_isParted m_s p1 (2 : Int32) _ hv) ml_X7_120 kb_X7_its rfl ⟨⟨rfl, rfl⟩, (Nat.le_of_ble_eq_true rfl), (Nat.le_of_ble_eq_true rfl)⟩ hW hS [0, 1] rfl rfl kc7 (q0 := 0) rfl hl.1 rfl (Nat.le_of_ble_eq_true rfl) dX7_rank_38 ⟨Nat.zero_le _, Nat.zero_le _⟩ (fun r_8 u_9 H locs hv hW hS => ?_)
        try dsimp only at hv
        refine lv_icmp_le (tgt := 48) hx hb dX7_rank_41 (by decide) (fun c_10 => ?_) (fun c_10 => ?_)
        · replace hv := hv.1 c_10
          refine lv_iconst (v := 0) hx hb dX7_rank_48 kic_0 ?_
          exact h_j_X7_rank_49 (fun x2' x3' m_errors' => l_X7_rank_18 p1 m_s K n x2' x3' m_errors') ih x3 x2 (0 : Int32) m_errors H locs ls (Or.inl rfl) hW hS (lv_sub hl [0, 1, 3] rfl) hv
        · replace hv := hv.2 c_10
          refine lv_iconst (v := 1) hx hb dX7_rank_44 kic_1 ?_
          refine lv_goto (tgt := 49) hx hb dX7_rank_45 (by decide) ?_
          exact h_j_X7_rank_49 (fun x2' x3' m_errors' => l_X7_rank_18 p1 m_s K n x2' x3' m_errors') ih x3 x2 (1 : Int32) m_errors H locs ls (Or.inr rfl) hW hS (lv_sub hl [0, 1, 3] rfl) hv
  refine lv_aload_n hx hb dX7_rank_0 rfl (lv_at hl 0 rfl) ?_
  refine lv_iload_n hx hb dX7_rank_1 rfl (lv_at hl 1 rfl) ?_
  refine q_callV (rest := []) (n := 1) C (c_X7_isPerson l G b m_images m_at_ m_open_ m_steps m_use_ m_traced m_speaks m_isParted m_s p1 _ hv) ml_X7_57 kb_X7_isPerson rfl ⟨⟨rfl, rfl⟩, (Nat.le_of_ble_eq_true rfl), (Nat.le_of_ble_eq_true rfl)⟩ hW hS [0, 1] rfl rfl kc7 (q0 := 0) rfl hl.1 rfl (Nat.le_of_ble_eq_true rfl) dX7_rank_2 ⟨Nat.zero_le _, Nat.zero_le _⟩ (fun r_1 u_2 H locs hv hW hS => ?_)
  obtain ⟨hv_b_1, hv⟩ := hv
  try dsimp only at hv
  refine lv_if_ne (tgt := 14) hx hb dX7_rank_5 (by decide) (fun c_3 => ?_) (fun c_3 => ?_)
  · replace hv := hv.1 c_3
    refine lv_iconst (v := 0) hx hb dX7_rank_14 kic_0 ?_
    refine lv_istore_n (lv' := [(2, .int (0 : Int32)), (0, .ref (b 0)), (1, .int p1)]) hx hb dX7_rank_15 rfl hl (by decide) rfl (fun ls hl => ?_)
    refine lv_iconst (v := 0) hx hb dX7_rank_16 kic_0 ?_
    refine lv_istore_n (lv' := [(3, .int (0 : Int32)), (2, .int (0 : Int32)), (0, .ref (b 0)), (1, .int p1)]) hx hb dX7_rank_17 rfl hl (by decide) rfl (fun ls hl => ?_)
    obtain ⟨n_11, hv⟩ := hv
    exact h_l_X7_rank_18 n_11 (0 : Int32) (0 : Int32) m_errors H locs ls hW hS (lv_sub hl [2, 3, 1, 0] rfl) hv
  · replace hv := hv.2 c_3
    refine lv_aload_n hx hb dX7_rank_8 rfl (lv_at hl 0 rfl) ?_
    refine lv_iconst (v := 1) hx hb dX7_rank_9 kic_1 ?_
    refine q_callV (rest := []) (n := 1) C (c_X7_error l G b m_images m_at_ m_open_ m_steps m_use_ m_traced m_speaks m_isParted m_errors (1 : Int32) _ hv) ml_X7_61 kb_X7_error rfl ⟨⟨rfl, rfl⟩, (Nat.le_of_ble_eq_true rfl), (Nat.le_of_ble_eq_true rfl)⟩ hW hS [0, 2] rfl rfl kc7 (q0 := 0) rfl hl.1 rfl (Nat.le_of_ble_eq_true rfl) dX7_rank_10 ⟨Nat.zero_le _, Nat.zero_le _⟩ (fun r_12 u_13 H locs hv hW hS => ?_)
    obtain ⟨m_errors_12, rfl⟩ : ∃ z, z = u_13 := ⟨_, rfl⟩
    try dsimp only at hv
    have hW : wo G A (wd_X7_4 G b m_images m_at_ m_open_ m_steps m_use_ m_traced m_speaks m_isParted m_s m_errors_12) H := hW
    exact ret (m_errors_12) r_12 H locs ls _ rfl hW hS hv dX7_rank_13
set_option maxHeartbeats 4000000 in
set_option maxRecDepth 100000 in
theorem c_X7_manyIn (l : Launch) (G : Gt) (p1 : Int32) (K : Int32 → Prop) (hv : v_X7_manyIn p1 K) : CI l G yX7_manyIn (.code yX7_manyIn cX7_manyIn 3 (some .int) :: wsG) (rmm 0 0) [.int p1] [] (S := Unit) (fun _ => []) (fun r u => K r) := by
  refine ci_intro (by decide) rfl (fun _ => rfl) (Nat.le_of_ble_eq_true rfl) ?_
  intro p e s m args below meth c A H ls Q C hW hS hl ret
  have hx := C.1.1
  have hb := C.1.2.1
  generalize hls : ([] : List Loc) = locs at hS ⊢
  have hl : lv_has ls 3 [(0, .int p1)] := hl
  have h_l_X7_manyIn_4 : ∀ (n : Nat), ∀ (x1 : Int32) (x2 : Int32) (H : Heap) (locs : List Loc) (ls : Array Slot), wo G A (wd_X7_11 G) H → va_S A s.heap H locs → lv_has ls 3 [(0, .int p1), (1, .int x1), (2, .int x2)] → l_X7_manyIn_4 p1 K n x1 x2 → W p l e (rmm 0 0) s m args below meth c H locs 0 0 Q (F0 m 4 ls []) := by
    intro n
    induction n with
    | zero =>
      intro x1 x2 H locs ls hW hS hl hv
      exact False.elim hv
    | succ n ih =>
      intro x1 x2 H locs ls hW hS hl hv
      refine lv_iload_n hx hb dX7_manyIn_4 rfl (lv_at hl 2 rfl) ?_
      refine lv_bipush (v := 8) hx hb dX7_manyIn_5 kbp_8 ?_
      refine lv_icmp_ge (tgt := 24) hx hb dX7_manyIn_7 (by decide) (fun c_1 => ?_) (fun c_1 => ?_)
      · replace hv := hv.1 c_1
        refine lv_iload_n hx hb dX7_manyIn_24 rfl (lv_at hl 1 rfl) ?_
        exact ret () x1 H locs ls _ rfl hW hS hv dX7_manyIn_25
      · replace hv := hv.2 c_1
        refine lv_iload_n hx hb dX7_manyIn_10 rfl (lv_at hl 1 rfl) ?_
        refine lv_iload_n hx hb dX7_manyIn_11 rfl (lv_at hl 0 rfl) ?_
        refine lv_iload_n hx hb dX7_manyIn_12 rfl (lv_at hl 2 rfl) ?_
        refine lv_ishr hx hb dX7_manyIn_13 ?_
        refine lv_iconst (v := 1) hx hb dX7_manyIn_14 kic_1 ?_
        refine lv_iand hx hb dX7_manyIn_15 ?_
        refine lv_iadd hx hb dX7_manyIn_16 ?_
        refine lv_istore_n (lv' := [(1, .int (x1 + ((p1 >>> (x2 &&& 31)) &&& (1 : Int32)))), (0, .int p1), (2, .int x2)]) hx hb dX7_manyIn_17 rfl hl (by decide) rfl (fun ls hl => ?_)
        refine lv_iinc (v := (x2 + 1)) (lv' := [(2, .int (x2 + 1)), (1, .int (x1 + ((p1 >>> (x2 &&& 31)) &&& (1 : Int32)))), (0, .int p1)]) hx hb dX7_manyIn_18 hl (k := 2) rfl rfl (by decide) rfl (fun ls hl => ?_)
        refine lv_goto (tgt := 4) hx hb dX7_manyIn_21 (by decide) ?_
        exact ih (x1 + ((p1 >>> (x2 &&& 31)) &&& (1 : Int32))) (x2 + 1) H locs ls hW hS (lv_sub hl [2, 1, 0] rfl) hv
  refine lv_iconst (v := 0) hx hb dX7_manyIn_0 kic_0 ?_
  refine lv_istore_n (lv' := [(1, .int (0 : Int32)), (0, .int p1)]) hx hb dX7_manyIn_1 rfl hl (by decide) rfl (fun ls hl => ?_)
  refine lv_iconst (v := 0) hx hb dX7_manyIn_2 kic_0 ?_
  refine lv_istore_n (lv' := [(2, .int (0 : Int32)), (1, .int (0 : Int32)), (0, .int p1)]) hx hb dX7_manyIn_3 rfl hl (by decide) rfl (fun ls hl => ?_)
  obtain ⟨n_2, hv⟩ := hv
  exact h_l_X7_manyIn_4 n_2 (0 : Int32) (0 : Int32) H locs ls hW hS (lv_sub hl [2, 1, 0] rfl) hv
set_option maxHeartbeats 4000000 in
set_option maxRecDepth 100000 in
theorem c_X7_doesLead (l : Launch) (G : Gt) (b : Nat → Nat) (m_images : Int32) (m_at_ : Int32) (m_open_ : Int32) (m_steps : Int32) (m_use_ : Int32) (m_traced : Int32) (m_speaks : Int32) (m_isParted : Int32) (m_s : Nat → Int32) (m_laid : Nat → Int32) (m_named : Nat → Int32) (m_pile : Nat → Int32) (m_nearThen : Nat → Int32) (m_shownThen : Nat → Int32) (p1 : Int32) (p2 : Int32) (p3 : Int32) (p4 : Int32) (K : Int32 → (Nat → Int32) → (Nat → Int32) → (Nat → Int32) → (Nat → Int32) → (Nat → Int32) → (Nat → Int32) → Prop) (hv : v_X7_doesLead p1 p2 p3 p4 m_s m_laid m_named m_pile m_nearThen m_shownThen K) : CI l G yX7_doesLead (.code yX7_doesLead cX7_doesLead 6 (some .boolean) :: wsG) (rmm 7 159) [.ref (b 0), .int p1, .int p2, .int p3, .int p4] (wd_X7_15 G b m_images m_at_ m_open_ m_steps m_use_ m_traced m_speaks m_isParted m_s m_laid m_named m_pile m_nearThen m_shownThen) (S := (Nat → Int32) × (Nat → Int32) × (Nat → Int32) × (Nat → Int32) × (Nat → Int32) × (Nat → Int32)) (fun u => wd_X7_15 G b m_images m_at_ m_open_ m_steps m_use_ m_traced m_speaks m_isParted u.1 u.2.1 u.2.2.1 u.2.2.2.1 u.2.2.2.2.1 u.2.2.2.2.2) (fun r u => (r = 0 ∨ r = 1) ∧ K r u.1 u.2.1 u.2.2.1 u.2.2.2.1 u.2.2.2.2.1 u.2.2.2.2.2) := by
  refine ci_intro (by decide) rfl (fun _ => rfl) (Nat.le_of_ble_eq_true rfl) ?_
  intro p e s m args below meth c A H ls Q C hW hS hl ret
  have hx := C.1.1
  have hb := C.1.2.1
  generalize hls : ([] : List Loc) = locs at hS ⊢
  have hl : lv_has ls 6 [(0, .ref (b 0)), (1, .int p1), (2, .int p2), (3, .int p3), (4, .int p4)] := hl
  have h_j_X7_doesLead_71 : ∀ (t0 : Int32) (m_s : Nat → Int32) (m_laid : Nat → Int32) (m_named : Nat → Int32) (m_pile : Nat → Int32) (m_nearThen : Nat → Int32) (m_shownThen : Nat → Int32) (H : Heap) (locs : List Loc) (ls : Array Slot), t0 = 0 ∨ t0 = 1 → wo G A (wd_X7_15 G b m_images m_at_ m_open_ m_steps m_use_ m_traced m_speaks m_isParted m_s m_laid m_named m_pile m_nearThen m_shownThen) H → va_S A s.heap H locs → lv_has ls 6 [(0, .ref (b 0))] → j_X7_doesLead_71 p1 p2 p3 p4 K t0 m_s m_laid m_named m_pile m_nearThen m_shownThen → W p l e (rmm 7 159) s m args below meth c H locs 0 0 Q (F0 m 71 ls [.int t0]) := by
    intro t0 m_s m_laid m_named m_pile m_nearThen m_shownThen H locs ls hz_t0 hW hS hl hv
    refine lv_istore (lv' := [(5, .int t0), (0, .ref (b 0))]) hx hb dX7_doesLead_71 hl (by decide) rfl (fun ls hl => ?_)
    refine lv_aload_n hx hb dX7_doesLead_73 rfl (lv_at hl 1 rfl) ?_
    refine q_callVv (rest := []) (n := 0) C (c_X7_layBack l G b m_images m_at_ m_open_ m_steps m_use_ m_traced m_speaks m_isParted m_s m_laid _ hv) ml_X7_194 kb_X7_layBack rfl ⟨⟨rfl, rfl⟩, (Nat.le_of_ble_eq_true rfl), (Nat.le_of_ble_eq_true rfl)⟩ hW hS [0, 1, 2] rfl rfl kc7 (q0 := 0) rfl hl.1 rfl (Nat.le_of_ble_eq_true rfl) dX7_doesLead_74 ⟨Nat.zero_le _, Nat.zero_le _⟩ (fun u_11 H locs hv hW hS => ?_)
    obtain ⟨m_s_10, rfl⟩ : ∃ z, z = u_11 := ⟨_, rfl⟩
    try dsimp only at hv
    have hW : wo G A (wd_X7_15 G b m_images m_at_ m_open_ m_steps m_use_ m_traced m_speaks m_isParted m_s_10 m_laid m_named m_pile m_nearThen m_shownThen) H := hW
    refine lv_iload hx hb dX7_doesLead_77 (lv_at hl 0 rfl) ?_
    exact ret (m_s_10, m_laid, m_named, m_pile, m_nearThen, m_shownThen) t0 H locs ls _ (bl_narrow hz_t0) hW hS ⟨hz_t0, hv⟩ dX7_doesLead_79
  have h_j_X7_doesLead_44 : ∀ (B7 : Int32 → (Nat → Int32) → (Nat → Int32) → (Nat → Int32) → (Nat → Int32) → (Nat → Int32) → (Nat → Int32) → Prop) (hB7 : ∀ (x5 : Int32) (m_s : Nat → Int32) (m_laid : Nat → Int32) (m_named : Nat → Int32) (m_pile : Nat → Int32) (m_nearThen : Nat → Int32) (m_shownThen : Nat → Int32) (H : Heap) (locs : List Loc) (ls : Array Slot), wo G A (wd_X7_15 G b m_images m_at_ m_open_ m_steps m_use_ m_traced m_speaks m_isParted m_s m_laid m_named m_pile m_nearThen m_shownThen) H → va_S A s.heap H locs → lv_has ls 6 [(0, .ref (b 0)), (1, .int p1), (2, .int p2), (3, .int p3), (4, .int p4), (5, .int x5)] → B7 x5 m_s m_laid m_named m_pile m_nearThen m_shownThen → W p l e (rmm 7 159) s m args below meth c H locs 0 0 Q (F0 m 7 ls [])), ∀ (x5 : Int32) (t1 : Int32) (t2 : Int32) (t3 : Int32) (m_s : Nat → Int32) (m_laid : Nat → Int32) (m_named : Nat → Int32) (m_pile : Nat → Int32) (m_nearThen : Nat → Int32) (m_shownThen : Nat → Int32) (H : Heap) (locs : List Loc) (ls : Array Slot), wo G A (wd_X7_15 G b m_images m_at_ m_open_ m_steps m_use_ m_traced m_speaks m_isParted m_s m_laid m_named m_pile m_nearThen m_shownThen) H → va_S A s.heap H locs → lv_has ls 6 [(0, .ref (b 0)), (1, .int p1), (2, .int p2), (3, .int p3), (4, .int p4), (5, .int x5)] → j_X7_doesLead_44 p1 p2 p3 p4 B7 K x5 t1 t2 t3 m_s m_laid m_named m_pile m_nearThen m_shownThen → W p l e (rmm 7 159) s m args below meth c H locs 0 0 Q (F0 m 44 ls [.int t3, .int t2, .int t1, .ref (b 0)]) := by
    intro B7 hB7 x5 t1 t2 t3 m_s m_laid m_named m_pile m_nearThen m_shownThen H locs ls hW hS hl hv
    refine q_callVv (rest := []) (n := 3) C (c_X7_lays1 l G b m_images m_at_ m_open_ m_steps m_use_ m_traced m_speaks m_isParted m_s t1 t2 t3 _ hv) ml_X7_151 kb_X7_lays1 rfl ⟨⟨rfl, rfl⟩, (Nat.le_of_ble_eq_true rfl), (Nat.le_of_ble_eq_true rfl)⟩ hW hS [0, 1] rfl rfl kc7 (q0 := 0) rfl hl.1 rfl (Nat.le_of_ble_eq_true rfl) dX7_doesLead_44 ⟨Nat.zero_le _, Nat.zero_le _⟩ (fun u_16 H locs hv hW hS => ?_)
    obtain ⟨m_s_15, rfl⟩ : ∃ z, z = u_16 := ⟨_, rfl⟩
    try dsimp only at hv
    have hW : wo G A (wd_X7_15 G b m_images m_at_ m_open_ m_steps m_use_ m_traced m_speaks m_isParted m_s_15 m_laid m_named m_pile m_nearThen m_shownThen) H := hW
    refine lv_iinc (v := (x5 + 1)) (lv' := [(5, .int (x5 + 1)), (0, .ref (b 0)), (1, .int p1), (2, .int p2), (3, .int p3), (4, .int p4)]) hx hb dX7_doesLead_47 hl (k := 5) rfl rfl (by decide) rfl (fun ls hl => ?_)
    refine lv_goto (tgt := 7) hx hb dX7_doesLead_50 (by decide) ?_
    exact hB7 (x5 + 1) m_s_15 m_laid m_named m_pile m_nearThen m_shownThen H locs ls hW hS (lv_sub hl [1, 2, 3, 4, 5, 0] rfl) hv
  have h_l_X7_doesLead_7 : ∀ (n : Nat), ∀ (x5 : Int32) (m_s : Nat → Int32) (m_laid : Nat → Int32) (m_named : Nat → Int32) (m_pile : Nat → Int32) (m_nearThen : Nat → Int32) (m_shownThen : Nat → Int32) (H : Heap) (locs : List Loc) (ls : Array Slot), wo G A (wd_X7_15 G b m_images m_at_ m_open_ m_steps m_use_ m_traced m_speaks m_isParted m_s m_laid m_named m_pile m_nearThen m_shownThen) H → va_S A s.heap H locs → lv_has ls 6 [(0, .ref (b 0)), (1, .int p1), (2, .int p2), (3, .int p3), (4, .int p4), (5, .int x5)] → l_X7_doesLead_7 p1 p2 p3 p4 K n x5 m_s m_laid m_named m_pile m_nearThen m_shownThen → W p l e (rmm 7 159) s m args below meth c H locs 0 0 Q (F0 m 7 ls []) := by
    intro n
    induction n with
    | zero =>
      intro x5 m_s m_laid m_named m_pile m_nearThen m_shownThen H locs ls hW hS hl hv
      exact False.elim hv
    | succ n ih =>
      intro x5 m_s m_laid m_named m_pile m_nearThen m_shownThen H locs ls hW hS hl hv
      refine lv_iload hx hb dX7_doesLead_7 (lv_at hl 5 rfl) ?_
      refine lv_aload_n hx hb dX7_doesLead_9 rfl (lv_at hl 0 rfl) ?_
      refine q_get C kc7 hW 0 rfl 0 (by decide) fl_X7_7 rfl rfl dX7_doesLead_10 ?_
      refine lv_iconst (v := 4) hx hb dX7_doesLead_13 kic_4 ?_
      obtain ⟨h_3, hv⟩ := hv
      refine q_iald C hW 1 rfl h_3 dX7_doesLead_14 ?_
      refine lv_icmp_ge (tgt := 53) hx hb dX7_doesLead_15 (by decide) (fun c_4 => ?_) (fun c_4 => ?_)
      · replace hv := hv.1 c_4
        refine lv_aload_n hx hb dX7_doesLead_53 rfl (lv_at hl 0 rfl) ?_
        refine lv_iload_n hx hb dX7_doesLead_54 rfl (lv_at hl 3 rfl) ?_
        refine q_callVv (rest := []) (n := 1) C (c_X7_goes l G b m_images m_at_ m_open_ m_steps m_use_ m_traced m_speaks m_isParted m_s m_named m_pile m_nearThen m_shownThen p3 _ hv) ml_X7_178 kb_X7_goes rfl ⟨⟨rfl, rfl⟩, (Nat.le_of_ble_eq_true rfl), (Nat.le_of_ble_eq_true rfl)⟩ hW hS [0, 1, 3, 4, 5, 6] rfl rfl kc7 (q0 := 0) rfl hl.1 rfl (Nat.le_of_ble_eq_true rfl) dX7_doesLead_55 ⟨Nat.zero_le _, Nat.zero_le _⟩ (fun u_6 H locs hv hW hS => ?_)
        obtain ⟨m_s_5, m_named_5, m_pile_5, m_nearThen_5, m_shownThen_5⟩ := u_6
        try dsimp only at hv
        have hW : wo G A (wd_X7_15 G b m_images m_at_ m_open_ m_steps m_use_ m_traced m_speaks m_isParted m_s_5 m_laid m_named_5 m_pile_5 m_nearThen_5 m_shownThen_5) H := hW
        refine lv_aload_n hx hb dX7_doesLead_58 rfl (lv_at hl 0 rfl) ?_
        refine q_callV (rest := []) (n := 0) C (c_X7_nearestNow l G b m_images m_at_ m_open_ m_steps m_use_ m_traced m_speaks m_isParted m_s_5 _ hv) ml_X7_188 kb_X7_nearestNow rfl ⟨⟨rfl, rfl⟩, (Nat.le_of_ble_eq_true rfl), (Nat.le_of_ble_eq_true rfl)⟩ hW hS [0, 1] rfl rfl kc7 (q0 := 0) rfl hl.1 rfl (Nat.le_of_ble_eq_true rfl) dX7_doesLead_59 ⟨Nat.zero_le _, Nat.zero_le _⟩ (fun r_7 u_8 H locs hv hW hS => ?_)
        try dsimp only at hv
        refine lv_iload_n hx hb dX7_doesLead_62 rfl (lv_at hl 1 rfl) ?_
        refine lv_icmp_ne (tgt := 70) hx hb dX7_doesLead_63 (by decide) (fun c_9 => ?_) (fun c_9 => ?_)
        · replace hv := hv.1 c_9
          refine lv_iconst (v := 0) hx hb dX7_doesLead_70 kic_0 ?_
          exact h_j_X7_doesLead_71 (0 : Int32) m_s_5 m_laid m_named_5 m_pile_5 m_nearThen_5 m_shownThen_5 H locs ls (Or.inl rfl) hW hS (lv_sub hl [0] rfl) hv
        · replace hv := hv.2 c_9
          refine lv_iconst (v := 1) hx hb dX7_doesLead_66 kic_1 ?_
          refine lv_goto (tgt := 71) hx hb dX7_doesLead_67 (by decide) ?_
          exact h_j_X7_doesLead_71 (1 : Int32) m_s_5 m_laid m_named_5 m_pile_5 m_nearThen_5 m_shownThen_5 H locs ls (Or.inr rfl) hW hS (lv_sub hl [0] rfl) hv
      · replace hv := hv.2 c_4
        refine lv_aload_n hx hb dX7_doesLead_18 rfl (lv_at hl 0 rfl) ?_
        refine lv_iload hx hb dX7_doesLead_19 (lv_at hl 5 rfl) ?_
        refine lv_iconst (v := 3) hx hb dX7_doesLead_21 kic_3 ?_
        refine lv_iload hx hb dX7_doesLead_22 (lv_at hl 4 rfl) ?_
        refine lv_iload hx hb dX7_doesLead_24 (lv_at hl 5 rfl) ?_
        refine lv_ishr hx hb dX7_doesLead_26 ?_
        refine lv_iconst (v := 1) hx hb dX7_doesLead_27 kic_1 ?_
        refine lv_iand hx hb dX7_doesLead_28 ?_
        refine lv_iconst (v := 1) hx hb dX7_doesLead_29 kic_1 ?_
        refine lv_icmp_ne (tgt := 37) hx hb dX7_doesLead_30 (by decide) (fun c_12 => ?_) (fun c_12 => ?_)
        · replace hv := hv.1 c_12
          refine lv_aload_n hx hb dX7_doesLead_37 rfl (lv_at hl 0 rfl) ?_
          refine lv_iload hx hb dX7_doesLead_38 (lv_at hl 5 rfl) ?_
          refine lv_iconst (v := 3) hx hb dX7_doesLead_40 kic_3 ?_
          refine q_callV (rest := [.int (3 : Int32), .int x5, .ref (b 0)]) (n := 2) C (c_X7_its l G b m_images m_at_ m_open_ m_steps m_use_ m_traced m_speaks m_isParted m_s x5 (3 : Int32) _ hv) ml_X7_120 kb_X7_its rfl ⟨⟨rfl, rfl⟩, (Nat.le_of_ble_eq_true rfl), (Nat.le_of_ble_eq_true rfl)⟩ hW hS [0, 1] rfl rfl kc7 (q0 := 0) rfl hl.1 rfl (Nat.le_of_ble_eq_true rfl) dX7_doesLead_41 ⟨Nat.zero_le _, Nat.zero_le _⟩ (fun r_13 u_14 H locs hv hW hS => ?_)
          try dsimp only at hv
          exact h_j_X7_doesLead_44 (fun x5' m_s' m_laid' m_named' m_pile' m_nearThen' m_shownThen' => l_X7_doesLead_7 p1 p2 p3 p4 K n x5' m_s' m_laid' m_named' m_pile' m_nearThen' m_shownThen') ih x5 x5 (3 : Int32) r_13 m_s m_laid m_named m_pile m_nearThen m_shownThen H locs ls hW hS (lv_sub hl [0, 1, 2, 3, 4, 5] rfl) hv
        · replace hv := hv.2 c_12
          refine lv_iload_n hx hb dX7_doesLead_33 rfl (lv_at hl 2 rfl) ?_
          refine lv_goto (tgt := 44) hx hb dX7_doesLead_34 (by decide) ?_
          exact h_j_X7_doesLead_44 (fun x5' m_s' m_laid' m_named' m_pile' m_nearThen' m_shownThen' => l_X7_doesLead_7 p1 p2 p3 p4 K n x5' m_s' m_laid' m_named' m_pile' m_nearThen' m_shownThen') ih x5 x5 (3 : Int32) p2 m_s m_laid m_named m_pile m_nearThen m_shownThen H locs ls hW hS (lv_sub hl [0, 1, 2, 3, 4, 5] rfl) hv
  refine lv_aload_n hx hb dX7_doesLead_0 rfl (lv_at hl 0 rfl) ?_
  refine q_callVv (rest := []) (n := 0) C (c_X7_layDown l G b m_images m_at_ m_open_ m_steps m_use_ m_traced m_speaks m_isParted m_s m_laid _ hv) ml_X7_191 kb_X7_layDown rfl ⟨⟨rfl, rfl⟩, (Nat.le_of_ble_eq_true rfl), (Nat.le_of_ble_eq_true rfl)⟩ hW hS [0, 1, 2] rfl rfl kc7 (q0 := 0) rfl hl.1 rfl (Nat.le_of_ble_eq_true rfl) dX7_doesLead_1 ⟨Nat.zero_le _, Nat.zero_le _⟩ (fun u_2 H locs hv hW hS => ?_)
  obtain ⟨m_laid_1, rfl⟩ : ∃ z, z = u_2 := ⟨_, rfl⟩
  try dsimp only at hv
  have hW : wo G A (wd_X7_15 G b m_images m_at_ m_open_ m_steps m_use_ m_traced m_speaks m_isParted m_s m_laid_1 m_named m_pile m_nearThen m_shownThen) H := hW
  refine lv_iconst (v := 0) hx hb dX7_doesLead_4 kic_0 ?_
  refine lv_istore (lv' := [(5, .int (0 : Int32)), (0, .ref (b 0)), (1, .int p1), (2, .int p2), (3, .int p3), (4, .int p4)]) hx hb dX7_doesLead_5 hl (by decide) rfl (fun ls hl => ?_)
  obtain ⟨n_17, hv⟩ := hv
  exact h_l_X7_doesLead_7 n_17 (0 : Int32) m_s m_laid_1 m_named m_pile m_nearThen m_shownThen H locs ls hW hS (lv_sub hl [1, 2, 3, 4, 5, 0] rfl) hv
set_option maxHeartbeats 4000000 in
set_option maxRecDepth 100000 in
theorem c_X7_signs (l : Launch) (G : Gt) (b : Nat → Nat) (m_images : Int32) (m_at_ : Int32) (m_open_ : Int32) (m_steps : Int32) (m_use_ : Int32) (m_traced : Int32) (m_speaks : Int32) (m_isParted : Int32) (m_s : Nat → Int32) (m_laid : Nat → Int32) (m_errors : Nat → Int32) (m_named : Nat → Int32) (m_pile : Nat → Int32) (m_nearThen : Nat → Int32) (m_shownThen : Nat → Int32) (p1 : Int32) (p2 : Int32) (p3 : Int32) (p4 : Int32) (K : Int32 → (Nat → Int32) → (Nat → Int32) → (Nat → Int32) → (Nat → Int32) → (Nat → Int32) → (Nat → Int32) → (Nat → Int32) → Prop) (hv : v_X7_signs p1 p2 p3 p4 m_s m_laid m_errors m_named m_pile m_nearThen m_shownThen K) : CI l G yX7_signs (.code yX7_signs cX7_signs 8 (some .int) :: wsG) (rmm 8 184) [.ref (b 0), .int p1, .int p2, .int p3, .int p4] (wd_X7_14 G b m_images m_at_ m_open_ m_steps m_use_ m_traced m_speaks m_isParted m_s m_laid m_errors m_named m_pile m_nearThen m_shownThen) (S := (Nat → Int32) × (Nat → Int32) × (Nat → Int32) × (Nat → Int32) × (Nat → Int32) × (Nat → Int32) × (Nat → Int32)) (fun u => wd_X7_14 G b m_images m_at_ m_open_ m_steps m_use_ m_traced m_speaks m_isParted u.1 u.2.1 u.2.2.1 u.2.2.2.1 u.2.2.2.2.1 u.2.2.2.2.2.1 u.2.2.2.2.2.2) (fun r u => K r u.1 u.2.1 u.2.2.1 u.2.2.2.1 u.2.2.2.2.1 u.2.2.2.2.2.1 u.2.2.2.2.2.2) := by
  refine ci_intro (by decide) rfl (fun _ => rfl) (Nat.le_of_ble_eq_true rfl) ?_
  intro p e s m args below meth c A H ls Q C hW hS hl ret
  have hx := C.1.1
  have hb := C.1.2.1
  generalize hls : ([] : List Loc) = locs at hS ⊢
  have hl : lv_has ls 8 [(0, .ref (b 0)), (1, .int p1), (2, .int p2), (3, .int p3), (4, .int p4)] := hl
  have h_j_X7_signs_37 : ∀ (m_s : Nat → Int32) (m_laid : Nat → Int32) (m_errors : Nat → Int32) (m_named : Nat → Int32) (m_pile : Nat → Int32) (m_nearThen : Nat → Int32) (m_shownThen : Nat → Int32) (H : Heap) (locs : List Loc) (ls : Array Slot), wo G A (wd_X7_14 G b m_images m_at_ m_open_ m_steps m_use_ m_traced m_speaks m_isParted m_s m_laid m_errors m_named m_pile m_nearThen m_shownThen) H → va_S A s.heap H locs → lv_has ls 8 [(0, .ref (b 0))] → j_X7_signs_37 p1 p2 p3 p4 K m_s m_laid m_errors m_named m_pile m_nearThen m_shownThen → W p l e (rmm 8 184) s m args below meth c H locs 0 0 Q (F0 m 37 ls []) := by
    intro m_s m_laid m_errors m_named m_pile m_nearThen m_shownThen H locs ls hW hS hl hv
    refine lv_aload_n hx hb dX7_signs_37 rfl (lv_at hl 0 rfl) ?_
    refine lv_iconst (v := 1) hx hb dX7_signs_38 kic_1 ?_
    refine q_callV (rest := []) (n := 1) C (c_X7_error l G b m_images m_at_ m_open_ m_steps m_use_ m_traced m_speaks m_isParted m_errors (1 : Int32) _ hv) ml_X7_61 kb_X7_error rfl ⟨⟨rfl, rfl⟩, (Nat.le_of_ble_eq_true rfl), (Nat.le_of_ble_eq_true rfl)⟩ hW hS [0, 3] rfl rfl kc7 (q0 := 0) rfl hl.1 rfl (Nat.le_of_ble_eq_true rfl) dX7_signs_39 ⟨Nat.zero_le _, Nat.zero_le _⟩ (fun r_4 u_5 H locs hv hW hS => ?_)
    obtain ⟨m_errors_4, rfl⟩ : ∃ z, z = u_5 := ⟨_, rfl⟩
    try dsimp only at hv
    have hW : wo G A (wd_X7_14 G b m_images m_at_ m_open_ m_steps m_use_ m_traced m_speaks m_isParted m_s m_laid m_errors_4 m_named m_pile m_nearThen m_shownThen) H := hW
    exact ret (m_s, m_laid, m_errors_4, m_named, m_pile, m_nearThen, m_shownThen) r_4 H locs ls _ rfl hW hS hv dX7_signs_42
  have h_j_X7_signs_112 : ∀ (B49 : Int32 → Int32 → (Nat → Int32) → (Nat → Int32) → (Nat → Int32) → (Nat → Int32) → (Nat → Int32) → (Nat → Int32) → (Nat → Int32) → Prop) (hB49 : ∀ (x5 : Int32) (x6 : Int32) (m_s : Nat → Int32) (m_laid : Nat → Int32) (m_errors : Nat → Int32) (m_named : Nat → Int32) (m_pile : Nat → Int32) (m_nearThen : Nat → Int32) (m_shownThen : Nat → Int32) (H : Heap) (locs : List Loc) (ls : Array Slot), wo G A (wd_X7_14 G b m_images m_at_ m_open_ m_steps m_use_ m_traced m_speaks m_isParted m_s m_laid m_errors m_named m_pile m_nearThen m_shownThen) H → va_S A s.heap H locs → lv_has ls 8 [(0, .ref (b 0)), (1, .int p1), (2, .int p2), (3, .int p3), (4, .int p4), (5, .int x5), (6, .int x6)] → B49 x5 x6 m_s m_laid m_errors m_named m_pile m_nearThen m_shownThen → W p l e (rmm 8 184) s m args below meth c H locs 0 0 Q (F0 m 49 ls [])), ∀ (x6 : Int32) (t0 : Int32) (m_s : Nat → Int32) (m_laid : Nat → Int32) (m_errors : Nat → Int32) (m_named : Nat → Int32) (m_pile : Nat → Int32) (m_nearThen : Nat → Int32) (m_shownThen : Nat → Int32) (H : Heap) (locs : List Loc) (ls : Array Slot), wo G A (wd_X7_14 G b m_images m_at_ m_open_ m_steps m_use_ m_traced m_speaks m_isParted m_s m_laid m_errors m_named m_pile m_nearThen m_shownThen) H → va_S A s.heap H locs → lv_has ls 8 [(0, .ref (b 0)), (1, .int p1), (2, .int p2), (3, .int p3), (4, .int p4), (6, .int x6)] → j_X7_signs_112 p1 p2 p3 p4 B49 K x6 t0 m_s m_laid m_errors m_named m_pile m_nearThen m_shownThen → W p l e (rmm 8 184) s m args below meth c H locs 0 0 Q (F0 m 112 ls [.int t0]) := by
    intro B49 hB49 x6 t0 m_s m_laid m_errors m_named m_pile m_nearThen m_shownThen H locs ls hW hS hl hv
    refine lv_istore (lv' := [(5, .int t0), (0, .ref (b 0)), (1, .int p1), (2, .int p2), (3, .int p3), (4, .int p4), (6, .int x6)]) hx hb dX7_signs_112 hl (by decide) rfl (fun ls hl => ?_)
    refine lv_iinc (v := (x6 + 1)) (lv' := [(6, .int (x6 + 1)), (5, .int t0), (0, .ref (b 0)), (1, .int p1), (2, .int p2), (3, .int p3), (4, .int p4)]) hx hb dX7_signs_114 hl (k := 6) rfl rfl (by decide) rfl (fun ls hl => ?_)
    refine lv_goto (tgt := 49) hx hb dX7_signs_117 (by decide) ?_
    exact hB49 t0 (x6 + 1) m_s m_laid m_errors m_named m_pile m_nearThen m_shownThen H locs ls hW hS (lv_sub hl [2, 3, 4, 5, 6, 1, 0] rfl) hv
  have h_j_X7_signs_110 : ∀ (B49 : Int32 → Int32 → (Nat → Int32) → (Nat → Int32) → (Nat → Int32) → (Nat → Int32) → (Nat → Int32) → (Nat → Int32) → (Nat → Int32) → Prop) (hB49 : ∀ (x5 : Int32) (x6 : Int32) (m_s : Nat → Int32) (m_laid : Nat → Int32) (m_errors : Nat → Int32) (m_named : Nat → Int32) (m_pile : Nat → Int32) (m_nearThen : Nat → Int32) (m_shownThen : Nat → Int32) (H : Heap) (locs : List Loc) (ls : Array Slot), wo G A (wd_X7_14 G b m_images m_at_ m_open_ m_steps m_use_ m_traced m_speaks m_isParted m_s m_laid m_errors m_named m_pile m_nearThen m_shownThen) H → va_S A s.heap H locs → lv_has ls 8 [(0, .ref (b 0)), (1, .int p1), (2, .int p2), (3, .int p3), (4, .int p4), (5, .int x5), (6, .int x6)] → B49 x5 x6 m_s m_laid m_errors m_named m_pile m_nearThen m_shownThen → W p l e (rmm 8 184) s m args below meth c H locs 0 0 Q (F0 m 49 ls [])), ∀ (x5 : Int32) (x6 : Int32) (m_s : Nat → Int32) (m_laid : Nat → Int32) (m_errors : Nat → Int32) (m_named : Nat → Int32) (m_pile : Nat → Int32) (m_nearThen : Nat → Int32) (m_shownThen : Nat → Int32) (H : Heap) (locs : List Loc) (ls : Array Slot), wo G A (wd_X7_14 G b m_images m_at_ m_open_ m_steps m_use_ m_traced m_speaks m_isParted m_s m_laid m_errors m_named m_pile m_nearThen m_shownThen) H → va_S A s.heap H locs → lv_has ls 8 [(0, .ref (b 0)), (1, .int p1), (2, .int p2), (3, .int p3), (4, .int p4), (5, .int x5), (6, .int x6)] → j_X7_signs_110 p1 p2 p3 p4 B49 K x5 x6 m_s m_laid m_errors m_named m_pile m_nearThen m_shownThen → W p l e (rmm 8 184) s m args below meth c H locs 0 0 Q (F0 m 110 ls []) := by
    intro B49 hB49 x5 x6 m_s m_laid m_errors m_named m_pile m_nearThen m_shownThen H locs ls hW hS hl hv
    refine lv_iload hx hb dX7_signs_110 (lv_at hl 5 rfl) ?_
    exact h_j_X7_signs_112 B49 hB49 x6 x5 m_s m_laid m_errors m_named m_pile m_nearThen m_shownThen H locs ls hW hS (lv_sub hl [0, 1, 2, 3, 4, 6] rfl) hv
  have h_j_X7_signs_86 : ∀ (B49 : Int32 → Int32 → (Nat → Int32) → (Nat → Int32) → (Nat → Int32) → (Nat → Int32) → (Nat → Int32) → (Nat → Int32) → (Nat → Int32) → Prop) (hB49 : ∀ (x5 : Int32) (x6 : Int32) (m_s : Nat → Int32) (m_laid : Nat → Int32) (m_errors : Nat → Int32) (m_named : Nat → Int32) (m_pile : Nat → Int32) (m_nearThen : Nat → Int32) (m_shownThen : Nat → Int32) (H : Heap) (locs : List Loc) (ls : Array Slot), wo G A (wd_X7_14 G b m_images m_at_ m_open_ m_steps m_use_ m_traced m_speaks m_isParted m_s m_laid m_errors m_named m_pile m_nearThen m_shownThen) H → va_S A s.heap H locs → lv_has ls 8 [(0, .ref (b 0)), (1, .int p1), (2, .int p2), (3, .int p3), (4, .int p4), (5, .int x5), (6, .int x6)] → B49 x5 x6 m_s m_laid m_errors m_named m_pile m_nearThen m_shownThen → W p l e (rmm 8 184) s m args below meth c H locs 0 0 Q (F0 m 49 ls [])), ∀ (x5 : Int32) (x6 : Int32) (t0 : Int32) (m_s : Nat → Int32) (m_laid : Nat → Int32) (m_errors : Nat → Int32) (m_named : Nat → Int32) (m_pile : Nat → Int32) (m_nearThen : Nat → Int32) (m_shownThen : Nat → Int32) (H : Heap) (locs : List Loc) (ls : Array Slot), t0 = 0 ∨ t0 = 1 → wo G A (wd_X7_14 G b m_images m_at_ m_open_ m_steps m_use_ m_traced m_speaks m_isParted m_s m_laid m_errors m_named m_pile m_nearThen m_shownThen) H → va_S A s.heap H locs → lv_has ls 8 [(0, .ref (b 0)), (1, .int p1), (2, .int p2), (3, .int p3), (4, .int p4), (5, .int x5), (6, .int x6)] → j_X7_signs_86 p1 p2 p3 p4 B49 K x5 x6 t0 m_s m_laid m_errors m_named m_pile m_nearThen m_shownThen → W p l e (rmm 8 184) s m args below meth c H locs 0 0 Q (F0 m 86 ls [.int t0]) := by
    intro B49 hB49 x5 x6 t0 m_s m_laid m_errors m_named m_pile m_nearThen m_shownThen H locs ls hz_t0 hW hS hl hv
    refine lv_istore (lv' := [(7, .int t0), (0, .ref (b 0)), (1, .int p1), (2, .int p2), (3, .int p3), (4, .int p4), (5, .int x5), (6, .int x6)]) hx hb dX7_signs_86 hl (by decide) rfl (fun ls hl => ?_)
    refine lv_iload hx hb dX7_signs_88 (lv_at hl 0 rfl) ?_
    refine lv_if_eq (tgt := 110) hx hb dX7_signs_90 (by decide) (fun c_24 => ?_) (fun c_24 => ?_)
    · replace hv := hv.1 c_24
      exact h_j_X7_signs_110 B49 hB49 x5 x6 m_s m_laid m_errors m_named m_pile m_nearThen m_shownThen H locs ls hW hS (lv_sub hl [1, 2, 3, 4, 5, 6, 7] rfl) hv
    · replace hv := hv.2 c_24
      refine lv_aload_n hx hb dX7_signs_93 rfl (lv_at hl 1 rfl) ?_
      refine lv_iload_n hx hb dX7_signs_94 rfl (lv_at hl 2 rfl) ?_
      refine lv_iload_n hx hb dX7_signs_95 rfl (lv_at hl 3 rfl) ?_
      refine lv_iload_n hx hb dX7_signs_96 rfl (lv_at hl 4 rfl) ?_
      refine lv_iload hx hb dX7_signs_97 (lv_at hl 7 rfl) ?_
      refine q_callV (rest := []) (n := 4) C (c_X7_doesLead l G b m_images m_at_ m_open_ m_steps m_use_ m_traced m_speaks m_isParted m_s m_laid m_named m_pile m_nearThen m_shownThen p1 p2 p3 x6 _ hv) ml_X7_203 kb_X7_doesLead rfl ⟨⟨rfl, rfl⟩, (Nat.le_of_ble_eq_true rfl), (Nat.le_of_ble_eq_true rfl)⟩ hW hS [0, 1, 2, 4, 5, 6, 7] rfl rfl kc7 (q0 := 0) rfl hl.1 rfl (Nat.le_of_ble_eq_true rfl) dX7_signs_99 ⟨Nat.zero_le _, Nat.zero_le _⟩ (fun r_25 u_26 H locs hv hW hS => ?_)
      obtain ⟨m_s_25, m_laid_25, m_named_25, m_pile_25, m_nearThen_25, m_shownThen_25⟩ := u_26
      obtain ⟨hv_b_25, hv⟩ := hv
      try dsimp only at hv
      have hW : wo G A (wd_X7_14 G b m_images m_at_ m_open_ m_steps m_use_ m_traced m_speaks m_isParted m_s_25 m_laid_25 m_errors m_named_25 m_pile_25 m_nearThen_25 m_shownThen_25) H := hW
      refine lv_if_eq (tgt := 110) hx hb dX7_signs_102 (by decide) (fun c_27 => ?_) (fun c_27 => ?_)
      · replace hv := hv.1 c_27
        exact h_j_X7_signs_110 B49 hB49 x5 x6 m_s_25 m_laid_25 m_errors m_named_25 m_pile_25 m_nearThen_25 m_shownThen_25 H locs ls hW hS (lv_sub hl [1, 2, 3, 4, 5, 6, 7] rfl) hv
      · replace hv := hv.2 c_27
        refine lv_iload hx hb dX7_signs_105 (lv_at hl 7 rfl) ?_
        refine lv_goto (tgt := 112) hx hb dX7_signs_107 (by decide) ?_
        exact h_j_X7_signs_112 B49 hB49 x6 x6 m_s_25 m_laid_25 m_errors m_named_25 m_pile_25 m_nearThen_25 m_shownThen_25 H locs ls hW hS (lv_sub hl [1, 2, 3, 4, 5, 7] rfl) hv
  have h_j_X7_signs_81 : ∀ (B49 : Int32 → Int32 → (Nat → Int32) → (Nat → Int32) → (Nat → Int32) → (Nat → Int32) → (Nat → Int32) → (Nat → Int32) → (Nat → Int32) → Prop) (hB49 : ∀ (x5 : Int32) (x6 : Int32) (m_s : Nat → Int32) (m_laid : Nat → Int32) (m_errors : Nat → Int32) (m_named : Nat → Int32) (m_pile : Nat → Int32) (m_nearThen : Nat → Int32) (m_shownThen : Nat → Int32) (H : Heap) (locs : List Loc) (ls : Array Slot), wo G A (wd_X7_14 G b m_images m_at_ m_open_ m_steps m_use_ m_traced m_speaks m_isParted m_s m_laid m_errors m_named m_pile m_nearThen m_shownThen) H → va_S A s.heap H locs → lv_has ls 8 [(0, .ref (b 0)), (1, .int p1), (2, .int p2), (3, .int p3), (4, .int p4), (5, .int x5), (6, .int x6)] → B49 x5 x6 m_s m_laid m_errors m_named m_pile m_nearThen m_shownThen → W p l e (rmm 8 184) s m args below meth c H locs 0 0 Q (F0 m 49 ls [])), ∀ (x5 : Int32) (x6 : Int32) (m_s : Nat → Int32) (m_laid : Nat → Int32) (m_errors : Nat → Int32) (m_named : Nat → Int32) (m_pile : Nat → Int32) (m_nearThen : Nat → Int32) (m_shownThen : Nat → Int32) (H : Heap) (locs : List Loc) (ls : Array Slot), wo G A (wd_X7_14 G b m_images m_at_ m_open_ m_steps m_use_ m_traced m_speaks m_isParted m_s m_laid m_errors m_named m_pile m_nearThen m_shownThen) H → va_S A s.heap H locs → lv_has ls 8 [(0, .ref (b 0)), (1, .int p1), (2, .int p2), (3, .int p3), (4, .int p4), (5, .int x5), (6, .int x6)] → j_X7_signs_81 p1 p2 p3 p4 B49 K x5 x6 m_s m_laid m_errors m_named m_pile m_nearThen m_shownThen → W p l e (rmm 8 184) s m args below meth c H locs 0 0 Q (F0 m 81 ls []) := by
    intro B49 hB49 x5 x6 m_s m_laid m_errors m_named m_pile m_nearThen m_shownThen H locs ls hW hS hl hv
    refine lv_iconst (v := 1) hx hb dX7_signs_81 kic_1 ?_
    refine lv_goto (tgt := 86) hx hb dX7_signs_82 (by decide) ?_
    exact h_j_X7_signs_86 B49 hB49 x5 x6 (1 : Int32) m_s m_laid m_errors m_named m_pile m_nearThen m_shownThen H locs ls (Or.inr rfl) hW hS (lv_sub hl [0, 1, 2, 3, 4, 5, 6] rfl) hv
  have h_l_X7_signs_49 : ∀ (n : Nat), ∀ (x5 : Int32) (x6 : Int32) (m_s : Nat → Int32) (m_laid : Nat → Int32) (m_errors : Nat → Int32) (m_named : Nat → Int32) (m_pile : Nat → Int32) (m_nearThen : Nat → Int32) (m_shownThen : Nat → Int32) (H : Heap) (locs : List Loc) (ls : Array Slot), wo G A (wd_X7_14 G b m_images m_at_ m_open_ m_steps m_use_ m_traced m_speaks m_isParted m_s m_laid m_errors m_named m_pile m_nearThen m_shownThen) H → va_S A s.heap H locs → lv_has ls 8 [(0, .ref (b 0)), (1, .int p1), (2, .int p2), (3, .int p3), (4, .int p4), (5, .int x5), (6, .int x6)] → l_X7_signs_49 p1 p2 p3 p4 K n x5 x6 m_s m_laid m_errors m_named m_pile m_nearThen m_shownThen → W p l e (rmm 8 184) s m args below meth c H locs 0 0 Q (F0 m 49 ls []) := by
    intro n
    induction n with
    | zero =>
      intro x5 x6 m_s m_laid m_errors m_named m_pile m_nearThen m_shownThen H locs ls hW hS hl hv
      exact False.elim hv
    | succ n ih =>
      intro x5 x6 m_s m_laid m_errors m_named m_pile m_nearThen m_shownThen H locs ls hW hS hl hv
      refine lv_iload hx hb dX7_signs_49 (lv_at hl 6 rfl) ?_
      refine lv_iconst (v := 1) hx hb dX7_signs_51 kic_1 ?_
      refine lv_aload_n hx hb dX7_signs_52 rfl (lv_at hl 0 rfl) ?_
      refine q_get C kc7 hW 0 rfl 0 (by decide) fl_X7_7 rfl rfl dX7_signs_53 ?_
      refine lv_iconst (v := 4) hx hb dX7_signs_56 kic_4 ?_
      obtain ⟨h_15, hv⟩ := hv
      refine q_iald C hW 1 rfl h_15 dX7_signs_57 ?_
      refine lv_ishl hx hb dX7_signs_58 ?_
      refine lv_icmp_ge (tgt := 120) hx hb dX7_signs_59 (by decide) (fun c_16 => ?_) (fun c_16 => ?_)
      · replace hv := hv.1 c_16
        refine lv_iload hx hb dX7_signs_120 (lv_at hl 5 rfl) ?_
        refine lv_iconst (v := (-1)) hx hb dX7_signs_122 kic_m1 ?_
        refine lv_icmp_ne (tgt := 134) hx hb dX7_signs_123 (by decide) (fun c_17 => ?_) (fun c_17 => ?_)
        · replace hv := hv.1 c_17
          refine lv_iload hx hb dX7_signs_134 (lv_at hl 4 rfl) ?_
          refine lv_if_ne (tgt := 147) hx hb dX7_signs_136 (by decide) (fun c_18 => ?_) (fun c_18 => ?_)
          · replace hv := hv.1 c_18
            refine lv_iload hx hb dX7_signs_147 (lv_at hl 5 rfl) ?_
            exact ret (m_s, m_laid, m_errors, m_named, m_pile, m_nearThen, m_shownThen) x5 H locs ls _ rfl hW hS hv dX7_signs_149
          · replace hv := hv.2 c_18
            refine lv_iload hx hb dX7_signs_139 (lv_at hl 5 rfl) ?_
            refine q_callS (rest := []) (n := 1) C (c_X7_manyIn l G x5 _ hv) ml_X7_200 kb_X7_manyIn rfl ⟨⟨rfl, rfl⟩, (Nat.le_of_ble_eq_true rfl), (Nat.le_of_ble_eq_true rfl)⟩ hW hS hl.1 rfl (Nat.le_of_ble_eq_true rfl) dX7_signs_141 ⟨Nat.zero_le _, Nat.zero_le _⟩ (fun r_19 u_20 H locs hv hW hS => ?_)
            try dsimp only at hv
            refine lv_goto (tgt := 149) hx hb dX7_signs_144 (by decide) ?_
            exact ret (m_s, m_laid, m_errors, m_named, m_pile, m_nearThen, m_shownThen) r_19 H locs ls _ rfl hW hS hv dX7_signs_149
        · replace hv := hv.2 c_17
          refine lv_aload_n hx hb dX7_signs_126 rfl (lv_at hl 0 rfl) ?_
          refine lv_iconst (v := 2) hx hb dX7_signs_127 kic_2 ?_
          refine q_callV (rest := []) (n := 1) C (c_X7_error l G b m_images m_at_ m_open_ m_steps m_use_ m_traced m_speaks m_isParted m_errors (2 : Int32) _ hv) ml_X7_61 kb_X7_error rfl ⟨⟨rfl, rfl⟩, (Nat.le_of_ble_eq_true rfl), (Nat.le_of_ble_eq_true rfl)⟩ hW hS [0, 3] rfl rfl kc7 (q0 := 0) rfl hl.1 rfl (Nat.le_of_ble_eq_true rfl) dX7_signs_128 ⟨Nat.zero_le _, Nat.zero_le _⟩ (fun r_21 u_22 H locs hv hW hS => ?_)
          obtain ⟨m_errors_21, rfl⟩ : ∃ z, z = u_22 := ⟨_, rfl⟩
          try dsimp only at hv
          have hW : wo G A (wd_X7_14 G b m_images m_at_ m_open_ m_steps m_use_ m_traced m_speaks m_isParted m_s m_laid m_errors_21 m_named m_pile m_nearThen m_shownThen) H := hW
          refine lv_goto (tgt := 149) hx hb dX7_signs_131 (by decide) ?_
          exact ret (m_s, m_laid, m_errors_21, m_named, m_pile, m_nearThen, m_shownThen) r_21 H locs ls _ rfl hW hS hv dX7_signs_149
      · replace hv := hv.2 c_16
        refine lv_iload hx hb dX7_signs_62 (lv_at hl 5 rfl) ?_
        refine lv_iconst (v := (-1)) hx hb dX7_signs_64 kic_m1 ?_
        refine lv_icmp_eq (tgt := 81) hx hb dX7_signs_65 (by decide) (fun c_23 => ?_) (fun c_23 => ?_)
        · replace hv := hv.1 c_23
          exact h_j_X7_signs_81 (fun x5' x6' m_s' m_laid' m_errors' m_named' m_pile' m_nearThen' m_shownThen' => l_X7_signs_49 p1 p2 p3 p4 K n x5' x6' m_s' m_laid' m_errors' m_named' m_pile' m_nearThen' m_shownThen') ih x5 x6 m_s m_laid m_errors m_named m_pile m_nearThen m_shownThen H locs ls hW hS (lv_sub hl [0, 1, 2, 3, 4, 5, 6] rfl) hv
        · replace hv := hv.2 c_23
          refine lv_iload hx hb dX7_signs_68 (lv_at hl 6 rfl) ?_
          refine q_callS (rest := []) (n := 1) C (c_X7_manyIn l G x6 _ hv) ml_X7_200 kb_X7_manyIn rfl ⟨⟨rfl, rfl⟩, (Nat.le_of_ble_eq_true rfl), (Nat.le_of_ble_eq_true rfl)⟩ hW hS hl.1 rfl (Nat.le_of_ble_eq_true rfl) dX7_signs_70 ⟨Nat.zero_le _, Nat.zero_le _⟩ (fun r_28 u_29 H locs hv hW hS => ?_)
          try dsimp only at hv
          refine lv_iload hx hb dX7_signs_73 (lv_at hl 5 rfl) ?_
          refine q_callS (rest := [.int r_28]) (n := 1) C (c_X7_manyIn l G x5 _ hv) ml_X7_200 kb_X7_manyIn rfl ⟨⟨rfl, rfl⟩, (Nat.le_of_ble_eq_true rfl), (Nat.le_of_ble_eq_true rfl)⟩ hW hS hl.1 rfl (Nat.le_of_ble_eq_true rfl) dX7_signs_75 ⟨Nat.zero_le _, Nat.zero_le _⟩ (fun r_30 u_31 H locs hv hW hS => ?_)
          try dsimp only at hv
          refine lv_icmp_ge (tgt := 85) hx hb dX7_signs_78 (by decide) (fun c_32 => ?_) (fun c_32 => ?_)
          · replace hv := hv.1 c_32
            refine lv_iconst (v := 0) hx hb dX7_signs_85 kic_0 ?_
            exact h_j_X7_signs_86 (fun x5' x6' m_s' m_laid' m_errors' m_named' m_pile' m_nearThen' m_shownThen' => l_X7_signs_49 p1 p2 p3 p4 K n x5' x6' m_s' m_laid' m_errors' m_named' m_pile' m_nearThen' m_shownThen') ih x5 x6 (0 : Int32) m_s m_laid m_errors m_named m_pile m_nearThen m_shownThen H locs ls (Or.inl rfl) hW hS (lv_sub hl [0, 1, 2, 3, 4, 5, 6] rfl) hv
          · replace hv := hv.2 c_32
            exact h_j_X7_signs_81 (fun x5' x6' m_s' m_laid' m_errors' m_named' m_pile' m_nearThen' m_shownThen' => l_X7_signs_49 p1 p2 p3 p4 K n x5' x6' m_s' m_laid' m_errors' m_named' m_pile' m_nearThen' m_shownThen') ih x5 x6 m_s m_laid m_errors m_named m_pile m_nearThen m_shownThen H locs ls hW hS (lv_sub hl [0, 1, 2, 3, 4, 5, 6] rfl) hv
  refine lv_aload_n hx hb dX7_signs_0 rfl (lv_at hl 0 rfl) ?_
  refine lv_iload_n hx hb dX7_signs_1 rfl (lv_at hl 1 rfl) ?_
  refine q_callV (rest := []) (n := 1) C (c_X7_isPerson l G b m_images m_at_ m_open_ m_steps m_use_ m_traced m_speaks m_isParted m_s p1 _ hv) ml_X7_57 kb_X7_isPerson rfl ⟨⟨rfl, rfl⟩, (Nat.le_of_ble_eq_true rfl), (Nat.le_of_ble_eq_true rfl)⟩ hW hS [0, 1] rfl rfl kc7 (q0 := 0) rfl hl.1 rfl (Nat.le_of_ble_eq_true rfl) dX7_signs_2 ⟨Nat.zero_le _, Nat.zero_le _⟩ (fun r_1 u_2 H locs hv hW hS => ?_)
  obtain ⟨hv_b_1, hv⟩ := hv
  try dsimp only at hv
  refine lv_if_eq (tgt := 37) hx hb dX7_signs_5 (by decide) (fun c_3 => ?_) (fun c_3 => ?_)
  · replace hv := hv.1 c_3
    exact h_j_X7_signs_37 m_s m_laid m_errors m_named m_pile m_nearThen m_shownThen H locs ls hW hS (lv_sub hl [0] rfl) hv
  · replace hv := hv.2 c_3
    refine lv_iload_n hx hb dX7_signs_8 rfl (lv_at hl 2 rfl) ?_
    refine lv_iconst (v := 0) hx hb dX7_signs_9 kic_0 ?_
    refine lv_bipush (v := 9) hx hb dX7_signs_10 kbp_9 ?_
    refine q_callS (rest := []) (n := 3) C (c_X7_in l G p2 (0 : Int32) (9 : Int32) _ hv) ml_X7_53 kb_X7_in rfl ⟨⟨rfl, rfl⟩, (Nat.le_of_ble_eq_true rfl), (Nat.le_of_ble_eq_true rfl)⟩ hW hS hl.1 rfl (Nat.le_of_ble_eq_true rfl) dX7_signs_12 ⟨Nat.zero_le _, Nat.zero_le _⟩ (fun r_6 u_7 H locs hv hW hS => ?_)
    obtain ⟨hv_b_6, hv⟩ := hv
    try dsimp only at hv
    refine lv_if_eq (tgt := 37) hx hb dX7_signs_15 (by decide) (fun c_8 => ?_) (fun c_8 => ?_)
    · replace hv := hv.1 c_8
      exact h_j_X7_signs_37 m_s m_laid m_errors m_named m_pile m_nearThen m_shownThen H locs ls hW hS (lv_sub hl [0] rfl) hv
    · replace hv := hv.2 c_8
      refine lv_iload_n hx hb dX7_signs_18 rfl (lv_at hl 3 rfl) ?_
      refine lv_iconst (v := 1) hx hb dX7_signs_19 kic_1 ?_
      refine lv_iconst (v := 4) hx hb dX7_signs_20 kic_4 ?_
      refine q_callS (rest := []) (n := 3) C (c_X7_in l G p3 (1 : Int32) (4 : Int32) _ hv) ml_X7_53 kb_X7_in rfl ⟨⟨rfl, rfl⟩, (Nat.le_of_ble_eq_true rfl), (Nat.le_of_ble_eq_true rfl)⟩ hW hS hl.1 rfl (Nat.le_of_ble_eq_true rfl) dX7_signs_21 ⟨Nat.zero_le _, Nat.zero_le _⟩ (fun r_9 u_10 H locs hv hW hS => ?_)
      obtain ⟨hv_b_9, hv⟩ := hv
      try dsimp only at hv
      refine lv_if_eq (tgt := 37) hx hb dX7_signs_24 (by decide) (fun c_11 => ?_) (fun c_11 => ?_)
      · replace hv := hv.1 c_11
        exact h_j_X7_signs_37 m_s m_laid m_errors m_named m_pile m_nearThen m_shownThen H locs ls hW hS (lv_sub hl [0] rfl) hv
      · replace hv := hv.2 c_11
        refine lv_iload hx hb dX7_signs_27 (lv_at hl 4 rfl) ?_
        refine lv_iconst (v := 0) hx hb dX7_signs_29 kic_0 ?_
        refine lv_iconst (v := 1) hx hb dX7_signs_30 kic_1 ?_
        refine q_callS (rest := []) (n := 3) C (c_X7_in l G p4 (0 : Int32) (1 : Int32) _ hv) ml_X7_53 kb_X7_in rfl ⟨⟨rfl, rfl⟩, (Nat.le_of_ble_eq_true rfl), (Nat.le_of_ble_eq_true rfl)⟩ hW hS hl.1 rfl (Nat.le_of_ble_eq_true rfl) dX7_signs_31 ⟨Nat.zero_le _, Nat.zero_le _⟩ (fun r_12 u_13 H locs hv hW hS => ?_)
        obtain ⟨hv_b_12, hv⟩ := hv
        try dsimp only at hv
        refine lv_if_ne (tgt := 43) hx hb dX7_signs_34 (by decide) (fun c_14 => ?_) (fun c_14 => ?_)
        · replace hv := hv.1 c_14
          refine lv_iconst (v := (-1)) hx hb dX7_signs_43 kic_m1 ?_
          refine lv_istore (lv' := [(5, .int (-1 : Int32)), (0, .ref (b 0)), (1, .int p1), (2, .int p2), (3, .int p3), (4, .int p4)]) hx hb dX7_signs_44 hl (by decide) rfl (fun ls hl => ?_)
          refine lv_iconst (v := 0) hx hb dX7_signs_46 kic_0 ?_
          refine lv_istore (lv' := [(6, .int (0 : Int32)), (5, .int (-1 : Int32)), (0, .ref (b 0)), (1, .int p1), (2, .int p2), (3, .int p3), (4, .int p4)]) hx hb dX7_signs_47 hl (by decide) rfl (fun ls hl => ?_)
          obtain ⟨n_33, hv⟩ := hv
          exact h_l_X7_signs_49 n_33 (-1 : Int32) (0 : Int32) m_s m_laid m_errors m_named m_pile m_nearThen m_shownThen H locs ls hW hS (lv_sub hl [2, 3, 4, 5, 6, 1, 0] rfl) hv
        · replace hv := hv.2 c_14
          exact h_j_X7_signs_37 m_s m_laid m_errors m_named m_pile m_nearThen m_shownThen H locs ls hW hS (lv_sub hl [0] rfl) hv
set_option maxHeartbeats 4000000 in
set_option maxRecDepth 100000 in
theorem c_X7_heard (l : Launch) (G : Gt) (b : Nat → Nat) (m_images : Int32) (m_at_ : Int32) (m_open_ : Int32) (m_steps : Int32) (m_use_ : Int32) (m_traced : Int32) (m_speaks : Int32) (m_isParted : Int32) (m_s : Nat → Int32) (m_errors : Nat → Int32) (p1 : Int32) (K : Int32 → (Nat → Int32) → Prop) (hv : v_X7_heard p1 m_s m_errors K) : CI l G yX7_heard (.code yX7_heard cX7_heard 5 (some .int) :: wsG) (rmm 2 43) [.ref (b 0), .int p1] (wd_X7_4 G b m_images m_at_ m_open_ m_steps m_use_ m_traced m_speaks m_isParted m_s m_errors) (S := (Nat → Int32)) (fun u => wd_X7_4 G b m_images m_at_ m_open_ m_steps m_use_ m_traced m_speaks m_isParted m_s u) (fun r u => K r u) := by
  refine ci_intro (by decide) rfl (fun _ => rfl) (Nat.le_of_ble_eq_true rfl) ?_
  intro p e s m args below meth c A H ls Q C hW hS hl ret
  have hx := C.1.1
  have hb := C.1.2.1
  generalize hls : ([] : List Loc) = locs at hS ⊢
  have hl : lv_has ls 5 [(0, .ref (b 0)), (1, .int p1)] := hl
  have h_j_X7_heard_63 : ∀ (B20 : Int32 → Int32 → (Nat → Int32) → Prop) (hB20 : ∀ (x2 : Int32) (x3 : Int32) (m_errors : Nat → Int32) (H : Heap) (locs : List Loc) (ls : Array Slot), wo G A (wd_X7_4 G b m_images m_at_ m_open_ m_steps m_use_ m_traced m_speaks m_isParted m_s m_errors) H → va_S A s.heap H locs → lv_has ls 5 [(0, .ref (b 0)), (2, .int x2), (3, .int x3)] → B20 x2 x3 m_errors → W p l e (rmm 2 43) s m args below meth c H locs 0 0 Q (F0 m 20 ls [])) (B30 : Int32 → Int32 → Int32 → (Nat → Int32) → Prop) (hB30 : ∀ (x2 : Int32) (x3 : Int32) (x4 : Int32) (m_errors : Nat → Int32) (H : Heap) (locs : List Loc) (ls : Array Slot), wo G A (wd_X7_4 G b m_images m_at_ m_open_ m_steps m_use_ m_traced m_speaks m_isParted m_s m_errors) H → va_S A s.heap H locs → lv_has ls 5 [(0, .ref (b 0)), (2, .int x2), (3, .int x3), (4, .int x4)] → B30 x2 x3 x4 m_errors → W p l e (rmm 2 43) s m args below meth c H locs 0 0 Q (F0 m 30 ls [])), ∀ (x3 : Int32) (x4 : Int32) (t0 : Int32) (t1 : Int32) (m_errors : Nat → Int32) (H : Heap) (locs : List Loc) (ls : Array Slot), wo G A (wd_X7_4 G b m_images m_at_ m_open_ m_steps m_use_ m_traced m_speaks m_isParted m_s m_errors) H → va_S A s.heap H locs → lv_has ls 5 [(0, .ref (b 0)), (3, .int x3), (4, .int x4)] → j_X7_heard_63 p1 m_s B20 B30 K x3 x4 t0 t1 m_errors → W p l e (rmm 2 43) s m args below meth c H locs 0 0 Q (F0 m 63 ls [.int t1, .int t0]) := by
    intro B20 hB20 B30 hB30 x3 x4 t0 t1 m_errors H locs ls hW hS hl hv
    refine lv_ior hx hb dX7_heard_63 ?_
    refine lv_istore_n (lv' := [(2, .int (t0 ||| t1)), (0, .ref (b 0)), (3, .int x3), (4, .int x4)]) hx hb dX7_heard_64 rfl hl (by decide) rfl (fun ls hl => ?_)
    refine lv_iinc (v := (x4 + 1)) (lv' := [(4, .int (x4 + 1)), (2, .int (t0 ||| t1)), (0, .ref (b 0)), (3, .int x3)]) hx hb dX7_heard_65 hl (k := 3) rfl rfl (by decide) rfl (fun ls hl => ?_)
    refine lv_goto (tgt := 30) hx hb dX7_heard_68 (by decide) ?_
    exact hB30 (t0 ||| t1) x3 (x4 + 1) m_errors H locs ls hW hS (lv_sub hl [2, 1, 3, 0] rfl) hv
  have h_l_X7_heard_30 : ∀ (B20 : Int32 → Int32 → (Nat → Int32) → Prop) (hB20 : ∀ (x2 : Int32) (x3 : Int32) (m_errors : Nat → Int32) (H : Heap) (locs : List Loc) (ls : Array Slot), wo G A (wd_X7_4 G b m_images m_at_ m_open_ m_steps m_use_ m_traced m_speaks m_isParted m_s m_errors) H → va_S A s.heap H locs → lv_has ls 5 [(0, .ref (b 0)), (2, .int x2), (3, .int x3)] → B20 x2 x3 m_errors → W p l e (rmm 2 43) s m args below meth c H locs 0 0 Q (F0 m 20 ls [])) (n : Nat), ∀ (x2 : Int32) (x3 : Int32) (x4 : Int32) (m_errors : Nat → Int32) (H : Heap) (locs : List Loc) (ls : Array Slot), wo G A (wd_X7_4 G b m_images m_at_ m_open_ m_steps m_use_ m_traced m_speaks m_isParted m_s m_errors) H → va_S A s.heap H locs → lv_has ls 5 [(0, .ref (b 0)), (2, .int x2), (3, .int x3), (4, .int x4)] → l_X7_heard_30 p1 m_s B20 K n x2 x3 x4 m_errors → W p l e (rmm 2 43) s m args below meth c H locs 0 0 Q (F0 m 30 ls []) := by
    intro B20 hB20 n
    induction n with
    | zero =>
      intro x2 x3 x4 m_errors H locs ls hW hS hl hv
      exact False.elim hv
    | succ n ih =>
      intro x2 x3 x4 m_errors H locs ls hW hS hl hv
      refine lv_iload hx hb dX7_heard_30 (lv_at hl 3 rfl) ?_
      refine lv_aload_n hx hb dX7_heard_32 rfl (lv_at hl 0 rfl) ?_
      refine q_get C kc7 hW 0 rfl 0 (by decide) fl_X7_7 rfl rfl dX7_heard_33 ?_
      refine lv_iconst (v := 4) hx hb dX7_heard_36 kic_4 ?_
      obtain ⟨h_5, hv⟩ := hv
      refine q_iald C hW 1 rfl h_5 dX7_heard_37 ?_
      refine lv_icmp_ge (tgt := 71) hx hb dX7_heard_38 (by decide) (fun c_6 => ?_) (fun c_6 => ?_)
      · replace hv := hv.1 c_6
        refine lv_goto (tgt := 20) hx hb dX7_heard_71 (by decide) ?_
        exact hB20 x2 x3 m_errors H locs ls hW hS (lv_sub hl [0, 1, 2] rfl) hv
      · replace hv := hv.2 c_6
        refine lv_iload_n hx hb dX7_heard_41 rfl (lv_at hl 1 rfl) ?_
        refine lv_iload_n hx hb dX7_heard_42 rfl (lv_at hl 2 rfl) ?_
        refine lv_iload hx hb dX7_heard_43 (lv_at hl 3 rfl) ?_
        refine lv_ishr hx hb dX7_heard_45 ?_
        refine lv_iconst (v := 1) hx hb dX7_heard_46 kic_1 ?_
        refine lv_iand hx hb dX7_heard_47 ?_
        refine lv_iconst (v := 1) hx hb dX7_heard_48 kic_1 ?_
        refine lv_icmp_ne (tgt := 62) hx hb dX7_heard_49 (by decide) (fun c_7 => ?_) (fun c_7 => ?_)
        · replace hv := hv.1 c_7
          refine lv_iconst (v := 0) hx hb dX7_heard_62 kic_0 ?_
          exact h_j_X7_heard_63 B20 hB20 (fun x2' x3' x4' m_errors' => l_X7_heard_30 p1 m_s B20 K n x2' x3' x4' m_errors') ih x3 x4 x2 (0 : Int32) m_errors H locs ls hW hS (lv_sub hl [0, 2, 3] rfl) hv
        · replace hv := hv.2 c_7
          refine lv_aload_n hx hb dX7_heard_52 rfl (lv_at hl 0 rfl) ?_
          refine lv_iload hx hb dX7_heard_53 (lv_at hl 3 rfl) ?_
          refine lv_iconst (v := 4) hx hb dX7_heard_55 kic_4 ?_
          refine q_callV (rest := [.int x2]) (n := 2) C (c_X7_its l G b m_images m_at_ m_open_ m_steps m_use_ m_traced m_speaks m_isParted m_s x4 (4 : Int32) _ hv) ml_X7_120 kb_X7_its rfl ⟨⟨rfl, rfl⟩, (Nat.le_of_ble_eq_true rfl), (Nat.le_of_ble_eq_true rfl)⟩ hW hS [0, 1] rfl rfl kc7 (q0 := 0) rfl hl.1 rfl (Nat.le_of_ble_eq_true rfl) dX7_heard_56 ⟨Nat.zero_le _, Nat.zero_le _⟩ (fun r_8 u_9 H locs hv hW hS => ?_)
          try dsimp only at hv
          refine lv_goto (tgt := 63) hx hb dX7_heard_59 (by decide) ?_
          exact h_j_X7_heard_63 B20 hB20 (fun x2' x3' x4' m_errors' => l_X7_heard_30 p1 m_s B20 K n x2' x3' x4' m_errors') ih x3 x4 x2 r_8 m_errors H locs ls hW hS (lv_sub hl [0, 2, 3] rfl) hv
  have h_l_X7_heard_20 : ∀ (n : Nat), ∀ (x2 : Int32) (x3 : Int32) (m_errors : Nat → Int32) (H : Heap) (locs : List Loc) (ls : Array Slot), wo G A (wd_X7_4 G b m_images m_at_ m_open_ m_steps m_use_ m_traced m_speaks m_isParted m_s m_errors) H → va_S A s.heap H locs → lv_has ls 5 [(0, .ref (b 0)), (2, .int x2), (3, .int x3)] → l_X7_heard_20 p1 m_s K n x2 x3 m_errors → W p l e (rmm 2 43) s m args below meth c H locs 0 0 Q (F0 m 20 ls []) := by
    intro n
    induction n with
    | zero =>
      intro x2 x3 m_errors H locs ls hW hS hl hv
      exact False.elim hv
    | succ n ih =>
      intro x2 x3 m_errors H locs ls hW hS hl hv
      refine lv_iload_n hx hb dX7_heard_20 rfl (lv_at hl 2 rfl) ?_
      refine lv_iload_n hx hb dX7_heard_21 rfl (lv_at hl 1 rfl) ?_
      refine lv_icmp_eq (tgt := 74) hx hb dX7_heard_22 (by decide) (fun c_4 => ?_) (fun c_4 => ?_)
      · replace hv := hv.1 c_4
        refine lv_iload_n hx hb dX7_heard_74 rfl (lv_at hl 1 rfl) ?_
        exact ret (m_errors) x2 H locs ls _ rfl hW hS hv dX7_heard_75
      · replace hv := hv.2 c_4
        refine lv_iload_n hx hb dX7_heard_25 rfl (lv_at hl 1 rfl) ?_
        refine lv_istore_n (lv' := [(3, .int x2), (0, .ref (b 0)), (2, .int x2)]) hx hb dX7_heard_26 rfl hl (by decide) rfl (fun ls hl => ?_)
        refine lv_iconst (v := 0) hx hb dX7_heard_27 kic_0 ?_
        refine lv_istore (lv' := [(4, .int (0 : Int32)), (3, .int x2), (0, .ref (b 0)), (2, .int x2)]) hx hb dX7_heard_28 hl (by decide) rfl (fun ls hl => ?_)
        obtain ⟨n_10, hv⟩ := hv
        exact h_l_X7_heard_30 (fun x2' x3' m_errors' => l_X7_heard_20 p1 m_s K n x2' x3' m_errors') ih n_10 x2 x2 (0 : Int32) m_errors H locs ls hW hS (lv_sub hl [2, 3, 1, 0] rfl) hv
  refine lv_aload_n hx hb dX7_heard_0 rfl (lv_at hl 0 rfl) ?_
  refine lv_iload_n hx hb dX7_heard_1 rfl (lv_at hl 1 rfl) ?_
  refine q_callV (rest := []) (n := 1) C (c_X7_isPerson l G b m_images m_at_ m_open_ m_steps m_use_ m_traced m_speaks m_isParted m_s p1 _ hv) ml_X7_57 kb_X7_isPerson rfl ⟨⟨rfl, rfl⟩, (Nat.le_of_ble_eq_true rfl), (Nat.le_of_ble_eq_true rfl)⟩ hW hS [0, 1] rfl rfl kc7 (q0 := 0) rfl hl.1 rfl (Nat.le_of_ble_eq_true rfl) dX7_heard_2 ⟨Nat.zero_le _, Nat.zero_le _⟩ (fun r_1 u_2 H locs hv hW hS => ?_)
  obtain ⟨hv_b_1, hv⟩ := hv
  try dsimp only at hv
  refine lv_if_ne (tgt := 14) hx hb dX7_heard_5 (by decide) (fun c_3 => ?_) (fun c_3 => ?_)
  · replace hv := hv.1 c_3
    refine lv_iconst (v := 1) hx hb dX7_heard_14 kic_1 ?_
    refine lv_iload_n hx hb dX7_heard_15 rfl (lv_at hl 1 rfl) ?_
    refine lv_ishl hx hb dX7_heard_16 ?_
    refine lv_istore_n (lv' := [(2, .int ((1 : Int32) <<< (p1 &&& 31))), (0, .ref (b 0)), (1, .int p1)]) hx hb dX7_heard_17 rfl hl (by decide) rfl (fun ls hl => ?_)
    refine lv_iconst (v := 0) hx hb dX7_heard_18 kic_0 ?_
    refine lv_istore_n (lv' := [(3, .int (0 : Int32)), (2, .int ((1 : Int32) <<< (p1 &&& 31))), (0, .ref (b 0)), (1, .int p1)]) hx hb dX7_heard_19 rfl hl (by decide) rfl (fun ls hl => ?_)
    obtain ⟨n_11, hv⟩ := hv
    exact h_l_X7_heard_20 n_11 ((1 : Int32) <<< (p1 &&& 31)) (0 : Int32) m_errors H locs ls hW hS (lv_sub hl [2, 1, 0] rfl) hv
  · replace hv := hv.2 c_3
    refine lv_aload_n hx hb dX7_heard_8 rfl (lv_at hl 0 rfl) ?_
    refine lv_iconst (v := 1) hx hb dX7_heard_9 kic_1 ?_
    refine q_callV (rest := []) (n := 1) C (c_X7_error l G b m_images m_at_ m_open_ m_steps m_use_ m_traced m_speaks m_isParted m_errors (1 : Int32) _ hv) ml_X7_61 kb_X7_error rfl ⟨⟨rfl, rfl⟩, (Nat.le_of_ble_eq_true rfl), (Nat.le_of_ble_eq_true rfl)⟩ hW hS [0, 2] rfl rfl kc7 (q0 := 0) rfl hl.1 rfl (Nat.le_of_ble_eq_true rfl) dX7_heard_10 ⟨Nat.zero_le _, Nat.zero_le _⟩ (fun r_12 u_13 H locs hv hW hS => ?_)
    obtain ⟨m_errors_12, rfl⟩ : ∃ z, z = u_13 := ⟨_, rfl⟩
    try dsimp only at hv
    have hW : wo G A (wd_X7_4 G b m_images m_at_ m_open_ m_steps m_use_ m_traced m_speaks m_isParted m_s m_errors_12) H := hW
    exact ret (m_errors_12) r_12 H locs ls _ rfl hW hS hv dX7_heard_13
