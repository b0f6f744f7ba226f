set_option maxHeartbeats 4000000 in
set_option maxRecDepth 100000 in
theorem c_X7_aDay (l : Launch) (G : Gt) (b : Nat → Nat) (m_images : Int32) (m_at_ : Int32) (m_open_ : Int32) (m_steps : Int32) (m_use_ : Int32) (m_traced : Int32) (m_speaks : Int32) (m_isParted : Int32) (m_s : Nat → Int32) (m_named : Nat → Int32) (m_pile : Nat → Int32) (m_nearThen : Nat → Int32) (m_shownThen : Nat → Int32) (K : (Nat → Int32) → (Nat → Int32) → (Nat → Int32) → (Nat → Int32) → (Nat → Int32) → Prop) (hv : v_X7_aDay m_s m_named m_pile m_nearThen m_shownThen K) : CV l G yX7_aDay (.code yX7_aDay cX7_aDay 2 none :: wsG) (rmm 5 116) [.ref (b 0)] (wd_X7_10 G b m_images m_at_ m_open_ m_steps m_use_ m_traced m_speaks m_isParted m_s m_named m_pile m_nearThen m_shownThen) (S := (Nat → Int32) × (Nat → Int32) × (Nat → Int32) × (Nat → Int32) × (Nat → Int32)) (fun u => wd_X7_10 G b m_images m_at_ m_open_ m_steps m_use_ m_traced m_speaks m_isParted u.1 u.2.1 u.2.2.1 u.2.2.2.1 u.2.2.2.2) (fun u => K u.1 u.2.1 u.2.2.1 u.2.2.2.1 u.2.2.2.2) := by
  refine cv_intro (by decide) rfl (fun _ => rfl) (Nat.le_of_ble_eq_true rfl) ?_
  intro p e s m args below meth c A H ls Q C hW hS hl ret
  have hx := C.1.1
  have hb := C.1.2.1
  generalize hls : ([] : List Loc) = locs at hS ⊢
  have hl : lv_has ls 2 [(0, .ref (b 0))] := hl
  have h_l_X7_aDay_6 : ∀ (n : Nat), ∀ (x1 : Int32) (m_s : Nat → Int32) (m_named : Nat → Int32) (m_pile : Nat → Int32) (m_nearThen : Nat → Int32) (m_shownThen : Nat → Int32) (H : Heap) (locs : List Loc) (ls : Array Slot), wo G A (wd_X7_10 G b m_images m_at_ m_open_ m_steps m_use_ m_traced m_speaks m_isParted m_s m_named m_pile m_nearThen m_shownThen) H → va_S A s.heap H locs → lv_has ls 2 [(0, .ref (b 0)), (1, .int x1)] → l_X7_aDay_6 K n x1 m_s m_named m_pile m_nearThen m_shownThen → W p l e (rmm 5 116) s m args below meth c H locs 0 0 Q (F0 m 6 ls []) := by
    intro n
    induction n with
    | zero =>
      intro x1 m_s m_named m_pile m_nearThen m_shownThen H locs ls hW hS hl hv
      exact False.elim hv
    | succ n ih =>
      intro x1 m_s m_named m_pile m_nearThen m_shownThen H locs ls hW hS hl hv
      refine lv_iload_n hx hb dX7_aDay_6 rfl (lv_at hl 1 rfl) ?_
      refine lv_aload_n hx hb dX7_aDay_7 rfl (lv_at hl 0 rfl) ?_
      refine q_get C kc7 hW 0 rfl 0 (by decide) fl_X7_7 rfl rfl dX7_aDay_8 ?_
      refine lv_iconst (v := 4) hx hb dX7_aDay_11 kic_4 ?_
      obtain ⟨h_3, hv⟩ := hv
      refine q_iald C hW 1 rfl h_3 dX7_aDay_12 ?_
      refine lv_icmp_ge (tgt := 46) hx hb dX7_aDay_13 (by decide) (fun c_4 => ?_) (fun c_4 => ?_)
      · replace hv := hv.1 c_4
        refine lv_aload_n hx hb dX7_aDay_46 rfl (lv_at hl 0 rfl) ?_
        refine q_get C kc7 hW 0 rfl 0 (by decide) fl_X7_7 rfl rfl dX7_aDay_47 ?_
        refine lv_iconst (v := 0) hx hb dX7_aDay_50 kic_0 ?_
        refine lv_dup2_11 hx hb dX7_aDay_51 rfl rfl ?_
        obtain ⟨h_5, hv⟩ := hv
        refine q_iald C hW 1 rfl h_5 dX7_aDay_52 ?_
        refine lv_iconst (v := 1) hx hb dX7_aDay_53 kic_1 ?_
        refine lv_iadd hx hb dX7_aDay_54 ?_
        obtain ⟨h_6, hv⟩ := hv
        refine q_iast C hW hS 1 rfl h_6 dX7_aDay_55 (fun H locs hW hS => ?_)
        have hW : wo G A (wd_X7_10 G b m_images m_at_ m_open_ m_steps m_use_ m_traced m_speaks m_isParted (upd m_s (0 : Int32).toNatClampNeg ((m_s (0 : Int32).toNatClampNeg) + (1 : Int32))) m_named m_pile m_nearThen m_shownThen) H := hW
        exact ret ((upd m_s (0 : Int32).toNatClampNeg ((m_s (0 : Int32).toNatClampNeg) + (1 : Int32))), m_named, m_pile, m_nearThen, m_shownThen) H locs ls _ hW hS hv dX7_aDay_56
      · replace hv := hv.2 c_4
        refine lv_aload_n hx hb dX7_aDay_16 rfl (lv_at hl 0 rfl) ?_
        refine lv_iload_n hx hb dX7_aDay_17 rfl (lv_at hl 1 rfl) ?_
        refine lv_iconst (v := 2) hx hb dX7_aDay_18 kic_2 ?_
        refine lv_aload_n hx hb dX7_aDay_19 rfl (lv_at hl 0 rfl) ?_
        refine q_get C kc7 hW 0 rfl 12 (by decide) fl_X7_31 rfl rfl dX7_aDay_20 ?_
        refine lv_iload_n hx hb dX7_aDay_23 rfl (lv_at hl 1 rfl) ?_
        obtain ⟨h_7, hv⟩ := hv
        refine q_iald C hW 4 rfl h_7 dX7_aDay_24 ?_
        refine q_callVv (rest := []) (n := 3) C (c_X7_lays1 l G b m_images m_at_ m_open_ m_steps m_use_ m_traced m_speaks m_isParted m_s x1 (2 : Int32) (m_nearThen x1.toNatClampNeg) _ hv) ml_X7_151 kb_X7_lays1 rfl ⟨⟨rfl, rfl⟩, (Nat.le_of_ble_eq_true rfl), (Nat.le_of_ble_eq_true rfl)⟩ hW hS [0, 1] rfl rfl kc7 (q0 := 0) rfl hl.1 rfl (Nat.le_of_ble_eq_true rfl) dX7_aDay_25 ⟨Nat.zero_le _, Nat.zero_le _⟩ (fun u_9 H locs hv hW hS => ?_)
        obtain ⟨m_s_8, rfl⟩ : ∃ z, z = u_9 := ⟨_, rfl⟩
        try dsimp only at hv
        have hW : wo G A (wd_X7_10 G b m_images m_at_ m_open_ m_steps m_use_ m_traced m_speaks m_isParted m_s_8 m_named m_pile m_nearThen m_shownThen) H := hW
        refine lv_aload_n hx hb dX7_aDay_28 rfl (lv_at hl 0 rfl) ?_
        refine lv_iload_n hx hb dX7_aDay_29 rfl (lv_at hl 1 rfl) ?_
        refine lv_iconst (v := 3) hx hb dX7_aDay_30 kic_3 ?_
        refine lv_aload_n hx hb dX7_aDay_31 rfl (lv_at hl 0 rfl) ?_
        refine q_get C kc7 hW 0 rfl 13 (by decide) fl_X7_34 rfl rfl dX7_aDay_32 ?_
        refine lv_iload_n hx hb dX7_aDay_35 rfl (lv_at hl 1 rfl) ?_
        obtain ⟨h_10, hv⟩ := hv
        refine q_iald C hW 5 rfl h_10 dX7_aDay_36 ?_
        refine q_callVv (rest := []) (n := 3) C (c_X7_lays1 l G b m_images m_at_ m_open_ m_steps m_use_ m_traced m_speaks m_isParted m_s_8 x1 (3 : Int32) (m_shownThen x1.toNatClampNeg) _ hv) ml_X7_151 kb_X7_lays1 rfl ⟨⟨rfl, rfl⟩, (Nat.le_of_ble_eq_true rfl), (Nat.le_of_ble_eq_true rfl)⟩ hW hS [0, 1] rfl rfl kc7 (q0 := 0) rfl hl.1 rfl (Nat.le_of_ble_eq_true rfl) dX7_aDay_37 ⟨Nat.zero_le _, Nat.zero_le _⟩ (fun u_12 H locs hv hW hS => ?_)
        obtain ⟨m_s_11, rfl⟩ : ∃ z, z = u_12 := ⟨_, rfl⟩
        try dsimp only at hv
        have hW : wo G A (wd_X7_10 G b m_images m_at_ m_open_ m_steps m_use_ m_traced m_speaks m_isParted m_s_11 m_named m_pile m_nearThen m_shownThen) H := hW
        refine lv_iinc (v := (x1 + 1)) (lv' := [(1, .int (x1 + 1)), (0, .ref (b 0))]) hx hb dX7_aDay_40 hl (k := 1) rfl rfl (by decide) rfl (fun ls hl => ?_)
        refine lv_goto (tgt := 6) hx hb dX7_aDay_43 (by decide) ?_
        exact ih (x1 + 1) m_s_11 m_named m_pile m_nearThen m_shownThen H locs ls hW hS (lv_sub hl [1, 0] rfl) hv
  refine lv_aload_n hx hb dX7_aDay_0 rfl (lv_at hl 0 rfl) ?_
  refine q_callVv (rest := []) (n := 0) C (c_X7_findThen l G b m_images m_at_ m_open_ m_steps m_use_ m_traced m_speaks m_isParted m_s m_named m_pile m_nearThen m_shownThen _ hv) ml_X7_148 kb_X7_findThen rfl ⟨⟨rfl, rfl⟩, (Nat.le_of_ble_eq_true rfl), (Nat.le_of_ble_eq_true rfl)⟩ hW hS [0, 1, 2, 3, 4, 5] rfl rfl kc7 (q0 := 0) rfl hl.1 rfl (Nat.le_of_ble_eq_true rfl) dX7_aDay_1 ⟨Nat.zero_le _, Nat.zero_le _⟩ (fun u_2 H locs hv hW hS => ?_)
  obtain ⟨m_named_1, m_pile_1, m_nearThen_1, m_shownThen_1⟩ := u_2
  try dsimp only at hv
  have hW : wo G A (wd_X7_10 G b m_images m_at_ m_open_ m_steps m_use_ m_traced m_speaks m_isParted m_s m_named_1 m_pile_1 m_nearThen_1 m_shownThen_1) H := hW
  refine lv_iconst (v := 0) hx hb dX7_aDay_4 kic_0 ?_
  refine lv_istore_n (lv' := [(1, .int (0 : Int32)), (0, .ref (b 0))]) hx hb dX7_aDay_5 rfl hl (by decide) rfl (fun ls hl => ?_)
  obtain ⟨n_13, hv⟩ := hv
  exact h_l_X7_aDay_6 n_13 (0 : Int32) m_s m_named_1 m_pile_1 m_nearThen_1 m_shownThen_1 H locs ls hW hS (lv_sub hl [1, 0] rfl) hv
set_option maxHeartbeats 4000000 in
set_option maxRecDepth 100000 in
theorem c_X7_goes (l : Launch) (G : Gt) (b : Nat → Nat) (m_images : Int32) (m_at_ : Int32) (m_open_ : Int32) (m_steps : Int32) (m_use_ : Int32) (m_traced : Int32) (m_speaks : Int32) (m_isParted : Int32) (m_s : Nat → Int32) (m_named : Nat → Int32) (m_pile : Nat → Int32) (m_nearThen : Nat → Int32) (m_shownThen : Nat → Int32) (p1 : Int32) (K : (Nat → Int32) → (Nat → Int32) → (Nat → Int32) → (Nat → Int32) → (Nat → Int32) → Prop) (hv : v_X7_goes p1 m_s m_named m_pile m_nearThen m_shownThen K) : CV l G yX7_goes (.code yX7_goes cX7_goes 3 none :: wsG) (rmm 6 137) [.ref (b 0), .int p1] (wd_X7_10 G b m_images m_at_ m_open_ m_steps m_use_ m_traced m_speaks m_isParted m_s m_named m_pile m_nearThen m_shownThen) (S := (Nat → Int32) × (Nat → Int32) × (Nat → Int32) × (Nat → Int32) × (Nat → Int32)) (fun u => wd_X7_10 G b m_images m_at_ m_open_ m_steps m_use_ m_traced m_speaks m_isParted u.1 u.2.1 u.2.2.1 u.2.2.2.1 u.2.2.2.2) (fun u => K u.1 u.2.1 u.2.2.1 u.2.2.2.1 u.2.2.2.2) := by
  refine cv_intro (by decide) rfl (fun _ => rfl) (Nat.le_of_ble_eq_true rfl) ?_
  intro p e s m args below meth c A H ls Q C hW hS hl ret
  have hx := C.1.1
  have hb := C.1.2.1
  generalize hls : ([] : List Loc) = locs at hS ⊢
  have hl : lv_has ls 3 [(0, .ref (b 0)), (1, .int p1)] := hl
  have h_l_X7_goes_2 : ∀ (n : Nat), ∀ (x2 : Int32) (m_s : Nat → Int32) (m_named : Nat → Int32) (m_pile : Nat → Int32) (m_nearThen : Nat → Int32) (m_shownThen : Nat → Int32) (H : Heap) (locs : List Loc) (ls : Array Slot), wo G A (wd_X7_10 G b m_images m_at_ m_open_ m_steps m_use_ m_traced m_speaks m_isParted m_s m_named m_pile m_nearThen m_shownThen) H → va_S A s.heap H locs → lv_has ls 3 [(0, .ref (b 0)), (1, .int p1), (2, .int x2)] → l_X7_goes_2 p1 K n x2 m_s m_named m_pile m_nearThen m_shownThen → W p l e (rmm 6 137) s m args below meth c H locs 0 0 Q (F0 m 2 ls []) := by
    intro n
    induction n with
    | zero =>
      intro x2 m_s m_named m_pile m_nearThen m_shownThen H locs ls hW hS hl hv
      exact False.elim hv
    | succ n ih =>
      intro x2 m_s m_named m_pile m_nearThen m_shownThen H locs ls hW hS hl hv
      refine lv_iload_n hx hb dX7_goes_2 rfl (lv_at hl 2 rfl) ?_
      refine lv_iload_n hx hb dX7_goes_3 rfl (lv_at hl 1 rfl) ?_
      refine lv_icmp_ge (tgt := 17) hx hb dX7_goes_4 (by decide) (fun c_1 => ?_) (fun c_1 => ?_)
      · replace hv := hv.1 c_1
        exact ret (m_s, m_named, m_pile, m_nearThen, m_shownThen) H locs ls _ hW hS hv dX7_goes_17
      · replace hv := hv.2 c_1
        refine lv_aload_n hx hb dX7_goes_7 rfl (lv_at hl 0 rfl) ?_
        refine q_callVv (rest := []) (n := 0) C (c_X7_aDay l G b m_images m_at_ m_open_ m_steps m_use_ m_traced m_speaks m_isParted m_s m_named m_pile m_nearThen m_shownThen _ hv) ml_X7_155 kb_X7_aDay rfl ⟨⟨rfl, rfl⟩, (Nat.le_of_ble_eq_true rfl), (Nat.le_of_ble_eq_true rfl)⟩ hW hS [0, 1, 2, 3, 4, 5] rfl rfl kc7 (q0 := 0) rfl hl.1 rfl (Nat.le_of_ble_eq_true rfl) dX7_goes_8 ⟨Nat.zero_le _, Nat.zero_le _⟩ (fun u_3 H locs hv hW hS => ?_)
        obtain ⟨m_s_2, m_named_2, m_pile_2, m_nearThen_2, m_shownThen_2⟩ := u_3
        try dsimp only at hv
        have hW : wo G A (wd_X7_10 G b m_images m_at_ m_open_ m_steps m_use_ m_traced m_speaks m_isParted m_s_2 m_named_2 m_pile_2 m_nearThen_2 m_shownThen_2) H := hW
        refine lv_iinc (v := (x2 + 1)) (lv' := [(2, .int (x2 + 1)), (0, .ref (b 0)), (1, .int p1)]) hx hb dX7_goes_11 hl (k := 2) rfl rfl (by decide) rfl (fun ls hl => ?_)
        refine lv_goto (tgt := 2) hx hb dX7_goes_14 (by decide) ?_
        exact ih (x2 + 1) m_s_2 m_named_2 m_pile_2 m_nearThen_2 m_shownThen_2 H locs ls hW hS (lv_sub hl [1, 2, 0] rfl) hv
  refine lv_iconst (v := 0) hx hb dX7_goes_0 kic_0 ?_
  refine lv_istore_n (lv' := [(2, .int (0 : Int32)), (0, .ref (b 0)), (1, .int p1)]) hx hb dX7_goes_1 rfl hl (by decide) rfl (fun ls hl => ?_)
  obtain ⟨n_4, hv⟩ := hv
  exact h_l_X7_goes_2 n_4 (0 : Int32) m_s m_named m_pile m_nearThen m_shownThen H locs ls hW hS (lv_sub hl [1, 2, 0] rfl) hv
set_option maxHeartbeats 4000000 in
set_option maxRecDepth 100000 in
theorem c_X7_nearestNow (l : Launch) (G : Gt) (b : Nat → Nat) (m_images : Int32) (m_at_ : Int32) (m_open_ : Int32) (m_steps : Int32) (m_use_ : Int32) (m_traced : Int32) (m_speaks : Int32) (m_isParted : Int32) (m_s : Nat → Int32) (K : Int32 → Prop) (hv : v_X7_nearestNow m_s K) : CI l G yX7_nearestNow (.code yX7_nearestNow cX7_nearestNow 3 (some .int) :: wsG) (rmm 1 22) [.ref (b 0)] (wd_X7_3 G b m_images m_at_ m_open_ m_steps m_use_ m_traced m_speaks m_isParted m_s) (S := Unit) (fun u => wd_X7_3 G b m_images m_at_ m_open_ m_steps m_use_ m_traced m_speaks m_isParted m_s) (fun r u => K r) := by
  refine ci_intro (by decide) rfl (fun _ => rfl) (Nat.le_of_ble_eq_true rfl) ?_
  intro p e s m args below meth c A H ls Q C hW hS hl ret
  have hx := C.1.1
  have hb := C.1.2.1
  generalize hls : ([] : List Loc) = locs at hS ⊢
  have hl : lv_has ls 3 [(0, .ref (b 0))] := hl
  have h_j_X7_nearestNow_39 : ∀ (B4 : Int32 → Int32 → Prop) (hB4 : ∀ (x1 : Int32) (x2 : Int32) (H : Heap) (locs : List Loc) (ls : Array Slot), wo G A (wd_X7_3 G b m_images m_at_ m_open_ m_steps m_use_ m_traced m_speaks m_isParted m_s) H → va_S A s.heap H locs → lv_has ls 3 [(0, .ref (b 0)), (1, .int x1), (2, .int x2)] → B4 x1 x2 → W p l e (rmm 1 22) s m args below meth c H locs 0 0 Q (F0 m 4 ls [])), ∀ (x2 : Int32) (t0 : Int32) (H : Heap) (locs : List Loc) (ls : Array Slot), wo G A (wd_X7_3 G b m_images m_at_ m_open_ m_steps m_use_ m_traced m_speaks m_isParted m_s) H → va_S A s.heap H locs → lv_has ls 3 [(0, .ref (b 0)), (2, .int x2)] → j_X7_nearestNow_39 m_s B4 K x2 t0 → W p l e (rmm 1 22) s m args below meth c H locs 0 0 Q (F0 m 39 ls [.int t0]) := by
    intro B4 hB4 x2 t0 H locs ls hW hS hl hv
    refine lv_istore_n (lv' := [(1, .int t0), (0, .ref (b 0)), (2, .int x2)]) hx hb dX7_nearestNow_39 rfl hl (by decide) rfl (fun ls hl => ?_)
    refine lv_iinc (v := (x2 + 1)) (lv' := [(2, .int (x2 + 1)), (1, .int t0), (0, .ref (b 0))]) hx hb dX7_nearestNow_40 hl (k := 2) rfl rfl (by decide) rfl (fun ls hl => ?_)
    refine lv_goto (tgt := 4) hx hb dX7_nearestNow_43 (by decide) ?_
    exact hB4 t0 (x2 + 1) H locs ls hW hS (lv_sub hl [2, 1, 0] rfl) hv
  have h_j_X7_nearestNow_34 : ∀ (B4 : Int32 → Int32 → Prop) (hB4 : ∀ (x1 : Int32) (x2 : Int32) (H : Heap) (locs : List Loc) (ls : Array Slot), wo G A (wd_X7_3 G b m_images m_at_ m_open_ m_steps m_use_ m_traced m_speaks m_isParted m_s) H → va_S A s.heap H locs → lv_has ls 3 [(0, .ref (b 0)), (1, .int x1), (2, .int x2)] → B4 x1 x2 → W p l e (rmm 1 22) s m args below meth c H locs 0 0 Q (F0 m 4 ls [])), ∀ (x2 : Int32) (H : Heap) (locs : List Loc) (ls : Array Slot), wo G A (wd_X7_3 G b m_images m_at_ m_open_ m_steps m_use_ m_traced m_speaks m_isParted m_s) H → va_S A s.heap H locs → lv_has ls 3 [(0, .ref (b 0)), (2, .int x2)] → j_X7_nearestNow_34 m_s B4 K x2 → W p l e (rmm 1 22) s m args below meth c H locs 0 0 Q (F0 m 34 ls []) := by
    intro B4 hB4 x2 H locs ls hW hS hl hv
    refine lv_iload_n hx hb dX7_nearestNow_34 rfl (lv_at hl 1 rfl) ?_
    refine lv_goto (tgt := 39) hx hb dX7_nearestNow_35 (by decide) ?_
    exact h_j_X7_nearestNow_39 B4 hB4 x2 x2 H locs ls hW hS (lv_sub hl [0, 1] rfl) hv
  have h_l_X7_nearestNow_4 : ∀ (n : Nat), ∀ (x1 : Int32) (x2 : Int32) (H : Heap) (locs : List Loc) (ls : Array Slot), wo G A (wd_X7_3 G b m_images m_at_ m_open_ m_steps m_use_ m_traced m_speaks m_isParted m_s) H → va_S A s.heap H locs → lv_has ls 3 [(0, .ref (b 0)), (1, .int x1), (2, .int x2)] → l_X7_nearestNow_4 m_s K n x1 x2 → W p l e (rmm 1 22) s m args below meth c H locs 0 0 Q (F0 m 4 ls []) := by
    intro n
    induction n with
    | zero =>
      intro x1 x2 H locs ls hW hS hl hv
      exact False.elim hv
    | succ n ih =>
      intro x1 x2 H locs ls hW hS hl hv
      refine lv_iload_n hx hb dX7_nearestNow_4 rfl (lv_at hl 2 rfl) ?_
      refine lv_aload_n hx hb dX7_nearestNow_5 rfl (lv_at hl 0 rfl) ?_
      refine q_get C kc7 hW 0 rfl 0 (by decide) fl_X7_7 rfl rfl dX7_nearestNow_6 ?_
      refine lv_iconst (v := 4) hx hb dX7_nearestNow_9 kic_4 ?_
      obtain ⟨h_1, hv⟩ := hv
      refine q_iald C hW 1 rfl h_1 dX7_nearestNow_10 ?_
      refine lv_icmp_ge (tgt := 46) hx hb dX7_nearestNow_11 (by decide) (fun c_2 => ?_) (fun c_2 => ?_)
      · replace hv := hv.1 c_2
        refine lv_iload_n hx hb dX7_nearestNow_46 rfl (lv_at hl 1 rfl) ?_
        exact ret () x1 H locs ls _ rfl hW hS hv dX7_nearestNow_47
      · replace hv := hv.2 c_2
        refine lv_iload_n hx hb dX7_nearestNow_14 rfl (lv_at hl 1 rfl) ?_
        refine lv_iconst (v := (-1)) hx hb dX7_nearestNow_15 kic_m1 ?_
        refine lv_icmp_eq (tgt := 34) hx hb dX7_nearestNow_16 (by decide) (fun c_3 => ?_) (fun c_3 => ?_)
        · replace hv := hv.1 c_3
          exact h_j_X7_nearestNow_34 (fun x1' x2' => l_X7_nearestNow_4 m_s K n x1' x2') ih x2 H locs ls hW hS (lv_sub hl [0, 2] rfl) hv
        · replace hv := hv.2 c_3
          refine lv_aload_n hx hb dX7_nearestNow_19 rfl (lv_at hl 0 rfl) ?_
          refine lv_iload_n hx hb dX7_nearestNow_20 rfl (lv_at hl 2 rfl) ?_
          refine lv_iconst (v := 2) hx hb dX7_nearestNow_21 kic_2 ?_
          refine q_callV (rest := []) (n := 2) C (c_X7_its l G b m_images m_at_ m_open_ m_steps m_use_ m_traced m_speaks m_isParted m_s x2 (2 : Int32) _ hv) ml_X7_120 kb_X7_its rfl ⟨⟨rfl, rfl⟩, (Nat.le_of_ble_eq_true rfl), (Nat.le_of_ble_eq_true rfl)⟩ hW hS [0, 1] rfl rfl kc7 (q0 := 0) rfl hl.1 rfl (Nat.le_of_ble_eq_true rfl) dX7_nearestNow_22 ⟨Nat.zero_le _, Nat.zero_le _⟩ (fun r_4 u_5 H locs hv hW hS => ?_)
          try dsimp only at hv
          refine lv_aload_n hx hb dX7_nearestNow_25 rfl (lv_at hl 0 rfl) ?_
          refine lv_iload_n hx hb dX7_nearestNow_26 rfl (lv_at hl 1 rfl) ?_
          refine lv_iconst (v := 2) hx hb dX7_nearestNow_27 kic_2 ?_
          refine q_callV (rest := [.int r_4]) (n := 2) C (c_X7_its l G b m_images m_at_ m_open_ m_steps m_use_ m_traced m_speaks m_isParted m_s x1 (2 : Int32) _ hv) ml_X7_120 kb_X7_its rfl ⟨⟨rfl, rfl⟩, (Nat.le_of_ble_eq_true rfl), (Nat.le_of_ble_eq_true rfl)⟩ hW hS [0, 1] rfl rfl kc7 (q0 := 0) rfl hl.1 rfl (Nat.le_of_ble_eq_true rfl) dX7_nearestNow_28 ⟨Nat.zero_le _, Nat.zero_le _⟩ (fun r_6 u_7 H locs hv hW hS => ?_)
          try dsimp only at hv
          refine lv_icmp_le (tgt := 38) hx hb dX7_nearestNow_31 (by decide) (fun c_8 => ?_) (fun c_8 => ?_)
          · replace hv := hv.1 c_8
            refine lv_iload_n hx hb dX7_nearestNow_38 rfl (lv_at hl 1 rfl) ?_
            exact h_j_X7_nearestNow_39 (fun x1' x2' => l_X7_nearestNow_4 m_s K n x1' x2') ih x2 x1 H locs ls hW hS (lv_sub hl [0, 2] rfl) hv
          · replace hv := hv.2 c_8
            exact h_j_X7_nearestNow_34 (fun x1' x2' => l_X7_nearestNow_4 m_s K n x1' x2') ih x2 H locs ls hW hS (lv_sub hl [0, 2] rfl) hv
  refine lv_iconst (v := (-1)) hx hb dX7_nearestNow_0 kic_m1 ?_
  refine lv_istore_n (lv' := [(1, .int (-1 : Int32)), (0, .ref (b 0))]) hx hb dX7_nearestNow_1 rfl hl (by decide) rfl (fun ls hl => ?_)
  refine lv_iconst (v := 0) hx hb dX7_nearestNow_2 kic_0 ?_
  refine lv_istore_n (lv' := [(2, .int (0 : Int32)), (1, .int (-1 : Int32)), (0, .ref (b 0))]) hx hb dX7_nearestNow_3 rfl hl (by decide) rfl (fun ls hl => ?_)
  obtain ⟨n_9, hv⟩ := hv
  exact h_l_X7_nearestNow_4 n_9 (-1 : Int32) (0 : Int32) H locs ls hW hS (lv_sub hl [2, 1, 0] rfl) hv
set_option maxHeartbeats 4000000 in
set_option maxRecDepth 100000 in
theorem c_X7_calls (l : Launch) (G : Gt) (b : Nat → Nat) (m_images : Int32) (m_at_ : Int32) (m_open_ : Int32) (m_steps : Int32) (m_use_ : Int32) (m_traced : Int32) (m_speaks : Int32) (m_isParted : Int32) (m_s : Nat → Int32) (p1 : Int32) (p2 : Int32) (K : Int32 → (Nat → Int32) → Prop) (hv : v_X7_calls p1 p2 m_s K) : CI l G yX7_calls (.code yX7_calls cX7_calls 4 (some .int) :: wsG) (rmm 1 23) [.ref (b 0), .int p1, .int p2] (wd_X7_3 G b m_images m_at_ m_open_ m_steps m_use_ m_traced m_speaks m_isParted m_s) (S := (Nat → Int32)) (fun u => wd_X7_3 G b m_images m_at_ m_open_ m_steps m_use_ m_traced m_speaks m_isParted u) (fun r u => K r u) := by
  refine ci_intro (by decide) rfl (fun _ => rfl) (Nat.le_of_ble_eq_true rfl) ?_
  intro p e s m args below meth c A H ls Q C hW hS hl ret
  have hx := C.1.1
  have hb := C.1.2.1
  generalize hls : ([] : List Loc) = locs at hS ⊢
  have hl : lv_has ls 4 [(0, .ref (b 0)), (1, .int p1), (2, .int p2)] := hl
  have h_j_X7_calls_30 : ∀ (t0 : Int32) (m_s : Nat → Int32) (H : Heap) (locs : List Loc) (ls : Array Slot), wo G A (wd_X7_3 G b m_images m_at_ m_open_ m_steps m_use_ m_traced m_speaks m_isParted m_s) H → va_S A s.heap H locs → lv_has ls 4 [(0, .ref (b 0)), (1, .int p1), (2, .int p2)] → j_X7_calls_30 p1 p2 K t0 m_s → W p l e (rmm 1 23) s m args below meth c H locs 0 0 Q (F0 m 30 ls [.int t0]) := by
    intro t0 m_s H locs ls hW hS hl hv
    refine lv_istore_n (lv' := [(3, .int t0), (0, .ref (b 0)), (1, .int p1), (2, .int p2)]) hx hb dX7_calls_30 rfl hl (by decide) rfl (fun ls hl => ?_)
    refine lv_aload_n hx hb dX7_calls_31 rfl (lv_at hl 1 rfl) ?_
    refine lv_iload_n hx hb dX7_calls_32 rfl (lv_at hl 2 rfl) ?_
    refine lv_iconst (v := 2) hx hb dX7_calls_33 kic_2 ?_
    refine lv_iload_n hx hb dX7_calls_34 rfl (lv_at hl 0 rfl) ?_
    refine q_callVv (rest := []) (n := 3) C (c_X7_lays1 l G b m_images m_at_ m_open_ m_steps m_use_ m_traced m_speaks m_isParted m_s p1 (2 : Int32) t0 _ hv) ml_X7_151 kb_X7_lays1 rfl ⟨⟨rfl, rfl⟩, (Nat.le_of_ble_eq_true rfl), (Nat.le_of_ble_eq_true rfl)⟩ hW hS [0, 1] rfl rfl kc7 (q0 := 0) rfl hl.1 rfl (Nat.le_of_ble_eq_true rfl) dX7_calls_35 ⟨Nat.zero_le _, Nat.zero_le _⟩ (fun u_9 H locs hv hW hS => ?_)
    obtain ⟨m_s_8, rfl⟩ : ∃ z, z = u_9 := ⟨_, rfl⟩
    try dsimp only at hv
    have hW : wo G A (wd_X7_3 G b m_images m_at_ m_open_ m_steps m_use_ m_traced m_speaks m_isParted m_s_8) H := hW
    refine lv_aload_n hx hb dX7_calls_38 rfl (lv_at hl 1 rfl) ?_
    refine lv_iload_n hx hb dX7_calls_39 rfl (lv_at hl 3 rfl) ?_
    refine lv_iconst (v := 2) hx hb dX7_calls_40 kic_2 ?_
    refine lv_iload_n hx hb dX7_calls_41 rfl (lv_at hl 0 rfl) ?_
    refine q_callVv (rest := []) (n := 3) C (c_X7_lays1 l G b m_images m_at_ m_open_ m_steps m_use_ m_traced m_speaks m_isParted m_s_8 p2 (2 : Int32) t0 _ hv) ml_X7_151 kb_X7_lays1 rfl ⟨⟨rfl, rfl⟩, (Nat.le_of_ble_eq_true rfl), (Nat.le_of_ble_eq_true rfl)⟩ hW hS [0, 1] rfl rfl kc7 (q0 := 0) rfl hl.1 rfl (Nat.le_of_ble_eq_true rfl) dX7_calls_42 ⟨Nat.zero_le _, Nat.zero_le _⟩ (fun u_11 H locs hv hW hS => ?_)
    obtain ⟨m_s_10, rfl⟩ : ∃ z, z = u_11 := ⟨_, rfl⟩
    try dsimp only at hv
    have hW : wo G A (wd_X7_3 G b m_images m_at_ m_open_ m_steps m_use_ m_traced m_speaks m_isParted m_s_10) H := hW
    refine lv_aload_n hx hb dX7_calls_45 rfl (lv_at hl 1 rfl) ?_
    refine lv_iload_n hx hb dX7_calls_46 rfl (lv_at hl 2 rfl) ?_
    refine lv_iconst (v := 4) hx hb dX7_calls_47 kic_4 ?_
    refine lv_aload_n hx hb dX7_calls_48 rfl (lv_at hl 1 rfl) ?_
    refine lv_iload_n hx hb dX7_calls_49 rfl (lv_at hl 2 rfl) ?_
    refine lv_iconst (v := 4) hx hb dX7_calls_50 kic_4 ?_
    refine q_callV (rest := [.int (4 : Int32), .int p1, .ref (b 0)]) (n := 2) C (c_X7_its l G b m_images m_at_ m_open_ m_steps m_use_ m_traced m_speaks m_isParted m_s_10 p1 (4 : Int32) _ hv) ml_X7_120 kb_X7_its rfl ⟨⟨rfl, rfl⟩, (Nat.le_of_ble_eq_true rfl), (Nat.le_of_ble_eq_true rfl)⟩ hW hS [0, 1] rfl rfl kc7 (q0 := 0) rfl hl.1 rfl (Nat.le_of_ble_eq_true rfl) dX7_calls_51 ⟨Nat.zero_le _, Nat.zero_le _⟩ (fun r_12 u_13 H locs hv hW hS => ?_)
    try dsimp only at hv
    refine lv_iconst (v := 1) hx hb dX7_calls_54 kic_1 ?_
    refine lv_iload_n hx hb dX7_calls_55 rfl (lv_at hl 3 rfl) ?_
    refine lv_ishl hx hb dX7_calls_56 ?_
    refine lv_ior hx hb dX7_calls_57 ?_
    refine q_callVv (rest := []) (n := 3) C (c_X7_lays1 l G b m_images m_at_ m_open_ m_steps m_use_ m_traced m_speaks m_isParted m_s_10 p1 (4 : Int32) (r_12 ||| ((1 : Int32) <<< (p2 &&& 31))) _ hv) ml_X7_151 kb_X7_lays1 rfl ⟨⟨rfl, rfl⟩, (Nat.le_of_ble_eq_true rfl), (Nat.le_of_ble_eq_true rfl)⟩ hW hS [0, 1] rfl rfl kc7 (q0 := 0) rfl hl.1 rfl (Nat.le_of_ble_eq_true rfl) dX7_calls_58 ⟨Nat.zero_le _, Nat.zero_le _⟩ (fun u_15 H locs hv hW hS => ?_)
    obtain ⟨m_s_14, rfl⟩ : ∃ z, z = u_15 := ⟨_, rfl⟩
    try dsimp only at hv
    have hW : wo G A (wd_X7_3 G b m_images m_at_ m_open_ m_steps m_use_ m_traced m_speaks m_isParted m_s_14) H := hW
    refine lv_iload_n hx hb dX7_calls_61 rfl (lv_at hl 0 rfl) ?_
    exact ret (m_s_14) t0 H locs ls _ rfl hW hS hv dX7_calls_62
  refine lv_aload_n hx hb dX7_calls_0 rfl (lv_at hl 0 rfl) ?_
  refine lv_iload_n hx hb dX7_calls_1 rfl (lv_at hl 1 rfl) ?_
  refine lv_iconst (v := 2) hx hb dX7_calls_2 kic_2 ?_
  refine q_callV (rest := []) (n := 2) C (c_X7_its l G b m_images m_at_ m_open_ m_steps m_use_ m_traced m_speaks m_isParted m_s p1 (2 : Int32) _ hv) ml_X7_120 kb_X7_its rfl ⟨⟨rfl, rfl⟩, (Nat.le_of_ble_eq_true rfl), (Nat.le_of_ble_eq_true rfl)⟩ hW hS [0, 1] rfl rfl kc7 (q0 := 0) rfl hl.1 rfl (Nat.le_of_ble_eq_true rfl) dX7_calls_3 ⟨Nat.zero_le _, Nat.zero_le _⟩ (fun r_1 u_2 H locs hv hW hS => ?_)
  try dsimp only at hv
  refine lv_aload_n hx hb dX7_calls_6 rfl (lv_at hl 0 rfl) ?_
  refine lv_iload_n hx hb dX7_calls_7 rfl (lv_at hl 2 rfl) ?_
  refine lv_iconst (v := 2) hx hb dX7_calls_8 kic_2 ?_
  refine q_callV (rest := [.int r_1]) (n := 2) C (c_X7_its l G b m_images m_at_ m_open_ m_steps m_use_ m_traced m_speaks m_isParted m_s p2 (2 : Int32) _ hv) ml_X7_120 kb_X7_its rfl ⟨⟨rfl, rfl⟩, (Nat.le_of_ble_eq_true rfl), (Nat.le_of_ble_eq_true rfl)⟩ hW hS [0, 1] rfl rfl kc7 (q0 := 0) rfl hl.1 rfl (Nat.le_of_ble_eq_true rfl) dX7_calls_9 ⟨Nat.zero_le _, Nat.zero_le _⟩ (fun r_3 u_4 H locs hv hW hS => ?_)
  try dsimp only at hv
  refine lv_icmp_le (tgt := 24) hx hb dX7_calls_12 (by decide) (fun c_5 => ?_) (fun c_5 => ?_)
  · replace hv := hv.1 c_5
    refine lv_aload_n hx hb dX7_calls_24 rfl (lv_at hl 0 rfl) ?_
    refine lv_iload_n hx hb dX7_calls_25 rfl (lv_at hl 2 rfl) ?_
    refine lv_iconst (v := 2) hx hb dX7_calls_26 kic_2 ?_
    refine q_callV (rest := []) (n := 2) C (c_X7_its l G b m_images m_at_ m_open_ m_steps m_use_ m_traced m_speaks m_isParted m_s p2 (2 : Int32) _ hv) ml_X7_120 kb_X7_its rfl ⟨⟨rfl, rfl⟩, (Nat.le_of_ble_eq_true rfl), (Nat.le_of_ble_eq_true rfl)⟩ hW hS [0, 1] rfl rfl kc7 (q0 := 0) rfl hl.1 rfl (Nat.le_of_ble_eq_true rfl) dX7_calls_27 ⟨Nat.zero_le _, Nat.zero_le _⟩ (fun r_6 u_7 H locs hv hW hS => ?_)
    try dsimp only at hv
    exact h_j_X7_calls_30 r_6 m_s H locs ls hW hS (lv_sub hl [0, 1, 2] rfl) hv
  · replace hv := hv.2 c_5
    refine lv_aload_n hx hb dX7_calls_15 rfl (lv_at hl 0 rfl) ?_
    refine lv_iload_n hx hb dX7_calls_16 rfl (lv_at hl 1 rfl) ?_
    refine lv_iconst (v := 2) hx hb dX7_calls_17 kic_2 ?_
    refine q_callV (rest := []) (n := 2) C (c_X7_its l G b m_images m_at_ m_open_ m_steps m_use_ m_traced m_speaks m_isParted m_s p1 (2 : Int32) _ hv) ml_X7_120 kb_X7_its rfl ⟨⟨rfl, rfl⟩, (Nat.le_of_ble_eq_true rfl), (Nat.le_of_ble_eq_true rfl)⟩ hW hS [0, 1] rfl rfl kc7 (q0 := 0) rfl hl.1 rfl (Nat.le_of_ble_eq_true rfl) dX7_calls_18 ⟨Nat.zero_le _, Nat.zero_le _⟩ (fun r_16 u_17 H locs hv hW hS => ?_)
    try dsimp only at hv
    refine lv_goto (tgt := 30) hx hb dX7_calls_21 (by decide) ?_
    exact h_j_X7_calls_30 r_16 m_s H locs ls hW hS (lv_sub hl [0, 1, 2] rfl) hv
set_option maxHeartbeats 4000000 in
set_option maxRecDepth 100000 in
theorem c_X7_draw (l : Launch) (G : Gt) (b : Nat → Nat) (m_images : Int32) (m_at_ : Int32) (m_open_ : Int32) (m_steps : Int32) (m_use_ : Int32) (m_traced : Int32) (m_speaks : Int32) (m_isParted : Int32) (m_s : Nat → Int32) (K : Int32 → (Nat → Int32) → Prop) (hv : v_X7_draw m_s K) : CI l G yX7_draw (.code yX7_draw cX7_draw 1 (some .int) :: wsG) (rmm 0 0) [.ref (b 0)] (wd_X7_3 G b m_images m_at_ m_open_ m_steps m_use_ m_traced m_speaks m_isParted m_s) (S := (Nat → Int32)) (fun u => wd_X7_3 G b m_images m_at_ m_open_ m_steps m_use_ m_traced m_speaks m_isParted u) (fun r u => K r u) := by
  refine ci_intro (by decide) rfl (fun _ => rfl) (Nat.le_of_ble_eq_true rfl) ?_
  intro p e s m args below meth c A H ls Q C hW hS hl ret
  have hx := C.1.1
  have hb := C.1.2.1
  generalize hls : ([] : List Loc) = locs at hS ⊢
  have hl : lv_has ls 1 [(0, .ref (b 0))] := hl
  refine lv_aload_n hx hb dX7_draw_0 rfl (lv_at hl 0 rfl) ?_
  refine q_get C kc7 hW 0 rfl 0 (by decide) fl_X7_7 rfl rfl dX7_draw_1 ?_
  refine lv_iconst (v := 1) hx hb dX7_draw_4 kic_1 ?_
  refine lv_aload_n hx hb dX7_draw_5 rfl (lv_at hl 0 rfl) ?_
  refine q_get C kc7 hW 0 rfl 0 (by decide) fl_X7_7 rfl rfl dX7_draw_6 ?_
  refine lv_iconst (v := 1) hx hb dX7_draw_9 kic_1 ?_
  obtain ⟨h_1, hv⟩ := hv
  refine q_iald C hW 1 rfl h_1 dX7_draw_10 ?_
  refine lv_ldc (v := 1103515245) hx hb C.1.2.2.2.1 (C.hts kc_X7_158) dX7_draw_11 ?_
  refine lv_imul hx hb dX7_draw_13 ?_
  refine lv_sipush (v := 12345) hx hb dX7_draw_14 ksp_12345 ?_
  refine lv_iadd hx hb dX7_draw_17 ?_
  obtain ⟨h_2, hv⟩ := hv
  refine q_iast C hW hS 1 rfl h_2 dX7_draw_18 (fun H locs hW hS => ?_)
  have hW : wo G A (wd_X7_3 G b m_images m_at_ m_open_ m_steps m_use_ m_traced m_speaks m_isParted (upd m_s (1 : Int32).toNatClampNeg (((m_s (1 : Int32).toNatClampNeg) * (1103515245 : Int32)) + (12345 : Int32)))) H := hW
  refine lv_aload_n hx hb dX7_draw_19 rfl (lv_at hl 0 rfl) ?_
  refine q_get C kc7 hW 0 rfl 0 (by decide) fl_X7_7 rfl rfl dX7_draw_20 ?_
  refine lv_iconst (v := 1) hx hb dX7_draw_23 kic_1 ?_
  obtain ⟨h_3, hv⟩ := hv
  refine q_iald C hW 1 rfl h_3 dX7_draw_24 ?_
  refine lv_bipush (v := 8) hx hb dX7_draw_25 kbp_8 ?_
  refine lv_iushr hx hb dX7_draw_27 rfl ?_
  exact ret ((upd m_s (1 : Int32).toNatClampNeg (((m_s (1 : Int32).toNatClampNeg) * (1103515245 : Int32)) + (12345 : Int32)))) ((((upd m_s (1 : Int32).toNatClampNeg (((m_s (1 : Int32).toNatClampNeg) * (1103515245 : Int32)) + (12345 : Int32))) (1 : Int32).toNatClampNeg).toUInt32 >>> ((8 : Int32).toUInt32 &&& Int32.toUInt32 31)).toInt32) H locs ls _ rfl hW hS hv dX7_draw_28
set_option maxHeartbeats 4000000 in
set_option maxRecDepth 100000 in
theorem c_X7_isKind (l : Launch) (G : Gt) (p1 : Int32) (K : Int32 → Prop) (hv : v_X7_isKind p1 K) : CI l G yX7_isKind (.code yX7_isKind cX7_isKind 1 (some .boolean) :: wsG) (rmm 1 22) [.int p1] [] (S := Unit) (fun _ => []) (fun r u => (r = 0 ∨ r = 1) ∧ K r) := by
  refine ci_intro (by decide) rfl (fun _ => rfl) (Nat.le_of_ble_eq_true rfl) ?_
  intro p e s m args below meth c A H ls Q C hW hS hl ret
  have hx := C.1.1
  have hb := C.1.2.1
  generalize hls : ([] : List Loc) = locs at hS ⊢
  have hl : lv_has ls 1 [(0, .int p1)] := hl
  refine lv_iload_n hx hb dX7_isKind_0 rfl (lv_at hl 0 rfl) ?_
  refine lv_iconst (v := 0) hx hb dX7_isKind_1 kic_0 ?_
  refine lv_bipush (v := 69) hx hb dX7_isKind_2 kbp_69 ?_
  refine q_callS (rest := []) (n := 3) C (c_X7_in l G p1 (0 : Int32) (69 : Int32) _ hv) ml_X7_53 kb_X7_in rfl ⟨⟨rfl, rfl⟩, (Nat.le_of_ble_eq_true rfl), (Nat.le_of_ble_eq_true rfl)⟩ hW hS hl.1 rfl (Nat.le_of_ble_eq_true rfl) dX7_isKind_4 ⟨Nat.zero_le _, Nat.zero_le _⟩ (fun r_1 u_2 H locs hv hW hS => ?_)
  obtain ⟨hv_b_1, hv⟩ := hv
  try dsimp only at hv
  exact ret () r_1 H locs ls _ (bl_narrow hv_b_1) hW hS ⟨hv_b_1, hv⟩ dX7_isKind_7
set_option maxHeartbeats 4000000 in
set_option maxRecDepth 100000 in
theorem c_X7_person (l : Launch) (G : Gt) (b : Nat → Nat) (m_images : Int32) (m_at_ : Int32) (m_open_ : Int32) (m_steps : Int32) (m_use_ : Int32) (m_traced : Int32) (m_speaks : Int32) (m_isParted : Int32) (m_s : Nat → Int32) (m_errors : Nat → Int32) (p1 : Int32) (p2 : Int32) (p3 : Int32) (K : Int32 → (Nat → Int32) → (Nat → Int32) → Prop) (hv : v_X7_person p1 p2 p3 m_s m_errors K) : CI l G yX7_person (.code yX7_person cX7_person 5 (some .int) :: wsG) (rmm 2 42) [.ref (b 0), .int p1, .int p2, .int p3] (wd_X7_4 G b m_images m_at_ m_open_ m_steps m_use_ m_traced m_speaks m_isParted m_s m_errors) (S := (Nat → Int32) × (Nat → Int32)) (fun u => wd_X7_4 G b m_images m_at_ m_open_ m_steps m_use_ m_traced m_speaks m_isParted u.1 u.2) (fun r u => K r u.1 u.2) := by
  refine ci_intro (by decide) rfl (fun _ => rfl) (Nat.le_of_ble_eq_true rfl) ?_
  intro p e s m args below meth c A H ls Q C hW hS hl ret
  have hx := C.1.1
  have hb := C.1.2.1
  generalize hls : ([] : List Loc) = locs at hS ⊢
  have hl : lv_has ls 5 [(0, .ref (b 0)), (1, .int p1), (2, .int p2), (3, .int p3)] := hl
  have h_j_X7_person_27 : ∀ (m_s : Nat → Int32) (m_errors : Nat → Int32) (H : Heap) (locs : List Loc) (ls : Array Slot), wo G A (wd_X7_4 G b m_images m_at_ m_open_ m_steps m_use_ m_traced m_speaks m_isParted m_s m_errors) H → va_S A s.heap H locs → lv_has ls 5 [(0, .ref (b 0))] → j_X7_person_27 p1 p2 p3 K m_s m_errors → W p l e (rmm 2 42) s m args below meth c H locs 0 0 Q (F0 m 27 ls []) := by
    intro m_s m_errors H locs ls hW hS hl hv
    refine lv_aload_n hx hb dX7_person_27 rfl (lv_at hl 0 rfl) ?_
    refine lv_iconst (v := 1) hx hb dX7_person_28 kic_1 ?_
    refine q_callV (rest := []) (n := 1) C (c_X7_error l G b m_images m_at_ m_open_ m_steps m_use_ m_traced m_speaks m_isParted m_errors (1 : Int32) _ hv) ml_X7_61 kb_X7_error rfl ⟨⟨rfl, rfl⟩, (Nat.le_of_ble_eq_true rfl), (Nat.le_of_ble_eq_true rfl)⟩ hW hS [0, 2] rfl rfl kc7 (q0 := 0) rfl hl.1 rfl (Nat.le_of_ble_eq_true rfl) dX7_person_29 ⟨Nat.zero_le _, Nat.zero_le _⟩ (fun r_4 u_5 H locs hv hW hS => ?_)
    obtain ⟨m_errors_4, rfl⟩ : ∃ z, z = u_5 := ⟨_, rfl⟩
    try dsimp only at hv
    have hW : wo G A (wd_X7_4 G b m_images m_at_ m_open_ m_steps m_use_ m_traced m_speaks m_isParted m_s m_errors_4) H := hW
    exact ret (m_s, m_errors_4) r_4 H locs ls _ rfl hW hS hv dX7_person_32
  refine lv_iload_n hx hb dX7_person_0 rfl (lv_at hl 1 rfl) ?_
  refine q_callS (rest := []) (n := 1) C (c_X7_isKind l G p1 _ hv) ml_X7_159 kb_X7_isKind rfl ⟨⟨rfl, rfl⟩, (Nat.le_of_ble_eq_true rfl), (Nat.le_of_ble_eq_true rfl)⟩ hW hS hl.1 rfl (Nat.le_of_ble_eq_true rfl) dX7_person_1 ⟨Nat.zero_le _, Nat.zero_le _⟩ (fun r_1 u_2 H locs hv hW hS => ?_)
  obtain ⟨hv_b_1, hv⟩ := hv
  try dsimp only at hv
  refine lv_if_eq (tgt := 27) hx hb dX7_person_4 (by decide) (fun c_3 => ?_) (fun c_3 => ?_)
  · replace hv := hv.1 c_3
    exact h_j_X7_person_27 m_s m_errors H locs ls hW hS (lv_sub hl [0] rfl) hv
  · replace hv := hv.2 c_3
    refine lv_iload_n hx hb dX7_person_7 rfl (lv_at hl 2 rfl) ?_
    refine lv_iconst (v := 0) hx hb dX7_person_8 kic_0 ?_
    refine lv_bipush (v := 99) hx hb dX7_person_9 kbp_99 ?_
    refine q_callS (rest := []) (n := 3) C (c_X7_in l G p2 (0 : Int32) (99 : Int32) _ hv) ml_X7_53 kb_X7_in rfl ⟨⟨rfl, rfl⟩, (Nat.le_of_ble_eq_true rfl), (Nat.le_of_ble_eq_true rfl)⟩ hW hS hl.1 rfl (Nat.le_of_ble_eq_true rfl) dX7_person_11 ⟨Nat.zero_le _, Nat.zero_le _⟩ (fun r_6 u_7 H locs hv hW hS => ?_)
    obtain ⟨hv_b_6, hv⟩ := hv
    try dsimp only at hv
    refine lv_if_eq (tgt := 27) hx hb dX7_person_14 (by decide) (fun c_8 => ?_) (fun c_8 => ?_)
    · replace hv := hv.1 c_8
      exact h_j_X7_person_27 m_s m_errors H locs ls hW hS (lv_sub hl [0] rfl) hv
    · replace hv := hv.2 c_8
      refine lv_iload_n hx hb dX7_person_17 rfl (lv_at hl 3 rfl) ?_
      refine lv_iconst (v := 0) hx hb dX7_person_18 kic_0 ?_
      refine lv_bipush (v := 9) hx hb dX7_person_19 kbp_9 ?_
      refine q_callS (rest := []) (n := 3) C (c_X7_in l G p3 (0 : Int32) (9 : Int32) _ hv) ml_X7_53 kb_X7_in rfl ⟨⟨rfl, rfl⟩, (Nat.le_of_ble_eq_true rfl), (Nat.le_of_ble_eq_true rfl)⟩ hW hS hl.1 rfl (Nat.le_of_ble_eq_true rfl) dX7_person_21 ⟨Nat.zero_le _, Nat.zero_le _⟩ (fun r_9 u_10 H locs hv hW hS => ?_)
      obtain ⟨hv_b_9, hv⟩ := hv
      try dsimp only at hv
      refine lv_if_ne (tgt := 33) hx hb dX7_person_24 (by decide) (fun c_11 => ?_) (fun c_11 => ?_)
      · replace hv := hv.1 c_11
        refine lv_aload_n hx hb dX7_person_33 rfl (lv_at hl 0 rfl) ?_
        refine q_get C kc7 hW 0 rfl 0 (by decide) fl_X7_7 rfl rfl dX7_person_34 ?_
        refine lv_iconst (v := 4) hx hb dX7_person_37 kic_4 ?_
        obtain ⟨h_12, hv⟩ := hv
        refine q_iald C hW 1 rfl h_12 dX7_person_38 ?_
        refine lv_bipush (v := 8) hx hb dX7_person_39 kbp_8 ?_
        refine lv_icmp_ne (tgt := 50) hx hb dX7_person_41 (by decide) (fun c_13 => ?_) (fun c_13 => ?_)
        · replace hv := hv.1 c_13
          refine lv_aload_n hx hb dX7_person_50 rfl (lv_at hl 0 rfl) ?_
          refine q_get C kc7 hW 0 rfl 0 (by decide) fl_X7_7 rfl rfl dX7_person_51 ?_
          refine lv_iconst (v := 4) hx hb dX7_person_54 kic_4 ?_
          obtain ⟨h_14, hv⟩ := hv
          refine q_iald C hW 1 rfl h_14 dX7_person_55 ?_
          refine lv_istore (lv' := [(4, .int (m_s (4 : Int32).toNatClampNeg)), (0, .ref (b 0)), (1, .int p1), (2, .int p2), (3, .int p3)]) hx hb dX7_person_56 hl (by decide) rfl (fun ls hl => ?_)
          refine lv_aload_n hx hb dX7_person_58 rfl (lv_at hl 1 rfl) ?_
          refine lv_iload hx hb dX7_person_59 (lv_at hl 0 rfl) ?_
          refine lv_iconst (v := 0) hx hb dX7_person_61 kic_0 ?_
          refine lv_iload_n hx hb dX7_person_62 rfl (lv_at hl 2 rfl) ?_
          refine lv_bipush (v := 10) hx hb dX7_person_63 kbp_10 ?_
          obtain ⟨h_15, hv⟩ := hv
          refine lv_idiv hx hb dX7_person_65 h_15 ?_
          refine q_callVv (rest := []) (n := 3) C (c_X7_lays1 l G b m_images m_at_ m_open_ m_steps m_use_ m_traced m_speaks m_isParted m_s (m_s (4 : Int32).toNatClampNeg) (0 : Int32) (p1 / (10 : Int32)) _ hv) ml_X7_151 kb_X7_lays1 rfl ⟨⟨rfl, rfl⟩, (Nat.le_of_ble_eq_true rfl), (Nat.le_of_ble_eq_true rfl)⟩ hW hS [0, 1] rfl rfl kc7 (q0 := 0) rfl hl.1 rfl (Nat.le_of_ble_eq_true rfl) dX7_person_66 ⟨Nat.zero_le _, Nat.zero_le _⟩ (fun u_17 H locs hv hW hS => ?_)
          obtain ⟨m_s_16, rfl⟩ : ∃ z, z = u_17 := ⟨_, rfl⟩
          try dsimp only at hv
          have hW : wo G A (wd_X7_4 G b m_images m_at_ m_open_ m_steps m_use_ m_traced m_speaks m_isParted m_s_16 m_errors) H := hW
          refine lv_aload_n hx hb dX7_person_69 rfl (lv_at hl 1 rfl) ?_
          refine lv_iload hx hb dX7_person_70 (lv_at hl 0 rfl) ?_
          refine lv_iconst (v := 1) hx hb dX7_person_72 kic_1 ?_
          refine lv_iload_n hx hb dX7_person_73 rfl (lv_at hl 2 rfl) ?_
          refine lv_bipush (v := 10) hx hb dX7_person_74 kbp_10 ?_
          obtain ⟨h_18, hv⟩ := hv
          refine lv_irem hx hb dX7_person_76 h_18 ?_
          refine q_callVv (rest := []) (n := 3) C (c_X7_lays1 l G b m_images m_at_ m_open_ m_steps m_use_ m_traced m_speaks m_isParted m_s_16 (m_s (4 : Int32).toNatClampNeg) (1 : Int32) (p1 - p1 / (10 : Int32) * (10 : Int32)) _ hv) ml_X7_151 kb_X7_lays1 rfl ⟨⟨rfl, rfl⟩, (Nat.le_of_ble_eq_true rfl), (Nat.le_of_ble_eq_true rfl)⟩ hW hS [0, 1] rfl rfl kc7 (q0 := 0) rfl hl.1 rfl (Nat.le_of_ble_eq_true rfl) dX7_person_77 ⟨Nat.zero_le _, Nat.zero_le _⟩ (fun u_20 H locs hv hW hS => ?_)
          obtain ⟨m_s_19, rfl⟩ : ∃ z, z = u_20 := ⟨_, rfl⟩
          try dsimp only at hv
          have hW : wo G A (wd_X7_4 G b m_images m_at_ m_open_ m_steps m_use_ m_traced m_speaks m_isParted m_s_19 m_errors) H := hW
          refine lv_aload_n hx hb dX7_person_80 rfl (lv_at hl 1 rfl) ?_
          refine lv_iload hx hb dX7_person_81 (lv_at hl 0 rfl) ?_
          refine lv_iconst (v := 2) hx hb dX7_person_83 kic_2 ?_
          refine lv_iload_n hx hb dX7_person_84 rfl (lv_at hl 3 rfl) ?_
          refine q_callVv (rest := []) (n := 3) C (c_X7_lays1 l G b m_images m_at_ m_open_ m_steps m_use_ m_traced m_speaks m_isParted m_s_19 (m_s (4 : Int32).toNatClampNeg) (2 : Int32) p2 _ hv) ml_X7_151 kb_X7_lays1 rfl ⟨⟨rfl, rfl⟩, (Nat.le_of_ble_eq_true rfl), (Nat.le_of_ble_eq_true rfl)⟩ hW hS [0, 1] rfl rfl kc7 (q0 := 0) rfl hl.1 rfl (Nat.le_of_ble_eq_true rfl) dX7_person_85 ⟨Nat.zero_le _, Nat.zero_le _⟩ (fun u_22 H locs hv hW hS => ?_)
          obtain ⟨m_s_21, rfl⟩ : ∃ z, z = u_22 := ⟨_, rfl⟩
          try dsimp only at hv
          have hW : wo G A (wd_X7_4 G b m_images m_at_ m_open_ m_steps m_use_ m_traced m_speaks m_isParted m_s_21 m_errors) H := hW
          refine lv_aload_n hx hb dX7_person_88 rfl (lv_at hl 1 rfl) ?_
          refine lv_iload hx hb dX7_person_89 (lv_at hl 0 rfl) ?_
          refine lv_iconst (v := 3) hx hb dX7_person_91 kic_3 ?_
          refine lv_iload_n hx hb dX7_person_92 rfl (lv_at hl 4 rfl) ?_
          refine q_callVv (rest := []) (n := 3) C (c_X7_lays1 l G b m_images m_at_ m_open_ m_steps m_use_ m_traced m_speaks m_isParted m_s_21 (m_s (4 : Int32).toNatClampNeg) (3 : Int32) p3 _ hv) ml_X7_151 kb_X7_lays1 rfl ⟨⟨rfl, rfl⟩, (Nat.le_of_ble_eq_true rfl), (Nat.le_of_ble_eq_true rfl)⟩ hW hS [0, 1] rfl rfl kc7 (q0 := 0) rfl hl.1 rfl (Nat.le_of_ble_eq_true rfl) dX7_person_93 ⟨Nat.zero_le _, Nat.zero_le _⟩ (fun u_24 H locs hv hW hS => ?_)
          obtain ⟨m_s_23, rfl⟩ : ∃ z, z = u_24 := ⟨_, rfl⟩
          try dsimp only at hv
          have hW : wo G A (wd_X7_4 G b m_images m_at_ m_open_ m_steps m_use_ m_traced m_speaks m_isParted m_s_23 m_errors) H := hW
          refine lv_aload_n hx hb dX7_person_96 rfl (lv_at hl 1 rfl) ?_
          refine lv_iload hx hb dX7_person_97 (lv_at hl 0 rfl) ?_
          refine lv_iconst (v := 4) hx hb dX7_person_99 kic_4 ?_
          refine lv_iconst (v := 0) hx hb dX7_person_100 kic_0 ?_
          refine q_callVv (rest := []) (n := 3) C (c_X7_lays1 l G b m_images m_at_ m_open_ m_steps m_use_ m_traced m_speaks m_isParted m_s_23 (m_s (4 : Int32).toNatClampNeg) (4 : Int32) (0 : Int32) _ hv) ml_X7_151 kb_X7_lays1 rfl ⟨⟨rfl, rfl⟩, (Nat.le_of_ble_eq_true rfl), (Nat.le_of_ble_eq_true rfl)⟩ hW hS [0, 1] rfl rfl kc7 (q0 := 0) rfl hl.1 rfl (Nat.le_of_ble_eq_true rfl) dX7_person_101 ⟨Nat.zero_le _, Nat.zero_le _⟩ (fun u_26 H locs hv hW hS => ?_)
          obtain ⟨m_s_25, rfl⟩ : ∃ z, z = u_26 := ⟨_, rfl⟩
          try dsimp only at hv
          have hW : wo G A (wd_X7_4 G b m_images m_at_ m_open_ m_steps m_use_ m_traced m_speaks m_isParted m_s_25 m_errors) H := hW
          refine lv_aload_n hx hb dX7_person_104 rfl (lv_at hl 1 rfl) ?_
          refine q_get C kc7 hW 0 rfl 0 (by decide) fl_X7_7 rfl rfl dX7_person_105 ?_
          refine lv_iconst (v := 4) hx hb dX7_person_108 kic_4 ?_
          refine lv_dup2_11 hx hb dX7_person_109 rfl rfl ?_
          obtain ⟨h_27, hv⟩ := hv
          refine q_iald C hW 1 rfl h_27 dX7_person_110 ?_
          refine lv_iconst (v := 1) hx hb dX7_person_111 kic_1 ?_
          refine lv_iadd hx hb dX7_person_112 ?_
          obtain ⟨h_28, hv⟩ := hv
          refine q_iast C hW hS 1 rfl h_28 dX7_person_113 (fun H locs hW hS => ?_)
          have hW : wo G A (wd_X7_4 G b m_images m_at_ m_open_ m_steps m_use_ m_traced m_speaks m_isParted (upd m_s_25 (4 : Int32).toNatClampNeg ((m_s_25 (4 : Int32).toNatClampNeg) + (1 : Int32))) m_errors) H := hW
          refine lv_iload hx hb dX7_person_114 (lv_at hl 0 rfl) ?_
          exact ret ((upd m_s_25 (4 : Int32).toNatClampNeg ((m_s_25 (4 : Int32).toNatClampNeg) + (1 : Int32))), m_errors) (m_s (4 : Int32).toNatClampNeg) H locs ls _ rfl hW hS hv dX7_person_116
        · replace hv := hv.2 c_13
          refine lv_aload_n hx hb dX7_person_44 rfl (lv_at hl 0 rfl) ?_
          refine lv_iconst (v := 4) hx hb dX7_person_45 kic_4 ?_
          refine q_callV (rest := []) (n := 1) C (c_X7_error l G b m_images m_at_ m_open_ m_steps m_use_ m_traced m_speaks m_isParted m_errors (4 : Int32) _ hv) ml_X7_61 kb_X7_error rfl ⟨⟨rfl, rfl⟩, (Nat.le_of_ble_eq_true rfl), (Nat.le_of_ble_eq_true rfl)⟩ hW hS [0, 2] rfl rfl kc7 (q0 := 0) rfl hl.1 rfl (Nat.le_of_ble_eq_true rfl) dX7_person_46 ⟨Nat.zero_le _, Nat.zero_le _⟩ (fun r_29 u_30 H locs hv hW hS => ?_)
          obtain ⟨m_errors_29, rfl⟩ : ∃ z, z = u_30 := ⟨_, rfl⟩
          try dsimp only at hv
          have hW : wo G A (wd_X7_4 G b m_images m_at_ m_open_ m_steps m_use_ m_traced m_speaks m_isParted m_s m_errors_29) H := hW
          exact ret (m_s, m_errors_29) r_29 H locs ls _ rfl hW hS hv dX7_person_49
      · replace hv := hv.2 c_11
        exact h_j_X7_person_27 m_s m_errors H locs ls hW hS (lv_sub hl [0] rfl) hv
set_option maxHeartbeats 4000000 in
set_option maxRecDepth 100000 in
theorem c_X7_personIs (l : Launch) (G : Gt) (b : Nat → Nat) (m_images : Int32) (m_at_ : Int32) (m_open_ : Int32) (m_steps : Int32) (m_use_ : Int32) (m_traced : Int32) (m_speaks : Int32) (m_isParted : Int32) (m_s : Nat → Int32) (m_errors : Nat → Int32) (p1 : Int32) (p2 : Int32) (K : Int32 → (Nat → Int32) → Prop) (hv : v_X7_personIs p1 p2 m_s m_errors K) : CI l G yX7_personIs (.code yX7_personIs cX7_personIs 3 (some .int) :: wsG) (rmm 2 43) [.ref (b 0), .int p1, .int p2] (wd_X7_4 G b m_images m_at_ m_open_ m_steps m_use_ m_traced m_speaks m_isParted m_s m_errors) (S := (Nat → Int32)) (fun u => wd_X7_4 G b m_images m_at_ m_open_ m_steps m_use_ m_traced m_speaks m_isParted m_s u) (fun r u => K r u) := by
  refine ci_intro (by decide) rfl (fun _ => rfl) (Nat.le_of_ble_eq_true rfl) ?_
  intro p e s m args below meth c A H ls Q C hW hS hl ret
  have hx := C.1.1
  have hb := C.1.2.1
  generalize hls : ([] : List Loc) = locs at hS ⊢
  have hl : lv_has ls 3 [(0, .ref (b 0)), (1, .int p1), (2, .int p2)] := hl
  have h_j_X7_personIs_26 : ∀ (m_errors : Nat → Int32) (H : Heap) (locs : List Loc) (ls : Array Slot), wo G A (wd_X7_4 G b m_images m_at_ m_open_ m_steps m_use_ m_traced m_speaks m_isParted m_s m_errors) H → va_S A s.heap H locs → lv_has ls 3 [(0, .ref (b 0))] → j_X7_personIs_26 p1 p2 m_s K m_errors → W p l e (rmm 2 43) s m args below meth c H locs 0 0 Q (F0 m 26 ls []) := by
    intro m_errors H locs ls hW hS hl hv
    refine lv_aload_n hx hb dX7_personIs_26 rfl (lv_at hl 0 rfl) ?_
    refine lv_iconst (v := 1) hx hb dX7_personIs_27 kic_1 ?_
    refine q_callV (rest := []) (n := 1) C (c_X7_error l G b m_images m_at_ m_open_ m_steps m_use_ m_traced m_speaks m_isParted m_errors (1 : Int32) _ hv) ml_X7_61 kb_X7_error rfl ⟨⟨rfl, rfl⟩, (Nat.le_of_ble_eq_true rfl), (Nat.le_of_ble_eq_true rfl)⟩ hW hS [0, 2] rfl rfl kc7 (q0 := 0) rfl hl.1 rfl (Nat.le_of_ble_eq_true rfl) dX7_personIs_28 ⟨Nat.zero_le _, Nat.zero_le _⟩ (fun r_4 u_5 H locs hv hW hS => ?_)
    obtain ⟨m_errors_4, rfl⟩ : ∃ z, z = u_5 := ⟨_, rfl⟩
    try dsimp only at hv
    have hW : wo G A (wd_X7_4 G b m_images m_at_ m_open_ m_steps m_use_ m_traced m_speaks m_isParted m_s m_errors_4) H := hW
    exact ret (m_errors_4) r_4 H locs ls _ rfl hW hS hv dX7_personIs_31
  refine lv_aload_n hx hb dX7_personIs_0 rfl (lv_at hl 0 rfl) ?_
  refine lv_iload_n hx hb dX7_personIs_1 rfl (lv_at hl 1 rfl) ?_
  refine q_callV (rest := []) (n := 1) C (c_X7_isPerson l G b m_images m_at_ m_open_ m_steps m_use_ m_traced m_speaks m_isParted m_s p1 _ hv) ml_X7_57 kb_X7_isPerson rfl ⟨⟨rfl, rfl⟩, (Nat.le_of_ble_eq_true rfl), (Nat.le_of_ble_eq_true rfl)⟩ hW hS [0, 1] rfl rfl kc7 (q0 := 0) rfl hl.1 rfl (Nat.le_of_ble_eq_true rfl) dX7_personIs_2 ⟨Nat.zero_le _, Nat.zero_le _⟩ (fun r_1 u_2 H locs hv hW hS => ?_)
  obtain ⟨hv_b_1, hv⟩ := hv
  try dsimp only at hv
  refine lv_if_eq (tgt := 26) hx hb dX7_personIs_5 (by decide) (fun c_3 => ?_) (fun c_3 => ?_)
  · replace hv := hv.1 c_3
    exact h_j_X7_personIs_26 m_errors H locs ls hW hS (lv_sub hl [0] rfl) hv
  · replace hv := hv.2 c_3
    refine lv_iload_n hx hb dX7_personIs_8 rfl (lv_at hl 2 rfl) ?_
    refine lv_iconst (v := 0) hx hb dX7_personIs_9 kic_0 ?_
    refine lv_iconst (v := 4) hx hb dX7_personIs_10 kic_4 ?_
    refine q_callS (rest := []) (n := 3) C (c_X7_in l G p2 (0 : Int32) (4 : Int32) _ hv) ml_X7_53 kb_X7_in rfl ⟨⟨rfl, rfl⟩, (Nat.le_of_ble_eq_true rfl), (Nat.le_of_ble_eq_true rfl)⟩ hW hS hl.1 rfl (Nat.le_of_ble_eq_true rfl) dX7_personIs_11 ⟨Nat.zero_le _, Nat.zero_le _⟩ (fun r_6 u_7 H locs hv hW hS => ?_)
    obtain ⟨hv_b_6, hv⟩ := hv
    try dsimp only at hv
    refine lv_if_eq (tgt := 26) hx hb dX7_personIs_14 (by decide) (fun c_8 => ?_) (fun c_8 => ?_)
    · replace hv := hv.1 c_8
      exact h_j_X7_personIs_26 m_errors H locs ls hW hS (lv_sub hl [0] rfl) hv
    · replace hv := hv.2 c_8
      refine lv_aload_n hx hb dX7_personIs_17 rfl (lv_at hl 0 rfl) ?_
      refine lv_iload_n hx hb dX7_personIs_18 rfl (lv_at hl 1 rfl) ?_
      refine lv_iload_n hx hb dX7_personIs_19 rfl (lv_at hl 2 rfl) ?_
      refine q_callV (rest := []) (n := 2) C (c_X7_its l G b m_images m_at_ m_open_ m_steps m_use_ m_traced m_speaks m_isParted m_s p1 p2 _ hv) ml_X7_120 kb_X7_its rfl ⟨⟨rfl, rfl⟩, (Nat.le_of_ble_eq_true rfl), (Nat.le_of_ble_eq_true rfl)⟩ hW hS [0, 1] rfl rfl kc7 (q0 := 0) rfl hl.1 rfl (Nat.le_of_ble_eq_true rfl) dX7_personIs_20 ⟨Nat.zero_le _, Nat.zero_le _⟩ (fun r_9 u_10 H locs hv hW hS => ?_)
      try dsimp only at hv
      refine lv_goto (tgt := 31) hx hb dX7_personIs_23 (by decide) ?_
      exact ret (m_errors) r_9 H locs ls _ rfl hW hS hv dX7_personIs_31
set_option maxHeartbeats 4000000 in
set_option maxRecDepth 100000 in
theorem c_X7_become (l : Launch) (G : Gt) (b : Nat → Nat) (m_images : Int32) (m_at_ : Int32) (m_open_ : Int32) (m_steps : Int32) (m_use_ : Int32) (m_traced : Int32) (m_speaks : Int32) (m_isParted : Int32) (m_s : Nat → Int32) (m_errors : Nat → Int32) (p1 : Int32) (p2 : Int32) (K : Int32 → (Nat → Int32) → (Nat → Int32) → Prop) (hv : v_X7_become p1 p2 m_s m_errors K) : CI l G yX7_become (.code yX7_become cX7_become 3 (some .int) :: wsG) (rmm 2 43) [.ref (b 0), .int p1, .int p2] (wd_X7_4 G b m_images m_at_ m_open_ m_steps m_use_ m_traced m_speaks m_isParted m_s m_errors) (S := (Nat → Int32) × (Nat → Int32)) (fun u => wd_X7_4 G b m_images m_at_ m_open_ m_steps m_use_ m_traced m_speaks m_isParted u.1 u.2) (fun r u => K r u.1 u.2) := by
  refine ci_intro (by decide) rfl (fun _ => rfl) (Nat.le_of_ble_eq_true rfl) ?_
  intro p e s m args below meth c A H ls Q C hW hS hl ret
  have hx := C.1.1
  have hb := C.1.2.1
  generalize hls : ([] : List Loc) = locs at hS ⊢
  have hl : lv_has ls 3 [(0, .ref (b 0)), (1, .int p1), (2, .int p2)] := hl
  have h_j_X7_become_15 : ∀ (m_s : Nat → Int32) (m_errors : Nat → Int32) (H : Heap) (locs : List Loc) (ls : Array Slot), wo G A (wd_X7_4 G b m_images m_at_ m_open_ m_steps m_use_ m_traced m_speaks m_isParted m_s m_errors) H → va_S A s.heap H locs → lv_has ls 3 [(0, .ref (b 0))] → j_X7_become_15 p1 p2 K m_s m_errors → W p l e (rmm 2 43) s m args below meth c H locs 0 0 Q (F0 m 15 ls []) := by
    intro m_s m_errors H locs ls hW hS hl hv
    refine lv_aload_n hx hb dX7_become_15 rfl (lv_at hl 0 rfl) ?_
    refine lv_iconst (v := 1) hx hb dX7_become_16 kic_1 ?_
    refine q_callV (rest := []) (n := 1) C (c_X7_error l G b m_images m_at_ m_open_ m_steps m_use_ m_traced m_speaks m_isParted m_errors (1 : Int32) _ hv) ml_X7_61 kb_X7_error rfl ⟨⟨rfl, rfl⟩, (Nat.le_of_ble_eq_true rfl), (Nat.le_of_ble_eq_true rfl)⟩ hW hS [0, 2] rfl rfl kc7 (q0 := 0) rfl hl.1 rfl (Nat.le_of_ble_eq_true rfl) dX7_become_17 ⟨Nat.zero_le _, Nat.zero_le _⟩ (fun r_4 u_5 H locs hv hW hS => ?_)
    obtain ⟨m_errors_4, rfl⟩ : ∃ z, z = u_5 := ⟨_, rfl⟩
    try dsimp only at hv
    have hW : wo G A (wd_X7_4 G b m_images m_at_ m_open_ m_steps m_use_ m_traced m_speaks m_isParted m_s m_errors_4) H := hW
    exact ret (m_s, m_errors_4) r_4 H locs ls _ rfl hW hS hv dX7_become_20
  refine lv_aload_n hx hb dX7_become_0 rfl (lv_at hl 0 rfl) ?_
  refine lv_iload_n hx hb dX7_become_1 rfl (lv_at hl 1 rfl) ?_
  refine q_callV (rest := []) (n := 1) C (c_X7_isPerson l G b m_images m_at_ m_open_ m_steps m_use_ m_traced m_speaks m_isParted m_s p1 _ hv) ml_X7_57 kb_X7_isPerson rfl ⟨⟨rfl, rfl⟩, (Nat.le_of_ble_eq_true rfl), (Nat.le_of_ble_eq_true rfl)⟩ hW hS [0, 1] rfl rfl kc7 (q0 := 0) rfl hl.1 rfl (Nat.le_of_ble_eq_true rfl) dX7_become_2 ⟨Nat.zero_le _, Nat.zero_le _⟩ (fun r_1 u_2 H locs hv hW hS => ?_)
  obtain ⟨hv_b_1, hv⟩ := hv
  try dsimp only at hv
  refine lv_if_eq (tgt := 15) hx hb dX7_become_5 (by decide) (fun c_3 => ?_) (fun c_3 => ?_)
  · replace hv := hv.1 c_3
    exact h_j_X7_become_15 m_s m_errors H locs ls hW hS (lv_sub hl [0] rfl) hv
  · replace hv := hv.2 c_3
    refine lv_iload_n hx hb dX7_become_8 rfl (lv_at hl 2 rfl) ?_
    refine q_callS (rest := []) (n := 1) C (c_X7_isKind l G p2 _ hv) ml_X7_159 kb_X7_isKind rfl ⟨⟨rfl, rfl⟩, (Nat.le_of_ble_eq_true rfl), (Nat.le_of_ble_eq_true rfl)⟩ hW hS hl.1 rfl (Nat.le_of_ble_eq_true rfl) dX7_become_9 ⟨Nat.zero_le _, Nat.zero_le _⟩ (fun r_6 u_7 H locs hv hW hS => ?_)
    obtain ⟨hv_b_6, hv⟩ := hv
    try dsimp only at hv
    refine lv_if_ne (tgt := 21) hx hb dX7_become_12 (by decide) (fun c_8 => ?_) (fun c_8 => ?_)
    · replace hv := hv.1 c_8
      refine lv_aload_n hx hb dX7_become_21 rfl (lv_at hl 0 rfl) ?_
      refine lv_iload_n hx hb dX7_become_22 rfl (lv_at hl 1 rfl) ?_
      refine lv_iconst (v := 1) hx hb dX7_become_23 kic_1 ?_
      refine lv_iload_n hx hb dX7_become_24 rfl (lv_at hl 2 rfl) ?_
      refine lv_bipush (v := 10) hx hb dX7_become_25 kbp_10 ?_
      obtain ⟨h_9, hv⟩ := hv
      refine lv_irem hx hb dX7_become_27 h_9 ?_
      refine q_callVv (rest := []) (n := 3) C (c_X7_lays1 l G b m_images m_at_ m_open_ m_steps m_use_ m_traced m_speaks m_isParted m_s p1 (1 : Int32) (p2 - p2 / (10 : Int32) * (10 : Int32)) _ hv) ml_X7_151 kb_X7_lays1 rfl ⟨⟨rfl, rfl⟩, (Nat.le_of_ble_eq_true rfl), (Nat.le_of_ble_eq_true rfl)⟩ hW hS [0, 1] rfl rfl kc7 (q0 := 0) rfl hl.1 rfl (Nat.le_of_ble_eq_true rfl) dX7_become_28 ⟨Nat.zero_le _, Nat.zero_le _⟩ (fun u_11 H locs hv hW hS => ?_)
      obtain ⟨m_s_10, rfl⟩ : ∃ z, z = u_11 := ⟨_, rfl⟩
      try dsimp only at hv
      have hW : wo G A (wd_X7_4 G b m_images m_at_ m_open_ m_steps m_use_ m_traced m_speaks m_isParted m_s_10 m_errors) H := hW
      refine lv_aload_n hx hb dX7_become_31 rfl (lv_at hl 0 rfl) ?_
      refine lv_bipush (v := 8) hx hb dX7_become_32 kbp_8 ?_
      refine lv_iconst (v := 5) hx hb dX7_become_34 kic_5 ?_
      refine lv_iload_n hx hb dX7_become_35 rfl (lv_at hl 1 rfl) ?_
      refine lv_imul hx hb dX7_become_36 ?_
      refine lv_iadd hx hb dX7_become_37 ?_
      refine lv_iconst (v := 0) hx hb dX7_become_38 kic_0 ?_
      refine lv_iadd hx hb dX7_become_39 ?_
      refine lv_iload_n hx hb dX7_become_40 rfl (lv_at hl 2 rfl) ?_
      refine lv_bipush (v := 10) hx hb dX7_become_41 kbp_10 ?_
      obtain ⟨h_12, hv⟩ := hv
      refine lv_idiv hx hb dX7_become_43 h_12 ?_
      refine q_callV (rest := []) (n := 2) C (c_X7_change1 l G b m_images m_at_ m_open_ m_steps m_use_ m_traced m_speaks m_isParted m_s_10 (((8 : Int32) + ((5 : Int32) * p1)) + (0 : Int32)) (p2 / (10 : Int32)) _ hv) ml_X7_162 kb_X7_change1 rfl ⟨⟨rfl, rfl⟩, (Nat.le_of_ble_eq_true rfl), (Nat.le_of_ble_eq_true rfl)⟩ hW hS [0, 1] rfl rfl kc7 (q0 := 0) rfl hl.1 rfl (Nat.le_of_ble_eq_true rfl) dX7_become_44 ⟨Nat.zero_le _, Nat.zero_le _⟩ (fun r_13 u_14 H locs hv hW hS => ?_)
      obtain ⟨m_s_13, rfl⟩ : ∃ z, z = u_14 := ⟨_, rfl⟩
      try dsimp only at hv
      have hW : wo G A (wd_X7_4 G b m_images m_at_ m_open_ m_steps m_use_ m_traced m_speaks m_isParted m_s_13 m_errors) H := hW
      exact ret (m_s_13, m_errors) r_13 H locs ls _ rfl hW hS hv dX7_become_47
    · replace hv := hv.2 c_8
      exact h_j_X7_become_15 m_s m_errors H locs ls hW hS (lv_sub hl [0] rfl) hv
set_option maxHeartbeats 4000000 in
set_option maxRecDepth 100000 in
theorem c_X7_above (l : Launch) (G : Gt) (p1 : Int32) (K : Int32 → Prop) (hv : v_X7_above p1 K) : CI l G yX7_above (.code yX7_above cX7_above 1 (some .int) :: wsG) (rmm 0 0) [.int p1] [] (S := Unit) (fun _ => []) (fun r u => K r) := by
  refine ci_intro (by decide) rfl (fun _ => rfl) (Nat.le_of_ble_eq_true rfl) ?_
  intro p e s m args below meth c A H ls Q C hW hS hl ret
  have hx := C.1.1
  have hb := C.1.2.1
  generalize hls : ([] : List Loc) = locs at hS ⊢
  have hl : lv_has ls 1 [(0, .int p1)] := hl
  refine lv_iload_n hx hb dX7_above_0 rfl (lv_at hl 0 rfl) ?_
  refine lv_iconst (v := 4) hx hb dX7_above_1 kic_4 ?_
  refine lv_icmp_ne (tgt := 9) hx hb dX7_above_2 (by decide) (fun c_1 => ?_) (fun c_1 => ?_)
  · replace hv := hv.1 c_1
    refine lv_iload_n hx hb dX7_above_9 rfl (lv_at hl 0 rfl) ?_
    refine lv_iconst (v := 5) hx hb dX7_above_10 kic_5 ?_
    refine lv_icmp_ne (tgt := 18) hx hb dX7_above_11 (by decide) (fun c_2 => ?_) (fun c_2 => ?_)
    · replace hv := hv.1 c_2
      refine lv_iconst (v := 0) hx hb dX7_above_18 kic_0 ?_
      exact ret () (0 : Int32) H locs ls _ rfl hW hS hv dX7_above_19
    · replace hv := hv.2 c_2
      refine lv_iconst (v := 2) hx hb dX7_above_14 kic_2 ?_
      refine lv_goto (tgt := 19) hx hb dX7_above_15 (by decide) ?_
      exact ret () (2 : Int32) H locs ls _ rfl hW hS hv dX7_above_19
  · replace hv := hv.2 c_1
    refine lv_iconst (v := 1) hx hb dX7_above_5 kic_1 ?_
    refine lv_goto (tgt := 19) hx hb dX7_above_6 (by decide) ?_
    exact ret () (1 : Int32) H locs ls _ rfl hW hS hv dX7_above_19
set_option maxHeartbeats 4000000 in
set_option maxRecDepth 100000 in
theorem c_X7_as (l : Launch) (G : Gt) (b : Nat → Nat) (m_images : Int32) (m_at_ : Int32) (m_open_ : Int32) (m_steps : Int32) (m_use_ : Int32) (m_traced : Int32) (m_speaks : Int32) (m_isParted : Int32) (m_s : Nat → Int32) (m_errors : Nat → Int32) (p1 : Int32) (p2 : Int32) (K : Int32 → (Nat → Int32) → Prop) (hv : v_X7_as p1 p2 m_s m_errors K) : CI l G yX7_as (.code yX7_as cX7_as 4 (some .int) :: wsG) (rmm 2 43) [.ref (b 0), .int p1, .int p2] (wd_X7_4 G b m_images m_at_ m_open_ m_steps m_use_ m_traced m_speaks m_isParted m_s m_errors) (S := (Nat → Int32)) (fun u => wd_X7_4 G b m_images m_at_ m_open_ m_steps m_use_ m_traced m_speaks m_isParted m_s u) (fun r u => K r u) := by
  refine ci_intro (by decide) rfl (fun _ => rfl) (Nat.le_of_ble_eq_true rfl) ?_
  intro p e s m args below meth c A H ls Q C hW hS hl ret
  have hx := C.1.1
  have hb := C.1.2.1
  generalize hls : ([] : List Loc) = locs at hS ⊢
  have hl : lv_has ls 4 [(0, .ref (b 0)), (1, .int p1), (2, .int p2)] := hl
  have h_j_X7_as_18 : ∀ (m_errors : Nat → Int32) (H : Heap) (locs : List Loc) (ls : Array Slot), wo G A (wd_X7_4 G b m_images m_at_ m_open_ m_steps m_use_ m_traced m_speaks m_isParted m_s m_errors) H → va_S A s.heap H locs → lv_has ls 4 [(0, .ref (b 0))] → j_X7_as_18 p1 p2 m_s K m_errors → W p l e (rmm 2 43) s m args below meth c H locs 0 0 Q (F0 m 18 ls []) := by
    intro m_errors H locs ls hW hS hl hv
    refine lv_aload_n hx hb dX7_as_18 rfl (lv_at hl 0 rfl) ?_
    refine lv_iconst (v := 1) hx hb dX7_as_19 kic_1 ?_
    refine q_callV (rest := []) (n := 1) C (c_X7_error l G b m_images m_at_ m_open_ m_steps m_use_ m_traced m_speaks m_isParted m_errors (1 : Int32) _ hv) ml_X7_61 kb_X7_error rfl ⟨⟨rfl, rfl⟩, (Nat.le_of_ble_eq_true rfl), (Nat.le_of_ble_eq_true rfl)⟩ hW hS [0, 2] rfl rfl kc7 (q0 := 0) rfl hl.1 rfl (Nat.le_of_ble_eq_true rfl) dX7_as_20 ⟨Nat.zero_le _, Nat.zero_le _⟩ (fun r_4 u_5 H locs hv hW hS => ?_)
    obtain ⟨m_errors_4, rfl⟩ : ∃ z, z = u_5 := ⟨_, rfl⟩
    try dsimp only at hv
    have hW : wo G A (wd_X7_4 G b m_images m_at_ m_open_ m_steps m_use_ m_traced m_speaks m_isParted m_s m_errors_4) H := hW
    exact ret (m_errors_4) r_4 H locs ls _ rfl hW hS hv dX7_as_23
  have h_j_X7_as_48 : ∀ (x3 : Int32) (m_errors : Nat → Int32) (H : Heap) (locs : List Loc) (ls : Array Slot), wo G A (wd_X7_4 G b m_images m_at_ m_open_ m_steps m_use_ m_traced m_speaks m_isParted m_s m_errors) H → va_S A s.heap H locs → lv_has ls 4 [(0, .ref (b 0)), (1, .int p1), (2, .int p2), (3, .int x3)] → j_X7_as_48 p1 p2 m_s K x3 m_errors → W p l e (rmm 2 43) s m args below meth c H locs 0 0 Q (F0 m 48 ls []) := by
    intro x3 m_errors H locs ls hW hS hl hv
    refine lv_iload_n hx hb dX7_as_48 rfl (lv_at hl 3 rfl) ?_
    refine lv_iload_n hx hb dX7_as_49 rfl (lv_at hl 2 rfl) ?_
    refine lv_icmp_ne (tgt := 62) hx hb dX7_as_50 (by decide) (fun c_12 => ?_) (fun c_12 => ?_)
    · replace hv := hv.1 c_12
      refine lv_aload_n hx hb dX7_as_62 rfl (lv_at hl 0 rfl) ?_
      refine lv_iconst (v := 5) hx hb dX7_as_63 kic_5 ?_
      refine q_callV (rest := []) (n := 1) C (c_X7_error l G b m_images m_at_ m_open_ m_steps m_use_ m_traced m_speaks m_isParted m_errors (5 : Int32) _ hv) ml_X7_61 kb_X7_error rfl ⟨⟨rfl, rfl⟩, (Nat.le_of_ble_eq_true rfl), (Nat.le_of_ble_eq_true rfl)⟩ hW hS [0, 2] rfl rfl kc7 (q0 := 0) rfl hl.1 rfl (Nat.le_of_ble_eq_true rfl) dX7_as_64 ⟨Nat.zero_le _, Nat.zero_le _⟩ (fun r_13 u_14 H locs hv hW hS => ?_)
      obtain ⟨m_errors_13, rfl⟩ : ∃ z, z = u_14 := ⟨_, rfl⟩
      try dsimp only at hv
      have hW : wo G A (wd_X7_4 G b m_images m_at_ m_open_ m_steps m_use_ m_traced m_speaks m_isParted m_s m_errors_13) H := hW
      exact ret (m_errors_13) r_13 H locs ls _ rfl hW hS hv dX7_as_67
    · replace hv := hv.2 c_12
      refine lv_aload_n hx hb dX7_as_53 rfl (lv_at hl 0 rfl) ?_
      refine lv_iload_n hx hb dX7_as_54 rfl (lv_at hl 1 rfl) ?_
      refine lv_iconst (v := 1) hx hb dX7_as_55 kic_1 ?_
      refine q_callV (rest := []) (n := 2) C (c_X7_its l G b m_images m_at_ m_open_ m_steps m_use_ m_traced m_speaks m_isParted m_s p1 (1 : Int32) _ hv) ml_X7_120 kb_X7_its rfl ⟨⟨rfl, rfl⟩, (Nat.le_of_ble_eq_true rfl), (Nat.le_of_ble_eq_true rfl)⟩ hW hS [0, 1] rfl rfl kc7 (q0 := 0) rfl hl.1 rfl (Nat.le_of_ble_eq_true rfl) dX7_as_56 ⟨Nat.zero_le _, Nat.zero_le _⟩ (fun r_15 u_16 H locs hv hW hS => ?_)
      try dsimp only at hv
      refine lv_goto (tgt := 67) hx hb dX7_as_59 (by decide) ?_
      exact ret (m_errors) r_15 H locs ls _ rfl hW hS hv dX7_as_67
  have h_l_X7_as_31 : ∀ (n : Nat), ∀ (x3 : Int32) (m_errors : Nat → Int32) (H : Heap) (locs : List Loc) (ls : Array Slot), wo G A (wd_X7_4 G b m_images m_at_ m_open_ m_steps m_use_ m_traced m_speaks m_isParted m_s m_errors) H → va_S A s.heap H locs → lv_has ls 4 [(0, .ref (b 0)), (1, .int p1), (2, .int p2), (3, .int x3)] → l_X7_as_31 p1 p2 m_s K n x3 m_errors → W p l e (rmm 2 43) s m args below meth c H locs 0 0 Q (F0 m 31 ls []) := by
    intro n
    induction n with
    | zero =>
      intro x3 m_errors H locs ls hW hS hl hv
      exact False.elim hv
    | succ n ih =>
      intro x3 m_errors H locs ls hW hS hl hv
      refine lv_iload_n hx hb dX7_as_31 rfl (lv_at hl 3 rfl) ?_
      refine lv_iload_n hx hb dX7_as_32 rfl (lv_at hl 2 rfl) ?_
      refine lv_icmp_eq (tgt := 48) hx hb dX7_as_33 (by decide) (fun c_11 => ?_) (fun c_11 => ?_)
      · replace hv := hv.1 c_11
        exact h_j_X7_as_48 x3 m_errors H locs ls hW hS (lv_sub hl [0, 1, 2, 3] rfl) hv
      · replace hv := hv.2 c_11
        refine lv_iload_n hx hb dX7_as_36 rfl (lv_at hl 3 rfl) ?_
        refine lv_if_eq (tgt := 48) hx hb dX7_as_37 (by decide) (fun c_17 => ?_) (fun c_17 => ?_)
        · replace hv := hv.1 c_17
          exact h_j_X7_as_48 x3 m_errors H locs ls hW hS (lv_sub hl [0, 1, 2, 3] rfl) hv
        · replace hv := hv.2 c_17
          refine lv_iload_n hx hb dX7_as_40 rfl (lv_at hl 3 rfl) ?_
          refine q_callS (rest := []) (n := 1) C (c_X7_above l G x3 _ hv) ml_X7_165 kb_X7_above rfl ⟨⟨rfl, rfl⟩, (Nat.le_of_ble_eq_true rfl), (Nat.le_of_ble_eq_true rfl)⟩ hW hS hl.1 rfl (Nat.le_of_ble_eq_true rfl) dX7_as_41 ⟨Nat.zero_le _, Nat.zero_le _⟩ (fun r_18 u_19 H locs hv hW hS => ?_)
          try dsimp only at hv
          refine lv_istore_n (lv' := [(3, .int r_18), (0, .ref (b 0)), (1, .int p1), (2, .int p2)]) hx hb dX7_as_44 rfl hl (by decide) rfl (fun ls hl => ?_)
          refine lv_goto (tgt := 31) hx hb dX7_as_45 (by decide) ?_
          exact ih r_18 m_errors H locs ls hW hS (lv_sub hl [1, 2, 3, 0] rfl) hv
  refine lv_aload_n hx hb dX7_as_0 rfl (lv_at hl 0 rfl) ?_
  refine lv_iload_n hx hb dX7_as_1 rfl (lv_at hl 1 rfl) ?_
  refine q_callV (rest := []) (n := 1) C (c_X7_isPerson l G b m_images m_at_ m_open_ m_steps m_use_ m_traced m_speaks m_isParted m_s p1 _ hv) ml_X7_57 kb_X7_isPerson rfl ⟨⟨rfl, rfl⟩, (Nat.le_of_ble_eq_true rfl), (Nat.le_of_ble_eq_true rfl)⟩ hW hS [0, 1] rfl rfl kc7 (q0 := 0) rfl hl.1 rfl (Nat.le_of_ble_eq_true rfl) dX7_as_2 ⟨Nat.zero_le _, Nat.zero_le _⟩ (fun r_1 u_2 H locs hv hW hS => ?_)
  obtain ⟨hv_b_1, hv⟩ := hv
  try dsimp only at hv
  refine lv_if_eq (tgt := 18) hx hb dX7_as_5 (by decide) (fun c_3 => ?_) (fun c_3 => ?_)
  · replace hv := hv.1 c_3
    exact h_j_X7_as_18 m_errors H locs ls hW hS (lv_sub hl [0] rfl) hv
  · replace hv := hv.2 c_3
    refine lv_iload_n hx hb dX7_as_8 rfl (lv_at hl 2 rfl) ?_
    refine lv_iconst (v := 0) hx hb dX7_as_9 kic_0 ?_
    refine lv_bipush (v := 6) hx hb dX7_as_10 kbp_6 ?_
    refine q_callS (rest := []) (n := 3) C (c_X7_in l G p2 (0 : Int32) (6 : Int32) _ hv) ml_X7_53 kb_X7_in rfl ⟨⟨rfl, rfl⟩, (Nat.le_of_ble_eq_true rfl), (Nat.le_of_ble_eq_true rfl)⟩ hW hS hl.1 rfl (Nat.le_of_ble_eq_true rfl) dX7_as_12 ⟨Nat.zero_le _, Nat.zero_le _⟩ (fun r_6 u_7 H locs hv hW hS => ?_)
    obtain ⟨hv_b_6, hv⟩ := hv
    try dsimp only at hv
    refine lv_if_ne (tgt := 24) hx hb dX7_as_15 (by decide) (fun c_8 => ?_) (fun c_8 => ?_)
    · replace hv := hv.1 c_8
      refine lv_aload_n hx hb dX7_as_24 rfl (lv_at hl 0 rfl) ?_
      refine lv_iload_n hx hb dX7_as_25 rfl (lv_at hl 1 rfl) ?_
      refine lv_iconst (v := 0) hx hb dX7_as_26 kic_0 ?_
      refine q_callV (rest := []) (n := 2) C (c_X7_its l G b m_images m_at_ m_open_ m_steps m_use_ m_traced m_speaks m_isParted m_s p1 (0 : Int32) _ hv) ml_X7_120 kb_X7_its rfl ⟨⟨rfl, rfl⟩, (Nat.le_of_ble_eq_true rfl), (Nat.le_of_ble_eq_true rfl)⟩ hW hS [0, 1] rfl rfl kc7 (q0 := 0) rfl hl.1 rfl (Nat.le_of_ble_eq_true rfl) dX7_as_27 ⟨Nat.zero_le _, Nat.zero_le _⟩ (fun r_9 u_10 H locs hv hW hS => ?_)
      try dsimp only at hv
      refine lv_istore_n (lv' := [(3, .int r_9), (0, .ref (b 0)), (1, .int p1), (2, .int p2)]) hx hb dX7_as_30 rfl hl (by decide) rfl (fun ls hl => ?_)
      obtain ⟨n_20, hv⟩ := hv
      exact h_l_X7_as_31 n_20 r_9 m_errors H locs ls hW hS (lv_sub hl [1, 2, 3, 0] rfl) hv
    · replace hv := hv.2 c_8
      exact h_j_X7_as_18 m_errors H locs ls hW hS (lv_sub hl [0] rfl) hv
set_option maxHeartbeats 4000000 in
set_option maxRecDepth 100000 in
theorem c_X7_shows (l : Launch) (G : Gt) (b : Nat → Nat) (m_images : Int32) (m_at_ : Int32) (m_open_ : Int32) (m_steps : Int32) (m_use_ : Int32) (m_traced : Int32) (m_speaks : Int32) (m_isParted : Int32) (m_s : Nat → Int32) (m_errors : Nat → Int32) (p1 : Int32) (p2 : Int32) (K : Int32 → (Nat → Int32) → (Nat → Int32) → Prop) (hv : v_X7_shows p1 p2 m_s m_errors K) : CI l G yX7_shows (.code yX7_shows cX7_shows 3 (some .int) :: wsG) (rmm 2 43) [.ref (b 0), .int p1, .int p2] (wd_X7_4 G b m_images m_at_ m_open_ m_steps m_use_ m_traced m_speaks m_isParted m_s m_errors) (S := (Nat → Int32) × (Nat → Int32)) (fun u => wd_X7_4 G b m_images m_at_ m_open_ m_steps m_use_ m_traced m_speaks m_isParted u.1 u.2) (fun r u => K r u.1 u.2) := by
  refine ci_intro (by decide) rfl (fun _ => rfl) (Nat.le_of_ble_eq_true rfl) ?_
  intro p e s m args below meth c A H ls Q C hW hS hl ret
  have hx := C.1.1
  have hb := C.1.2.1
  generalize hls : ([] : List Loc) = locs at hS ⊢
  have hl : lv_has ls 3 [(0, .ref (b 0)), (1, .int p1), (2, .int p2)] := hl
  have h_j_X7_shows_34 : ∀ (m_s : Nat → Int32) (m_errors : Nat → Int32) (H : Heap) (locs : List Loc) (ls : Array Slot), wo G A (wd_X7_4 G b m_images m_at_ m_open_ m_steps m_use_ m_traced m_speaks m_isParted m_s m_errors) H → va_S A s.heap H locs → lv_has ls 3 [(0, .ref (b 0))] → j_X7_shows_34 p1 p2 K m_s m_errors → W p l e (rmm 2 43) s m args below meth c H locs 0 0 Q (F0 m 34 ls []) := by
    intro m_s m_errors H locs ls hW hS hl hv
    refine lv_aload_n hx hb dX7_shows_34 rfl (lv_at hl 0 rfl) ?_
    refine lv_iconst (v := 1) hx hb dX7_shows_35 kic_1 ?_
    refine q_callV (rest := []) (n := 1) C (c_X7_error l G b m_images m_at_ m_open_ m_steps m_use_ m_traced m_speaks m_isParted m_errors (1 : Int32) _ hv) ml_X7_61 kb_X7_error rfl ⟨⟨rfl, rfl⟩, (Nat.le_of_ble_eq_true rfl), (Nat.le_of_ble_eq_true rfl)⟩ hW hS [0, 2] rfl rfl kc7 (q0 := 0) rfl hl.1 rfl (Nat.le_of_ble_eq_true rfl) dX7_shows_36 ⟨Nat.zero_le _, Nat.zero_le _⟩ (fun r_4 u_5 H locs hv hW hS => ?_)
    obtain ⟨m_errors_4, rfl⟩ : ∃ z, z = u_5 := ⟨_, rfl⟩
    try dsimp only at hv
    have hW : wo G A (wd_X7_4 G b m_images m_at_ m_open_ m_steps m_use_ m_traced m_speaks m_isParted m_s m_errors_4) H := hW
    exact ret (m_s, m_errors_4) r_4 H locs ls _ rfl hW hS hv dX7_shows_39
  refine lv_aload_n hx hb dX7_shows_0 rfl (lv_at hl 0 rfl) ?_
  refine lv_iload_n hx hb dX7_shows_1 rfl (lv_at hl 1 rfl) ?_
  refine q_callV (rest := []) (n := 1) C (c_X7_isPerson l G b m_images m_at_ m_open_ m_steps m_use_ m_traced m_speaks m_isParted m_s p1 _ hv) ml_X7_57 kb_X7_isPerson rfl ⟨⟨rfl, rfl⟩, (Nat.le_of_ble_eq_true rfl), (Nat.le_of_ble_eq_true rfl)⟩ hW hS [0, 1] rfl rfl kc7 (q0 := 0) rfl hl.1 rfl (Nat.le_of_ble_eq_true rfl) dX7_shows_2 ⟨Nat.zero_le _, Nat.zero_le _⟩ (fun r_1 u_2 H locs hv hW hS => ?_)
  obtain ⟨hv_b_1, hv⟩ := hv
  try dsimp only at hv
  refine lv_if_eq (tgt := 34) hx hb dX7_shows_5 (by decide) (fun c_3 => ?_) (fun c_3 => ?_)
  · replace hv := hv.1 c_3
    exact h_j_X7_shows_34 m_s m_errors H locs ls hW hS (lv_sub hl [0] rfl) hv
  · replace hv := hv.2 c_3
    refine lv_iload_n hx hb dX7_shows_8 rfl (lv_at hl 2 rfl) ?_
    refine lv_iconst (v := 0) hx hb dX7_shows_9 kic_0 ?_
    refine lv_bipush (v := 9) hx hb dX7_shows_10 kbp_9 ?_
    refine q_callS (rest := []) (n := 3) C (c_X7_in l G p2 (0 : Int32) (9 : Int32) _ hv) ml_X7_53 kb_X7_in rfl ⟨⟨rfl, rfl⟩, (Nat.le_of_ble_eq_true rfl), (Nat.le_of_ble_eq_true rfl)⟩ hW hS hl.1 rfl (Nat.le_of_ble_eq_true rfl) dX7_shows_12 ⟨Nat.zero_le _, Nat.zero_le _⟩ (fun r_6 u_7 H locs hv hW hS => ?_)
    obtain ⟨hv_b_6, hv⟩ := hv
    try dsimp only at hv
    refine lv_if_eq (tgt := 34) hx hb dX7_shows_15 (by decide) (fun c_8 => ?_) (fun c_8 => ?_)
    · replace hv := hv.1 c_8
      exact h_j_X7_shows_34 m_s m_errors H locs ls hW hS (lv_sub hl [0] rfl) hv
    · replace hv := hv.2 c_8
      refine lv_aload_n hx hb dX7_shows_18 rfl (lv_at hl 0 rfl) ?_
      refine lv_bipush (v := 8) hx hb dX7_shows_19 kbp_8 ?_
      refine lv_iconst (v := 5) hx hb dX7_shows_21 kic_5 ?_
      refine lv_iload_n hx hb dX7_shows_22 rfl (lv_at hl 1 rfl) ?_
      refine lv_imul hx hb dX7_shows_23 ?_
      refine lv_iadd hx hb dX7_shows_24 ?_
      refine lv_iconst (v := 3) hx hb dX7_shows_25 kic_3 ?_
      refine lv_iadd hx hb dX7_shows_26 ?_
      refine lv_iload_n hx hb dX7_shows_27 rfl (lv_at hl 2 rfl) ?_
      refine q_callV (rest := []) (n := 2) C (c_X7_change1 l G b m_images m_at_ m_open_ m_steps m_use_ m_traced m_speaks m_isParted m_s (((8 : Int32) + ((5 : Int32) * p1)) + (3 : Int32)) p2 _ hv) ml_X7_162 kb_X7_change1 rfl ⟨⟨rfl, rfl⟩, (Nat.le_of_ble_eq_true rfl), (Nat.le_of_ble_eq_true rfl)⟩ hW hS [0, 1] rfl rfl kc7 (q0 := 0) rfl hl.1 rfl (Nat.le_of_ble_eq_true rfl) dX7_shows_28 ⟨Nat.zero_le _, Nat.zero_le _⟩ (fun r_9 u_10 H locs hv hW hS => ?_)
      obtain ⟨m_s_9, rfl⟩ : ∃ z, z = u_10 := ⟨_, rfl⟩
      try dsimp only at hv
      have hW : wo G A (wd_X7_4 G b m_images m_at_ m_open_ m_steps m_use_ m_traced m_speaks m_isParted m_s_9 m_errors) H := hW
      refine lv_goto (tgt := 39) hx hb dX7_shows_31 (by decide) ?_
      exact ret (m_s_9, m_errors) r_9 H locs ls _ rfl hW hS hv dX7_shows_39
set_option maxHeartbeats 4000000 in
set_option maxRecDepth 100000 in
theorem c_X7_seems (l : Launch) (G : Gt) (b : Nat → Nat) (m_images : Int32) (m_at_ : Int32) (m_open_ : Int32) (m_steps : Int32) (m_use_ : Int32) (m_traced : Int32) (m_speaks : Int32) (m_isParted : Int32) (m_s : Nat → Int32) (m_errors : Nat → Int32) (p1 : Int32) (p2 : Int32) (K : Int32 → (Nat → Int32) → (Nat → Int32) → Prop) (hv : v_X7_seems p1 p2 m_s m_errors K) : CI l G yX7_seems (.code yX7_seems cX7_seems 3 (some .int) :: wsG) (rmm 2 43) [.ref (b 0), .int p1, .int p2] (wd_X7_4 G b m_images m_at_ m_open_ m_steps m_use_ m_traced m_speaks m_isParted m_s m_errors) (S := (Nat → Int32) × (Nat → Int32)) (fun u => wd_X7_4 G b m_images m_at_ m_open_ m_steps m_use_ m_traced m_speaks m_isParted u.1 u.2) (fun r u => K r u.1 u.2) := by
  refine ci_intro (by decide) rfl (fun _ => rfl) (Nat.le_of_ble_eq_true rfl) ?_
  intro p e s m args below meth c A H ls Q C hW hS hl ret
  have hx := C.1.1
  have hb := C.1.2.1
  generalize hls : ([] : List Loc) = locs at hS ⊢
  have hl : lv_has ls 3 [(0, .ref (b 0)), (1, .int p1), (2, .int p2)] := hl
  have h_j_X7_seems_34 : ∀ (m_s : Nat → Int32) (m_errors : Nat → Int32) (H : Heap) (locs : List Loc) (ls : Array Slot), wo G A (wd_X7_4 G b m_images m_at_ m_open_ m_steps m_use_ m_traced m_speaks m_isParted m_s m_errors) H → va_S A s.heap H locs → lv_has ls 3 [(0, .ref (b 0))] → j_X7_seems_34 p1 p2 K m_s m_errors → W p l e (rmm 2 43) s m args below meth c H locs 0 0 Q (F0 m 34 ls []) := by
    intro m_s m_errors H locs ls hW hS hl hv
    refine lv_aload_n hx hb dX7_seems_34 rfl (lv_at hl 0 rfl) ?_
    refine lv_iconst (v := 1) hx hb dX7_seems_35 kic_1 ?_
    refine q_callV (rest := []) (n := 1) C (c_X7_error l G b m_images m_at_ m_open_ m_steps m_use_ m_traced m_speaks m_isParted m_errors (1 : Int32) _ hv) ml_X7_61 kb_X7_error rfl ⟨⟨rfl, rfl⟩, (Nat.le_of_ble_eq_true rfl), (Nat.le_of_ble_eq_true rfl)⟩ hW hS [0, 2] rfl rfl kc7 (q0 := 0) rfl hl.1 rfl (Nat.le_of_ble_eq_true rfl) dX7_seems_36 ⟨Nat.zero_le _, Nat.zero_le _⟩ (fun r_4 u_5 H locs hv hW hS => ?_)
    obtain ⟨m_errors_4, rfl⟩ : ∃ z, z = u_5 := ⟨_, rfl⟩
    try dsimp only at hv
    have hW : wo G A (wd_X7_4 G b m_images m_at_ m_open_ m_steps m_use_ m_traced m_speaks m_isParted m_s m_errors_4) H := hW
    exact ret (m_s, m_errors_4) r_4 H locs ls _ rfl hW hS hv dX7_seems_39
  refine lv_aload_n hx hb dX7_seems_0 rfl (lv_at hl 0 rfl) ?_
  refine lv_iload_n hx hb dX7_seems_1 rfl (lv_at hl 1 rfl) ?_
  refine q_callV (rest := []) (n := 1) C (c_X7_isPerson l G b m_images m_at_ m_open_ m_steps m_use_ m_traced m_speaks m_isParted m_s p1 _ hv) ml_X7_57 kb_X7_isPerson rfl ⟨⟨rfl, rfl⟩, (Nat.le_of_ble_eq_true rfl), (Nat.le_of_ble_eq_true rfl)⟩ hW hS [0, 1] rfl rfl kc7 (q0 := 0) rfl hl.1 rfl (Nat.le_of_ble_eq_true rfl) dX7_seems_2 ⟨Nat.zero_le _, Nat.zero_le _⟩ (fun r_1 u_2 H locs hv hW hS => ?_)
  obtain ⟨hv_b_1, hv⟩ := hv
  try dsimp only at hv
  refine lv_if_eq (tgt := 34) hx hb dX7_seems_5 (by decide) (fun c_3 => ?_) (fun c_3 => ?_)
  · replace hv := hv.1 c_3
    exact h_j_X7_seems_34 m_s m_errors H locs ls hW hS (lv_sub hl [0] rfl) hv
  · replace hv := hv.2 c_3
    refine lv_iload_n hx hb dX7_seems_8 rfl (lv_at hl 2 rfl) ?_
    refine lv_iconst (v := 0) hx hb dX7_seems_9 kic_0 ?_
    refine lv_bipush (v := 99) hx hb dX7_seems_10 kbp_99 ?_
    refine q_callS (rest := []) (n := 3) C (c_X7_in l G p2 (0 : Int32) (99 : Int32) _ hv) ml_X7_53 kb_X7_in rfl ⟨⟨rfl, rfl⟩, (Nat.le_of_ble_eq_true rfl), (Nat.le_of_ble_eq_true rfl)⟩ hW hS hl.1 rfl (Nat.le_of_ble_eq_true rfl) dX7_seems_12 ⟨Nat.zero_le _, Nat.zero_le _⟩ (fun r_6 u_7 H locs hv hW hS => ?_)
    obtain ⟨hv_b_6, hv⟩ := hv
    try dsimp only at hv
    refine lv_if_eq (tgt := 34) hx hb dX7_seems_15 (by decide) (fun c_8 => ?_) (fun c_8 => ?_)
    · replace hv := hv.1 c_8
      exact h_j_X7_seems_34 m_s m_errors H locs ls hW hS (lv_sub hl [0] rfl) hv
    · replace hv := hv.2 c_8
      refine lv_aload_n hx hb dX7_seems_18 rfl (lv_at hl 0 rfl) ?_
      refine lv_bipush (v := 8) hx hb dX7_seems_19 kbp_8 ?_
      refine lv_iconst (v := 5) hx hb dX7_seems_21 kic_5 ?_
      refine lv_iload_n hx hb dX7_seems_22 rfl (lv_at hl 1 rfl) ?_
      refine lv_imul hx hb dX7_seems_23 ?_
      refine lv_iadd hx hb dX7_seems_24 ?_
      refine lv_iconst (v := 2) hx hb dX7_seems_25 kic_2 ?_
      refine lv_iadd hx hb dX7_seems_26 ?_
      refine lv_iload_n hx hb dX7_seems_27 rfl (lv_at hl 2 rfl) ?_
      refine q_callV (rest := []) (n := 2) C (c_X7_change1 l G b m_images m_at_ m_open_ m_steps m_use_ m_traced m_speaks m_isParted m_s (((8 : Int32) + ((5 : Int32) * p1)) + (2 : Int32)) p2 _ hv) ml_X7_162 kb_X7_change1 rfl ⟨⟨rfl, rfl⟩, (Nat.le_of_ble_eq_true rfl), (Nat.le_of_ble_eq_true rfl)⟩ hW hS [0, 1] rfl rfl kc7 (q0 := 0) rfl hl.1 rfl (Nat.le_of_ble_eq_true rfl) dX7_seems_28 ⟨Nat.zero_le _, Nat.zero_le _⟩ (fun r_9 u_10 H locs hv hW hS => ?_)
      obtain ⟨m_s_9, rfl⟩ : ∃ z, z = u_10 := ⟨_, rfl⟩
      try dsimp only at hv
      have hW : wo G A (wd_X7_4 G b m_images m_at_ m_open_ m_steps m_use_ m_traced m_speaks m_isParted m_s_9 m_errors) H := hW
      refine lv_goto (tgt := 39) hx hb dX7_seems_31 (by decide) ?_
      exact ret (m_s_9, m_errors) r_9 H locs ls _ rfl hW hS hv dX7_seems_39
set_option maxHeartbeats 4000000 in
set_option maxRecDepth 100000 in
theorem c_X7_taken (l : Launch) (G : Gt) (b : Nat → Nat) (m_images : Int32) (m_at_ : Int32) (m_open_ : Int32) (m_steps : Int32) (m_use_ : Int32) (m_traced : Int32) (m_speaks : Int32) (m_isParted : Int32) (m_s : Nat → Int32) (m_errors : Nat → Int32) (m_named : Nat → Int32) (m_pile : Nat → Int32) (p1 : Int32) (p2 : Int32) (K : Int32 → (Nat → Int32) → (Nat → Int32) → (Nat → Int32) → Prop) (hv : v_X7_taken p1 p2 m_s m_errors m_named m_pile K) : CI l G yX7_taken (.code yX7_taken cX7_taken 3 (some .int) :: wsG) (rmm 4 93) [.ref (b 0), .int p1, .int p2] (wd_X7_11 G b m_images m_at_ m_open_ m_steps m_use_ m_traced m_speaks m_isParted m_s m_errors m_named m_pile) (S := (Nat → Int32) × (Nat → Int32) × (Nat → Int32)) (fun u => wd_X7_11 G b m_images m_at_ m_open_ m_steps m_use_ m_traced m_speaks m_isParted m_s u.1 u.2.1 u.2.2) (fun r u => K r u.1 u.2.1 u.2.2) := by
  refine ci_intro (by decide) rfl (fun _ => rfl) (Nat.le_of_ble_eq_true rfl) ?_
  intro p e s m args below meth c A H ls Q C hW hS hl ret
  have hx := C.1.1
  have hb := C.1.2.1
  generalize hls : ([] : List Loc) = locs at hS ⊢
  have hl : lv_has ls 3 [(0, .ref (b 0)), (1, .int p1), (2, .int p2)] := hl
  refine lv_aload_n hx hb dX7_taken_0 rfl (lv_at hl 0 rfl) ?_
  refine lv_iload_n hx hb dX7_taken_1 rfl (lv_at hl 1 rfl) ?_
  refine lv_iload_n hx hb dX7_taken_2 rfl (lv_at hl 2 rfl) ?_
  refine q_callV (rest := []) (n := 2) C (c_X7_areTwo l G b m_images m_at_ m_open_ m_steps m_use_ m_traced m_speaks m_isParted m_s p1 p2 _ hv) ml_X7_168 kb_X7_areTwo rfl ⟨⟨rfl, rfl⟩, (Nat.le_of_ble_eq_true rfl), (Nat.le_of_ble_eq_true rfl)⟩ hW hS [0, 1] rfl rfl kc7 (q0 := 0) rfl hl.1 rfl (Nat.le_of_ble_eq_true rfl) dX7_taken_3 ⟨Nat.zero_le _, Nat.zero_le _⟩ (fun r_1 u_2 H locs hv hW hS => ?_)
  obtain ⟨hv_b_1, hv⟩ := hv
  try dsimp only at hv
  refine lv_if_eq (tgt := 18) hx hb dX7_taken_6 (by decide) (fun c_3 => ?_) (fun c_3 => ?_)
  · replace hv := hv.1 c_3
    refine lv_aload_n hx hb dX7_taken_18 rfl (lv_at hl 0 rfl) ?_
    refine lv_iconst (v := 1) hx hb dX7_taken_19 kic_1 ?_
    refine q_callV (rest := []) (n := 1) C (c_X7_error l G b m_images m_at_ m_open_ m_steps m_use_ m_traced m_speaks m_isParted m_errors (1 : Int32) _ hv) ml_X7_61 kb_X7_error rfl ⟨⟨rfl, rfl⟩, (Nat.le_of_ble_eq_true rfl), (Nat.le_of_ble_eq_true rfl)⟩ hW hS [0, 2] rfl rfl kc7 (q0 := 0) rfl hl.1 rfl (Nat.le_of_ble_eq_true rfl) dX7_taken_20 ⟨Nat.zero_le _, Nat.zero_le _⟩ (fun r_4 u_5 H locs hv hW hS => ?_)
    obtain ⟨m_errors_4, rfl⟩ : ∃ z, z = u_5 := ⟨_, rfl⟩
    try dsimp only at hv
    have hW : wo G A (wd_X7_11 G b m_images m_at_ m_open_ m_steps m_use_ m_traced m_speaks m_isParted m_s m_errors_4 m_named m_pile) H := hW
    exact ret (m_errors_4, m_named, m_pile) r_4 H locs ls _ rfl hW hS hv dX7_taken_23
  · replace hv := hv.2 c_3
    refine lv_aload_n hx hb dX7_taken_9 rfl (lv_at hl 0 rfl) ?_
    refine lv_iload_n hx hb dX7_taken_10 rfl (lv_at hl 1 rfl) ?_
    refine lv_iload_n hx hb dX7_taken_11 rfl (lv_at hl 2 rfl) ?_
    refine q_callV (rest := []) (n := 2) C (c_X7_takes l G b m_images m_at_ m_open_ m_steps m_use_ m_traced m_speaks m_isParted m_s m_named m_pile p1 p2 _ hv) ml_X7_142 kb_X7_takes rfl ⟨⟨rfl, rfl⟩, (Nat.le_of_ble_eq_true rfl), (Nat.le_of_ble_eq_true rfl)⟩ hW hS [0, 1, 3, 4] rfl rfl kc7 (q0 := 0) rfl hl.1 rfl (Nat.le_of_ble_eq_true rfl) dX7_taken_12 ⟨Nat.zero_le _, Nat.zero_le _⟩ (fun r_6 u_7 H locs hv hW hS => ?_)
    obtain ⟨m_named_6, m_pile_6⟩ := u_7
    try dsimp only at hv
    have hW : wo G A (wd_X7_11 G b m_images m_at_ m_open_ m_steps m_use_ m_traced m_speaks m_isParted m_s m_errors m_named_6 m_pile_6) H := hW
    refine lv_goto (tgt := 23) hx hb dX7_taken_15 (by decide) ?_
    exact ret (m_errors, m_named_6, m_pile_6) r_6 H locs ls _ rfl hW hS hv dX7_taken_23
set_option maxHeartbeats 4000000 in
set_option maxRecDepth 100000 in
theorem c_X7_call (l : Launch) (G : Gt) (b : Nat → Nat) (m_images : Int32) (m_at_ : Int32) (m_open_ : Int32) (m_steps : Int32) (m_use_ : Int32) (m_traced : Int32) (m_speaks : Int32) (m_isParted : Int32) (m_s : Nat → Int32) (m_errors : Nat → Int32) (p1 : Int32) (p2 : Int32) (K : Int32 → (Nat → Int32) → (Nat → Int32) → Prop) (hv : v_X7_call p1 p2 m_s m_errors K) : CI l G yX7_call (.code yX7_call cX7_call 3 (some .int) :: wsG) (rmm 3 65) [.ref (b 0), .int p1, .int p2] (wd_X7_4 G b m_images m_at_ m_open_ m_steps m_use_ m_traced m_speaks m_isParted m_s m_errors) (S := (Nat → Int32) × (Nat → Int32)) (fun u => wd_X7_4 G b m_images m_at_ m_open_ m_steps m_use_ m_traced m_speaks m_isParted u.1 u.2) (fun r u => K r u.1 u.2) := by
  refine ci_intro (by decide) rfl (fun _ => rfl) (Nat.le_of_ble_eq_true rfl) ?_
  intro p e s m args below meth c A H ls Q C hW hS hl ret
  have hx := C.1.1
  have hb := C.1.2.1
  generalize hls : ([] : List Loc) = locs at hS ⊢
  have hl : lv_has ls 3 [(0, .ref (b 0)), (1, .int p1), (2, .int p2)] := hl
  refine lv_aload_n hx hb dX7_call_0 rfl (lv_at hl 0 rfl) ?_
  refine lv_iload_n hx hb dX7_call_1 rfl (lv_at hl 1 rfl) ?_
  refine lv_iload_n hx hb dX7_call_2 rfl (lv_at hl 2 rfl) ?_
  refine q_callV (rest := []) (n := 2) C (c_X7_areTwo l G b m_images m_at_ m_open_ m_steps m_use_ m_traced m_speaks m_isParted m_s p1 p2 _ hv) ml_X7_168 kb_X7_areTwo rfl ⟨⟨rfl, rfl⟩, (Nat.le_of_ble_eq_true rfl), (Nat.le_of_ble_eq_true rfl)⟩ hW hS [0, 1] rfl rfl kc7 (q0 := 0) rfl hl.1 rfl (Nat.le_of_ble_eq_true rfl) dX7_call_3 ⟨Nat.zero_le _, Nat.zero_le _⟩ (fun r_1 u_2 H locs hv hW hS => ?_)
  obtain ⟨hv_b_1, hv⟩ := hv
  try dsimp only at hv
  refine lv_if_eq (tgt := 18) hx hb dX7_call_6 (by decide) (fun c_3 => ?_) (fun c_3 => ?_)
  · replace hv := hv.1 c_3
    refine lv_aload_n hx hb dX7_call_18 rfl (lv_at hl 0 rfl) ?_
    refine lv_iconst (v := 1) hx hb dX7_call_19 kic_1 ?_
    refine q_callV (rest := []) (n := 1) C (c_X7_error l G b m_images m_at_ m_open_ m_steps m_use_ m_traced m_speaks m_isParted m_errors (1 : Int32) _ hv) ml_X7_61 kb_X7_error rfl ⟨⟨rfl, rfl⟩, (Nat.le_of_ble_eq_true rfl), (Nat.le_of_ble_eq_true rfl)⟩ hW hS [0, 2] rfl rfl kc7 (q0 := 0) rfl hl.1 rfl (Nat.le_of_ble_eq_true rfl) dX7_call_20 ⟨Nat.zero_le _, Nat.zero_le _⟩ (fun r_4 u_5 H locs hv hW hS => ?_)
    obtain ⟨m_errors_4, rfl⟩ : ∃ z, z = u_5 := ⟨_, rfl⟩
    try dsimp only at hv
    have hW : wo G A (wd_X7_4 G b m_images m_at_ m_open_ m_steps m_use_ m_traced m_speaks m_isParted m_s m_errors_4) H := hW
    exact ret (m_s, m_errors_4) r_4 H locs ls _ rfl hW hS hv dX7_call_23
  · replace hv := hv.2 c_3
    refine lv_aload_n hx hb dX7_call_9 rfl (lv_at hl 0 rfl) ?_
    refine lv_iload_n hx hb dX7_call_10 rfl (lv_at hl 1 rfl) ?_
    refine lv_iload_n hx hb dX7_call_11 rfl (lv_at hl 2 rfl) ?_
    refine q_callV (rest := []) (n := 2) C (c_X7_calls l G b m_images m_at_ m_open_ m_steps m_use_ m_traced m_speaks m_isParted m_s p1 p2 _ hv) ml_X7_172 kb_X7_calls rfl ⟨⟨rfl, rfl⟩, (Nat.le_of_ble_eq_true rfl), (Nat.le_of_ble_eq_true rfl)⟩ hW hS [0, 1] rfl rfl kc7 (q0 := 0) rfl hl.1 rfl (Nat.le_of_ble_eq_true rfl) dX7_call_12 ⟨Nat.zero_le _, Nat.zero_le _⟩ (fun r_6 u_7 H locs hv hW hS => ?_)
    obtain ⟨m_s_6, rfl⟩ : ∃ z, z = u_7 := ⟨_, rfl⟩
    try dsimp only at hv
    have hW : wo G A (wd_X7_4 G b m_images m_at_ m_open_ m_steps m_use_ m_traced m_speaks m_isParted m_s_6 m_errors) H := hW
    refine lv_goto (tgt := 23) hx hb dX7_call_15 (by decide) ?_
    exact ret (m_s_6, m_errors) r_6 H locs ls _ rfl hW hS hv dX7_call_23
set_option maxHeartbeats 4000000 in
set_option maxRecDepth 100000 in
theorem c_X7_law (l : Launch) (G : Gt) (b : Nat → Nat) (m_images : Int32) (m_at_ : Int32) (m_open_ : Int32) (m_steps : Int32) (m_use_ : Int32) (m_traced : Int32) (m_speaks : Int32) (m_isParted : Int32) (m_s : Nat → Int32) (m_errors : Nat → Int32) (m_named : Nat → Int32) (m_pile : Nat → Int32) (p1 : Int32) (p2 : Int32) (p3 : Int32) (p4 : Int32) (K : Int32 → (Nat → Int32) → (Nat → Int32) → (Nat → Int32) → Prop) (hv : v_X7_law p1 p2 p3 p4 m_s m_errors m_named m_pile K) : CI l G yX7_law (.code yX7_law cX7_law 5 (some .int) :: wsG) (rmm 3 71) [.ref (b 0), .int p1, .int p2, .int p3, .int p4] (wd_X7_11 G b m_images m_at_ m_open_ m_steps m_use_ m_traced m_speaks m_isParted m_s m_errors m_named m_pile) (S := (Nat → Int32) × (Nat → Int32) × (Nat → Int32)) (fun u => wd_X7_11 G b m_images m_at_ m_open_ m_steps m_use_ m_traced m_speaks m_isParted m_s u.1 u.2.1 u.2.2) (fun r u => K r u.1 u.2.1 u.2.2) := by
  refine ci_intro (by decide) rfl (fun _ => rfl) (Nat.le_of_ble_eq_true rfl) ?_
  intro p e s m args below meth c A H ls Q C hW hS hl ret
  have hx := C.1.1
  have hb := C.1.2.1
  generalize hls : ([] : List Loc) = locs at hS ⊢
  have hl : lv_has ls 5 [(0, .ref (b 0)), (1, .int p1), (2, .int p2), (3, .int p3), (4, .int p4)] := hl
  refine lv_iload_n hx hb dX7_law_0 rfl (lv_at hl 1 rfl) ?_
  refine lv_iconst (v := 0) hx hb dX7_law_1 kic_0 ?_
  refine lv_iconst (v := 1) hx hb dX7_law_2 kic_1 ?_
  refine q_callS (rest := []) (n := 3) C (c_X7_in l G p1 (0 : Int32) (1 : Int32) _ hv) ml_X7_53 kb_X7_in rfl ⟨⟨rfl, rfl⟩, (Nat.le_of_ble_eq_true rfl), (Nat.le_of_ble_eq_true rfl)⟩ hW hS hl.1 rfl (Nat.le_of_ble_eq_true rfl) dX7_law_3 ⟨Nat.zero_le _, Nat.zero_le _⟩ (fun r_1 u_2 H locs hv hW hS => ?_)
  obtain ⟨hv_b_1, hv⟩ := hv
  try dsimp only at hv
  refine lv_if_ne (tgt := 15) hx hb dX7_law_6 (by decide) (fun c_3 => ?_) (fun c_3 => ?_)
  · replace hv := hv.1 c_3
    refine lv_iload_n hx hb dX7_law_15 rfl (lv_at hl 1 rfl) ?_
    refine lv_if_ne (tgt := 30) hx hb dX7_law_16 (by decide) (fun c_4 => ?_) (fun c_4 => ?_)
    · replace hv := hv.1 c_4
      refine lv_aload_n hx hb dX7_law_30 rfl (lv_at hl 0 rfl) ?_
      refine lv_iload_n hx hb dX7_law_31 rfl (lv_at hl 2 rfl) ?_
      refine lv_iload_n hx hb dX7_law_32 rfl (lv_at hl 3 rfl) ?_
      refine lv_iload hx hb dX7_law_33 (lv_at hl 4 rfl) ?_
      refine q_callV (rest := []) (n := 3) C (c_X7_signTold l G b m_images m_at_ m_open_ m_steps m_use_ m_traced m_speaks m_isParted m_s m_named m_pile p2 p3 p4 _ hv) ml_X7_139 kb_X7_signTold rfl ⟨⟨rfl, rfl⟩, (Nat.le_of_ble_eq_true rfl), (Nat.le_of_ble_eq_true rfl)⟩ hW hS [0, 1, 3, 4] rfl rfl kc7 (q0 := 0) rfl hl.1 rfl (Nat.le_of_ble_eq_true rfl) dX7_law_35 ⟨Nat.zero_le _, Nat.zero_le _⟩ (fun r_5 u_6 H locs hv hW hS => ?_)
      obtain ⟨m_named_5, m_pile_5⟩ := u_6
      try dsimp only at hv
      have hW : wo G A (wd_X7_11 G b m_images m_at_ m_open_ m_steps m_use_ m_traced m_speaks m_isParted m_s m_errors m_named_5 m_pile_5) H := hW
      exact ret (m_errors, m_named_5, m_pile_5) r_5 H locs ls _ rfl hW hS hv dX7_law_38
    · replace hv := hv.2 c_4
      refine lv_aload_n hx hb dX7_law_19 rfl (lv_at hl 0 rfl) ?_
      refine lv_iload_n hx hb dX7_law_20 rfl (lv_at hl 2 rfl) ?_
      refine lv_iload_n hx hb dX7_law_21 rfl (lv_at hl 3 rfl) ?_
      refine lv_iload hx hb dX7_law_22 (lv_at hl 4 rfl) ?_
      refine q_callV (rest := []) (n := 3) C (c_X7_takesTold l G b m_images m_at_ m_open_ m_steps m_use_ m_traced m_speaks m_isParted m_s m_named m_pile p2 p3 p4 _ hv) ml_X7_133 kb_X7_takesTold rfl ⟨⟨rfl, rfl⟩, (Nat.le_of_ble_eq_true rfl), (Nat.le_of_ble_eq_true rfl)⟩ hW hS [0, 1, 3, 4] rfl rfl kc7 (q0 := 0) rfl hl.1 rfl (Nat.le_of_ble_eq_true rfl) dX7_law_24 ⟨Nat.zero_le _, Nat.zero_le _⟩ (fun r_7 u_8 H locs hv hW hS => ?_)
      obtain ⟨m_named_7, m_pile_7⟩ := u_8
      try dsimp only at hv
      have hW : wo G A (wd_X7_11 G b m_images m_at_ m_open_ m_steps m_use_ m_traced m_speaks m_isParted m_s m_errors m_named_7 m_pile_7) H := hW
      refine lv_goto (tgt := 38) hx hb dX7_law_27 (by decide) ?_
      exact ret (m_errors, m_named_7, m_pile_7) r_7 H locs ls _ rfl hW hS hv dX7_law_38
  · replace hv := hv.2 c_3
    refine lv_aload_n hx hb dX7_law_9 rfl (lv_at hl 0 rfl) ?_
    refine lv_iconst (v := 1) hx hb dX7_law_10 kic_1 ?_
    refine q_callV (rest := []) (n := 1) C (c_X7_error l G b m_images m_at_ m_open_ m_steps m_use_ m_traced m_speaks m_isParted m_errors (1 : Int32) _ hv) ml_X7_61 kb_X7_error rfl ⟨⟨rfl, rfl⟩, (Nat.le_of_ble_eq_true rfl), (Nat.le_of_ble_eq_true rfl)⟩ hW hS [0, 2] rfl rfl kc7 (q0 := 0) rfl hl.1 rfl (Nat.le_of_ble_eq_true rfl) dX7_law_11 ⟨Nat.zero_le _, Nat.zero_le _⟩ (fun r_9 u_10 H locs hv hW hS => ?_)
    obtain ⟨m_errors_9, rfl⟩ : ∃ z, z = u_10 := ⟨_, rfl⟩
    try dsimp only at hv
    have hW : wo G A (wd_X7_11 G b m_images m_at_ m_open_ m_steps m_use_ m_traced m_speaks m_isParted m_s m_errors_9 m_named m_pile) H := hW
    exact ret (m_errors_9, m_named, m_pile) r_9 H locs ls _ rfl hW hS hv dX7_law_14
set_option maxHeartbeats 4000000 in
set_option maxRecDepth 100000 in
theorem c_X7_whyNot (l : Launch) (G : Gt) (b : Nat → Nat) (m_images : Int32) (m_at_ : Int32) (m_open_ : Int32) (m_steps : Int32) (m_use_ : Int32) (m_traced : Int32) (m_speaks : Int32) (m_isParted : Int32) (m_s : Nat → Int32) (p1 : Int32) (p2 : Int32) (K : Int32 → Prop) (hv : v_X7_whyNot p1 p2 m_s K) : CI l G yX7_whyNot (.code yX7_whyNot cX7_whyNot 3 (some .int) :: wsG) (rmm 1 22) [.ref (b 0), .int p1, .int p2] (wd_X7_3 G b m_images m_at_ m_open_ m_steps m_use_ m_traced m_speaks m_isParted m_s) (S := Unit) (fun u => wd_X7_3 G b m_images m_at_ m_open_ m_steps m_use_ m_traced m_speaks m_isParted m_s) (fun r u => K r) := by
  refine ci_intro (by decide) rfl (fun _ => rfl) (Nat.le_of_ble_eq_true rfl) ?_
  intro p e s m args below meth c A H ls Q C hW hS hl ret
  have hx := C.1.1
  have hb := C.1.2.1
  generalize hls : ([] : List Loc) = locs at hS ⊢
  have hl : lv_has ls 3 [(0, .ref (b 0)), (1, .int p1), (2, .int p2)] := hl
  refine lv_iload_n hx hb dX7_whyNot_0 rfl (lv_at hl 1 rfl) ?_
  refine lv_iconst (v := 1) hx hb dX7_whyNot_1 kic_1 ?_
  refine lv_iload_n hx hb dX7_whyNot_2 rfl (lv_at hl 2 rfl) ?_
  refine q_callS (rest := []) (n := 3) C (c_X7_in l G p1 (1 : Int32) p2 _ hv) ml_X7_53 kb_X7_in rfl ⟨⟨rfl, rfl⟩, (Nat.le_of_ble_eq_true rfl), (Nat.le_of_ble_eq_true rfl)⟩ hW hS hl.1 rfl (Nat.le_of_ble_eq_true rfl) dX7_whyNot_3 ⟨Nat.zero_le _, Nat.zero_le _⟩ (fun r_1 u_2 H locs hv hW hS => ?_)
  obtain ⟨hv_b_1, hv⟩ := hv
  try dsimp only at hv
  refine lv_if_ne (tgt := 13) hx hb dX7_whyNot_6 (by decide) (fun c_3 => ?_) (fun c_3 => ?_)
  · replace hv := hv.1 c_3
    refine lv_aload_n hx hb dX7_whyNot_13 rfl (lv_at hl 0 rfl) ?_
    refine q_get C kc7 hW 0 rfl 0 (by decide) fl_X7_7 rfl rfl dX7_whyNot_14 ?_
    refine lv_iconst (v := 0) hx hb dX7_whyNot_17 kic_0 ?_
    obtain ⟨h_4, hv⟩ := hv
    refine q_iald C hW 1 rfl h_4 dX7_whyNot_18 ?_
    refine lv_iload_n hx hb dX7_whyNot_19 rfl (lv_at hl 1 rfl) ?_
    refine lv_iadd hx hb dX7_whyNot_20 ?_
    refine lv_sipush (v := 9999) hx hb dX7_whyNot_21 ksp_9999 ?_
    refine lv_icmp_le (tgt := 31) hx hb dX7_whyNot_24 (by decide) (fun c_5 => ?_) (fun c_5 => ?_)
    · replace hv := hv.1 c_5
      refine lv_iconst (v := 0) hx hb dX7_whyNot_31 kic_0 ?_
      exact ret () (0 : Int32) H locs ls _ rfl hW hS hv dX7_whyNot_32
    · replace hv := hv.2 c_5
      refine lv_iconst (v := 3) hx hb dX7_whyNot_27 kic_3 ?_
      refine lv_goto (tgt := 32) hx hb dX7_whyNot_28 (by decide) ?_
      exact ret () (3 : Int32) H locs ls _ rfl hW hS hv dX7_whyNot_32
  · replace hv := hv.2 c_3
    refine lv_iconst (v := 1) hx hb dX7_whyNot_9 kic_1 ?_
    refine lv_goto (tgt := 32) hx hb dX7_whyNot_10 (by decide) ?_
    exact ret () (1 : Int32) H locs ls _ rfl hW hS hv dX7_whyNot_32
set_option maxHeartbeats 4000000 in
set_option maxRecDepth 100000 in
theorem c_X7_days (l : Launch) (G : Gt) (b : Nat → Nat) (m_images : Int32) (m_at_ : Int32) (m_open_ : Int32) (m_steps : Int32) (m_use_ : Int32) (m_traced : Int32) (m_speaks : Int32) (m_isParted : Int32) (m_s : Nat → Int32) (m_errors : Nat → Int32) (m_named : Nat → Int32) (m_pile : Nat → Int32) (m_nearThen : Nat → Int32) (m_shownThen : Nat → Int32) (p1 : Int32) (K : Int32 → (Nat → Int32) → (Nat → Int32) → (Nat → Int32) → (Nat → Int32) → (Nat → Int32) → (Nat → Int32) → Prop) (hv : v_X7_days p1 m_s m_errors m_named m_pile m_nearThen m_shownThen K) : CI l G yX7_days (.code yX7_days cX7_days 3 (some .int) :: wsG) (rmm 7 159) [.ref (b 0), .int p1] (wd_X7_12 G b m_images m_at_ m_open_ m_steps m_use_ m_traced m_speaks m_isParted m_s m_errors m_named m_pile m_nearThen m_shownThen) (S := (Nat → Int32) × (Nat → Int32) × (Nat → Int32) × (Nat → Int32) × (Nat → Int32) × (Nat → Int32)) (fun u => wd_X7_12 G b m_images m_at_ m_open_ m_steps m_use_ m_traced m_speaks m_isParted u.1 u.2.1 u.2.2.1 u.2.2.2.1 u.2.2.2.2.1 u.2.2.2.2.2) (fun r u => K r u.1 u.2.1 u.2.2.1 u.2.2.2.1 u.2.2.2.2.1 u.2.2.2.2.2) := by
  refine ci_intro (by decide) rfl (fun _ => rfl) (Nat.le_of_ble_eq_true rfl) ?_
  intro p e s m args below meth c A H ls Q C hW hS hl ret
  have hx := C.1.1
  have hb := C.1.2.1
  generalize hls : ([] : List Loc) = locs at hS ⊢
  have hl : lv_has ls 3 [(0, .ref (b 0)), (1, .int p1)] := hl
  refine lv_aload_n hx hb dX7_days_0 rfl (lv_at hl 0 rfl) ?_
  refine lv_iload_n hx hb dX7_days_1 rfl (lv_at hl 1 rfl) ?_
  refine lv_bipush (v := 100) hx hb dX7_days_2 kbp_100 ?_
  refine q_callV (rest := []) (n := 2) C (c_X7_whyNot l G b m_images m_at_ m_open_ m_steps m_use_ m_traced m_speaks m_isParted m_s p1 (100 : Int32) _ hv) ml_X7_175 kb_X7_whyNot rfl ⟨⟨rfl, rfl⟩, (Nat.le_of_ble_eq_true rfl), (Nat.le_of_ble_eq_true rfl)⟩ hW hS [0, 1] rfl rfl kc7 (q0 := 0) rfl hl.1 rfl (Nat.le_of_ble_eq_true rfl) dX7_days_4 ⟨Nat.zero_le _, Nat.zero_le _⟩ (fun r_1 u_2 H locs hv hW hS => ?_)
  try dsimp only at hv
  refine lv_istore_n (lv' := [(2, .int r_1), (0, .ref (b 0)), (1, .int p1)]) hx hb dX7_days_7 rfl hl (by decide) rfl (fun ls hl => ?_)
  refine lv_iload_n hx hb dX7_days_8 rfl (lv_at hl 0 rfl) ?_
  refine lv_if_eq (tgt := 18) hx hb dX7_days_9 (by decide) (fun c_3 => ?_) (fun c_3 => ?_)
  · replace hv := hv.1 c_3
    refine lv_aload_n hx hb dX7_days_18 rfl (lv_at hl 1 rfl) ?_
    refine lv_iload_n hx hb dX7_days_19 rfl (lv_at hl 2 rfl) ?_
    refine q_callVv (rest := []) (n := 1) C (c_X7_goes l G b m_images m_at_ m_open_ m_steps m_use_ m_traced m_speaks m_isParted m_s m_named m_pile m_nearThen m_shownThen p1 _ hv) ml_X7_178 kb_X7_goes rfl ⟨⟨rfl, rfl⟩, (Nat.le_of_ble_eq_true rfl), (Nat.le_of_ble_eq_true rfl)⟩ hW hS [0, 1, 3, 4, 5, 6] rfl rfl kc7 (q0 := 0) rfl hl.1 rfl (Nat.le_of_ble_eq_true rfl) dX7_days_20 ⟨Nat.zero_le _, Nat.zero_le _⟩ (fun u_5 H locs hv hW hS => ?_)
    obtain ⟨m_s_4, m_named_4, m_pile_4, m_nearThen_4, m_shownThen_4⟩ := u_5
    try dsimp only at hv
    have hW : wo G A (wd_X7_12 G b m_images m_at_ m_open_ m_steps m_use_ m_traced m_speaks m_isParted m_s_4 m_errors m_named_4 m_pile_4 m_nearThen_4 m_shownThen_4) H := hW
    refine lv_aload_n hx hb dX7_days_23 rfl (lv_at hl 1 rfl) ?_
    refine q_get C kc7 hW 0 rfl 0 (by decide) fl_X7_7 rfl rfl dX7_days_24 ?_
    refine lv_iconst (v := 0) hx hb dX7_days_27 kic_0 ?_
    obtain ⟨h_6, hv⟩ := hv
    refine q_iald C hW 1 rfl h_6 dX7_days_28 ?_
    exact ret (m_s_4, m_errors, m_named_4, m_pile_4, m_nearThen_4, m_shownThen_4) (m_s_4 (0 : Int32).toNatClampNeg) H locs ls _ rfl hW hS hv dX7_days_29
  · replace hv := hv.2 c_3
    refine lv_aload_n hx hb dX7_days_12 rfl (lv_at hl 1 rfl) ?_
    refine lv_iload_n hx hb dX7_days_13 rfl (lv_at hl 0 rfl) ?_
    refine q_callV (rest := []) (n := 1) C (c_X7_error l G b m_images m_at_ m_open_ m_steps m_use_ m_traced m_speaks m_isParted m_errors r_1 _ hv) ml_X7_61 kb_X7_error rfl ⟨⟨rfl, rfl⟩, (Nat.le_of_ble_eq_true rfl), (Nat.le_of_ble_eq_true rfl)⟩ hW hS [0, 2] rfl rfl kc7 (q0 := 0) rfl hl.1 rfl (Nat.le_of_ble_eq_true rfl) dX7_days_14 ⟨Nat.zero_le _, Nat.zero_le _⟩ (fun r_7 u_8 H locs hv hW hS => ?_)
    obtain ⟨m_errors_7, rfl⟩ : ∃ z, z = u_8 := ⟨_, rfl⟩
    try dsimp only at hv
    have hW : wo G A (wd_X7_12 G b m_images m_at_ m_open_ m_steps m_use_ m_traced m_speaks m_isParted m_s m_errors_7 m_named m_pile m_nearThen m_shownThen) H := hW
    exact ret (m_s, m_errors_7, m_named, m_pile, m_nearThen, m_shownThen) r_7 H locs ls _ rfl hW hS hv dX7_days_17
set_option maxHeartbeats 4000000 in
set_option maxRecDepth 100000 in
theorem c_X7_errands (l : Launch) (G : Gt) (b : Nat → Nat) (m_images : Int32) (m_at_ : Int32) (m_open_ : Int32) (m_steps : Int32) (m_use_ : Int32) (m_traced : Int32) (m_speaks : Int32) (m_isParted : Int32) (m_s : Nat → Int32) (K : (Nat → Int32) → Prop) (hv : v_X7_errands m_s K) : CV l G yX7_errands (.code yX7_errands cX7_errands 5 none :: wsG) (rmm 2 46) [.ref (b 0)] (wd_X7_3 G b m_images m_at_ m_open_ m_steps m_use_ m_traced m_speaks m_isParted m_s) (S := (Nat → Int32)) (fun u => wd_X7_3 G b m_images m_at_ m_open_ m_steps m_use_ m_traced m_speaks m_isParted u) (fun u => K u) := by
  refine cv_intro (by decide) rfl (fun _ => rfl) (Nat.le_of_ble_eq_true rfl) ?_
  intro p e s m args below meth c A H ls Q C hW hS hl ret
  have hx := C.1.1
  have hb := C.1.2.1
  generalize hls : ([] : List Loc) = locs at hS ⊢
  have hl : lv_has ls 5 [(0, .ref (b 0))] := hl
  refine lv_aload_n hx hb dX7_errands_0 rfl (lv_at hl 0 rfl) ?_
  refine q_callV (rest := []) (n := 0) C (c_X7_draw l G b m_images m_at_ m_open_ m_steps m_use_ m_traced m_speaks m_isParted m_s _ hv) ml_X7_182 kb_X7_draw rfl ⟨⟨rfl, rfl⟩, (Nat.le_of_ble_eq_true rfl), (Nat.le_of_ble_eq_true rfl)⟩ hW hS [0, 1] rfl rfl kc7 (q0 := 0) rfl hl.1 rfl (Nat.le_of_ble_eq_true rfl) dX7_errands_1 ⟨Nat.zero_le _, Nat.zero_le _⟩ (fun r_1 u_2 H locs hv hW hS => ?_)
  obtain ⟨m_s_1, rfl⟩ : ∃ z, z = u_2 := ⟨_, rfl⟩
  try dsimp only at hv
  have hW : wo G A (wd_X7_3 G b m_images m_at_ m_open_ m_steps m_use_ m_traced m_speaks m_isParted m_s_1) H := hW
  refine lv_aload_n hx hb dX7_errands_4 rfl (lv_at hl 0 rfl) ?_
  refine q_get C kc7 hW 0 rfl 0 (by decide) fl_X7_7 rfl rfl dX7_errands_5 ?_
  refine lv_iconst (v := 4) hx hb dX7_errands_8 kic_4 ?_
  obtain ⟨h_3, hv⟩ := hv
  refine q_iald C hW 1 rfl h_3 dX7_errands_9 ?_
  obtain ⟨h_4, hv⟩ := hv
  refine lv_irem hx hb dX7_errands_10 h_4 ?_
  refine lv_istore_n (lv' := [(1, .int (r_1 - r_1 / (m_s_1 (4 : Int32).toNatClampNeg) * (m_s_1 (4 : Int32).toNatClampNeg))), (0, .ref (b 0))]) hx hb dX7_errands_11 rfl hl (by decide) rfl (fun ls hl => ?_)
  refine lv_aload_n hx hb dX7_errands_12 rfl (lv_at hl 1 rfl) ?_
  refine lv_iload_n hx hb dX7_errands_13 rfl (lv_at hl 0 rfl) ?_
  refine lv_iconst (v := 3) hx hb dX7_errands_14 kic_3 ?_
  refine lv_aload_n hx hb dX7_errands_15 rfl (lv_at hl 1 rfl) ?_
  refine q_callV (rest := [.int (3 : Int32), .int (r_1 - r_1 / (m_s_1 (4 : Int32).toNatClampNeg) * (m_s_1 (4 : Int32).toNatClampNeg)), .ref (b 0)]) (n := 0) C (c_X7_draw l G b m_images m_at_ m_open_ m_steps m_use_ m_traced m_speaks m_isParted m_s_1 _ hv) ml_X7_182 kb_X7_draw rfl ⟨⟨rfl, rfl⟩, (Nat.le_of_ble_eq_true rfl), (Nat.le_of_ble_eq_true rfl)⟩ hW hS [0, 1] rfl rfl kc7 (q0 := 0) rfl hl.1 rfl (Nat.le_of_ble_eq_true rfl) dX7_errands_16 ⟨Nat.zero_le _, Nat.zero_le _⟩ (fun r_5 u_6 H locs hv hW hS => ?_)
  obtain ⟨m_s_5, rfl⟩ : ∃ z, z = u_6 := ⟨_, rfl⟩
  try dsimp only at hv
  have hW : wo G A (wd_X7_3 G b m_images m_at_ m_open_ m_steps m_use_ m_traced m_speaks m_isParted m_s_5) H := hW
  refine lv_bipush (v := 10) hx hb dX7_errands_19 kbp_10 ?_
  obtain ⟨h_7, hv⟩ := hv
  refine lv_irem hx hb dX7_errands_21 h_7 ?_
  refine q_callVv (rest := []) (n := 3) C (c_X7_lays1 l G b m_images m_at_ m_open_ m_steps m_use_ m_traced m_speaks m_isParted m_s_5 (r_1 - r_1 / (m_s_1 (4 : Int32).toNatClampNeg) * (m_s_1 (4 : Int32).toNatClampNeg)) (3 : Int32) (r_5 - r_5 / (10 : Int32) * (10 : Int32)) _ hv) ml_X7_151 kb_X7_lays1 rfl ⟨⟨rfl, rfl⟩, (Nat.le_of_ble_eq_true rfl), (Nat.le_of_ble_eq_true rfl)⟩ hW hS [0, 1] rfl rfl kc7 (q0 := 0) rfl hl.1 rfl (Nat.le_of_ble_eq_true rfl) dX7_errands_22 ⟨Nat.zero_le _, Nat.zero_le _⟩ (fun u_9 H locs hv hW hS => ?_)
  obtain ⟨m_s_8, rfl⟩ : ∃ z, z = u_9 := ⟨_, rfl⟩
  try dsimp only at hv
  have hW : wo G A (wd_X7_3 G b m_images m_at_ m_open_ m_steps m_use_ m_traced m_speaks m_isParted m_s_8) H := hW
  refine lv_aload_n hx hb dX7_errands_25 rfl (lv_at hl 1 rfl) ?_
  refine q_callV (rest := []) (n := 0) C (c_X7_draw l G b m_images m_at_ m_open_ m_steps m_use_ m_traced m_speaks m_isParted m_s_8 _ hv) ml_X7_182 kb_X7_draw rfl ⟨⟨rfl, rfl⟩, (Nat.le_of_ble_eq_true rfl), (Nat.le_of_ble_eq_true rfl)⟩ hW hS [0, 1] rfl rfl kc7 (q0 := 0) rfl hl.1 rfl (Nat.le_of_ble_eq_true rfl) dX7_errands_26 ⟨Nat.zero_le _, Nat.zero_le _⟩ (fun r_10 u_11 H locs hv hW hS => ?_)
  obtain ⟨m_s_10, rfl⟩ : ∃ z, z = u_11 := ⟨_, rfl⟩
  try dsimp only at hv
  have hW : wo G A (wd_X7_3 G b m_images m_at_ m_open_ m_steps m_use_ m_traced m_speaks m_isParted m_s_10) H := hW
  refine lv_aload_n hx hb dX7_errands_29 rfl (lv_at hl 1 rfl) ?_
  refine q_get C kc7 hW 0 rfl 0 (by decide) fl_X7_7 rfl rfl dX7_errands_30 ?_
  refine lv_iconst (v := 4) hx hb dX7_errands_33 kic_4 ?_
  obtain ⟨h_12, hv⟩ := hv
  refine q_iald C hW 1 rfl h_12 dX7_errands_34 ?_
  obtain ⟨h_13, hv⟩ := hv
  refine lv_irem hx hb dX7_errands_35 h_13 ?_
  refine lv_istore_n (lv' := [(2, .int (r_10 - r_10 / (m_s_10 (4 : Int32).toNatClampNeg) * (m_s_10 (4 : Int32).toNatClampNeg))), (1, .int (r_1 - r_1 / (m_s_1 (4 : Int32).toNatClampNeg) * (m_s_1 (4 : Int32).toNatClampNeg))), (0, .ref (b 0))]) hx hb dX7_errands_36 rfl hl (by decide) rfl (fun ls hl => ?_)
  refine lv_aload_n hx hb dX7_errands_37 rfl (lv_at hl 2 rfl) ?_
  refine q_callV (rest := []) (n := 0) C (c_X7_draw l G b m_images m_at_ m_open_ m_steps m_use_ m_traced m_speaks m_isParted m_s_10 _ hv) ml_X7_182 kb_X7_draw rfl ⟨⟨rfl, rfl⟩, (Nat.le_of_ble_eq_true rfl), (Nat.le_of_ble_eq_true rfl)⟩ hW hS [0, 1] rfl rfl kc7 (q0 := 0) rfl hl.1 rfl (Nat.le_of_ble_eq_true rfl) dX7_errands_38 ⟨Nat.zero_le _, Nat.zero_le _⟩ (fun r_14 u_15 H locs hv hW hS => ?_)
  obtain ⟨m_s_14, rfl⟩ : ∃ z, z = u_15 := ⟨_, rfl⟩
  try dsimp only at hv
  have hW : wo G A (wd_X7_3 G b m_images m_at_ m_open_ m_steps m_use_ m_traced m_speaks m_isParted m_s_14) H := hW
  refine lv_aload_n hx hb dX7_errands_41 rfl (lv_at hl 2 rfl) ?_
  refine q_get C kc7 hW 0 rfl 0 (by decide) fl_X7_7 rfl rfl dX7_errands_42 ?_
  refine lv_iconst (v := 4) hx hb dX7_errands_45 kic_4 ?_
  obtain ⟨h_16, hv⟩ := hv
  refine q_iald C hW 1 rfl h_16 dX7_errands_46 ?_
  obtain ⟨h_17, hv⟩ := hv
  refine lv_irem hx hb dX7_errands_47 h_17 ?_
  refine lv_istore_n (lv' := [(3, .int (r_14 - r_14 / (m_s_14 (4 : Int32).toNatClampNeg) * (m_s_14 (4 : Int32).toNatClampNeg))), (2, .int (r_10 - r_10 / (m_s_10 (4 : Int32).toNatClampNeg) * (m_s_10 (4 : Int32).toNatClampNeg))), (1, .int (r_1 - r_1 / (m_s_1 (4 : Int32).toNatClampNeg) * (m_s_1 (4 : Int32).toNatClampNeg))), (0, .ref (b 0))]) hx hb dX7_errands_48 rfl hl (by decide) rfl (fun ls hl => ?_)
  refine lv_iload_n hx hb dX7_errands_49 rfl (lv_at hl 1 rfl) ?_
  refine lv_iload_n hx hb dX7_errands_50 rfl (lv_at hl 0 rfl) ?_
  refine lv_icmp_eq (tgt := 62) hx hb dX7_errands_51 (by decide) (fun c_18 => ?_) (fun c_18 => ?_)
  · replace hv := hv.1 c_18
    exact ret (m_s_14) H locs ls _ hW hS hv dX7_errands_62
  · replace hv := hv.2 c_18
    refine lv_aload_n hx hb dX7_errands_54 rfl (lv_at hl 3 rfl) ?_
    refine lv_iload_n hx hb dX7_errands_55 rfl (lv_at hl 1 rfl) ?_
    refine lv_iload_n hx hb dX7_errands_56 rfl (lv_at hl 0 rfl) ?_
    refine q_callV (rest := []) (n := 2) C (c_X7_calls l G b m_images m_at_ m_open_ m_steps m_use_ m_traced m_speaks m_isParted m_s_14 (r_10 - r_10 / (m_s_10 (4 : Int32).toNatClampNeg) * (m_s_10 (4 : Int32).toNatClampNeg)) (r_14 - r_14 / (m_s_14 (4 : Int32).toNatClampNeg) * (m_s_14 (4 : Int32).toNatClampNeg)) _ hv) ml_X7_172 kb_X7_calls rfl ⟨⟨rfl, rfl⟩, (Nat.le_of_ble_eq_true rfl), (Nat.le_of_ble_eq_true rfl)⟩ hW hS [0, 1] rfl rfl kc7 (q0 := 0) rfl hl.1 rfl (Nat.le_of_ble_eq_true rfl) dX7_errands_57 ⟨Nat.zero_le _, Nat.zero_le _⟩ (fun r_19 u_20 H locs hv hW hS => ?_)
    obtain ⟨m_s_19, rfl⟩ : ∃ z, z = u_20 := ⟨_, rfl⟩
    try dsimp only at hv
    have hW : wo G A (wd_X7_3 G b m_images m_at_ m_open_ m_steps m_use_ m_traced m_speaks m_isParted m_s_19) H := hW
    refine lv_istore (lv' := [(4, .int r_19), (3, .int (r_14 - r_14 / (m_s_14 (4 : Int32).toNatClampNeg) * (m_s_14 (4 : Int32).toNatClampNeg))), (2, .int (r_10 - r_10 / (m_s_10 (4 : Int32).toNatClampNeg) * (m_s_10 (4 : Int32).toNatClampNeg))), (1, .int (r_1 - r_1 / (m_s_1 (4 : Int32).toNatClampNeg) * (m_s_1 (4 : Int32).toNatClampNeg))), (0, .ref (b 0))]) hx hb dX7_errands_60 hl (by decide) rfl (fun ls hl => ?_)
    exact ret (m_s_19) H locs ls _ hW hS hv dX7_errands_62
set_option maxHeartbeats 4000000 in
set_option maxRecDepth 100000 in
theorem c_X7_loose (l : Launch) (G : Gt) (b : Nat → Nat) (m_images : Int32) (m_at_ : Int32) (m_open_ : Int32) (m_steps : Int32) (m_use_ : Int32) (m_traced : Int32) (m_speaks : Int32) (m_isParted : Int32) (m_s : Nat → Int32) (m_errors : Nat → Int32) (m_named : Nat → Int32) (m_pile : Nat → Int32) (m_nearThen : Nat → Int32) (m_shownThen : Nat → Int32) (p1 : Int32) (K : Int32 → (Nat → Int32) → (Nat → Int32) → (Nat → Int32) → (Nat → Int32) → (Nat → Int32) → (Nat → Int32) → Prop) (hv : v_X7_loose p1 m_s m_errors m_named m_pile m_nearThen m_shownThen K) : CI l G yX7_loose (.code yX7_loose cX7_loose 4 (some .int) :: wsG) (rmm 6 137) [.ref (b 0), .int p1] (wd_X7_12 G b m_images m_at_ m_open_ m_steps m_use_ m_traced m_speaks m_isParted m_s m_errors m_named m_pile m_nearThen m_shownThen) (S := (Nat → Int32) × (Nat → Int32) × (Nat → Int32) × (Nat → Int32) × (Nat → Int32) × (Nat → Int32)) (fun u => wd_X7_12 G b m_images m_at_ m_open_ m_steps m_use_ m_traced m_speaks m_isParted u.1 u.2.1 u.2.2.1 u.2.2.2.1 u.2.2.2.2.1 u.2.2.2.2.2) (fun r u => K r u.1 u.2.1 u.2.2.1 u.2.2.2.1 u.2.2.2.2.1 u.2.2.2.2.2) := by
  refine ci_intro (by decide) rfl (fun _ => rfl) (Nat.le_of_ble_eq_true rfl) ?_
  intro p e s m args below meth c A H ls Q C hW hS hl ret
  have hx := C.1.1
  have hb := C.1.2.1
  generalize hls : ([] : List Loc) = locs at hS ⊢
  have hl : lv_has ls 4 [(0, .ref (b 0)), (1, .int p1)] := hl
  have h_j_X7_loose_39 : ∀ (B20 : Int32 → (Nat → Int32) → (Nat → Int32) → (Nat → Int32) → (Nat → Int32) → (Nat → Int32) → (Nat → Int32) → Prop) (hB20 : ∀ (x3 : Int32) (m_s : Nat → Int32) (m_errors : Nat → Int32) (m_named : Nat → Int32) (m_pile : Nat → Int32) (m_nearThen : Nat → Int32) (m_shownThen : Nat → Int32) (H : Heap) (locs : List Loc) (ls : Array Slot), wo G A (wd_X7_12 G b m_images m_at_ m_open_ m_steps m_use_ m_traced m_speaks m_isParted m_s m_errors m_named m_pile m_nearThen m_shownThen) H → va_S A s.heap H locs → lv_has ls 4 [(0, .ref (b 0)), (1, .int p1), (3, .int x3)] → B20 x3 m_s m_errors m_named m_pile m_nearThen m_shownThen → W p l e (rmm 6 137) s m args below meth c H locs 0 0 Q (F0 m 20 ls [])), ∀ (x3 : Int32) (m_s : Nat → Int32) (m_errors : Nat → Int32) (m_named : Nat → Int32) (m_pile : Nat → Int32) (m_nearThen : Nat → Int32) (m_shownThen : Nat → Int32) (H : Heap) (locs : List Loc) (ls : Array Slot), wo G A (wd_X7_12 G b m_images m_at_ m_open_ m_steps m_use_ m_traced m_speaks m_isParted m_s m_errors m_named m_pile m_nearThen m_shownThen) H → va_S A s.heap H locs → lv_has ls 4 [(0, .ref (b 0)), (1, .int p1), (3, .int x3)] → j_X7_loose_39 p1 B20 K x3 m_s m_errors m_named m_pile m_nearThen m_shownThen → W p l e (rmm 6 137) s m args below meth c H locs 0 0 Q (F0 m 39 ls []) := by
    intro B20 hB20 x3 m_s m_errors m_named m_pile m_nearThen m_shownThen H locs ls hW hS hl hv
    refine lv_aload_n hx hb dX7_loose_39 rfl (lv_at hl 0 rfl) ?_
    refine q_callVv (rest := []) (n := 0) C (c_X7_aDay l G b m_images m_at_ m_open_ m_steps m_use_ m_traced m_speaks m_isParted m_s m_named m_pile m_nearThen m_shownThen _ hv) ml_X7_155 kb_X7_aDay rfl ⟨⟨rfl, rfl⟩, (Nat.le_of_ble_eq_true rfl), (Nat.le_of_ble_eq_true rfl)⟩ hW hS [0, 1, 3, 4, 5, 6] rfl rfl kc7 (q0 := 0) rfl hl.1 rfl (Nat.le_of_ble_eq_true rfl) dX7_loose_40 ⟨Nat.zero_le _, Nat.zero_le _⟩ (fun u_10 H locs hv hW hS => ?_)
    obtain ⟨m_s_9, m_named_9, m_pile_9, m_nearThen_9, m_shownThen_9⟩ := u_10
    try dsimp only at hv
    have hW : wo G A (wd_X7_12 G b m_images m_at_ m_open_ m_steps m_use_ m_traced m_speaks m_isParted m_s_9 m_errors m_named_9 m_pile_9 m_nearThen_9 m_shownThen_9) H := hW
    refine lv_iinc (v := (x3 + 1)) (lv' := [(3, .int (x3 + 1)), (0, .ref (b 0)), (1, .int p1)]) hx hb dX7_loose_43 hl (k := 2) rfl rfl (by decide) rfl (fun ls hl => ?_)
    refine lv_goto (tgt := 20) hx hb dX7_loose_46 (by decide) ?_
    exact hB20 (x3 + 1) m_s_9 m_errors m_named_9 m_pile_9 m_nearThen_9 m_shownThen_9 H locs ls hW hS (lv_sub hl [1, 2, 0] rfl) hv
  have h_l_X7_loose_20 : ∀ (n : Nat), ∀ (x3 : Int32) (m_s : Nat → Int32) (m_errors : Nat → Int32) (m_named : Nat → Int32) (m_pile : Nat → Int32) (m_nearThen : Nat → Int32) (m_shownThen : Nat → Int32) (H : Heap) (locs : List Loc) (ls : Array Slot), wo G A (wd_X7_12 G b m_images m_at_ m_open_ m_steps m_use_ m_traced m_speaks m_isParted m_s m_errors m_named m_pile m_nearThen m_shownThen) H → va_S A s.heap H locs → lv_has ls 4 [(0, .ref (b 0)), (1, .int p1), (3, .int x3)] → l_X7_loose_20 p1 K n x3 m_s m_errors m_named m_pile m_nearThen m_shownThen → W p l e (rmm 6 137) s m args below meth c H locs 0 0 Q (F0 m 20 ls []) := by
    intro n
    induction n with
    | zero =>
      intro x3 m_s m_errors m_named m_pile m_nearThen m_shownThen H locs ls hW hS hl hv
      exact False.elim hv
    | succ n ih =>
      intro x3 m_s m_errors m_named m_pile m_nearThen m_shownThen H locs ls hW hS hl hv
      refine lv_iload_n hx hb dX7_loose_20 rfl (lv_at hl 2 rfl) ?_
      refine lv_iload_n hx hb dX7_loose_21 rfl (lv_at hl 1 rfl) ?_
      refine lv_icmp_ge (tgt := 49) hx hb dX7_loose_22 (by decide) (fun c_4 => ?_) (fun c_4 => ?_)
      · replace hv := hv.1 c_4
        refine lv_aload_n hx hb dX7_loose_49 rfl (lv_at hl 0 rfl) ?_
        refine q_callV (rest := []) (n := 0) C (c_X7_nearestNow l G b m_images m_at_ m_open_ m_steps m_use_ m_traced m_speaks m_isParted m_s _ hv) ml_X7_188 kb_X7_nearestNow rfl ⟨⟨rfl, rfl⟩, (Nat.le_of_ble_eq_true rfl), (Nat.le_of_ble_eq_true rfl)⟩ hW hS [0, 1] rfl rfl kc7 (q0 := 0) rfl hl.1 rfl (Nat.le_of_ble_eq_true rfl) dX7_loose_50 ⟨Nat.zero_le _, Nat.zero_le _⟩ (fun r_5 u_6 H locs hv hW hS => ?_)
        try dsimp only at hv
        exact ret (m_s, m_errors, m_named, m_pile, m_nearThen, m_shownThen) r_5 H locs ls _ rfl hW hS hv dX7_loose_53
      · replace hv := hv.2 c_4
        refine lv_aload_n hx hb dX7_loose_25 rfl (lv_at hl 0 rfl) ?_
        refine q_get C kc7 hW 0 rfl 0 (by decide) fl_X7_7 rfl rfl dX7_loose_26 ?_
        refine lv_iconst (v := 4) hx hb dX7_loose_29 kic_4 ?_
        obtain ⟨h_7, hv⟩ := hv
        refine q_iald C hW 1 rfl h_7 dX7_loose_30 ?_
        refine lv_iconst (v := 1) hx hb dX7_loose_31 kic_1 ?_
        refine lv_icmp_le (tgt := 39) hx hb dX7_loose_32 (by decide) (fun c_8 => ?_) (fun c_8 => ?_)
        · replace hv := hv.1 c_8
          exact h_j_X7_loose_39 (fun x3' m_s' m_errors' m_named' m_pile' m_nearThen' m_shownThen' => l_X7_loose_20 p1 K n x3' m_s' m_errors' m_named' m_pile' m_nearThen' m_shownThen') ih x3 m_s m_errors m_named m_pile m_nearThen m_shownThen H locs ls hW hS (lv_sub hl [0, 1, 2] rfl) hv
        · replace hv := hv.2 c_8
          refine lv_aload_n hx hb dX7_loose_35 rfl (lv_at hl 0 rfl) ?_
          refine q_callVv (rest := []) (n := 0) C (c_X7_errands l G b m_images m_at_ m_open_ m_steps m_use_ m_traced m_speaks m_isParted m_s _ hv) ml_X7_185 kb_X7_errands rfl ⟨⟨rfl, rfl⟩, (Nat.le_of_ble_eq_true rfl), (Nat.le_of_ble_eq_true rfl)⟩ hW hS [0, 1] rfl rfl kc7 (q0 := 0) rfl hl.1 rfl (Nat.le_of_ble_eq_true rfl) dX7_loose_36 ⟨Nat.zero_le _, Nat.zero_le _⟩ (fun u_12 H locs hv hW hS => ?_)
          obtain ⟨m_s_11, rfl⟩ : ∃ z, z = u_12 := ⟨_, rfl⟩
          try dsimp only at hv
          have hW : wo G A (wd_X7_12 G b m_images m_at_ m_open_ m_steps m_use_ m_traced m_speaks m_isParted m_s_11 m_errors m_named m_pile m_nearThen m_shownThen) H := hW
          exact h_j_X7_loose_39 (fun x3' m_s' m_errors' m_named' m_pile' m_nearThen' m_shownThen' => l_X7_loose_20 p1 K n x3' m_s' m_errors' m_named' m_pile' m_nearThen' m_shownThen') ih x3 m_s_11 m_errors m_named m_pile m_nearThen m_shownThen H locs ls hW hS (lv_sub hl [0, 1, 2] rfl) hv
  refine lv_aload_n hx hb dX7_loose_0 rfl (lv_at hl 0 rfl) ?_
  refine lv_iload_n hx hb dX7_loose_1 rfl (lv_at hl 1 rfl) ?_
  refine lv_bipush (v := 30) hx hb dX7_loose_2 kbp_30 ?_
  refine q_callV (rest := []) (n := 2) C (c_X7_whyNot l G b m_images m_at_ m_open_ m_steps m_use_ m_traced m_speaks m_isParted m_s p1 (30 : Int32) _ hv) ml_X7_175 kb_X7_whyNot rfl ⟨⟨rfl, rfl⟩, (Nat.le_of_ble_eq_true rfl), (Nat.le_of_ble_eq_true rfl)⟩ hW hS [0, 1] rfl rfl kc7 (q0 := 0) rfl hl.1 rfl (Nat.le_of_ble_eq_true rfl) dX7_loose_4 ⟨Nat.zero_le _, Nat.zero_le _⟩ (fun r_1 u_2 H locs hv hW hS => ?_)
  try dsimp only at hv
  refine lv_istore_n (lv' := [(2, .int r_1), (0, .ref (b 0)), (1, .int p1)]) hx hb dX7_loose_7 rfl hl (by decide) rfl (fun ls hl => ?_)
  refine lv_iload_n hx hb dX7_loose_8 rfl (lv_at hl 0 rfl) ?_
  refine lv_if_eq (tgt := 18) hx hb dX7_loose_9 (by decide) (fun c_3 => ?_) (fun c_3 => ?_)
  · replace hv := hv.1 c_3
    refine lv_iconst (v := 0) hx hb dX7_loose_18 kic_0 ?_
    refine lv_istore_n (lv' := [(3, .int (0 : Int32)), (2, .int r_1), (0, .ref (b 0)), (1, .int p1)]) hx hb dX7_loose_19 rfl hl (by decide) rfl (fun ls hl => ?_)
    obtain ⟨n_13, hv⟩ := hv
    exact h_l_X7_loose_20 n_13 (0 : Int32) m_s m_errors m_named m_pile m_nearThen m_shownThen H locs ls hW hS (lv_sub hl [2, 3, 0] rfl) hv
  · replace hv := hv.2 c_3
    refine lv_aload_n hx hb dX7_loose_12 rfl (lv_at hl 1 rfl) ?_
    refine lv_iload_n hx hb dX7_loose_13 rfl (lv_at hl 0 rfl) ?_
    refine q_callV (rest := []) (n := 1) C (c_X7_error l G b m_images m_at_ m_open_ m_steps m_use_ m_traced m_speaks m_isParted m_errors r_1 _ hv) ml_X7_61 kb_X7_error rfl ⟨⟨rfl, rfl⟩, (Nat.le_of_ble_eq_true rfl), (Nat.le_of_ble_eq_true rfl)⟩ hW hS [0, 2] rfl rfl kc7 (q0 := 0) rfl hl.1 rfl (Nat.le_of_ble_eq_true rfl) dX7_loose_14 ⟨Nat.zero_le _, Nat.zero_le _⟩ (fun r_14 u_15 H locs hv hW hS => ?_)
    obtain ⟨m_errors_14, rfl⟩ : ∃ z, z = u_15 := ⟨_, rfl⟩
    try dsimp only at hv
    have hW : wo G A (wd_X7_12 G b m_images m_at_ m_open_ m_steps m_use_ m_traced m_speaks m_isParted m_s m_errors_14 m_named m_pile m_nearThen m_shownThen) H := hW
    exact ret (m_s, m_errors_14, m_named, m_pile, m_nearThen, m_shownThen) r_14 H locs ls _ rfl hW hS hv dX7_loose_17
set_option maxHeartbeats 4000000 in
set_option maxRecDepth 100000 in
theorem c_X7_seed (l : Launch) (G : Gt) (b : Nat → Nat) (m_images : Int32) (m_at_ : Int32) (m_open_ : Int32) (m_steps : Int32) (m_use_ : Int32) (m_traced : Int32) (m_speaks : Int32) (m_isParted : Int32) (m_s : Nat → Int32) (p1 : Int32) (K : Int32 → (Nat → Int32) → Prop) (hv : v_X7_seed p1 m_s K) : CI l G yX7_seed (.code yX7_seed cX7_seed 2 (some .int) :: wsG) (rmm 1 23) [.ref (b 0), .int p1] (wd_X7_3 G b m_images m_at_ m_open_ m_steps m_use_ m_traced m_speaks m_isParted m_s) (S := (Nat → Int32)) (fun u => wd_X7_3 G b m_images m_at_ m_open_ m_steps m_use_ m_traced m_speaks m_isParted u) (fun r u => K r u) := by
  refine ci_intro (by decide) rfl (fun _ => rfl) (Nat.le_of_ble_eq_true rfl) ?_
  intro p e s m args below meth c A H ls Q C hW hS hl ret
  have hx := C.1.1
  have hb := C.1.2.1
  generalize hls : ([] : List Loc) = locs at hS ⊢
  have hl : lv_has ls 2 [(0, .ref (b 0)), (1, .int p1)] := hl
  refine lv_aload_n hx hb dX7_seed_0 rfl (lv_at hl 0 rfl) ?_
  refine lv_iconst (v := 1) hx hb dX7_seed_1 kic_1 ?_
  refine lv_iload_n hx hb dX7_seed_2 rfl (lv_at hl 1 rfl) ?_
  refine q_callV (rest := []) (n := 2) C (c_X7_change1 l G b m_images m_at_ m_open_ m_steps m_use_ m_traced m_speaks m_isParted m_s (1 : Int32) p1 _ hv) ml_X7_162 kb_X7_change1 rfl ⟨⟨rfl, rfl⟩, (Nat.le_of_ble_eq_true rfl), (Nat.le_of_ble_eq_true rfl)⟩ hW hS [0, 1] rfl rfl kc7 (q0 := 0) rfl hl.1 rfl (Nat.le_of_ble_eq_true rfl) dX7_seed_3 ⟨Nat.zero_le _, Nat.zero_le _⟩ (fun r_1 u_2 H locs hv hW hS => ?_)
  obtain ⟨m_s_1, rfl⟩ : ∃ z, z = u_2 := ⟨_, rfl⟩
  try dsimp only at hv
  have hW : wo G A (wd_X7_3 G b m_images m_at_ m_open_ m_steps m_use_ m_traced m_speaks m_isParted m_s_1) H := hW
  exact ret (m_s_1) r_1 H locs ls _ rfl hW hS hv dX7_seed_6
set_option maxHeartbeats 4000000 in
set_option maxRecDepth 100000 in
theorem c_X7_nearest (l : Launch) (G : Gt) (b : Nat → Nat) (m_images : Int32) (m_at_ : Int32) (m_open_ : Int32) (m_steps : Int32) (m_use_ : Int32) (m_traced : Int32) (m_speaks : Int32) (m_isParted : Int32) (m_s : Nat → Int32) (m_laid : Nat → Int32) (m_errors : Nat → Int32) (m_named : Nat → Int32) (m_pile : Nat → Int32) (m_nearThen : Nat → Int32) (m_shownThen : Nat → Int32) (p1 : Int32) (K : Int32 → (Nat → Int32) → (Nat → Int32) → (Nat → Int32) → (Nat → Int32) → (Nat → Int32) → (Nat → Int32) → (Nat → Int32) → Prop) (hv : v_X7_nearest p1 m_s m_laid m_errors m_named m_pile m_nearThen m_shownThen K) : CI l G yX7_nearest (.code yX7_nearest cX7_nearest 3 (some .int) :: wsG) (rmm 7 159) [.ref (b 0), .int p1] (wd_X7_13 G b m_images m_at_ m_open_ m_steps m_use_ m_traced m_speaks m_isParted m_s m_laid m_errors m_named m_pile m_nearThen m_shownThen) (S := (Nat → Int32) × (Nat → Int32) × (Nat → Int32) × (Nat → Int32) × (Nat → Int32) × (Nat → Int32) × (Nat → Int32)) (fun u => wd_X7_13 G b m_images m_at_ m_open_ m_steps m_use_ m_traced m_speaks m_isParted u.1 u.2.1 u.2.2.1 u.2.2.2.1 u.2.2.2.2.1 u.2.2.2.2.2.1 u.2.2.2.2.2.2) (fun r u => K r u.1 u.2.1 u.2.2.1 u.2.2.2.1 u.2.2.2.2.1 u.2.2.2.2.2.1 u.2.2.2.2.2.2) := by
  refine ci_intro (by decide) rfl (fun _ => rfl) (Nat.le_of_ble_eq_true rfl) ?_
  intro p e s m args below meth c A H ls Q C hW hS hl ret
  have hx := C.1.1
  have hb := C.1.2.1
  generalize hls : ([] : List Loc) = locs at hS ⊢
  have hl : lv_has ls 3 [(0, .ref (b 0)), (1, .int p1)] := hl
  refine lv_iload_n hx hb dX7_nearest_0 rfl (lv_at hl 1 rfl) ?_
  refine lv_iconst (v := 0) hx hb dX7_nearest_1 kic_0 ?_
  refine lv_bipush (v := 100) hx hb dX7_nearest_2 kbp_100 ?_
  refine q_callS (rest := []) (n := 3) C (c_X7_in l G p1 (0 : Int32) (100 : Int32) _ hv) ml_X7_53 kb_X7_in rfl ⟨⟨rfl, rfl⟩, (Nat.le_of_ble_eq_true rfl), (Nat.le_of_ble_eq_true rfl)⟩ hW hS hl.1 rfl (Nat.le_of_ble_eq_true rfl) dX7_nearest_4 ⟨Nat.zero_le _, Nat.zero_le _⟩ (fun r_1 u_2 H locs hv hW hS => ?_)
  obtain ⟨hv_b_1, hv⟩ := hv
  try dsimp only at hv
  refine lv_if_ne (tgt := 16) hx hb dX7_nearest_7 (by decide) (fun c_3 => ?_) (fun c_3 => ?_)
  · replace hv := hv.1 c_3
    refine lv_aload_n hx hb dX7_nearest_16 rfl (lv_at hl 0 rfl) ?_
    refine q_get C kc7 hW 0 rfl 0 (by decide) fl_X7_7 rfl rfl dX7_nearest_17 ?_
    refine lv_iconst (v := 4) hx hb dX7_nearest_20 kic_4 ?_
    obtain ⟨h_4, hv⟩ := hv
    refine q_iald C hW 1 rfl h_4 dX7_nearest_21 ?_
    refine lv_if_ne (tgt := 31) hx hb dX7_nearest_22 (by decide) (fun c_5 => ?_) (fun c_5 => ?_)
    · replace hv := hv.1 c_5
      refine lv_aload_n hx hb dX7_nearest_31 rfl (lv_at hl 0 rfl) ?_
      refine q_callVv (rest := []) (n := 0) C (c_X7_layDown l G b m_images m_at_ m_open_ m_steps m_use_ m_traced m_speaks m_isParted m_s m_laid _ hv) ml_X7_191 kb_X7_layDown rfl ⟨⟨rfl, rfl⟩, (Nat.le_of_ble_eq_true rfl), (Nat.le_of_ble_eq_true rfl)⟩ hW hS [0, 1, 2] rfl rfl kc7 (q0 := 0) rfl hl.1 rfl (Nat.le_of_ble_eq_true rfl) dX7_nearest_32 ⟨Nat.zero_le _, Nat.zero_le _⟩ (fun u_7 H locs hv hW hS => ?_)
      obtain ⟨m_laid_6, rfl⟩ : ∃ z, z = u_7 := ⟨_, rfl⟩
      try dsimp only at hv
      have hW : wo G A (wd_X7_13 G b m_images m_at_ m_open_ m_steps m_use_ m_traced m_speaks m_isParted m_s m_laid_6 m_errors m_named m_pile m_nearThen m_shownThen) H := hW
      refine lv_aload_n hx hb dX7_nearest_35 rfl (lv_at hl 0 rfl) ?_
      refine lv_iload_n hx hb dX7_nearest_36 rfl (lv_at hl 1 rfl) ?_
      refine q_callVv (rest := []) (n := 1) C (c_X7_goes l G b m_images m_at_ m_open_ m_steps m_use_ m_traced m_speaks m_isParted m_s m_named m_pile m_nearThen m_shownThen p1 _ hv) ml_X7_178 kb_X7_goes rfl ⟨⟨rfl, rfl⟩, (Nat.le_of_ble_eq_true rfl), (Nat.le_of_ble_eq_true rfl)⟩ hW hS [0, 1, 4, 5, 6, 7] rfl rfl kc7 (q0 := 0) rfl hl.1 rfl (Nat.le_of_ble_eq_true rfl) dX7_nearest_37 ⟨Nat.zero_le _, Nat.zero_le _⟩ (fun u_9 H locs hv hW hS => ?_)
      obtain ⟨m_s_8, m_named_8, m_pile_8, m_nearThen_8, m_shownThen_8⟩ := u_9
      try dsimp only at hv
      have hW : wo G A (wd_X7_13 G b m_images m_at_ m_open_ m_steps m_use_ m_traced m_speaks m_isParted m_s_8 m_laid_6 m_errors m_named_8 m_pile_8 m_nearThen_8 m_shownThen_8) H := hW
      refine lv_aload_n hx hb dX7_nearest_40 rfl (lv_at hl 0 rfl) ?_
      refine q_callV (rest := []) (n := 0) C (c_X7_nearestNow l G b m_images m_at_ m_open_ m_steps m_use_ m_traced m_speaks m_isParted m_s_8 _ hv) ml_X7_188 kb_X7_nearestNow rfl ⟨⟨rfl, rfl⟩, (Nat.le_of_ble_eq_true rfl), (Nat.le_of_ble_eq_true rfl)⟩ hW hS [0, 1] rfl rfl kc7 (q0 := 0) rfl hl.1 rfl (Nat.le_of_ble_eq_true rfl) dX7_nearest_41 ⟨Nat.zero_le _, Nat.zero_le _⟩ (fun r_10 u_11 H locs hv hW hS => ?_)
      try dsimp only at hv
      refine lv_istore_n (lv' := [(2, .int r_10), (0, .ref (b 0)), (1, .int p1)]) hx hb dX7_nearest_44 rfl hl (by decide) rfl (fun ls hl => ?_)
      refine lv_aload_n hx hb dX7_nearest_45 rfl (lv_at hl 1 rfl) ?_
      refine q_callVv (rest := []) (n := 0) C (c_X7_layBack l G b m_images m_at_ m_open_ m_steps m_use_ m_traced m_speaks m_isParted m_s_8 m_laid_6 _ hv) ml_X7_194 kb_X7_layBack rfl ⟨⟨rfl, rfl⟩, (Nat.le_of_ble_eq_true rfl), (Nat.le_of_ble_eq_true rfl)⟩ hW hS [0, 1, 2] rfl rfl kc7 (q0 := 0) rfl hl.1 rfl (Nat.le_of_ble_eq_true rfl) dX7_nearest_46 ⟨Nat.zero_le _, Nat.zero_le _⟩ (fun u_13 H locs hv hW hS => ?_)
      obtain ⟨m_s_12, rfl⟩ : ∃ z, z = u_13 := ⟨_, rfl⟩
      try dsimp only at hv
      have hW : wo G A (wd_X7_13 G b m_images m_at_ m_open_ m_steps m_use_ m_traced m_speaks m_isParted m_s_12 m_laid_6 m_errors m_named_8 m_pile_8 m_nearThen_8 m_shownThen_8) H := hW
      refine lv_iload_n hx hb dX7_nearest_49 rfl (lv_at hl 0 rfl) ?_
      exact ret (m_s_12, m_laid_6, m_errors, m_named_8, m_pile_8, m_nearThen_8, m_shownThen_8) r_10 H locs ls _ rfl hW hS hv dX7_nearest_50
    · replace hv := hv.2 c_5
      refine lv_aload_n hx hb dX7_nearest_25 rfl (lv_at hl 0 rfl) ?_
      refine lv_iconst (v := 3) hx hb dX7_nearest_26 kic_3 ?_
      refine q_callV (rest := []) (n := 1) C (c_X7_error l G b m_images m_at_ m_open_ m_steps m_use_ m_traced m_speaks m_isParted m_errors (3 : Int32) _ hv) ml_X7_61 kb_X7_error rfl ⟨⟨rfl, rfl⟩, (Nat.le_of_ble_eq_true rfl), (Nat.le_of_ble_eq_true rfl)⟩ hW hS [0, 3] rfl rfl kc7 (q0 := 0) rfl hl.1 rfl (Nat.le_of_ble_eq_true rfl) dX7_nearest_27 ⟨Nat.zero_le _, Nat.zero_le _⟩ (fun r_14 u_15 H locs hv hW hS => ?_)
      obtain ⟨m_errors_14, rfl⟩ : ∃ z, z = u_15 := ⟨_, rfl⟩
      try dsimp only at hv
      have hW : wo G A (wd_X7_13 G b m_images m_at_ m_open_ m_steps m_use_ m_traced m_speaks m_isParted m_s m_laid m_errors_14 m_named m_pile m_nearThen m_shownThen) H := hW
      exact ret (m_s, m_laid, m_errors_14, m_named, m_pile, m_nearThen, m_shownThen) r_14 H locs ls _ rfl hW hS hv dX7_nearest_30
  · replace hv := hv.2 c_3
    refine lv_aload_n hx hb dX7_nearest_10 rfl (lv_at hl 0 rfl) ?_
    refine lv_iconst (v := 1) hx hb dX7_nearest_11 kic_1 ?_
    refine q_callV (rest := []) (n := 1) C (c_X7_error l G b m_images m_at_ m_open_ m_steps m_use_ m_traced m_speaks m_isParted m_errors (1 : Int32) _ hv) ml_X7_61 kb_X7_error rfl ⟨⟨rfl, rfl⟩, (Nat.le_of_ble_eq_true rfl), (Nat.le_of_ble_eq_true rfl)⟩ hW hS [0, 3] rfl rfl kc7 (q0 := 0) rfl hl.1 rfl (Nat.le_of_ble_eq_true rfl) dX7_nearest_12 ⟨Nat.zero_le _, Nat.zero_le _⟩ (fun r_16 u_17 H locs hv hW hS => ?_)
    obtain ⟨m_errors_16, rfl⟩ : ∃ z, z = u_17 := ⟨_, rfl⟩
    try dsimp only at hv
    have hW : wo G A (wd_X7_13 G b m_images m_at_ m_open_ m_steps m_use_ m_traced m_speaks m_isParted m_s m_laid m_errors_16 m_named m_pile m_nearThen m_shownThen) H := hW
    exact ret (m_s, m_laid, m_errors_16, m_named, m_pile, m_nearThen, m_shownThen) r_16 H locs ls _ rfl hW hS hv dX7_nearest_15
set_option maxHeartbeats 4000000 in
set_option maxRecDepth 100000 in
theorem c_X7_then (l : Launch) (G : Gt) (b : Nat → Nat) (m_images : Int32) (m_at_ : Int32) (m_open_ : Int32) (m_steps : Int32) (m_use_ : Int32) (m_traced : Int32) (m_speaks : Int32) (m_isParted : Int32) (m_s : Nat → Int32) (m_laid : Nat → Int32) (m_errors : Nat → Int32) (m_named : Nat → Int32) (m_pile : Nat → Int32) (m_nearThen : Nat → Int32) (m_shownThen : Nat → Int32) (p1 : Int32) (p2 : Int32) (p3 : Int32) (K : Int32 → (Nat → Int32) → (Nat → Int32) → (Nat → Int32) → (Nat → Int32) → (Nat → Int32) → (Nat → Int32) → (Nat → Int32) → Prop) (hv : v_X7_then p1 p2 p3 m_s m_laid m_errors m_named m_pile m_nearThen m_shownThen K) : CI l G yX7_then (.code yX7_then cX7_then 5 (some .int) :: wsG) (rmm 7 159) [.ref (b 0), .int p1, .int p2, .int p3] (wd_X7_13 G b m_images m_at_ m_open_ m_steps m_use_ m_traced m_speaks m_isParted m_s m_laid m_errors m_named m_pile m_nearThen m_shownThen) (S := (Nat → Int32) × (Nat → Int32) × (Nat → Int32) × (Nat → Int32) × (Nat → Int32) × (Nat → Int32) × (Nat → Int32)) (fun u => wd_X7_13 G b m_images m_at_ m_open_ m_steps m_use_ m_traced m_speaks m_isParted u.1 u.2.1 u.2.2.1 u.2.2.2.1 u.2.2.2.2.1 u.2.2.2.2.2.1 u.2.2.2.2.2.2) (fun r u => K r u.1 u.2.1 u.2.2.1 u.2.2.2.1 u.2.2.2.2.1 u.2.2.2.2.2.1 u.2.2.2.2.2.2) := by
  refine ci_intro (by decide) rfl (fun _ => rfl) (Nat.le_of_ble_eq_true rfl) ?_
  intro p e s m args below meth c A H ls Q C hW hS hl ret
  have hx := C.1.1
  have hb := C.1.2.1
  generalize hls : ([] : List Loc) = locs at hS ⊢
  have hl : lv_has ls 5 [(0, .ref (b 0)), (1, .int p1), (2, .int p2), (3, .int p3)] := hl
  have h_j_X7_then_27 : ∀ (m_s : Nat → Int32) (m_laid : Nat → Int32) (m_errors : Nat → Int32) (m_named : Nat → Int32) (m_pile : Nat → Int32) (m_nearThen : Nat → Int32) (m_shownThen : Nat → Int32) (H : Heap) (locs : List Loc) (ls : Array Slot), wo G A (wd_X7_13 G b m_images m_at_ m_open_ m_steps m_use_ m_traced m_speaks m_isParted m_s m_laid m_errors m_named m_pile m_nearThen m_shownThen) H → va_S A s.heap H locs → lv_has ls 5 [(0, .ref (b 0))] → j_X7_then_27 p1 p2 p3 K m_s m_laid m_errors m_named m_pile m_nearThen m_shownThen → W p l e (rmm 7 159) s m args below meth c H locs 0 0 Q (F0 m 27 ls []) := by
    intro m_s m_laid m_errors m_named m_pile m_nearThen m_shownThen H locs ls hW hS hl hv
    refine lv_aload_n hx hb dX7_then_27 rfl (lv_at hl 0 rfl) ?_
    refine lv_iconst (v := 1) hx hb dX7_then_28 kic_1 ?_
    refine q_callV (rest := []) (n := 1) C (c_X7_error l G b m_images m_at_ m_open_ m_steps m_use_ m_traced m_speaks m_isParted m_errors (1 : Int32) _ hv) ml_X7_61 kb_X7_error rfl ⟨⟨rfl, rfl⟩, (Nat.le_of_ble_eq_true rfl), (Nat.le_of_ble_eq_true rfl)⟩ hW hS [0, 3] rfl rfl kc7 (q0 := 0) rfl hl.1 rfl (Nat.le_of_ble_eq_true rfl) dX7_then_29 ⟨Nat.zero_le _, Nat.zero_le _⟩ (fun r_4 u_5 H locs hv hW hS => ?_)
    obtain ⟨m_errors_4, rfl⟩ : ∃ z, z = u_5 := ⟨_, rfl⟩
    try dsimp only at hv
    have hW : wo G A (wd_X7_13 G b m_images m_at_ m_open_ m_steps m_use_ m_traced m_speaks m_isParted m_s m_laid m_errors_4 m_named m_pile m_nearThen m_shownThen) H := hW
    exact ret (m_s, m_laid, m_errors_4, m_named, m_pile, m_nearThen, m_shownThen) r_4 H locs ls _ rfl hW hS hv dX7_then_32
  refine lv_aload_n hx hb dX7_then_0 rfl (lv_at hl 0 rfl) ?_
  refine lv_iload_n hx hb dX7_then_1 rfl (lv_at hl 1 rfl) ?_
  refine q_callV (rest := []) (n := 1) C (c_X7_isPerson l G b m_images m_at_ m_open_ m_steps m_use_ m_traced m_speaks m_isParted m_s p1 _ hv) ml_X7_57 kb_X7_isPerson rfl ⟨⟨rfl, rfl⟩, (Nat.le_of_ble_eq_true rfl), (Nat.le_of_ble_eq_true rfl)⟩ hW hS [0, 1] rfl rfl kc7 (q0 := 0) rfl hl.1 rfl (Nat.le_of_ble_eq_true rfl) dX7_then_2 ⟨Nat.zero_le _, Nat.zero_le _⟩ (fun r_1 u_2 H locs hv hW hS => ?_)
  obtain ⟨hv_b_1, hv⟩ := hv
  try dsimp only at hv
  refine lv_if_eq (tgt := 27) hx hb dX7_then_5 (by decide) (fun c_3 => ?_) (fun c_3 => ?_)
  · replace hv := hv.1 c_3
    exact h_j_X7_then_27 m_s m_laid m_errors m_named m_pile m_nearThen m_shownThen H locs ls hW hS (lv_sub hl [0] rfl) hv
  · replace hv := hv.2 c_3
    refine lv_iload_n hx hb dX7_then_8 rfl (lv_at hl 2 rfl) ?_
    refine lv_iconst (v := 0) hx hb dX7_then_9 kic_0 ?_
    refine lv_bipush (v := 100) hx hb dX7_then_10 kbp_100 ?_
    refine q_callS (rest := []) (n := 3) C (c_X7_in l G p2 (0 : Int32) (100 : Int32) _ hv) ml_X7_53 kb_X7_in rfl ⟨⟨rfl, rfl⟩, (Nat.le_of_ble_eq_true rfl), (Nat.le_of_ble_eq_true rfl)⟩ hW hS hl.1 rfl (Nat.le_of_ble_eq_true rfl) dX7_then_12 ⟨Nat.zero_le _, Nat.zero_le _⟩ (fun r_6 u_7 H locs hv hW hS => ?_)
    obtain ⟨hv_b_6, hv⟩ := hv
    try dsimp only at hv
    refine lv_if_eq (tgt := 27) hx hb dX7_then_15 (by decide) (fun c_8 => ?_) (fun c_8 => ?_)
    · replace hv := hv.1 c_8
      exact h_j_X7_then_27 m_s m_laid m_errors m_named m_pile m_nearThen m_shownThen H locs ls hW hS (lv_sub hl [0] rfl) hv
    · replace hv := hv.2 c_8
      refine lv_iload_n hx hb dX7_then_18 rfl (lv_at hl 3 rfl) ?_
      refine lv_iconst (v := 0) hx hb dX7_then_19 kic_0 ?_
      refine lv_iconst (v := 1) hx hb dX7_then_20 kic_1 ?_
      refine q_callS (rest := []) (n := 3) C (c_X7_in l G p3 (0 : Int32) (1 : Int32) _ hv) ml_X7_53 kb_X7_in rfl ⟨⟨rfl, rfl⟩, (Nat.le_of_ble_eq_true rfl), (Nat.le_of_ble_eq_true rfl)⟩ hW hS hl.1 rfl (Nat.le_of_ble_eq_true rfl) dX7_then_21 ⟨Nat.zero_le _, Nat.zero_le _⟩ (fun r_9 u_10 H locs hv hW hS => ?_)
      obtain ⟨hv_b_9, hv⟩ := hv
      try dsimp only at hv
      refine lv_if_ne (tgt := 33) hx hb dX7_then_24 (by decide) (fun c_11 => ?_) (fun c_11 => ?_)
      · replace hv := hv.1 c_11
        refine lv_aload_n hx hb dX7_then_33 rfl (lv_at hl 0 rfl) ?_
        refine q_callVv (rest := []) (n := 0) C (c_X7_layDown l G b m_images m_at_ m_open_ m_steps m_use_ m_traced m_speaks m_isParted m_s m_laid _ hv) ml_X7_191 kb_X7_layDown rfl ⟨⟨rfl, rfl⟩, (Nat.le_of_ble_eq_true rfl), (Nat.le_of_ble_eq_true rfl)⟩ hW hS [0, 1, 2] rfl rfl kc7 (q0 := 0) rfl hl.1 rfl (Nat.le_of_ble_eq_true rfl) dX7_then_34 ⟨Nat.zero_le _, Nat.zero_le _⟩ (fun u_13 H locs hv hW hS => ?_)
        obtain ⟨m_laid_12, rfl⟩ : ∃ z, z = u_13 := ⟨_, rfl⟩
        try dsimp only at hv
        have hW : wo G A (wd_X7_13 G b m_images m_at_ m_open_ m_steps m_use_ m_traced m_speaks m_isParted m_s m_laid_12 m_errors m_named m_pile m_nearThen m_shownThen) H := hW
        refine lv_aload_n hx hb dX7_then_37 rfl (lv_at hl 0 rfl) ?_
        refine lv_iload_n hx hb dX7_then_38 rfl (lv_at hl 2 rfl) ?_
        refine q_callVv (rest := []) (n := 1) C (c_X7_goes l G b m_images m_at_ m_open_ m_steps m_use_ m_traced m_speaks m_isParted m_s m_named m_pile m_nearThen m_shownThen p2 _ hv) ml_X7_178 kb_X7_goes rfl ⟨⟨rfl, rfl⟩, (Nat.le_of_ble_eq_true rfl), (Nat.le_of_ble_eq_true rfl)⟩ hW hS [0, 1, 4, 5, 6, 7] rfl rfl kc7 (q0 := 0) rfl hl.1 rfl (Nat.le_of_ble_eq_true rfl) dX7_then_39 ⟨Nat.zero_le _, Nat.zero_le _⟩ (fun u_15 H locs hv hW hS => ?_)
        obtain ⟨m_s_14, m_named_14, m_pile_14, m_nearThen_14, m_shownThen_14⟩ := u_15
        try dsimp only at hv
        have hW : wo G A (wd_X7_13 G b m_images m_at_ m_open_ m_steps m_use_ m_traced m_speaks m_isParted m_s_14 m_laid_12 m_errors m_named_14 m_pile_14 m_nearThen_14 m_shownThen_14) H := hW
        refine lv_aload_n hx hb dX7_then_42 rfl (lv_at hl 0 rfl) ?_
        refine lv_iload_n hx hb dX7_then_43 rfl (lv_at hl 1 rfl) ?_
        refine lv_iconst (v := 2) hx hb dX7_then_44 kic_2 ?_
        refine lv_iload_n hx hb dX7_then_45 rfl (lv_at hl 3 rfl) ?_
        refine lv_iadd hx hb dX7_then_46 ?_
        refine q_callV (rest := []) (n := 2) C (c_X7_its l G b m_images m_at_ m_open_ m_steps m_use_ m_traced m_speaks m_isParted m_s_14 p1 ((2 : Int32) + p3) _ hv) ml_X7_120 kb_X7_its rfl ⟨⟨rfl, rfl⟩, (Nat.le_of_ble_eq_true rfl), (Nat.le_of_ble_eq_true rfl)⟩ hW hS [0, 1] rfl rfl kc7 (q0 := 0) rfl hl.1 rfl (Nat.le_of_ble_eq_true rfl) dX7_then_47 ⟨Nat.zero_le _, Nat.zero_le _⟩ (fun r_16 u_17 H locs hv hW hS => ?_)
        try dsimp only at hv
        refine lv_istore (lv' := [(4, .int r_16), (0, .ref (b 0)), (1, .int p1), (2, .int p2), (3, .int p3)]) hx hb dX7_then_50 hl (by decide) rfl (fun ls hl => ?_)
        refine lv_aload_n hx hb dX7_then_52 rfl (lv_at hl 1 rfl) ?_
        refine q_callVv (rest := []) (n := 0) C (c_X7_layBack l G b m_images m_at_ m_open_ m_steps m_use_ m_traced m_speaks m_isParted m_s_14 m_laid_12 _ hv) ml_X7_194 kb_X7_layBack rfl ⟨⟨rfl, rfl⟩, (Nat.le_of_ble_eq_true rfl), (Nat.le_of_ble_eq_true rfl)⟩ hW hS [0, 1, 2] rfl rfl kc7 (q0 := 0) rfl hl.1 rfl (Nat.le_of_ble_eq_true rfl) dX7_then_53 ⟨Nat.zero_le _, Nat.zero_le _⟩ (fun u_19 H locs hv hW hS => ?_)
        obtain ⟨m_s_18, rfl⟩ : ∃ z, z = u_19 := ⟨_, rfl⟩
        try dsimp only at hv
        have hW : wo G A (wd_X7_13 G b m_images m_at_ m_open_ m_steps m_use_ m_traced m_speaks m_isParted m_s_18 m_laid_12 m_errors m_named_14 m_pile_14 m_nearThen_14 m_shownThen_14) H := hW
        refine lv_iload hx hb dX7_then_56 (lv_at hl 0 rfl) ?_
        exact ret (m_s_18, m_laid_12, m_errors, m_named_14, m_pile_14, m_nearThen_14, m_shownThen_14) r_16 H locs ls _ rfl hW hS hv dX7_then_58
      · replace hv := hv.2 c_11
        exact h_j_X7_then_27 m_s m_laid m_errors m_named m_pile m_nearThen m_shownThen H locs ls hW hS (lv_sub hl [0] rfl) hv
set_option maxHeartbeats 4000000 in
set_option maxRecDepth 100000 in
theorem c_X7_isSettled (l : Launch) (G : Gt) (b : Nat → Nat) (m_images : Int32) (m_at_ : Int32) (m_open_ : Int32) (m_steps : Int32) (m_use_ : Int32) (m_traced : Int32) (m_speaks : Int32) (m_isParted : Int32) (m_s : Nat → Int32) (m_named : Nat → Int32) (m_pile : Nat → Int32) (m_nearThen : Nat → Int32) (m_shownThen : Nat → Int32) (K : Int32 → (Nat → Int32) → (Nat → Int32) → (Nat → Int32) → (Nat → Int32) → Prop) (hv : v_X7_isSettled m_s m_named m_pile m_nearThen m_shownThen K) : CI l G yX7_isSettled (.code yX7_isSettled cX7_isSettled 3 (some .boolean) :: wsG) (rmm 5 116) [.ref (b 0)] (wd_X7_10 G b m_images m_at_ m_open_ m_steps m_use_ m_traced m_speaks m_isParted m_s m_named m_pile m_nearThen m_shownThen) (S := (Nat → Int32) × (Nat → Int32) × (Nat → Int32) × (Nat → Int32)) (fun u => wd_X7_10 G b m_images m_at_ m_open_ m_steps m_use_ m_traced m_speaks m_isParted m_s u.1 u.2.1 u.2.2.1 u.2.2.2) (fun r u => (r = 0 ∨ r = 1) ∧ K r u.1 u.2.1 u.2.2.1 u.2.2.2) := by
  refine ci_intro (by decide) rfl (fun _ => rfl) (Nat.le_of_ble_eq_true rfl) ?_
  intro p e s m args below meth c A H ls Q C hW hS hl ret
  have hx := C.1.1
  have hb := C.1.2.1
  generalize hls : ([] : List Loc) = locs at hS ⊢
  have hl : lv_has ls 3 [(0, .ref (b 0))] := hl
  have h_j_X7_isSettled_57 : ∀ (B8 : Int32 → Int32 → (Nat → Int32) → (Nat → Int32) → (Nat → Int32) → (Nat → Int32) → Prop) (hB8 : ∀ (x1 : Int32) (x2 : Int32) (m_named : Nat → Int32) (m_pile : Nat → Int32) (m_nearThen : Nat → Int32) (m_shownThen : Nat → Int32) (H : Heap) (locs : List Loc) (ls : Array Slot), x1 = 0 ∨ x1 = 1 → wo G A (wd_X7_10 G b m_images m_at_ m_open_ m_steps m_use_ m_traced m_speaks m_isParted m_s m_named m_pile m_nearThen m_shownThen) H → va_S A s.heap H locs → lv_has ls 3 [(0, .ref (b 0)), (1, .int x1), (2, .int x2)] → B8 x1 x2 m_named m_pile m_nearThen m_shownThen → W p l e (rmm 5 116) s m args below meth c H locs 0 0 Q (F0 m 8 ls [])), ∀ (x2 : Int32) (t0 : Int32) (m_named : Nat → Int32) (m_pile : Nat → Int32) (m_nearThen : Nat → Int32) (m_shownThen : Nat → Int32) (H : Heap) (locs : List Loc) (ls : Array Slot), t0 = 0 ∨ t0 = 1 → wo G A (wd_X7_10 G b m_images m_at_ m_open_ m_steps m_use_ m_traced m_speaks m_isParted m_s m_named m_pile m_nearThen m_shownThen) H → va_S A s.heap H locs → lv_has ls 3 [(0, .ref (b 0)), (2, .int x2)] → j_X7_isSettled_57 m_s B8 K x2 t0 m_named m_pile m_nearThen m_shownThen → W p l e (rmm 5 116) s m args below meth c H locs 0 0 Q (F0 m 57 ls [.int t0]) := by
    intro B8 hB8 x2 t0 m_named m_pile m_nearThen m_shownThen H locs ls hz_t0 hW hS hl hv
    refine lv_istore_n (lv' := [(1, .int t0), (0, .ref (b 0)), (2, .int x2)]) hx hb dX7_isSettled_57 rfl hl (by decide) rfl (fun ls hl => ?_)
    refine lv_iinc (v := (x2 + 1)) (lv' := [(2, .int (x2 + 1)), (1, .int t0), (0, .ref (b 0))]) hx hb dX7_isSettled_58 hl (k := 2) rfl rfl (by decide) rfl (fun ls hl => ?_)
    refine lv_goto (tgt := 8) hx hb dX7_isSettled_61 (by decide) ?_
    exact hB8 t0 (x2 + 1) m_named m_pile m_nearThen m_shownThen H locs ls hz_t0 hW hS (lv_sub hl [2, 1, 0] rfl) hv
  have h_j_X7_isSettled_56 : ∀ (B8 : Int32 → Int32 → (Nat → Int32) → (Nat → Int32) → (Nat → Int32) → (Nat → Int32) → Prop) (hB8 : ∀ (x1 : Int32) (x2 : Int32) (m_named : Nat → Int32) (m_pile : Nat → Int32) (m_nearThen : Nat → Int32) (m_shownThen : Nat → Int32) (H : Heap) (locs : List Loc) (ls : Array Slot), x1 = 0 ∨ x1 = 1 → wo G A (wd_X7_10 G b m_images m_at_ m_open_ m_steps m_use_ m_traced m_speaks m_isParted m_s m_named m_pile m_nearThen m_shownThen) H → va_S A s.heap H locs → lv_has ls 3 [(0, .ref (b 0)), (1, .int x1), (2, .int x2)] → B8 x1 x2 m_named m_pile m_nearThen m_shownThen → W p l e (rmm 5 116) s m args below meth c H locs 0 0 Q (F0 m 8 ls [])), ∀ (x2 : Int32) (m_named : Nat → Int32) (m_pile : Nat → Int32) (m_nearThen : Nat → Int32) (m_shownThen : Nat → Int32) (H : Heap) (locs : List Loc) (ls : Array Slot), wo G A (wd_X7_10 G b m_images m_at_ m_open_ m_steps m_use_ m_traced m_speaks m_isParted m_s m_named m_pile m_nearThen m_shownThen) H → va_S A s.heap H locs → lv_has ls 3 [(0, .ref (b 0)), (2, .int x2)] → j_X7_isSettled_56 m_s B8 K x2 m_named m_pile m_nearThen m_shownThen → W p l e (rmm 5 116) s m args below meth c H locs 0 0 Q (F0 m 56 ls []) := by
    intro B8 hB8 x2 m_named m_pile m_nearThen m_shownThen H locs ls hW hS hl hv
    refine lv_iconst (v := 0) hx hb dX7_isSettled_56 kic_0 ?_
    exact h_j_X7_isSettled_57 B8 hB8 x2 (0 : Int32) m_named m_pile m_nearThen m_shownThen H locs ls (Or.inl rfl) hW hS (lv_sub hl [0, 1] rfl) hv
  have h_l_X7_isSettled_8 : ∀ (n : Nat), ∀ (x1 : Int32) (x2 : Int32) (m_named : Nat → Int32) (m_pile : Nat → Int32) (m_nearThen : Nat → Int32) (m_shownThen : Nat → Int32) (H : Heap) (locs : List Loc) (ls : Array Slot), x1 = 0 ∨ x1 = 1 → wo G A (wd_X7_10 G b m_images m_at_ m_open_ m_steps m_use_ m_traced m_speaks m_isParted m_s m_named m_pile m_nearThen m_shownThen) H → va_S A s.heap H locs → lv_has ls 3 [(0, .ref (b 0)), (1, .int x1), (2, .int x2)] → l_X7_isSettled_8 m_s K n x1 x2 m_named m_pile m_nearThen m_shownThen → W p l e (rmm 5 116) s m args below meth c H locs 0 0 Q (F0 m 8 ls []) := by
    intro n
    induction n with
    | zero =>
      intro x1 x2 m_named m_pile m_nearThen m_shownThen H locs ls hz_x1 hW hS hl hv
      exact False.elim hv
    | succ n ih =>
      intro x1 x2 m_named m_pile m_nearThen m_shownThen H locs ls hz_x1 hW hS hl hv
      refine lv_iload_n hx hb dX7_isSettled_8 rfl (lv_at hl 2 rfl) ?_
      refine lv_aload_n hx hb dX7_isSettled_9 rfl (lv_at hl 0 rfl) ?_
      refine q_get C kc7 hW 0 rfl 0 (by decide) fl_X7_7 rfl rfl dX7_isSettled_10 ?_
      refine lv_iconst (v := 4) hx hb dX7_isSettled_13 kic_4 ?_
      obtain ⟨h_3, hv⟩ := hv
      refine q_iald C hW 1 rfl h_3 dX7_isSettled_14 ?_
      refine lv_icmp_ge (tgt := 64) hx hb dX7_isSettled_15 (by decide) (fun c_4 => ?_) (fun c_4 => ?_)
      · replace hv := hv.1 c_4
        refine lv_iload_n hx hb dX7_isSettled_64 rfl (lv_at hl 1 rfl) ?_
        exact ret (m_named, m_pile, m_nearThen, m_shownThen) x1 H locs ls _ (bl_narrow hz_x1) hW hS ⟨hz_x1, hv⟩ dX7_isSettled_65
      · replace hv := hv.2 c_4
        refine lv_iload_n hx hb dX7_isSettled_18 rfl (lv_at hl 1 rfl) ?_
        refine lv_if_eq (tgt := 56) hx hb dX7_isSettled_19 (by decide) (fun c_5 => ?_) (fun c_5 => ?_)
        · replace hv := hv.1 c_5
          exact h_j_X7_isSettled_56 (fun x1' x2' m_named' m_pile' m_nearThen' m_shownThen' => l_X7_isSettled_8 m_s K n x1' x2' m_named' m_pile' m_nearThen' m_shownThen') ih x2 m_named m_pile m_nearThen m_shownThen H locs ls hW hS (lv_sub hl [0, 2] rfl) hv
        · replace hv := hv.2 c_5
          refine lv_aload_n hx hb dX7_isSettled_22 rfl (lv_at hl 0 rfl) ?_
          refine q_get C kc7 hW 0 rfl 12 (by decide) fl_X7_31 rfl rfl dX7_isSettled_23 ?_
          refine lv_iload_n hx hb dX7_isSettled_26 rfl (lv_at hl 2 rfl) ?_
          obtain ⟨h_6, hv⟩ := hv
          refine q_iald C hW 4 rfl h_6 dX7_isSettled_27 ?_
          refine lv_aload_n hx hb dX7_isSettled_28 rfl (lv_at hl 0 rfl) ?_
          refine lv_iload_n hx hb dX7_isSettled_29 rfl (lv_at hl 2 rfl) ?_
          refine lv_iconst (v := 2) hx hb dX7_isSettled_30 kic_2 ?_
          refine q_callV (rest := [.int (m_nearThen x2.toNatClampNeg)]) (n := 2) C (c_X7_its l G b m_images m_at_ m_open_ m_steps m_use_ m_traced m_speaks m_isParted m_s x2 (2 : Int32) _ hv) ml_X7_120 kb_X7_its rfl ⟨⟨rfl, rfl⟩, (Nat.le_of_ble_eq_true rfl), (Nat.le_of_ble_eq_true rfl)⟩ hW hS [0, 1] rfl rfl kc7 (q0 := 0) rfl hl.1 rfl (Nat.le_of_ble_eq_true rfl) dX7_isSettled_31 ⟨Nat.zero_le _, Nat.zero_le _⟩ (fun r_7 u_8 H locs hv hW hS => ?_)
          try dsimp only at hv
          refine lv_icmp_ne (tgt := 56) hx hb dX7_isSettled_34 (by decide) (fun c_9 => ?_) (fun c_9 => ?_)
          · replace hv := hv.1 c_9
            exact h_j_X7_isSettled_56 (fun x1' x2' m_named' m_pile' m_nearThen' m_shownThen' => l_X7_isSettled_8 m_s K n x1' x2' m_named' m_pile' m_nearThen' m_shownThen') ih x2 m_named m_pile m_nearThen m_shownThen H locs ls hW hS (lv_sub hl [0, 2] rfl) hv
          · replace hv := hv.2 c_9
            refine lv_aload_n hx hb dX7_isSettled_37 rfl (lv_at hl 0 rfl) ?_
            refine q_get C kc7 hW 0 rfl 13 (by decide) fl_X7_34 rfl rfl dX7_isSettled_38 ?_
            refine lv_iload_n hx hb dX7_isSettled_41 rfl (lv_at hl 2 rfl) ?_
            obtain ⟨h_10, hv⟩ := hv
            refine q_iald C hW 5 rfl h_10 dX7_isSettled_42 ?_
            refine lv_aload_n hx hb dX7_isSettled_43 rfl (lv_at hl 0 rfl) ?_
            refine lv_iload_n hx hb dX7_isSettled_44 rfl (lv_at hl 2 rfl) ?_
            refine lv_iconst (v := 3) hx hb dX7_isSettled_45 kic_3 ?_
            refine q_callV (rest := [.int (m_shownThen x2.toNatClampNeg)]) (n := 2) C (c_X7_its l G b m_images m_at_ m_open_ m_steps m_use_ m_traced m_speaks m_isParted m_s x2 (3 : Int32) _ hv) ml_X7_120 kb_X7_its rfl ⟨⟨rfl, rfl⟩, (Nat.le_of_ble_eq_true rfl), (Nat.le_of_ble_eq_true rfl)⟩ hW hS [0, 1] rfl rfl kc7 (q0 := 0) rfl hl.1 rfl (Nat.le_of_ble_eq_true rfl) dX7_isSettled_46 ⟨Nat.zero_le _, Nat.zero_le _⟩ (fun r_11 u_12 H locs hv hW hS => ?_)
            try dsimp only at hv
            refine lv_icmp_ne (tgt := 56) hx hb dX7_isSettled_49 (by decide) (fun c_13 => ?_) (fun c_13 => ?_)
            · replace hv := hv.1 c_13
              exact h_j_X7_isSettled_56 (fun x1' x2' m_named' m_pile' m_nearThen' m_shownThen' => l_X7_isSettled_8 m_s K n x1' x2' m_named' m_pile' m_nearThen' m_shownThen') ih x2 m_named m_pile m_nearThen m_shownThen H locs ls hW hS (lv_sub hl [0, 2] rfl) hv
            · replace hv := hv.2 c_13
              refine lv_iconst (v := 1) hx hb dX7_isSettled_52 kic_1 ?_
              refine lv_goto (tgt := 57) hx hb dX7_isSettled_53 (by decide) ?_
              exact h_j_X7_isSettled_57 (fun x1' x2' m_named' m_pile' m_nearThen' m_shownThen' => l_X7_isSettled_8 m_s K n x1' x2' m_named' m_pile' m_nearThen' m_shownThen') ih x2 (1 : Int32) m_named m_pile m_nearThen m_shownThen H locs ls (Or.inr rfl) hW hS (lv_sub hl [0, 2] rfl) hv
  refine lv_aload_n hx hb dX7_isSettled_0 rfl (lv_at hl 0 rfl) ?_
  refine q_callVv (rest := []) (n := 0) C (c_X7_findThen l G b m_images m_at_ m_open_ m_steps m_use_ m_traced m_speaks m_isParted m_s m_named m_pile m_nearThen m_shownThen _ hv) ml_X7_148 kb_X7_findThen rfl ⟨⟨rfl, rfl⟩, (Nat.le_of_ble_eq_true rfl), (Nat.le_of_ble_eq_true rfl)⟩ hW hS [0, 1, 2, 3, 4, 5] rfl rfl kc7 (q0 := 0) rfl hl.1 rfl (Nat.le_of_ble_eq_true rfl) dX7_isSettled_1 ⟨Nat.zero_le _, Nat.zero_le _⟩ (fun u_2 H locs hv hW hS => ?_)
  obtain ⟨m_named_1, m_pile_1, m_nearThen_1, m_shownThen_1⟩ := u_2
  try dsimp only at hv
  have hW : wo G A (wd_X7_10 G b m_images m_at_ m_open_ m_steps m_use_ m_traced m_speaks m_isParted m_s m_named_1 m_pile_1 m_nearThen_1 m_shownThen_1) H := hW
  refine lv_iconst (v := 1) hx hb dX7_isSettled_4 kic_1 ?_
  refine lv_istore_n (lv' := [(1, .int (1 : Int32)), (0, .ref (b 0))]) hx hb dX7_isSettled_5 rfl hl (by decide) rfl (fun ls hl => ?_)
  refine lv_iconst (v := 0) hx hb dX7_isSettled_6 kic_0 ?_
  refine lv_istore_n (lv' := [(2, .int (0 : Int32)), (1, .int (1 : Int32)), (0, .ref (b 0))]) hx hb dX7_isSettled_7 rfl hl (by decide) rfl (fun ls hl => ?_)
  obtain ⟨n_14, hv⟩ := hv
  exact h_l_X7_isSettled_8 n_14 (1 : Int32) (0 : Int32) m_named_1 m_pile_1 m_nearThen_1 m_shownThen_1 H locs ls (Or.inr rfl) hW hS (lv_sub hl [2, 1, 0] rfl) hv
set_option maxHeartbeats 4000000 in
set_option maxRecDepth 100000 in
theorem c_X7_settles (l : Launch) (G : Gt) (b : Nat → Nat) (m_images : Int32) (m_at_ : Int32) (m_open_ : Int32) (m_steps : Int32) (m_use_ : Int32) (m_traced : Int32) (m_speaks : Int32) (m_isParted : Int32) (m_s : Nat → Int32) (m_laid : Nat → Int32) (m_errors : Nat → Int32) (m_named : Nat → Int32) (m_pile : Nat → Int32) (m_nearThen : Nat → Int32) (m_shownThen : Nat → Int32) (K : Int32 → (Nat → Int32) → (Nat → Int32) → (Nat → Int32) → (Nat → Int32) → (Nat → Int32) → (Nat → Int32) → (Nat → Int32) → Prop) (hv : v_X7_settles m_s m_laid m_errors m_named m_pile m_nearThen m_shownThen K) : CI l G yX7_settles (.code yX7_settles cX7_settles 2 (some .int) :: wsG) (rmm 6 138) [.ref (b 0)] (wd_X7_13 G b m_images m_at_ m_open_ m_steps m_use_ m_traced m_speaks m_isParted m_s m_laid m_errors m_named m_pile m_nearThen m_shownThen) (S := (Nat → Int32) × (Nat → Int32) × (Nat → Int32) × (Nat → Int32) × (Nat → Int32) × (Nat → Int32) × (Nat → Int32)) (fun u => wd_X7_13 G b m_images m_at_ m_open_ m_steps m_use_ m_traced m_speaks m_isParted u.1 u.2.1 u.2.2.1 u.2.2.2.1 u.2.2.2.2.1 u.2.2.2.2.2.1 u.2.2.2.2.2.2) (fun r u => K r u.1 u.2.1 u.2.2.1 u.2.2.2.1 u.2.2.2.2.1 u.2.2.2.2.2.1 u.2.2.2.2.2.2) := by
  refine ci_intro (by decide) rfl (fun _ => rfl) (Nat.le_of_ble_eq_true rfl) ?_
  intro p e s m args below meth c A H ls Q C hW hS hl ret
  have hx := C.1.1
  have hb := C.1.2.1
  generalize hls : ([] : List Loc) = locs at hS ⊢
  have hl : lv_has ls 2 [(0, .ref (b 0))] := hl
  have h_j_X7_settles_29 : ∀ (x1 : Int32) (m_s : Nat → Int32) (m_laid : Nat → Int32) (m_errors : Nat → Int32) (m_named : Nat → Int32) (m_pile : Nat → Int32) (m_nearThen : Nat → Int32) (m_shownThen : Nat → Int32) (H : Heap) (locs : List Loc) (ls : Array Slot), wo G A (wd_X7_13 G b m_images m_at_ m_open_ m_steps m_use_ m_traced m_speaks m_isParted m_s m_laid m_errors m_named m_pile m_nearThen m_shownThen) H → va_S A s.heap H locs → lv_has ls 2 [(0, .ref (b 0)), (1, .int x1)] → j_X7_settles_29 K x1 m_s m_laid m_errors m_named m_pile m_nearThen m_shownThen → W p l e (rmm 6 138) s m args below meth c H locs 0 0 Q (F0 m 29 ls []) := by
    intro x1 m_s m_laid m_errors m_named m_pile m_nearThen m_shownThen H locs ls hW hS hl hv
    refine lv_aload_n hx hb dX7_settles_29 rfl (lv_at hl 0 rfl) ?_
    refine q_callVv (rest := []) (n := 0) C (c_X7_layBack l G b m_images m_at_ m_open_ m_steps m_use_ m_traced m_speaks m_isParted m_s m_laid _ hv) ml_X7_194 kb_X7_layBack rfl ⟨⟨rfl, rfl⟩, (Nat.le_of_ble_eq_true rfl), (Nat.le_of_ble_eq_true rfl)⟩ hW hS [0, 1, 2] rfl rfl kc7 (q0 := 0) rfl hl.1 rfl (Nat.le_of_ble_eq_true rfl) dX7_settles_30 ⟨Nat.zero_le _, Nat.zero_le _⟩ (fun u_5 H locs hv hW hS => ?_)
    obtain ⟨m_s_4, rfl⟩ : ∃ z, z = u_5 := ⟨_, rfl⟩
    try dsimp only at hv
    have hW : wo G A (wd_X7_13 G b m_images m_at_ m_open_ m_steps m_use_ m_traced m_speaks m_isParted m_s_4 m_laid m_errors m_named m_pile m_nearThen m_shownThen) H := hW
    refine lv_iload_n hx hb dX7_settles_33 rfl (lv_at hl 1 rfl) ?_
    refine lv_bipush (v := 100) hx hb dX7_settles_34 kbp_100 ?_
    refine lv_icmp_le (tgt := 47) hx hb dX7_settles_36 (by decide) (fun c_6 => ?_) (fun c_6 => ?_)
    · replace hv := hv.1 c_6
      refine lv_iload_n hx hb dX7_settles_47 rfl (lv_at hl 1 rfl) ?_
      exact ret (m_s_4, m_laid, m_errors, m_named, m_pile, m_nearThen, m_shownThen) x1 H locs ls _ rfl hW hS hv dX7_settles_48
    · replace hv := hv.2 c_6
      refine lv_aload_n hx hb dX7_settles_39 rfl (lv_at hl 0 rfl) ?_
      refine lv_iconst (v := 2) hx hb dX7_settles_40 kic_2 ?_
      refine q_callV (rest := []) (n := 1) C (c_X7_error l G b m_images m_at_ m_open_ m_steps m_use_ m_traced m_speaks m_isParted m_errors (2 : Int32) _ hv) ml_X7_61 kb_X7_error rfl ⟨⟨rfl, rfl⟩, (Nat.le_of_ble_eq_true rfl), (Nat.le_of_ble_eq_true rfl)⟩ hW hS [0, 3] rfl rfl kc7 (q0 := 0) rfl hl.1 rfl (Nat.le_of_ble_eq_true rfl) dX7_settles_41 ⟨Nat.zero_le _, Nat.zero_le _⟩ (fun r_7 u_8 H locs hv hW hS => ?_)
      obtain ⟨m_errors_7, rfl⟩ : ∃ z, z = u_8 := ⟨_, rfl⟩
      try dsimp only at hv
      have hW : wo G A (wd_X7_13 G b m_images m_at_ m_open_ m_steps m_use_ m_traced m_speaks m_isParted m_s_4 m_laid m_errors_7 m_named m_pile m_nearThen m_shownThen) H := hW
      refine lv_goto (tgt := 48) hx hb dX7_settles_44 (by decide) ?_
      exact ret (m_s_4, m_laid, m_errors_7, m_named, m_pile, m_nearThen, m_shownThen) r_7 H locs ls _ rfl hW hS hv dX7_settles_48
  have h_l_X7_settles_6 : ∀ (n : Nat), ∀ (x1 : Int32) (m_s : Nat → Int32) (m_laid : Nat → Int32) (m_errors : Nat → Int32) (m_named : Nat → Int32) (m_pile : Nat → Int32) (m_nearThen : Nat → Int32) (m_shownThen : Nat → Int32) (H : Heap) (locs : List Loc) (ls : Array Slot), wo G A (wd_X7_13 G b m_images m_at_ m_open_ m_steps m_use_ m_traced m_speaks m_isParted m_s m_laid m_errors m_named m_pile m_nearThen m_shownThen) H → va_S A s.heap H locs → lv_has ls 2 [(0, .ref (b 0)), (1, .int x1)] → l_X7_settles_6 K n x1 m_s m_laid m_errors m_named m_pile m_nearThen m_shownThen → W p l e (rmm 6 138) s m args below meth c H locs 0 0 Q (F0 m 6 ls []) := by
    intro n
    induction n with
    | zero =>
      intro x1 m_s m_laid m_errors m_named m_pile m_nearThen m_shownThen H locs ls hW hS hl hv
      exact False.elim hv
    | succ n ih =>
      intro x1 m_s m_laid m_errors m_named m_pile m_nearThen m_shownThen H locs ls hW hS hl hv
      refine lv_iload_n hx hb dX7_settles_6 rfl (lv_at hl 1 rfl) ?_
      refine lv_bipush (v := 100) hx hb dX7_settles_7 kbp_100 ?_
      refine lv_icmp_gt (tgt := 29) hx hb dX7_settles_9 (by decide) (fun c_3 => ?_) (fun c_3 => ?_)
      · replace hv := hv.1 c_3
        exact h_j_X7_settles_29 x1 m_s m_laid m_errors m_named m_pile m_nearThen m_shownThen H locs ls hW hS (lv_sub hl [0, 1] rfl) hv
      · replace hv := hv.2 c_3
        refine lv_aload_n hx hb dX7_settles_12 rfl (lv_at hl 0 rfl) ?_
        refine q_callV (rest := []) (n := 0) C (c_X7_isSettled l G b m_images m_at_ m_open_ m_steps m_use_ m_traced m_speaks m_isParted m_s m_named m_pile m_nearThen m_shownThen _ hv) ml_X7_197 kb_X7_isSettled rfl ⟨⟨rfl, rfl⟩, (Nat.le_of_ble_eq_true rfl), (Nat.le_of_ble_eq_true rfl)⟩ hW hS [0, 1, 4, 5, 6, 7] rfl rfl kc7 (q0 := 0) rfl hl.1 rfl (Nat.le_of_ble_eq_true rfl) dX7_settles_13 ⟨Nat.zero_le _, Nat.zero_le _⟩ (fun r_9 u_10 H locs hv hW hS => ?_)
        obtain ⟨m_named_9, m_pile_9, m_nearThen_9, m_shownThen_9⟩ := u_10
        obtain ⟨hv_b_9, hv⟩ := hv
        try dsimp only at hv
        have hW : wo G A (wd_X7_13 G b m_images m_at_ m_open_ m_steps m_use_ m_traced m_speaks m_isParted m_s m_laid m_errors m_named_9 m_pile_9 m_nearThen_9 m_shownThen_9) H := hW
        refine lv_if_ne (tgt := 29) hx hb dX7_settles_16 (by decide) (fun c_11 => ?_) (fun c_11 => ?_)
        · replace hv := hv.1 c_11
          exact h_j_X7_settles_29 x1 m_s m_laid m_errors m_named_9 m_pile_9 m_nearThen_9 m_shownThen_9 H locs ls hW hS (lv_sub hl [0, 1] rfl) hv
        · replace hv := hv.2 c_11
          refine lv_aload_n hx hb dX7_settles_19 rfl (lv_at hl 0 rfl) ?_
          refine q_callVv (rest := []) (n := 0) C (c_X7_aDay l G b m_images m_at_ m_open_ m_steps m_use_ m_traced m_speaks m_isParted m_s m_named_9 m_pile_9 m_nearThen_9 m_shownThen_9 _ hv) ml_X7_155 kb_X7_aDay rfl ⟨⟨rfl, rfl⟩, (Nat.le_of_ble_eq_true rfl), (Nat.le_of_ble_eq_true rfl)⟩ hW hS [0, 1, 4, 5, 6, 7] rfl rfl kc7 (q0 := 0) rfl hl.1 rfl (Nat.le_of_ble_eq_true rfl) dX7_settles_20 ⟨Nat.zero_le _, Nat.zero_le _⟩ (fun u_13 H locs hv hW hS => ?_)
          obtain ⟨m_s_12, m_named_12, m_pile_12, m_nearThen_12, m_shownThen_12⟩ := u_13
          try dsimp only at hv
          have hW : wo G A (wd_X7_13 G b m_images m_at_ m_open_ m_steps m_use_ m_traced m_speaks m_isParted m_s_12 m_laid m_errors m_named_12 m_pile_12 m_nearThen_12 m_shownThen_12) H := hW
          refine lv_iinc (v := (x1 + 1)) (lv' := [(1, .int (x1 + 1)), (0, .ref (b 0))]) hx hb dX7_settles_23 hl (k := 1) rfl rfl (by decide) rfl (fun ls hl => ?_)
          refine lv_goto (tgt := 6) hx hb dX7_settles_26 (by decide) ?_
          exact ih (x1 + 1) m_s_12 m_laid m_errors m_named_12 m_pile_12 m_nearThen_12 m_shownThen_12 H locs ls hW hS (lv_sub hl [1, 0] rfl) hv
  refine lv_aload_n hx hb dX7_settles_0 rfl (lv_at hl 0 rfl) ?_
  refine q_callVv (rest := []) (n := 0) C (c_X7_layDown l G b m_images m_at_ m_open_ m_steps m_use_ m_traced m_speaks m_isParted m_s m_laid _ hv) ml_X7_191 kb_X7_layDown rfl ⟨⟨rfl, rfl⟩, (Nat.le_of_ble_eq_true rfl), (Nat.le_of_ble_eq_true rfl)⟩ hW hS [0, 1, 2] rfl rfl kc7 (q0 := 0) rfl hl.1 rfl (Nat.le_of_ble_eq_true rfl) dX7_settles_1 ⟨Nat.zero_le _, Nat.zero_le _⟩ (fun u_2 H locs hv hW hS => ?_)
  obtain ⟨m_laid_1, rfl⟩ : ∃ z, z = u_2 := ⟨_, rfl⟩
  try dsimp only at hv
  have hW : wo G A (wd_X7_13 G b m_images m_at_ m_open_ m_steps m_use_ m_traced m_speaks m_isParted m_s m_laid_1 m_errors m_named m_pile m_nearThen m_shownThen) H := hW
  refine lv_iconst (v := 0) hx hb dX7_settles_4 kic_0 ?_
  refine lv_istore_n (lv' := [(1, .int (0 : Int32)), (0, .ref (b 0))]) hx hb dX7_settles_5 rfl hl (by decide) rfl (fun ls hl => ?_)
  obtain ⟨n_14, hv⟩ := hv
  exact h_l_X7_settles_6 n_14 (0 : Int32) m_s m_laid_1 m_errors m_named m_pile m_nearThen m_shownThen H locs ls hW hS (lv_sub hl [1, 0] rfl) hv
