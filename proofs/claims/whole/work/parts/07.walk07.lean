set_option maxHeartbeats 4000000 in
set_option maxRecDepth 100000 in
theorem c_X7_rank (l : Launch) (G : Gt) (b : Nat → Nat) (m_images : Int32) (m_at_ : Int32) (m_open_ : Int32) (m_steps : Int32) (m_use_ : Int32) (m_traced : Int32) (m_speaks : Int32) (m_isParted : Int32) (m_s : Nat → Int32) (m_errors : Nat → Int32) (p1 : Int32) (K : Int32 → (Nat → Int32) → Prop) (hv : v_X7_rank p1 m_s m_errors K) : CI l G yX7_rank (.code yX7_rank cX7_rank 4 (some .int) :: wsG) (rmm 2 43) [.ref (b 0), .int p1] (wd_X7_4 G b m_images m_at_ m_open_ m_steps m_use_ m_traced m_speaks m_isParted m_s m_errors) (S := (Nat → Int32)) (fun u => wd_X7_4 G b m_images m_at_ m_open_ m_steps m_use_ m_traced m_speaks m_isParted m_s u) (fun r u => K r u) := by
  refine ci_intro (by decide) rfl (fun _ => rfl) (Nat.le_of_ble_eq_true rfl) ?_
  intro p e s m args below meth c A H ls Q C hW hS hl ret
  have hx := C.1.1
  have hb := C.1.2.1
  generalize hls : ([] : List Loc) = locs at hS ⊢
  have hl : lv_has ls 4 [(0, .ref (b 0)), (1, .int p1)] := hl
  have h_j_X7_rank_49 : ∀ (B18 : Int32 → Int32 → (Nat → Int32) → Prop) (hB18 : ∀ (x2 : Int32) (x3 : Int32) (m_errors : Nat → Int32) (H : Heap) (locs : List Loc) (ls : Array Slot), wo G A (wd_X7_4 G b m_images m_at_ m_open_ m_steps m_use_ m_traced m_speaks m_isParted m_s m_errors) H → va_S A s.heap H locs → lv_has ls 4 [(0, .ref (b 0)), (1, .int p1), (2, .int x2), (3, .int x3)] → B18 x2 x3 m_errors → W p l e (rmm 2 43) s m args below meth c H locs 0 0 Q (F0 m 18 ls [])), ∀ (x3 : Int32) (t0 : Int32) (t1 : Int32) (m_errors : Nat → Int32) (H : Heap) (locs : List Loc) (ls : Array Slot), t1 = 0 ∨ t1 = 1 → wo G A (wd_X7_4 G b m_images m_at_ m_open_ m_steps m_use_ m_traced m_speaks m_isParted m_s m_errors) H → va_S A s.heap H locs → lv_has ls 4 [(0, .ref (b 0)), (1, .int p1), (3, .int x3)] → j_X7_rank_49 p1 m_s B18 K x3 t0 t1 m_errors → W p l e (rmm 2 43) s m args below meth c H locs 0 0 Q (F0 m 49 ls [.int t1, .int t0]) := by
    intro B18 hB18 x3 t0 t1 m_errors H locs ls hz_t1 hW hS hl hv
    refine lv_iadd hx hb dX7_rank_49 ?_
    refine lv_istore_n (lv' := [(2, .int (t0 + t1)), (0, .ref (b 0)), (1, .int p1), (3, .int x3)]) hx hb dX7_rank_50 rfl hl (by decide) rfl (fun ls hl => ?_)
    refine lv_iinc (v := (x3 + 1)) (lv' := [(3, .int (x3 + 1)), (2, .int (t0 + t1)), (0, .ref (b 0)), (1, .int p1)]) hx hb dX7_rank_51 hl (k := 3) rfl rfl (by decide) rfl (fun ls hl => ?_)
    refine lv_goto (tgt := 18) hx hb dX7_rank_54 (by decide) ?_
    exact hB18 (t0 + t1) (x3 + 1) m_errors H locs ls hW hS (lv_sub hl [2, 3, 1, 0] rfl) hv
  have h_l_X7_rank_18 : ∀ (n : Nat), ∀ (x2 : Int32) (x3 : Int32) (m_errors : Nat → Int32) (H : Heap) (locs : List Loc) (ls : Array Slot), wo G A (wd_X7_4 G b m_images m_at_ m_open_ m_steps m_use_ m_traced m_speaks m_isParted m_s m_errors) H → va_S A s.heap H locs → lv_has ls 4 [(0, .ref (b 0)), (1, .int p1), (2, .int x2), (3, .int x3)] → l_X7_rank_18 p1 m_s K n x2 x3 m_errors → W p l e (rmm 2 43) s m args below meth c H locs 0 0 Q (F0 m 18 ls []) := by
    intro n
    induction n with
    | zero =>
      intro x2 x3 m_errors H locs ls hW hS hl hv
      exact False.elim hv
    | succ n ih =>
      intro x2 x3 m_errors H locs ls hW hS hl hv
      refine lv_iload_n hx hb dX7_rank_18 rfl (lv_at hl 3 rfl) ?_
      refine lv_aload_n hx hb dX7_rank_19 rfl (lv_at hl 0 rfl) ?_
      refine q_get C kc7 hW 0 rfl 0 (by decide) fl_X7_7 rfl rfl dX7_rank_20 ?_
      refine lv_iconst (v := 4) hx hb dX7_rank_23 kic_4 ?_
      obtain ⟨h_4, hv⟩ := hv
      refine q_iald C hW 1 rfl h_4 dX7_rank_24 ?_
      refine lv_icmp_ge (tgt := 57) hx hb dX7_rank_25 (by decide) (fun c_5 => ?_) (fun c_5 => ?_)
      · replace hv := hv.1 c_5
        refine lv_iload_n hx hb dX7_rank_57 rfl (lv_at hl 2 rfl) ?_
        exact ret (m_errors) x2 H locs ls _ rfl hW hS hv dX7_rank_58
      · replace hv := hv.2 c_5
        refine lv_iload_n hx hb dX7_rank_28 rfl (lv_at hl 2 rfl) ?_
        refine lv_aload_n hx hb dX7_rank_29 rfl (lv_at hl 0 rfl) ?_
        refine lv_iload_n hx hb dX7_rank_30 rfl (lv_at hl 3 rfl) ?_
        refine lv_iconst (v := 2) hx hb dX7_rank_31 kic_2 ?_
        refine q_callV (rest := [.int x2]) (n := 2) C (c_X7_its l G b m_images m_at_ m_open_ m_steps m_use_ m_traced m_speaks m_isParted m_s x3 (2 : Int32) _ hv) ml_X7_120 kb_X7_its rfl ⟨⟨rfl, rfl⟩, (Nat.le_of_ble_eq_true rfl), (Nat.le_of_ble_eq_true rfl)⟩ hW hS [0, 1] rfl rfl kc7 (q0 := 0) rfl hl.1 rfl (Nat.le_of_ble_eq_true rfl) dX7_rank_32 ⟨Nat.zero_le _, Nat.zero_le _⟩ (fun r_6 u_7 H locs hv hW hS => ?_)
        try dsimp only at hv
        refine lv_aload_n hx hb dX7_rank_35 rfl (lv_at hl 0 rfl) ?_
        refine lv_iload_n hx hb dX7_rank_36 rfl (lv_at hl 1 rfl) ?_
        refine lv_iconst (v := 2) hx hb dX7_rank_37 kic_2 ?_
        refine q_callV (rest := [.int r_6, .int x2]) (n := 2) C (c_X7_its l G b m_images m_at_ m_open_ m_steps m_use_ m_traced m_speaks m_isParted m_s p1 (2 : Int32) _ hv) ml_X7_120 kb_X7_its rfl ⟨⟨rfl, rfl⟩, (Nat.le_of_ble_eq_true rfl), (Nat.le_of_ble_eq_true rfl)⟩ hW hS [0, 1] rfl rfl kc7 (q0 := 0) rfl hl.1 rfl (Nat.le_of_ble_eq_true rfl) dX7_rank_38 ⟨Nat.zero_le _, Nat.zero_le _⟩ (fun r_8 u_9 H locs hv hW hS => ?_)
        try dsimp only at hv
        refine lv_icmp_le (tgt := 48) hx hb dX7_rank_41 (by decide) (fun c_10 => ?_) (fun c_10 => ?_)
        · replace hv := hv.1 c_10
          refine lv_iconst (v := 0) hx hb dX7_rank_48 kic_0 ?_
          exact h_j_X7_rank_49 (fun x2' x3' m_errors' => l_X7_rank_18 p1 m_s K n x2' x3' m_errors') ih x3 x2 (0 : Int32) m_errors H locs ls (Or.inl rfl) hW hS (lv_sub hl [0, 1, 3] rfl) hv
        · replace hv := hv.2 c_10
          refine lv_iconst (v := 1) hx hb dX7_rank_44 kic_1 ?_
          refine lv_goto (tgt := 49) hx hb dX7_rank_45 (by decide) ?_
          exact h_j_X7_rank_49 (fun x2' x3' m_errors' => l_X7_rank_18 p1 m_s K n x2' x3' m_errors') ih x3 x2 (1 : Int32) m_errors H locs ls (Or.inr rfl) hW hS (lv_sub hl [0, 1, 3] rfl) hv
  refine lv_aload_n hx hb dX7_rank_0 rfl (lv_at hl 0 rfl) ?_
  refine lv_iload_n hx hb dX7_rank_1 rfl (lv_at hl 1 rfl) ?_
  refine q_callV (rest := []) (n := 1) C (c_X7_isPerson l G b m_images m_at_ m_open_ m_steps m_use_ m_traced m_speaks m_isParted m_s p1 _ hv) ml_X7_57 kb_X7_isPerson rfl ⟨⟨rfl, rfl⟩, (Nat.le_of_ble_eq_true rfl), (Nat.le_of_ble_eq_true rfl)⟩ hW hS [0, 1] rfl rfl kc7 (q0 := 0) rfl hl.1 rfl (Nat.le_of_ble_eq_true rfl) dX7_rank_2 ⟨Nat.zero_le _, Nat.zero_le _⟩ (fun r_1 u_2 H locs hv hW hS => ?_)
  obtain ⟨hv_b_1, hv⟩ := hv
  try dsimp only at hv
  refine lv_if_ne (tgt := 14) hx hb dX7_rank_5 (by decide) (fun c_3 => ?_) (fun c_3 => ?_)
  · replace hv := hv.1 c_3
    refine lv_iconst (v := 0) hx hb dX7_rank_14 kic_0 ?_
    refine lv_istore_n (lv' := [(2, .int (0 : Int32)), (0, .ref (b 0)), (1, .int p1)]) hx hb dX7_rank_15 rfl hl (by decide) rfl (fun ls hl => ?_)
    refine lv_iconst (v := 0) hx hb dX7_rank_16 kic_0 ?_
    refine lv_istore_n (lv' := [(3, .int (0 : Int32)), (2, .int (0 : Int32)), (0, .ref (b 0)), (1, .int p1)]) hx hb dX7_rank_17 rfl hl (by decide) rfl (fun ls hl => ?_)
    obtain ⟨n_11, hv⟩ := hv
    exact h_l_X7_rank_18 n_11 (0 : Int32) (0 : Int32) m_errors H locs ls hW hS (lv_sub hl [2, 3, 1, 0] rfl) hv
  · replace hv := hv.2 c_3
    refine lv_aload_n hx hb dX7_rank_8 rfl (lv_at hl 0 rfl) ?_
    refine lv_iconst (v := 1) hx hb dX7_rank_9 kic_1 ?_
    refine q_callV (rest := []) (n := 1) C (c_X7_error l G b m_images m_at_ m_open_ m_steps m_use_ m_traced m_speaks m_isParted m_errors (1 : Int32) _ hv) ml_X7_61 kb_X7_error rfl ⟨⟨rfl, rfl⟩, (Nat.le_of_ble_eq_true rfl), (Nat.le_of_ble_eq_true rfl)⟩ hW hS [0, 2] rfl rfl kc7 (q0 := 0) rfl hl.1 rfl (Nat.le_of_ble_eq_true rfl) dX7_rank_10 ⟨Nat.zero_le _, Nat.zero_le _⟩ (fun r_12 u_13 H locs hv hW hS => ?_)
    obtain ⟨m_errors_12, rfl⟩ : ∃ z, z = u_13 := ⟨_, rfl⟩
    try dsimp only at hv
    have hW : wo G A (wd_X7_4 G b m_images m_at_ m_open_ m_steps m_use_ m_traced m_speaks m_isParted m_s m_errors_12) H := hW
    exact ret (m_errors_12) r_12 H locs ls _ rfl hW hS hv dX7_rank_13
set_option maxHeartbeats 4000000 in
set_option maxRecDepth 100000 in
theorem c_X7_manyIn (l : Launch) (G : Gt) (p1 : Int32) (K : Int32 → Prop) (hv : v_X7_manyIn p1 K) : CI l G yX7_manyIn (.code yX7_manyIn cX7_manyIn 3 (some .int) :: wsG) (rmm 0 0) [.int p1] [] (S := Unit) (fun _ => []) (fun r u => K r) := by
  refine ci_intro (by decide) rfl (fun _ => rfl) (Nat.le_of_ble_eq_true rfl) ?_
  intro p e s m args below meth c A H ls Q C hW hS hl ret
  have hx := C.1.1
  have hb := C.1.2.1
  generalize hls : ([] : List Loc) = locs at hS ⊢
  have hl : lv_has ls 3 [(0, .int p1)] := hl
  have h_l_X7_manyIn_4 : ∀ (n : Nat), ∀ (x1 : Int32) (x2 : Int32) (H : Heap) (locs : List Loc) (ls : Array Slot), wo G A (wd_J1_0 G) H → va_S A s.heap H locs → lv_has ls 3 [(0, .int p1), (1, .int x1), (2, .int x2)] → l_X7_manyIn_4 p1 K n x1 x2 → W p l e (rmm 0 0) s m args below meth c H locs 0 0 Q (F0 m 4 ls []) := by
    intro n
    induction n with
    | zero =>
      intro x1 x2 H locs ls hW hS hl hv
      exact False.elim hv
    | succ n ih =>
      intro x1 x2 H locs ls hW hS hl hv
      refine lv_iload_n hx hb dX7_manyIn_4 rfl (lv_at hl 2 rfl) ?_
      refine lv_bipush (v := 8) hx hb dX7_manyIn_5 kbp_8 ?_
      refine lv_icmp_ge (tgt := 24) hx hb dX7_manyIn_7 (by decide) (fun c_1 => ?_) (fun c_1 => ?_)
      · replace hv := hv.1 c_1
        refine lv_iload_n hx hb dX7_manyIn_24 rfl (lv_at hl 1 rfl) ?_
        exact ret () x1 H locs ls _ rfl hW hS hv dX7_manyIn_25
      · replace hv := hv.2 c_1
        refine lv_iload_n hx hb dX7_manyIn_10 rfl (lv_at hl 1 rfl) ?_
        refine lv_iload_n hx hb dX7_manyIn_11 rfl (lv_at hl 0 rfl) ?_
        refine lv_iload_n hx hb dX7_manyIn_12 rfl (lv_at hl 2 rfl) ?_
        refine lv_ishr hx hb dX7_manyIn_13 ?_
        refine lv_iconst (v := 1) hx hb dX7_manyIn_14 kic_1 ?_
        refine lv_iand hx hb dX7_manyIn_15 ?_
        refine lv_iadd hx hb dX7_manyIn_16 ?_
        refine lv_istore_n (lv' := [(1, .int (x1 + ((p1 >>> (x2 &&& 31)) &&& (1 : Int32)))), (0, .int p1), (2, .int x2)]) hx hb dX7_manyIn_17 rfl hl (by decide) rfl (fun ls hl => ?_)
        refine lv_iinc (v := (x2 + 1)) (lv' := [(2, .int (x2 + 1)), (1, .int (x1 + ((p1 >>> (x2 &&& 31)) &&& (1 : Int32)))), (0, .int p1)]) hx hb dX7_manyIn_18 hl (k := 2) rfl rfl (by decide) rfl (fun ls hl => ?_)
        refine lv_goto (tgt := 4) hx hb dX7_manyIn_21 (by decide) ?_
        exact ih (x1 + ((p1 >>> (x2 &&& 31)) &&& (1 : Int32))) (x2 + 1) H locs ls hW hS (lv_sub hl [2, 1, 0] rfl) hv
  refine lv_iconst (v := 0) hx hb dX7_manyIn_0 kic_0 ?_
  refine lv_istore_n (lv' := [(1, .int (0 : Int32)), (0, .int p1)]) hx hb dX7_manyIn_1 rfl hl (by decide) rfl (fun ls hl => ?_)
  refine lv_iconst (v := 0) hx hb dX7_manyIn_2 kic_0 ?_
  refine lv_istore_n (lv' := [(2, .int (0 : Int32)), (1, .int (0 : Int32)), (0, .int p1)]) hx hb dX7_manyIn_3 rfl hl (by decide) rfl (fun ls hl => ?_)
  obtain ⟨n_2, hv⟩ := hv
  exact h_l_X7_manyIn_4 n_2 (0 : Int32) (0 : Int32) H locs ls hW hS (lv_sub hl [2, 1, 0] rfl) hv
set_option maxHeartbeats 4000000 in
set_option maxRecDepth 100000 in
theorem c_X7_doesLead (l : Launch) (G : Gt) (b : Nat → Nat) (m_images : Int32) (m_at_ : Int32) (m_open_ : Int32) (m_steps : Int32) (m_use_ : Int32) (m_traced : Int32) (m_speaks : Int32) (m_isParted : Int32) (m_s : Nat → Int32) (m_laid : Nat → Int32) (m_named : Nat → Int32) (m_pile : Nat → Int32) (m_nearThen : Nat → Int32) (m_shownThen : Nat → Int32) (p1 : Int32) (p2 : Int32) (p3 : Int32) (p4 : Int32) (K : Int32 → (Nat → Int32) → (Nat → Int32) → (Nat → Int32) → (Nat → Int32) → (Nat → Int32) → (Nat → Int32) → Prop) (hv : v_X7_doesLead p1 p2 p3 p4 m_s m_laid m_named m_pile m_nearThen m_shownThen K) : CI l G yX7_doesLead (.code yX7_doesLead cX7_doesLead 6 (some .boolean) :: wsG) (rmm 7 159) [.ref (b 0), .int p1, .int p2, .int p3, .int p4] (wd_X7_14 G b m_images m_at_ m_open_ m_steps m_use_ m_traced m_speaks m_isParted m_s m_laid m_named m_pile m_nearThen m_shownThen) (S := (Nat → Int32) × (Nat → Int32) × (Nat → Int32) × (Nat → Int32) × (Nat → Int32) × (Nat → Int32)) (fun u => wd_X7_14 G b m_images m_at_ m_open_ m_steps m_use_ m_traced m_speaks m_isParted u.1 u.2.1 u.2.2.1 u.2.2.2.1 u.2.2.2.2.1 u.2.2.2.2.2) (fun r u => (r = 0 ∨ r = 1) ∧ K r u.1 u.2.1 u.2.2.1 u.2.2.2.1 u.2.2.2.2.1 u.2.2.2.2.2) := by
  refine ci_intro (by decide) rfl (fun _ => rfl) (Nat.le_of_ble_eq_true rfl) ?_
  intro p e s m args below meth c A H ls Q C hW hS hl ret
  have hx := C.1.1
  have hb := C.1.2.1
  generalize hls : ([] : List Loc) = locs at hS ⊢
  have hl : lv_has ls 6 [(0, .ref (b 0)), (1, .int p1), (2, .int p2), (3, .int p3), (4, .int p4)] := hl
  have h_j_X7_doesLead_71 : ∀ (t0 : Int32) (m_s : Nat → Int32) (m_laid : Nat → Int32) (m_named : Nat → Int32) (m_pile : Nat → Int32) (m_nearThen : Nat → Int32) (m_shownThen : Nat → Int32) (H : Heap) (locs : List Loc) (ls : Array Slot), t0 = 0 ∨ t0 = 1 → wo G A (wd_X7_14 G b m_images m_at_ m_open_ m_steps m_use_ m_traced m_speaks m_isParted m_s m_laid m_named m_pile m_nearThen m_shownThen) H → va_S A s.heap H locs → lv_has ls 6 [(0, .ref (b 0))] → j_X7_doesLead_71 p1 p2 p3 p4 K t0 m_s m_laid m_named m_pile m_nearThen m_shownThen → W p l e (rmm 7 159) s m args below meth c H locs 0 0 Q (F0 m 71 ls [.int t0]) := by
    intro t0 m_s m_laid m_named m_pile m_nearThen m_shownThen H locs ls hz_t0 hW hS hl hv
    refine lv_istore (lv' := [(5, .int t0), (0, .ref (b 0))]) hx hb dX7_doesLead_71 hl (by decide) rfl (fun ls hl => ?_)
    refine lv_aload_n hx hb dX7_doesLead_73 rfl (lv_at hl 1 rfl) ?_
    refine q_callVv (rest := []) (n := 0) C (c_X7_layBack l G b m_images m_at_ m_open_ m_steps m_use_ m_traced m_speaks m_isParted m_s m_laid _ hv) ml_X7_194 kb_X7_layBack rfl ⟨⟨rfl, rfl⟩, (Nat.le_of_ble_eq_true rfl), (Nat.le_of_ble_eq_true rfl)⟩ hW hS [0, 1, 2] rfl rfl kc7 (q0 := 0) rfl hl.1 rfl (Nat.le_of_ble_eq_true rfl) dX7_doesLead_74 ⟨Nat.zero_le _, Nat.zero_le _⟩ (fun u_11 H locs hv hW hS => ?_)
    obtain ⟨m_s_10, rfl⟩ : ∃ z, z = u_11 := ⟨_, rfl⟩
    try dsimp only at hv
    have hW : wo G A (wd_X7_14 G b m_images m_at_ m_open_ m_steps m_use_ m_traced m_speaks m_isParted m_s_10 m_laid m_named m_pile m_nearThen m_shownThen) H := hW
    refine lv_iload hx hb dX7_doesLead_77 (lv_at hl 0 rfl) ?_
    exact ret (m_s_10, m_laid, m_named, m_pile, m_nearThen, m_shownThen) t0 H locs ls _ (bl_narrow hz_t0) hW hS ⟨hz_t0, hv⟩ dX7_doesLead_79
  have h_j_X7_doesLead_44 : ∀ (B7 : Int32 → (Nat → Int32) → (Nat → Int32) → (Nat → Int32) → (Nat → Int32) → (Nat → Int32) → (Nat → Int32) → Prop) (hB7 : ∀ (x5 : Int32) (m_s : Nat → Int32) (m_laid : Nat → Int32) (m_named : Nat → Int32) (m_pile : Nat → Int32) (m_nearThen : Nat → Int32) (m_shownThen : Nat → Int32) (H : Heap) (locs : List Loc) (ls : Array Slot), wo G A (wd_X7_14 G b m_images m_at_ m_open_ m_steps m_use_ m_traced m_speaks m_isParted m_s m_laid m_named m_pile m_nearThen m_shownThen) H → va_S A s.heap H locs → lv_has ls 6 [(0, .ref (b 0)), (1, .int p1), (2, .int p2), (3, .int p3), (4, .int p4), (5, .int x5)] → B7 x5 m_s m_laid m_named m_pile m_nearThen m_shownThen → W p l e (rmm 7 159) s m args below meth c H locs 0 0 Q (F0 m 7 ls [])), ∀ (x5 : Int32) (t1 : Int32) (t2 : Int32) (t3 : Int32) (m_s : Nat → Int32) (m_laid : Nat → Int32) (m_named : Nat → Int32) (m_pile : Nat → Int32) (m_nearThen : Nat → Int32) (m_shownThen : Nat → Int32) (H : Heap) (locs : List Loc) (ls : Array Slot), wo G A (wd_X7_14 G b m_images m_at_ m_open_ m_steps m_use_ m_traced m_speaks m_isParted m_s m_laid m_named m_pile m_nearThen m_shownThen) H → va_S A s.heap H locs → lv_has ls 6 [(0, .ref (b 0)), (1, .int p1), (2, .int p2), (3, .int p3), (4, .int p4), (5, .int x5)] → j_X7_doesLead_44 p1 p2 p3 p4 B7 K x5 t1 t2 t3 m_s m_laid m_named m_pile m_nearThen m_shownThen → W p l e (rmm 7 159) s m args below meth c H locs 0 0 Q (F0 m 44 ls [.int t3, .int t2, .int t1, .ref (b 0)]) := by
    intro B7 hB7 x5 t1 t2 t3 m_s m_laid m_named m_pile m_nearThen m_shownThen H locs ls hW hS hl hv
    refine q_callVv (rest := []) (n := 3) C (c_X7_lays1 l G b m_images m_at_ m_open_ m_steps m_use_ m_traced m_speaks m_isParted m_s t1 t2 t3 _ hv) ml_X7_151 kb_X7_lays1 rfl ⟨⟨rfl, rfl⟩, (Nat.le_of_ble_eq_true rfl), (Nat.le_of_ble_eq_true rfl)⟩ hW hS [0, 1] rfl rfl kc7 (q0 := 0) rfl hl.1 rfl (Nat.le_of_ble_eq_true rfl) dX7_doesLead_44 ⟨Nat.zero_le _, Nat.zero_le _⟩ (fun u_16 H locs hv hW hS => ?_)
    obtain ⟨m_s_15, rfl⟩ : ∃ z, z = u_16 := ⟨_, rfl⟩
    try dsimp only at hv
    have hW : wo G A (wd_X7_14 G b m_images m_at_ m_open_ m_steps m_use_ m_traced m_speaks m_isParted m_s_15 m_laid m_named m_pile m_nearThen m_shownThen) H := hW
    refine lv_iinc (v := (x5 + 1)) (lv' := [(5, .int (x5 + 1)), (0, .ref (b 0)), (1, .int p1), (2, .int p2), (3, .int p3), (4, .int p4)]) hx hb dX7_doesLead_47 hl (k := 5) rfl rfl (by decide) rfl (fun ls hl => ?_)
    refine lv_goto (tgt := 7) hx hb dX7_doesLead_50 (by decide) ?_
    exact hB7 (x5 + 1) m_s_15 m_laid m_named m_pile m_nearThen m_shownThen H locs ls hW hS (lv_sub hl [1, 2, 3, 4, 5, 0] rfl) hv
  have h_l_X7_doesLead_7 : ∀ (n : Nat), ∀ (x5 : Int32) (m_s : Nat → Int32) (m_laid : Nat → Int32) (m_named : Nat → Int32) (m_pile : Nat → Int32) (m_nearThen : Nat → Int32) (m_shownThen : Nat → Int32) (H : Heap) (locs : List Loc) (ls : Array Slot), wo G A (wd_X7_14 G b m_images m_at_ m_open_ m_steps m_use_ m_traced m_speaks m_isParted m_s m_laid m_named m_pile m_nearThen m_shownThen) H → va_S A s.heap H locs → lv_has ls 6 [(0, .ref (b 0)), (1, .int p1), (2, .int p2), (3, .int p3), (4, .int p4), (5, .int x5)] → l_X7_doesLead_7 p1 p2 p3 p4 K n x5 m_s m_laid m_named m_pile m_nearThen m_shownThen → W p l e (rmm 7 159) s m args below meth c H locs 0 0 Q (F0 m 7 ls []) := by
    intro n
    induction n with
    | zero =>
      intro x5 m_s m_laid m_named m_pile m_nearThen m_shownThen H locs ls hW hS hl hv
      exact False.elim hv
    | succ n ih =>
      intro x5 m_s m_laid m_named m_pile m_nearThen m_shownThen H locs ls hW hS hl hv
      refine lv_iload hx hb dX7_doesLead_7 (lv_at hl 5 rfl) ?_
      refine lv_aload_n hx hb dX7_doesLead_9 rfl (lv_at hl 0 rfl) ?_
      refine q_get C kc7 hW 0 rfl 0 (by decide) fl_X7_7 rfl rfl dX7_doesLead_10 ?_
      refine lv_iconst (v := 4) hx hb dX7_doesLead_13 kic_4 ?_
      obtain ⟨h_3, hv⟩ := hv
      refine q_iald C hW 1 rfl h_3 dX7_doesLead_14 ?_
      refine lv_icmp_ge (tgt := 53) hx hb dX7_doesLead_15 (by decide) (fun c_4 => ?_) (fun c_4 => ?_)
      · replace hv := hv.1 c_4
        refine lv_aload_n hx hb dX7_doesLead_53 rfl (lv_at hl 0 rfl) ?_
        refine lv_iload_n hx hb dX7_doesLead_54 rfl (lv_at hl 3 rfl) ?_
        refine q_callVv (rest := []) (n := 1) C (c_X7_goes l G b m_images m_at_ m_open_ m_steps m_use_ m_traced m_speaks m_isParted m_s m_named m_pile m_nearThen m_shownThen p3 _ hv) ml_X7_178 kb_X7_goes rfl ⟨⟨rfl, rfl⟩, (Nat.le_of_ble_eq_true rfl), (Nat.le_of_ble_eq_true rfl)⟩ hW hS [0, 1, 3, 4, 5, 6] rfl rfl kc7 (q0 := 0) rfl hl.1 rfl (Nat.le_of_ble_eq_true rfl) dX7_doesLead_55 ⟨Nat.zero_le _, Nat.zero_le _⟩ (fun u_6 H locs hv hW hS => ?_)
        obtain ⟨m_s_5, m_named_5, m_pile_5, m_nearThen_5, m_shownThen_5⟩ := u_6
        try dsimp only at hv
        have hW : wo G A (wd_X7_14 G b m_images m_at_ m_open_ m_steps m_use_ m_traced m_speaks m_isParted m_s_5 m_laid m_named_5 m_pile_5 m_nearThen_5 m_shownThen_5) H := hW
        refine lv_aload_n hx hb dX7_doesLead_58 rfl (lv_at hl 0 rfl) ?_
        refine q_callV (rest := []) (n := 0) C (c_X7_nearestNow l G b m_images m_at_ m_open_ m_steps m_use_ m_traced m_speaks m_isParted m_s_5 _ hv) ml_X7_188 kb_X7_nearestNow rfl ⟨⟨rfl, rfl⟩, (Nat.le_of_ble_eq_true rfl), (Nat.le_of_ble_eq_true rfl)⟩ hW hS [0, 1] rfl rfl kc7 (q0 := 0) rfl hl.1 rfl (Nat.le_of_ble_eq_true rfl) dX7_doesLead_59 ⟨Nat.zero_le _, Nat.zero_le _⟩ (fun r_7 u_8 H locs hv hW hS => ?_)
        try dsimp only at hv
        refine lv_iload_n hx hb dX7_doesLead_62 rfl (lv_at hl 1 rfl) ?_
        refine lv_icmp_ne (tgt := 70) hx hb dX7_doesLead_63 (by decide) (fun c_9 => ?_) (fun c_9 => ?_)
        · replace hv := hv.1 c_9
          refine lv_iconst (v := 0) hx hb dX7_doesLead_70 kic_0 ?_
          exact h_j_X7_doesLead_71 (0 : Int32) m_s_5 m_laid m_named_5 m_pile_5 m_nearThen_5 m_shownThen_5 H locs ls (Or.inl rfl) hW hS (lv_sub hl [0] rfl) hv
        · replace hv := hv.2 c_9
          refine lv_iconst (v := 1) hx hb dX7_doesLead_66 kic_1 ?_
          refine lv_goto (tgt := 71) hx hb dX7_doesLead_67 (by decide) ?_
          exact h_j_X7_doesLead_71 (1 : Int32) m_s_5 m_laid m_named_5 m_pile_5 m_nearThen_5 m_shownThen_5 H locs ls (Or.inr rfl) hW hS (lv_sub hl [0] rfl) hv
      · replace hv := hv.2 c_4
        refine lv_aload_n hx hb dX7_doesLead_18 rfl (lv_at hl 0 rfl) ?_
        refine lv_iload hx hb dX7_doesLead_19 (lv_at hl 5 rfl) ?_
        refine lv_iconst (v := 3) hx hb dX7_doesLead_21 kic_3 ?_
        refine lv_iload hx hb dX7_doesLead_22 (lv_at hl 4 rfl) ?_
        refine lv_iload hx hb dX7_doesLead_24 (lv_at hl 5 rfl) ?_
        refine lv_ishr hx hb dX7_doesLead_26 ?_
        refine lv_iconst (v := 1) hx hb dX7_doesLead_27 kic_1 ?_
        refine lv_iand hx hb dX7_doesLead_28 ?_
        refine lv_iconst (v := 1) hx hb dX7_doesLead_29 kic_1 ?_
        refine lv_icmp_ne (tgt := 37) hx hb dX7_doesLead_30 (by decide) (fun c_12 => ?_) (fun c_12 => ?_)
        · replace hv := hv.1 c_12
          refine lv_aload_n hx hb dX7_doesLead_37 rfl (lv_at hl 0 rfl) ?_
          refine lv_iload hx hb dX7_doesLead_38 (lv_at hl 5 rfl) ?_
          refine lv_iconst (v := 3) hx hb dX7_doesLead_40 kic_3 ?_
          refine q_callV (rest := [.int (3 : Int32), .int x5, .ref (b 0)]) (n := 2) C (c_X7_its l G b m_images m_at_ m_open_ m_steps m_use_ m_traced m_speaks m_isParted m_s x5 (3 : Int32) _ hv) ml_X7_120 kb_X7_its rfl ⟨⟨rfl, rfl⟩, (Nat.le_of_ble_eq_true rfl), (Nat.le_of_ble_eq_true rfl)⟩ hW hS [0, 1] rfl rfl kc7 (q0 := 0) rfl hl.1 rfl (Nat.le_of_ble_eq_true rfl) dX7_doesLead_41 ⟨Nat.zero_le _, Nat.zero_le _⟩ (fun r_13 u_14 H locs hv hW hS => ?_)
          try dsimp only at hv
          exact h_j_X7_doesLead_44 (fun x5' m_s' m_laid' m_named' m_pile' m_nearThen' m_shownThen' => l_X7_doesLead_7 p1 p2 p3 p4 K n x5' m_s' m_laid' m_named' m_pile' m_nearThen' m_shownThen') ih x5 x5 (3 : Int32) r_13 m_s m_laid m_named m_pile m_nearThen m_shownThen H locs ls hW hS (lv_sub hl [0, 1, 2, 3, 4, 5] rfl) hv
        · replace hv := hv.2 c_12
          refine lv_iload_n hx hb dX7_doesLead_33 rfl (lv_at hl 2 rfl) ?_
          refine lv_goto (tgt := 44) hx hb dX7_doesLead_34 (by decide) ?_
          exact h_j_X7_doesLead_44 (fun x5' m_s' m_laid' m_named' m_pile' m_nearThen' m_shownThen' => l_X7_doesLead_7 p1 p2 p3 p4 K n x5' m_s' m_laid' m_named' m_pile' m_nearThen' m_shownThen') ih x5 x5 (3 : Int32) p2 m_s m_laid m_named m_pile m_nearThen m_shownThen H locs ls hW hS (lv_sub hl [0, 1, 2, 3, 4, 5] rfl) hv
  refine lv_aload_n hx hb dX7_doesLead_0 rfl (lv_at hl 0 rfl) ?_
  refine q_callVv (rest := []) (n := 0) C (c_X7_layDown l G b m_images m_at_ m_open_ m_steps m_use_ m_traced m_speaks m_isParted m_s m_laid _ hv) ml_X7_191 kb_X7_layDown rfl ⟨⟨rfl, rfl⟩, (Nat.le_of_ble_eq_true rfl), (Nat.le_of_ble_eq_true rfl)⟩ hW hS [0, 1, 2] rfl rfl kc7 (q0 := 0) rfl hl.1 rfl (Nat.le_of_ble_eq_true rfl) dX7_doesLead_1 ⟨Nat.zero_le _, Nat.zero_le _⟩ (fun u_2 H locs hv hW hS => ?_)
  obtain ⟨m_laid_1, rfl⟩ : ∃ z, z = u_2 := ⟨_, rfl⟩
  try dsimp only at hv
  have hW : wo G A (wd_X7_14 G b m_images m_at_ m_open_ m_steps m_use_ m_traced m_speaks m_isParted m_s m_laid_1 m_named m_pile m_nearThen m_shownThen) H := hW
  refine lv_iconst (v := 0) hx hb dX7_doesLead_4 kic_0 ?_
  refine lv_istore (lv' := [(5, .int (0 : Int32)), (0, .ref (b 0)), (1, .int p1), (2, .int p2), (3, .int p3), (4, .int p4)]) hx hb dX7_doesLead_5 hl (by decide) rfl (fun ls hl => ?_)
  obtain ⟨n_17, hv⟩ := hv
  exact h_l_X7_doesLead_7 n_17 (0 : Int32) m_s m_laid_1 m_named m_pile m_nearThen m_shownThen H locs ls hW hS (lv_sub hl [1, 2, 3, 4, 5, 0] rfl) hv
set_option maxHeartbeats 4000000 in
set_option maxRecDepth 100000 in
theorem c_X7_signs (l : Launch) (G : Gt) (b : Nat → Nat) (m_images : Int32) (m_at_ : Int32) (m_open_ : Int32) (m_steps : Int32) (m_use_ : Int32) (m_traced : Int32) (m_speaks : Int32) (m_isParted : Int32) (m_s : Nat → Int32) (m_laid : Nat → Int32) (m_errors : Nat → Int32) (m_named : Nat → Int32) (m_pile : Nat → Int32) (m_nearThen : Nat → Int32) (m_shownThen : Nat → Int32) (p1 : Int32) (p2 : Int32) (p3 : Int32) (p4 : Int32) (K : Int32 → (Nat → Int32) → (Nat → Int32) → (Nat → Int32) → (Nat → Int32) → (Nat → Int32) → (Nat → Int32) → (Nat → Int32) → Prop) (hv : v_X7_signs p1 p2 p3 p4 m_s m_laid m_errors m_named m_pile m_nearThen m_shownThen K) : CI l G yX7_signs (.code yX7_signs cX7_signs 8 (some .int) :: wsG) (rmm 8 184) [.ref (b 0), .int p1, .int p2, .int p3, .int p4] (wd_X7_13 G b m_images m_at_ m_open_ m_steps m_use_ m_traced m_speaks m_isParted m_s m_laid m_errors m_named m_pile m_nearThen m_shownThen) (S := (Nat → Int32) × (Nat → Int32) × (Nat → Int32) × (Nat → Int32) × (Nat → Int32) × (Nat → Int32) × (Nat → Int32)) (fun u => wd_X7_13 G b m_images m_at_ m_open_ m_steps m_use_ m_traced m_speaks m_isParted u.1 u.2.1 u.2.2.1 u.2.2.2.1 u.2.2.2.2.1 u.2.2.2.2.2.1 u.2.2.2.2.2.2) (fun r u => K r u.1 u.2.1 u.2.2.1 u.2.2.2.1 u.2.2.2.2.1 u.2.2.2.2.2.1 u.2.2.2.2.2.2) := by
  refine ci_intro (by decide) rfl (fun _ => rfl) (Nat.le_of_ble_eq_true rfl) ?_
  intro p e s m args below meth c A H ls Q C hW hS hl ret
  have hx := C.1.1
  have hb := C.1.2.1
  generalize hls : ([] : List Loc) = locs at hS ⊢
  have hl : lv_has ls 8 [(0, .ref (b 0)), (1, .int p1), (2, .int p2), (3, .int p3), (4, .int p4)] := hl
  have h_j_X7_signs_37 : ∀ (m_s : Nat → Int32) (m_laid : Nat → Int32) (m_errors : Nat → Int32) (m_named : Nat → Int32) (m_pile : Nat → Int32) (m_nearThen : Nat → Int32) (m_shownThen : Nat → Int32) (H : Heap) (locs : List Loc) (ls : Array Slot), wo G A (wd_X7_13 G b m_images m_at_ m_open_ m_steps m_use_ m_traced m_speaks m_isParted m_s m_laid m_errors m_named m_pile m_nearThen m_shownThen) H → va_S A s.heap H locs → lv_has ls 8 [(0, .ref (b 0))] → j_X7_signs_37 p1 p2 p3 p4 K m_s m_laid m_errors m_named m_pile m_nearThen m_shownThen → W p l e (rmm 8 184) s m args below meth c H locs 0 0 Q (F0 m 37 ls []) := by
    intro m_s m_laid m_errors m_named m_pile m_nearThen m_shownThen H locs ls hW hS hl hv
    refine lv_aload_n hx hb dX7_signs_37 rfl (lv_at hl 0 rfl) ?_
    refine lv_iconst (v := 1) hx hb dX7_signs_38 kic_1 ?_
    refine q_callV (rest := []) (n := 1) C (c_X7_error l G b m_images m_at_ m_open_ m_steps m_use_ m_traced m_speaks m_isParted m_errors (1 : Int32) _ hv) ml_X7_61 kb_X7_error rfl ⟨⟨rfl, rfl⟩, (Nat.le_of_ble_eq_true rfl), (Nat.le_of_ble_eq_true rfl)⟩ hW hS [0, 3] rfl rfl kc7 (q0 := 0) rfl hl.1 rfl (Nat.le_of_ble_eq_true rfl) dX7_signs_39 ⟨Nat.zero_le _, Nat.zero_le _⟩ (fun r_4 u_5 H locs hv hW hS => ?_)
    obtain ⟨m_errors_4, rfl⟩ : ∃ z, z = u_5 := ⟨_, rfl⟩
    try dsimp only at hv
    have hW : wo G A (wd_X7_13 G b m_images m_at_ m_open_ m_steps m_use_ m_traced m_speaks m_isParted m_s m_laid m_errors_4 m_named m_pile m_nearThen m_shownThen) H := hW
    exact ret (m_s, m_laid, m_errors_4, m_named, m_pile, m_nearThen, m_shownThen) r_4 H locs ls _ rfl hW hS hv dX7_signs_42
  have h_j_X7_signs_112 : ∀ (B49 : Int32 → Int32 → (Nat → Int32) → (Nat → Int32) → (Nat → Int32) → (Nat → Int32) → (Nat → Int32) → (Nat → Int32) → (Nat → Int32) → Prop) (hB49 : ∀ (x5 : Int32) (x6 : Int32) (m_s : Nat → Int32) (m_laid : Nat → Int32) (m_errors : Nat → Int32) (m_named : Nat → Int32) (m_pile : Nat → Int32) (m_nearThen : Nat → Int32) (m_shownThen : Nat → Int32) (H : Heap) (locs : List Loc) (ls : Array Slot), wo G A (wd_X7_13 G b m_images m_at_ m_open_ m_steps m_use_ m_traced m_speaks m_isParted m_s m_laid m_errors m_named m_pile m_nearThen m_shownThen) H → va_S A s.heap H locs → lv_has ls 8 [(0, .ref (b 0)), (1, .int p1), (2, .int p2), (3, .int p3), (4, .int p4), (5, .int x5), (6, .int x6)] → B49 x5 x6 m_s m_laid m_errors m_named m_pile m_nearThen m_shownThen → W p l e (rmm 8 184) s m args below meth c H locs 0 0 Q (F0 m 49 ls [])), ∀ (x6 : Int32) (t0 : Int32) (m_s : Nat → Int32) (m_laid : Nat → Int32) (m_errors : Nat → Int32) (m_named : Nat → Int32) (m_pile : Nat → Int32) (m_nearThen : Nat → Int32) (m_shownThen : Nat → Int32) (H : Heap) (locs : List Loc) (ls : Array Slot), wo G A (wd_X7_13 G b m_images m_at_ m_open_ m_steps m_use_ m_traced m_speaks m_isParted m_s m_laid m_errors m_named m_pile m_nearThen m_shownThen) H → va_S A s.heap H locs → lv_has ls 8 [(0, .ref (b 0)), (1, .int p1), (2, .int p2), (3, .int p3), (4, .int p4), (6, .int x6)] → j_X7_signs_112 p1 p2 p3 p4 B49 K x6 t0 m_s m_laid m_errors m_named m_pile m_nearThen m_shownThen → W p l e (rmm 8 184) s m args below meth c H locs 0 0 Q (F0 m 112 ls [.int t0]) := by
    intro B49 hB49 x6 t0 m_s m_laid m_errors m_named m_pile m_nearThen m_shownThen H locs ls hW hS hl hv
    refine lv_istore (lv' := [(5, .int t0), (0, .ref (b 0)), (1, .int p1), (2, .int p2), (3, .int p3), (4, .int p4), (6, .int x6)]) hx hb dX7_signs_112 hl (by decide) rfl (fun ls hl => ?_)
    refine lv_iinc (v := (x6 + 1)) (lv' := [(6, .int (x6 + 1)), (5, .int t0), (0, .ref (b 0)), (1, .int p1), (2, .int p2), (3, .int p3), (4, .int p4)]) hx hb dX7_signs_114 hl (k := 6) rfl rfl (by decide) rfl (fun ls hl => ?_)
    refine lv_goto (tgt := 49) hx hb dX7_signs_117 (by decide) ?_
    exact hB49 t0 (x6 + 1) m_s m_laid m_errors m_named m_pile m_nearThen m_shownThen H locs ls hW hS (lv_sub hl [2, 3, 4, 5, 6, 1, 0] rfl) hv
  have h_j_X7_signs_110 : ∀ (B49 : Int32 → Int32 → (Nat → Int32) → (Nat → Int32) → (Nat → Int32) → (Nat → Int32) → (Nat → Int32) → (Nat → Int32) → (Nat → Int32) → Prop) (hB49 : ∀ (x5 : Int32) (x6 : Int32) (m_s : Nat → Int32) (m_laid : Nat → Int32) (m_errors : Nat → Int32) (m_named : Nat → Int32) (m_pile : Nat → Int32) (m_nearThen : Nat → Int32) (m_shownThen : Nat → Int32) (H : Heap) (locs : List Loc) (ls : Array Slot), wo G A (wd_X7_13 G b m_images m_at_ m_open_ m_steps m_use_ m_traced m_speaks m_isParted m_s m_laid m_errors m_named m_pile m_nearThen m_shownThen) H → va_S A s.heap H locs → lv_has ls 8 [(0, .ref (b 0)), (1, .int p1), (2, .int p2), (3, .int p3), (4, .int p4), (5, .int x5), (6, .int x6)] → B49 x5 x6 m_s m_laid m_errors m_named m_pile m_nearThen m_shownThen → W p l e (rmm 8 184) s m args below meth c H locs 0 0 Q (F0 m 49 ls [])), ∀ (x5 : Int32) (x6 : Int32) (m_s : Nat → Int32) (m_laid : Nat → Int32) (m_errors : Nat → Int32) (m_named : Nat → Int32) (m_pile : Nat → Int32) (m_nearThen : Nat → Int32) (m_shownThen : Nat → Int32) (H : Heap) (locs : List Loc) (ls : Array Slot), wo G A (wd_X7_13 G b m_images m_at_ m_open_ m_steps m_use_ m_traced m_speaks m_isParted m_s m_laid m_errors m_named m_pile m_nearThen m_shownThen) H → va_S A s.heap H locs → lv_has ls 8 [(0, .ref (b 0)), (1, .int p1), (2, .int p2), (3, .int p3), (4, .int p4), (5, .int x5), (6, .int x6)] → j_X7_signs_110 p1 p2 p3 p4 B49 K x5 x6 m_s m_laid m_errors m_named m_pile m_nearThen m_shownThen → W p l e (rmm 8 184) s m args below meth c H locs 0 0 Q (F0 m 110 ls []) := by
    intro B49 hB49 x5 x6 m_s m_laid m_errors m_named m_pile m_nearThen m_shownThen H locs ls hW hS hl hv
    refine lv_iload hx hb dX7_signs_110 (lv_at hl 5 rfl) ?_
    exact h_j_X7_signs_112 B49 hB49 x6 x5 m_s m_laid m_errors m_named m_pile m_nearThen m_shownThen H locs ls hW hS (lv_sub hl [0, 1, 2, 3, 4, 6] rfl) hv
  have h_j_X7_signs_86 : ∀ (B49 : Int32 → Int32 → (Nat → Int32) → (Nat → Int32) → (Nat → Int32) → (Nat → Int32) → (Nat → Int32) → (Nat → Int32) → (Nat → Int32) → Prop) (hB49 : ∀ (x5 : Int32) (x6 : Int32) (m_s : Nat → Int32) (m_laid : Nat → Int32) (m_errors : Nat → Int32) (m_named : Nat → Int32) (m_pile : Nat → Int32) (m_nearThen : Nat → Int32) (m_shownThen : Nat → Int32) (H : Heap) (locs : List Loc) (ls : Array Slot), wo G A (wd_X7_13 G b m_images m_at_ m_open_ m_steps m_use_ m_traced m_speaks m_isParted m_s m_laid m_errors m_named m_pile m_nearThen m_shownThen) H → va_S A s.heap H locs → lv_has ls 8 [(0, .ref (b 0)), (1, .int p1), (2, .int p2), (3, .int p3), (4, .int p4), (5, .int x5), (6, .int x6)] → B49 x5 x6 m_s m_laid m_errors m_named m_pile m_nearThen m_shownThen → W p l e (rmm 8 184) s m args below meth c H locs 0 0 Q (F0 m 49 ls [])), ∀ (x5 : Int32) (x6 : Int32) (t0 : Int32) (m_s : Nat → Int32) (m_laid : Nat → Int32) (m_errors : Nat → Int32) (m_named : Nat → Int32) (m_pile : Nat → Int32) (m_nearThen : Nat → Int32) (m_shownThen : Nat → Int32) (H : Heap) (locs : List Loc) (ls : Array Slot), t0 = 0 ∨ t0 = 1 → wo G A (wd_X7_13 G b m_images m_at_ m_open_ m_steps m_use_ m_traced m_speaks m_isParted m_s m_laid m_errors m_named m_pile m_nearThen m_shownThen) H → va_S A s.heap H locs → lv_has ls 8 [(0, .ref (b 0)), (1, .int p1), (2, .int p2), (3, .int p3), (4, .int p4), (5, .int x5), (6, .int x6)] → j_X7_signs_86 p1 p2 p3 p4 B49 K x5 x6 t0 m_s m_laid m_errors m_named m_pile m_nearThen m_shownThen → W p l e (rmm 8 184) s m args below meth c H locs 0 0 Q (F0 m 86 ls [.int t0]) := by
    intro B49 hB49 x5 x6 t0 m_s m_laid m_errors m_named m_pile m_nearThen m_shownThen H locs ls hz_t0 hW hS hl hv
    refine lv_istore (lv' := [(7, .int t0), (0, .ref (b 0)), (1, .int p1), (2, .int p2), (3, .int p3), (4, .int p4), (5, .int x5), (6, .int x6)]) hx hb dX7_signs_86 hl (by decide) rfl (fun ls hl => ?_)
    refine lv_iload hx hb dX7_signs_88 (lv_at hl 0 rfl) ?_
    refine lv_if_eq (tgt := 110) hx hb dX7_signs_90 (by decide) (fun c_24 => ?_) (fun c_24 => ?_)
    · replace hv := hv.1 c_24
      exact h_j_X7_signs_110 B49 hB49 x5 x6 m_s m_laid m_errors m_named m_pile m_nearThen m_shownThen H locs ls hW hS (lv_sub hl [1, 2, 3, 4, 5, 6, 7] rfl) hv
    · replace hv := hv.2 c_24
      refine lv_aload_n hx hb dX7_signs_93 rfl (lv_at hl 1 rfl) ?_
      refine lv_iload_n hx hb dX7_signs_94 rfl (lv_at hl 2 rfl) ?_
      refine lv_iload_n hx hb dX7_signs_95 rfl (lv_at hl 3 rfl) ?_
      refine lv_iload_n hx hb dX7_signs_96 rfl (lv_at hl 4 rfl) ?_
      refine lv_iload hx hb dX7_signs_97 (lv_at hl 7 rfl) ?_
      refine q_callV (rest := []) (n := 4) C (c_X7_doesLead l G b m_images m_at_ m_open_ m_steps m_use_ m_traced m_speaks m_isParted m_s m_laid m_named m_pile m_nearThen m_shownThen p1 p2 p3 x6 _ hv) ml_X7_203 kb_X7_doesLead rfl ⟨⟨rfl, rfl⟩, (Nat.le_of_ble_eq_true rfl), (Nat.le_of_ble_eq_true rfl)⟩ hW hS [0, 1, 2, 4, 5, 6, 7] rfl rfl kc7 (q0 := 0) rfl hl.1 rfl (Nat.le_of_ble_eq_true rfl) dX7_signs_99 ⟨Nat.zero_le _, Nat.zero_le _⟩ (fun r_25 u_26 H locs hv hW hS => ?_)
      obtain ⟨m_s_25, m_laid_25, m_named_25, m_pile_25, m_nearThen_25, m_shownThen_25⟩ := u_26
      obtain ⟨hv_b_25, hv⟩ := hv
      try dsimp only at hv
      have hW : wo G A (wd_X7_13 G b m_images m_at_ m_open_ m_steps m_use_ m_traced m_speaks m_isParted m_s_25 m_laid_25 m_errors m_named_25 m_pile_25 m_nearThen_25 m_shownThen_25) H := hW
      refine lv_if_eq (tgt := 110) hx hb dX7_signs_102 (by decide) (fun c_27 => ?_) (fun c_27 => ?_)
      · replace hv := hv.1 c_27
        exact h_j_X7_signs_110 B49 hB49 x5 x6 m_s_25 m_laid_25 m_errors m_named_25 m_pile_25 m_nearThen_25 m_shownThen_25 H locs ls hW hS (lv_sub hl [1, 2, 3, 4, 5, 6, 7] rfl) hv
      · replace hv := hv.2 c_27
        refine lv_iload hx hb dX7_signs_105 (lv_at hl 7 rfl) ?_
        refine lv_goto (tgt := 112) hx hb dX7_signs_107 (by decide) ?_
        exact h_j_X7_signs_112 B49 hB49 x6 x6 m_s_25 m_laid_25 m_errors m_named_25 m_pile_25 m_nearThen_25 m_shownThen_25 H locs ls hW hS (lv_sub hl [1, 2, 3, 4, 5, 7] rfl) hv
  have h_j_X7_signs_81 : ∀ (B49 : Int32 → Int32 → (Nat → Int32) → (Nat → Int32) → (Nat → Int32) → (Nat → Int32) → (Nat → Int32) → (Nat → Int32) → (Nat → Int32) → Prop) (hB49 : ∀ (x5 : Int32) (x6 : Int32) (m_s : Nat → Int32) (m_laid : Nat → Int32) (m_errors : Nat → Int32) (m_named : Nat → Int32) (m_pile : Nat → Int32) (m_nearThen : Nat → Int32) (m_shownThen : Nat → Int32) (H : Heap) (locs : List Loc) (ls : Array Slot), wo G A (wd_X7_13 G b m_images m_at_ m_open_ m_steps m_use_ m_traced m_speaks m_isParted m_s m_laid m_errors m_named m_pile m_nearThen m_shownThen) H → va_S A s.heap H locs → lv_has ls 8 [(0, .ref (b 0)), (1, .int p1), (2, .int p2), (3, .int p3), (4, .int p4), (5, .int x5), (6, .int x6)] → B49 x5 x6 m_s m_laid m_errors m_named m_pile m_nearThen m_shownThen → W p l e (rmm 8 184) s m args below meth c H locs 0 0 Q (F0 m 49 ls [])), ∀ (x5 : Int32) (x6 : Int32) (m_s : Nat → Int32) (m_laid : Nat → Int32) (m_errors : Nat → Int32) (m_named : Nat → Int32) (m_pile : Nat → Int32) (m_nearThen : Nat → Int32) (m_shownThen : Nat → Int32) (H : Heap) (locs : List Loc) (ls : Array Slot), wo G A (wd_X7_13 G b m_images m_at_ m_open_ m_steps m_use_ m_traced m_speaks m_isParted m_s m_laid m_errors m_named m_pile m_nearThen m_shownThen) H → va_S A s.heap H locs → lv_has ls 8 [(0, .ref (b 0)), (1, .int p1), (2, .int p2), (3, .int p3), (4, .int p4), (5, .int x5), (6, .int x6)] → j_X7_signs_81 p1 p2 p3 p4 B49 K x5 x6 m_s m_laid m_errors m_named m_pile m_nearThen m_shownThen → W p l e (rmm 8 184) s m args below meth c H locs 0 0 Q (F0 m 81 ls []) := by
    intro B49 hB49 x5 x6 m_s m_laid m_errors m_named m_pile m_nearThen m_shownThen H locs ls hW hS hl hv
    refine lv_iconst (v := 1) hx hb dX7_signs_81 kic_1 ?_
    refine lv_goto (tgt := 86) hx hb dX7_signs_82 (by decide) ?_
    exact h_j_X7_signs_86 B49 hB49 x5 x6 (1 : Int32) m_s m_laid m_errors m_named m_pile m_nearThen m_shownThen H locs ls (Or.inr rfl) hW hS (lv_sub hl [0, 1, 2, 3, 4, 5, 6] rfl) hv
  have h_l_X7_signs_49 : ∀ (n : Nat), ∀ (x5 : Int32) (x6 : Int32) (m_s : Nat → Int32) (m_laid : Nat → Int32) (m_errors : Nat → Int32) (m_named : Nat → Int32) (m_pile : Nat → Int32) (m_nearThen : Nat → Int32) (m_shownThen : Nat → Int32) (H : Heap) (locs : List Loc) (ls : Array Slot), wo G A (wd_X7_13 G b m_images m_at_ m_open_ m_steps m_use_ m_traced m_speaks m_isParted m_s m_laid m_errors m_named m_pile m_nearThen m_shownThen) H → va_S A s.heap H locs → lv_has ls 8 [(0, .ref (b 0)), (1, .int p1), (2, .int p2), (3, .int p3), (4, .int p4), (5, .int x5), (6, .int x6)] → l_X7_signs_49 p1 p2 p3 p4 K n x5 x6 m_s m_laid m_errors m_named m_pile m_nearThen m_shownThen → W p l e (rmm 8 184) s m args below meth c H locs 0 0 Q (F0 m 49 ls []) := by
    intro n
    induction n with
    | zero =>
      intro x5 x6 m_s m_laid m_errors m_named m_pile m_nearThen m_shownThen H locs ls hW hS hl hv
      exact False.elim hv
    | succ n ih =>
      intro x5 x6 m_s m_laid m_errors m_named m_pile m_nearThen m_shownThen H locs ls hW hS hl hv
      refine lv_iload hx hb dX7_signs_49 (lv_at hl 6 rfl) ?_
      refine lv_iconst (v := 1) hx hb dX7_signs_51 kic_1 ?_
      refine lv_aload_n hx hb dX7_signs_52 rfl (lv_at hl 0 rfl) ?_
      refine q_get C kc7 hW 0 rfl 0 (by decide) fl_X7_7 rfl rfl dX7_signs_53 ?_
      refine lv_iconst (v := 4) hx hb dX7_signs_56 kic_4 ?_
      obtain ⟨h_15, hv⟩ := hv
      refine q_iald C hW 1 rfl h_15 dX7_signs_57 ?_
      refine lv_ishl hx hb dX7_signs_58 ?_
      refine lv_icmp_ge (tgt := 120) hx hb dX7_signs_59 (by decide) (fun c_16 => ?_) (fun c_16 => ?_)
      · replace hv := hv.1 c_16
        refine lv_iload hx hb dX7_signs_120 (lv_at hl 5 rfl) ?_
        refine lv_iconst (v := (-1)) hx hb dX7_signs_122 kic_m1 ?_
        refine lv_icmp_ne (tgt := 134) hx hb dX7_signs_123 (by decide) (fun c_17 => ?_) (fun c_17 => ?_)
        · replace hv := hv.1 c_17
          refine lv_iload hx hb dX7_signs_134 (lv_at hl 4 rfl) ?_
          refine lv_if_ne (tgt := 147) hx hb dX7_signs_136 (by decide) (fun c_18 => ?_) (fun c_18 => ?_)
          · replace hv := hv.1 c_18
            refine lv_iload hx hb dX7_signs_147 (lv_at hl 5 rfl) ?_
            exact ret (m_s, m_laid, m_errors, m_named, m_pile, m_nearThen, m_shownThen) x5 H locs ls _ rfl hW hS hv dX7_signs_149
          · replace hv := hv.2 c_18
            refine lv_iload hx hb dX7_signs_139 (lv_at hl 5 rfl) ?_
            refine q_callS (rest := []) (n := 1) C (c_X7_manyIn l G x5 _ hv) ml_X7_200 kb_X7_manyIn rfl ⟨⟨rfl, rfl⟩, (Nat.le_of_ble_eq_true rfl), (Nat.le_of_ble_eq_true rfl)⟩ hW hS hl.1 rfl (Nat.le_of_ble_eq_true rfl) dX7_signs_141 ⟨Nat.zero_le _, Nat.zero_le _⟩ (fun r_19 u_20 H locs hv hW hS => ?_)
            try dsimp only at hv
            refine lv_goto (tgt := 149) hx hb dX7_signs_144 (by decide) ?_
            exact ret (m_s, m_laid, m_errors, m_named, m_pile, m_nearThen, m_shownThen) r_19 H locs ls _ rfl hW hS hv dX7_signs_149
        · replace hv := hv.2 c_17
          refine lv_aload_n hx hb dX7_signs_126 rfl (lv_at hl 0 rfl) ?_
          refine lv_iconst (v := 2) hx hb dX7_signs_127 kic_2 ?_
          refine q_callV (rest := []) (n := 1) C (c_X7_error l G b m_images m_at_ m_open_ m_steps m_use_ m_traced m_speaks m_isParted m_errors (2 : Int32) _ hv) ml_X7_61 kb_X7_error rfl ⟨⟨rfl, rfl⟩, (Nat.le_of_ble_eq_true rfl), (Nat.le_of_ble_eq_true rfl)⟩ hW hS [0, 3] rfl rfl kc7 (q0 := 0) rfl hl.1 rfl (Nat.le_of_ble_eq_true rfl) dX7_signs_128 ⟨Nat.zero_le _, Nat.zero_le _⟩ (fun r_21 u_22 H locs hv hW hS => ?_)
          obtain ⟨m_errors_21, rfl⟩ : ∃ z, z = u_22 := ⟨_, rfl⟩
          try dsimp only at hv
          have hW : wo G A (wd_X7_13 G b m_images m_at_ m_open_ m_steps m_use_ m_traced m_speaks m_isParted m_s m_laid m_errors_21 m_named m_pile m_nearThen m_shownThen) H := hW
          refine lv_goto (tgt := 149) hx hb dX7_signs_131 (by decide) ?_
          exact ret (m_s, m_laid, m_errors_21, m_named, m_pile, m_nearThen, m_shownThen) r_21 H locs ls _ rfl hW hS hv dX7_signs_149
      · replace hv := hv.2 c_16
        refine lv_iload hx hb dX7_signs_62 (lv_at hl 5 rfl) ?_
        refine lv_iconst (v := (-1)) hx hb dX7_signs_64 kic_m1 ?_
        refine lv_icmp_eq (tgt := 81) hx hb dX7_signs_65 (by decide) (fun c_23 => ?_) (fun c_23 => ?_)
        · replace hv := hv.1 c_23
          exact h_j_X7_signs_81 (fun x5' x6' m_s' m_laid' m_errors' m_named' m_pile' m_nearThen' m_shownThen' => l_X7_signs_49 p1 p2 p3 p4 K n x5' x6' m_s' m_laid' m_errors' m_named' m_pile' m_nearThen' m_shownThen') ih x5 x6 m_s m_laid m_errors m_named m_pile m_nearThen m_shownThen H locs ls hW hS (lv_sub hl [0, 1, 2, 3, 4, 5, 6] rfl) hv
        · replace hv := hv.2 c_23
          refine lv_iload hx hb dX7_signs_68 (lv_at hl 6 rfl) ?_
          refine q_callS (rest := []) (n := 1) C (c_X7_manyIn l G x6 _ hv) ml_X7_200 kb_X7_manyIn rfl ⟨⟨rfl, rfl⟩, (Nat.le_of_ble_eq_true rfl), (Nat.le_of_ble_eq_true rfl)⟩ hW hS hl.1 rfl (Nat.le_of_ble_eq_true rfl) dX7_signs_70 ⟨Nat.zero_le _, Nat.zero_le _⟩ (fun r_28 u_29 H locs hv hW hS => ?_)
          try dsimp only at hv
          refine lv_iload hx hb dX7_signs_73 (lv_at hl 5 rfl) ?_
          refine q_callS (rest := [.int r_28]) (n := 1) C (c_X7_manyIn l G x5 _ hv) ml_X7_200 kb_X7_manyIn rfl ⟨⟨rfl, rfl⟩, (Nat.le_of_ble_eq_true rfl), (Nat.le_of_ble_eq_true rfl)⟩ hW hS hl.1 rfl (Nat.le_of_ble_eq_true rfl) dX7_signs_75 ⟨Nat.zero_le _, Nat.zero_le _⟩ (fun r_30 u_31 H locs hv hW hS => ?_)
          try dsimp only at hv
          refine lv_icmp_ge (tgt := 85) hx hb dX7_signs_78 (by decide) (fun c_32 => ?_) (fun c_32 => ?_)
          · replace hv := hv.1 c_32
            refine lv_iconst (v := 0) hx hb dX7_signs_85 kic_0 ?_
            exact h_j_X7_signs_86 (fun x5' x6' m_s' m_laid' m_errors' m_named' m_pile' m_nearThen' m_shownThen' => l_X7_signs_49 p1 p2 p3 p4 K n x5' x6' m_s' m_laid' m_errors' m_named' m_pile' m_nearThen' m_shownThen') ih x5 x6 (0 : Int32) m_s m_laid m_errors m_named m_pile m_nearThen m_shownThen H locs ls (Or.inl rfl) hW hS (lv_sub hl [0, 1, 2, 3, 4, 5, 6] rfl) hv
          · replace hv := hv.2 c_32
            exact h_j_X7_signs_81 (fun x5' x6' m_s' m_laid' m_errors' m_named' m_pile' m_nearThen' m_shownThen' => l_X7_signs_49 p1 p2 p3 p4 K n x5' x6' m_s' m_laid' m_errors' m_named' m_pile' m_nearThen' m_shownThen') ih x5 x6 m_s m_laid m_errors m_named m_pile m_nearThen m_shownThen H locs ls hW hS (lv_sub hl [0, 1, 2, 3, 4, 5, 6] rfl) hv
  refine lv_aload_n hx hb dX7_signs_0 rfl (lv_at hl 0 rfl) ?_
  refine lv_iload_n hx hb dX7_signs_1 rfl (lv_at hl 1 rfl) ?_
  refine q_callV (rest := []) (n := 1) C (c_X7_isPerson l G b m_images m_at_ m_open_ m_steps m_use_ m_traced m_speaks m_isParted m_s p1 _ hv) ml_X7_57 kb_X7_isPerson rfl ⟨⟨rfl, rfl⟩, (Nat.le_of_ble_eq_true rfl), (Nat.le_of_ble_eq_true rfl)⟩ hW hS [0, 1] rfl rfl kc7 (q0 := 0) rfl hl.1 rfl (Nat.le_of_ble_eq_true rfl) dX7_signs_2 ⟨Nat.zero_le _, Nat.zero_le _⟩ (fun r_1 u_2 H locs hv hW hS => ?_)
  obtain ⟨hv_b_1, hv⟩ := hv
  try dsimp only at hv
  refine lv_if_eq (tgt := 37) hx hb dX7_signs_5 (by decide) (fun c_3 => ?_) (fun c_3 => ?_)
  · replace hv := hv.1 c_3
    exact h_j_X7_signs_37 m_s m_laid m_errors m_named m_pile m_nearThen m_shownThen H locs ls hW hS (lv_sub hl [0] rfl) hv
  · replace hv := hv.2 c_3
    refine lv_iload_n hx hb dX7_signs_8 rfl (lv_at hl 2 rfl) ?_
    refine lv_iconst (v := 0) hx hb dX7_signs_9 kic_0 ?_
    refine lv_bipush (v := 9) hx hb dX7_signs_10 kbp_9 ?_
    refine q_callS (rest := []) (n := 3) C (c_X7_in l G p2 (0 : Int32) (9 : Int32) _ hv) ml_X7_53 kb_X7_in rfl ⟨⟨rfl, rfl⟩, (Nat.le_of_ble_eq_true rfl), (Nat.le_of_ble_eq_true rfl)⟩ hW hS hl.1 rfl (Nat.le_of_ble_eq_true rfl) dX7_signs_12 ⟨Nat.zero_le _, Nat.zero_le _⟩ (fun r_6 u_7 H locs hv hW hS => ?_)
    obtain ⟨hv_b_6, hv⟩ := hv
    try dsimp only at hv
    refine lv_if_eq (tgt := 37) hx hb dX7_signs_15 (by decide) (fun c_8 => ?_) (fun c_8 => ?_)
    · replace hv := hv.1 c_8
      exact h_j_X7_signs_37 m_s m_laid m_errors m_named m_pile m_nearThen m_shownThen H locs ls hW hS (lv_sub hl [0] rfl) hv
    · replace hv := hv.2 c_8
      refine lv_iload_n hx hb dX7_signs_18 rfl (lv_at hl 3 rfl) ?_
      refine lv_iconst (v := 1) hx hb dX7_signs_19 kic_1 ?_
      refine lv_iconst (v := 4) hx hb dX7_signs_20 kic_4 ?_
      refine q_callS (rest := []) (n := 3) C (c_X7_in l G p3 (1 : Int32) (4 : Int32) _ hv) ml_X7_53 kb_X7_in rfl ⟨⟨rfl, rfl⟩, (Nat.le_of_ble_eq_true rfl), (Nat.le_of_ble_eq_true rfl)⟩ hW hS hl.1 rfl (Nat.le_of_ble_eq_true rfl) dX7_signs_21 ⟨Nat.zero_le _, Nat.zero_le _⟩ (fun r_9 u_10 H locs hv hW hS => ?_)
      obtain ⟨hv_b_9, hv⟩ := hv
      try dsimp only at hv
      refine lv_if_eq (tgt := 37) hx hb dX7_signs_24 (by decide) (fun c_11 => ?_) (fun c_11 => ?_)
      · replace hv := hv.1 c_11
        exact h_j_X7_signs_37 m_s m_laid m_errors m_named m_pile m_nearThen m_shownThen H locs ls hW hS (lv_sub hl [0] rfl) hv
      · replace hv := hv.2 c_11
        refine lv_iload hx hb dX7_signs_27 (lv_at hl 4 rfl) ?_
        refine lv_iconst (v := 0) hx hb dX7_signs_29 kic_0 ?_
        refine lv_iconst (v := 1) hx hb dX7_signs_30 kic_1 ?_
        refine q_callS (rest := []) (n := 3) C (c_X7_in l G p4 (0 : Int32) (1 : Int32) _ hv) ml_X7_53 kb_X7_in rfl ⟨⟨rfl, rfl⟩, (Nat.le_of_ble_eq_true rfl), (Nat.le_of_ble_eq_true rfl)⟩ hW hS hl.1 rfl (Nat.le_of_ble_eq_true rfl) dX7_signs_31 ⟨Nat.zero_le _, Nat.zero_le _⟩ (fun r_12 u_13 H locs hv hW hS => ?_)
        obtain ⟨hv_b_12, hv⟩ := hv
        try dsimp only at hv
        refine lv_if_ne (tgt := 43) hx hb dX7_signs_34 (by decide) (fun c_14 => ?_) (fun c_14 => ?_)
        · replace hv := hv.1 c_14
          refine lv_iconst (v := (-1)) hx hb dX7_signs_43 kic_m1 ?_
          refine lv_istore (lv' := [(5, .int (-1 : Int32)), (0, .ref (b 0)), (1, .int p1), (2, .int p2), (3, .int p3), (4, .int p4)]) hx hb dX7_signs_44 hl (by decide) rfl (fun ls hl => ?_)
          refine lv_iconst (v := 0) hx hb dX7_signs_46 kic_0 ?_
          refine lv_istore (lv' := [(6, .int (0 : Int32)), (5, .int (-1 : Int32)), (0, .ref (b 0)), (1, .int p1), (2, .int p2), (3, .int p3), (4, .int p4)]) hx hb dX7_signs_47 hl (by decide) rfl (fun ls hl => ?_)
          obtain ⟨n_33, hv⟩ := hv
          exact h_l_X7_signs_49 n_33 (-1 : Int32) (0 : Int32) m_s m_laid m_errors m_named m_pile m_nearThen m_shownThen H locs ls hW hS (lv_sub hl [2, 3, 4, 5, 6, 1, 0] rfl) hv
        · replace hv := hv.2 c_14
          exact h_j_X7_signs_37 m_s m_laid m_errors m_named m_pile m_nearThen m_shownThen H locs ls hW hS (lv_sub hl [0] rfl) hv
set_option maxHeartbeats 4000000 in
set_option maxRecDepth 100000 in
theorem c_X7_heard (l : Launch) (G : Gt) (b : Nat → Nat) (m_images : Int32) (m_at_ : Int32) (m_open_ : Int32) (m_steps : Int32) (m_use_ : Int32) (m_traced : Int32) (m_speaks : Int32) (m_isParted : Int32) (m_s : Nat → Int32) (m_errors : Nat → Int32) (p1 : Int32) (K : Int32 → (Nat → Int32) → Prop) (hv : v_X7_heard p1 m_s m_errors K) : CI l G yX7_heard (.code yX7_heard cX7_heard 5 (some .int) :: wsG) (rmm 2 43) [.ref (b 0), .int p1] (wd_X7_4 G b m_images m_at_ m_open_ m_steps m_use_ m_traced m_speaks m_isParted m_s m_errors) (S := (Nat → Int32)) (fun u => wd_X7_4 G b m_images m_at_ m_open_ m_steps m_use_ m_traced m_speaks m_isParted m_s u) (fun r u => K r u) := by
  refine ci_intro (by decide) rfl (fun _ => rfl) (Nat.le_of_ble_eq_true rfl) ?_
  intro p e s m args below meth c A H ls Q C hW hS hl ret
  have hx := C.1.1
  have hb := C.1.2.1
  generalize hls : ([] : List Loc) = locs at hS ⊢
  have hl : lv_has ls 5 [(0, .ref (b 0)), (1, .int p1)] := hl
  have h_j_X7_heard_63 : ∀ (B20 : Int32 → Int32 → (Nat → Int32) → Prop) (hB20 : ∀ (x2 : Int32) (x3 : Int32) (m_errors : Nat → Int32) (H : Heap) (locs : List Loc) (ls : Array Slot), wo G A (wd_X7_4 G b m_images m_at_ m_open_ m_steps m_use_ m_traced m_speaks m_isParted m_s m_errors) H → va_S A s.heap H locs → lv_has ls 5 [(0, .ref (b 0)), (2, .int x2), (3, .int x3)] → B20 x2 x3 m_errors → W p l e (rmm 2 43) s m args below meth c H locs 0 0 Q (F0 m 20 ls [])) (B30 : Int32 → Int32 → Int32 → (Nat → Int32) → Prop) (hB30 : ∀ (x2 : Int32) (x3 : Int32) (x4 : Int32) (m_errors : Nat → Int32) (H : Heap) (locs : List Loc) (ls : Array Slot), wo G A (wd_X7_4 G b m_images m_at_ m_open_ m_steps m_use_ m_traced m_speaks m_isParted m_s m_errors) H → va_S A s.heap H locs → lv_has ls 5 [(0, .ref (b 0)), (2, .int x2), (3, .int x3), (4, .int x4)] → B30 x2 x3 x4 m_errors → W p l e (rmm 2 43) s m args below meth c H locs 0 0 Q (F0 m 30 ls [])), ∀ (x3 : Int32) (x4 : Int32) (t0 : Int32) (t1 : Int32) (m_errors : Nat → Int32) (H : Heap) (locs : List Loc) (ls : Array Slot), wo G A (wd_X7_4 G b m_images m_at_ m_open_ m_steps m_use_ m_traced m_speaks m_isParted m_s m_errors) H → va_S A s.heap H locs → lv_has ls 5 [(0, .ref (b 0)), (3, .int x3), (4, .int x4)] → j_X7_heard_63 p1 m_s B20 B30 K x3 x4 t0 t1 m_errors → W p l e (rmm 2 43) s m args below meth c H locs 0 0 Q (F0 m 63 ls [.int t1, .int t0]) := by
    intro B20 hB20 B30 hB30 x3 x4 t0 t1 m_errors H locs ls hW hS hl hv
    refine lv_ior hx hb dX7_heard_63 ?_
    refine lv_istore_n (lv' := [(2, .int (t0 ||| t1)), (0, .ref (b 0)), (3, .int x3), (4, .int x4)]) hx hb dX7_heard_64 rfl hl (by decide) rfl (fun ls hl => ?_)
    refine lv_iinc (v := (x4 + 1)) (lv' := [(4, .int (x4 + 1)), (2, .int (t0 ||| t1)), (0, .ref (b 0)), (3, .int x3)]) hx hb dX7_heard_65 hl (k := 3) rfl rfl (by decide) rfl (fun ls hl => ?_)
    refine lv_goto (tgt := 30) hx hb dX7_heard_68 (by decide) ?_
    exact hB30 (t0 ||| t1) x3 (x4 + 1) m_errors H locs ls hW hS (lv_sub hl [2, 1, 3, 0] rfl) hv
  have h_l_X7_heard_30 : ∀ (B20 : Int32 → Int32 → (Nat → Int32) → Prop) (hB20 : ∀ (x2 : Int32) (x3 : Int32) (m_errors : Nat → Int32) (H : Heap) (locs : List Loc) (ls : Array Slot), wo G A (wd_X7_4 G b m_images m_at_ m_open_ m_steps m_use_ m_traced m_speaks m_isParted m_s m_errors) H → va_S A s.heap H locs → lv_has ls 5 [(0, .ref (b 0)), (2, .int x2), (3, .int x3)] → B20 x2 x3 m_errors → W p l e (rmm 2 43) s m args below meth c H locs 0 0 Q (F0 m 20 ls [])) (n : Nat), ∀ (x2 : Int32) (x3 : Int32) (x4 : Int32) (m_errors : Nat → Int32) (H : Heap) (locs : List Loc) (ls : Array Slot), wo G A (wd_X7_4 G b m_images m_at_ m_open_ m_steps m_use_ m_traced m_speaks m_isParted m_s m_errors) H → va_S A s.heap H locs → lv_has ls 5 [(0, .ref (b 0)), (2, .int x2), (3, .int x3), (4, .int x4)] → l_X7_heard_30 p1 m_s B20 K n x2 x3 x4 m_errors → W p l e (rmm 2 43) s m args below meth c H locs 0 0 Q (F0 m 30 ls []) := by
    intro B20 hB20 n
    induction n with
    | zero =>
      intro x2 x3 x4 m_errors H locs ls hW hS hl hv
      exact False.elim hv
    | succ n ih =>
      intro x2 x3 x4 m_errors H locs ls hW hS hl hv
      refine lv_iload hx hb dX7_heard_30 (lv_at hl 3 rfl) ?_
      refine lv_aload_n hx hb dX7_heard_32 rfl (lv_at hl 0 rfl) ?_
      refine q_get C kc7 hW 0 rfl 0 (by decide) fl_X7_7 rfl rfl dX7_heard_33 ?_
      refine lv_iconst (v := 4) hx hb dX7_heard_36 kic_4 ?_
      obtain ⟨h_5, hv⟩ := hv
      refine q_iald C hW 1 rfl h_5 dX7_heard_37 ?_
      refine lv_icmp_ge (tgt := 71) hx hb dX7_heard_38 (by decide) (fun c_6 => ?_) (fun c_6 => ?_)
      · replace hv := hv.1 c_6
        refine lv_goto (tgt := 20) hx hb dX7_heard_71 (by decide) ?_
        exact hB20 x2 x3 m_errors H locs ls hW hS (lv_sub hl [0, 1, 2] rfl) hv
      · replace hv := hv.2 c_6
        refine lv_iload_n hx hb dX7_heard_41 rfl (lv_at hl 1 rfl) ?_
        refine lv_iload_n hx hb dX7_heard_42 rfl (lv_at hl 2 rfl) ?_
        refine lv_iload hx hb dX7_heard_43 (lv_at hl 3 rfl) ?_
        refine lv_ishr hx hb dX7_heard_45 ?_
        refine lv_iconst (v := 1) hx hb dX7_heard_46 kic_1 ?_
        refine lv_iand hx hb dX7_heard_47 ?_
        refine lv_iconst (v := 1) hx hb dX7_heard_48 kic_1 ?_
        refine lv_icmp_ne (tgt := 62) hx hb dX7_heard_49 (by decide) (fun c_7 => ?_) (fun c_7 => ?_)
        · replace hv := hv.1 c_7
          refine lv_iconst (v := 0) hx hb dX7_heard_62 kic_0 ?_
          exact h_j_X7_heard_63 B20 hB20 (fun x2' x3' x4' m_errors' => l_X7_heard_30 p1 m_s B20 K n x2' x3' x4' m_errors') ih x3 x4 x2 (0 : Int32) m_errors H locs ls hW hS (lv_sub hl [0, 2, 3] rfl) hv
        · replace hv := hv.2 c_7
          refine lv_aload_n hx hb dX7_heard_52 rfl (lv_at hl 0 rfl) ?_
          refine lv_iload hx hb dX7_heard_53 (lv_at hl 3 rfl) ?_
          refine lv_iconst (v := 4) hx hb dX7_heard_55 kic_4 ?_
          refine q_callV (rest := [.int x2]) (n := 2) C (c_X7_its l G b m_images m_at_ m_open_ m_steps m_use_ m_traced m_speaks m_isParted m_s x4 (4 : Int32) _ hv) ml_X7_120 kb_X7_its rfl ⟨⟨rfl, rfl⟩, (Nat.le_of_ble_eq_true rfl), (Nat.le_of_ble_eq_true rfl)⟩ hW hS [0, 1] rfl rfl kc7 (q0 := 0) rfl hl.1 rfl (Nat.le_of_ble_eq_true rfl) dX7_heard_56 ⟨Nat.zero_le _, Nat.zero_le _⟩ (fun r_8 u_9 H locs hv hW hS => ?_)
          try dsimp only at hv
          refine lv_goto (tgt := 63) hx hb dX7_heard_59 (by decide) ?_
          exact h_j_X7_heard_63 B20 hB20 (fun x2' x3' x4' m_errors' => l_X7_heard_30 p1 m_s B20 K n x2' x3' x4' m_errors') ih x3 x4 x2 r_8 m_errors H locs ls hW hS (lv_sub hl [0, 2, 3] rfl) hv
  have h_l_X7_heard_20 : ∀ (n : Nat), ∀ (x2 : Int32) (x3 : Int32) (m_errors : Nat → Int32) (H : Heap) (locs : List Loc) (ls : Array Slot), wo G A (wd_X7_4 G b m_images m_at_ m_open_ m_steps m_use_ m_traced m_speaks m_isParted m_s m_errors) H → va_S A s.heap H locs → lv_has ls 5 [(0, .ref (b 0)), (2, .int x2), (3, .int x3)] → l_X7_heard_20 p1 m_s K n x2 x3 m_errors → W p l e (rmm 2 43) s m args below meth c H locs 0 0 Q (F0 m 20 ls []) := by
    intro n
    induction n with
    | zero =>
      intro x2 x3 m_errors H locs ls hW hS hl hv
      exact False.elim hv
    | succ n ih =>
      intro x2 x3 m_errors H locs ls hW hS hl hv
      refine lv_iload_n hx hb dX7_heard_20 rfl (lv_at hl 2 rfl) ?_
      refine lv_iload_n hx hb dX7_heard_21 rfl (lv_at hl 1 rfl) ?_
      refine lv_icmp_eq (tgt := 74) hx hb dX7_heard_22 (by decide) (fun c_4 => ?_) (fun c_4 => ?_)
      · replace hv := hv.1 c_4
        refine lv_iload_n hx hb dX7_heard_74 rfl (lv_at hl 1 rfl) ?_
        exact ret (m_errors) x2 H locs ls _ rfl hW hS hv dX7_heard_75
      · replace hv := hv.2 c_4
        refine lv_iload_n hx hb dX7_heard_25 rfl (lv_at hl 1 rfl) ?_
        refine lv_istore_n (lv' := [(3, .int x2), (0, .ref (b 0)), (2, .int x2)]) hx hb dX7_heard_26 rfl hl (by decide) rfl (fun ls hl => ?_)
        refine lv_iconst (v := 0) hx hb dX7_heard_27 kic_0 ?_
        refine lv_istore (lv' := [(4, .int (0 : Int32)), (3, .int x2), (0, .ref (b 0)), (2, .int x2)]) hx hb dX7_heard_28 hl (by decide) rfl (fun ls hl => ?_)
        obtain ⟨n_10, hv⟩ := hv
        exact h_l_X7_heard_30 (fun x2' x3' m_errors' => l_X7_heard_20 p1 m_s K n x2' x3' m_errors') ih n_10 x2 x2 (0 : Int32) m_errors H locs ls hW hS (lv_sub hl [2, 3, 1, 0] rfl) hv
  refine lv_aload_n hx hb dX7_heard_0 rfl (lv_at hl 0 rfl) ?_
  refine lv_iload_n hx hb dX7_heard_1 rfl (lv_at hl 1 rfl) ?_
  refine q_callV (rest := []) (n := 1) C (c_X7_isPerson l G b m_images m_at_ m_open_ m_steps m_use_ m_traced m_speaks m_isParted m_s p1 _ hv) ml_X7_57 kb_X7_isPerson rfl ⟨⟨rfl, rfl⟩, (Nat.le_of_ble_eq_true rfl), (Nat.le_of_ble_eq_true rfl)⟩ hW hS [0, 1] rfl rfl kc7 (q0 := 0) rfl hl.1 rfl (Nat.le_of_ble_eq_true rfl) dX7_heard_2 ⟨Nat.zero_le _, Nat.zero_le _⟩ (fun r_1 u_2 H locs hv hW hS => ?_)
  obtain ⟨hv_b_1, hv⟩ := hv
  try dsimp only at hv
  refine lv_if_ne (tgt := 14) hx hb dX7_heard_5 (by decide) (fun c_3 => ?_) (fun c_3 => ?_)
  · replace hv := hv.1 c_3
    refine lv_iconst (v := 1) hx hb dX7_heard_14 kic_1 ?_
    refine lv_iload_n hx hb dX7_heard_15 rfl (lv_at hl 1 rfl) ?_
    refine lv_ishl hx hb dX7_heard_16 ?_
    refine lv_istore_n (lv' := [(2, .int ((1 : Int32) <<< (p1 &&& 31))), (0, .ref (b 0)), (1, .int p1)]) hx hb dX7_heard_17 rfl hl (by decide) rfl (fun ls hl => ?_)
    refine lv_iconst (v := 0) hx hb dX7_heard_18 kic_0 ?_
    refine lv_istore_n (lv' := [(3, .int (0 : Int32)), (2, .int ((1 : Int32) <<< (p1 &&& 31))), (0, .ref (b 0)), (1, .int p1)]) hx hb dX7_heard_19 rfl hl (by decide) rfl (fun ls hl => ?_)
    obtain ⟨n_11, hv⟩ := hv
    exact h_l_X7_heard_20 n_11 ((1 : Int32) <<< (p1 &&& 31)) (0 : Int32) m_errors H locs ls hW hS (lv_sub hl [2, 1, 0] rfl) hv
  · replace hv := hv.2 c_3
    refine lv_aload_n hx hb dX7_heard_8 rfl (lv_at hl 0 rfl) ?_
    refine lv_iconst (v := 1) hx hb dX7_heard_9 kic_1 ?_
    refine q_callV (rest := []) (n := 1) C (c_X7_error l G b m_images m_at_ m_open_ m_steps m_use_ m_traced m_speaks m_isParted m_errors (1 : Int32) _ hv) ml_X7_61 kb_X7_error rfl ⟨⟨rfl, rfl⟩, (Nat.le_of_ble_eq_true rfl), (Nat.le_of_ble_eq_true rfl)⟩ hW hS [0, 2] rfl rfl kc7 (q0 := 0) rfl hl.1 rfl (Nat.le_of_ble_eq_true rfl) dX7_heard_10 ⟨Nat.zero_le _, Nat.zero_le _⟩ (fun r_12 u_13 H locs hv hW hS => ?_)
    obtain ⟨m_errors_12, rfl⟩ : ∃ z, z = u_13 := ⟨_, rfl⟩
    try dsimp only at hv
    have hW : wo G A (wd_X7_4 G b m_images m_at_ m_open_ m_steps m_use_ m_traced m_speaks m_isParted m_s m_errors_12) H := hW
    exact ret (m_errors_12) r_12 H locs ls _ rfl hW hS hv dX7_heard_13
set_option maxHeartbeats 4000000 in
set_option maxRecDepth 100000 in
theorem c_X7_divisor (l : Launch) (G : Gt) (p1 : Int32) (p2 : Int32) (K : Int32 → Prop) (hv : v_X7_divisor p1 p2 K) : CI l G yX7_divisor (.code yX7_divisor cX7_divisor 5 (some .int) :: wsG) (rmm 0 0) [.int p1, .int p2] [] (S := Unit) (fun _ => []) (fun r u => K r) := by
  refine ci_intro (by decide) rfl (fun _ => rfl) (Nat.le_of_ble_eq_true rfl) ?_
  intro p e s m args below meth c A H ls Q C hW hS hl ret
  have hx := C.1.1
  have hb := C.1.2.1
  generalize hls : ([] : List Loc) = locs at hS ⊢
  have hl : lv_has ls 5 [(0, .int p1), (1, .int p2)] := hl
  have h_l_X7_divisor_4 : ∀ (n : Nat), ∀ (x2 : Int32) (x3 : Int32) (H : Heap) (locs : List Loc) (ls : Array Slot), wo G A (wd_J1_0 G) H → va_S A s.heap H locs → lv_has ls 5 [(2, .int x2), (3, .int x3)] → l_X7_divisor_4 p1 p2 K n x2 x3 → W p l e (rmm 0 0) s m args below meth c H locs 0 0 Q (F0 m 4 ls []) := by
    intro n
    induction n with
    | zero =>
      intro x2 x3 H locs ls hW hS hl hv
      exact False.elim hv
    | succ n ih =>
      intro x2 x3 H locs ls hW hS hl hv
      refine lv_iload_n hx hb dX7_divisor_4 rfl (lv_at hl 1 rfl) ?_
      refine lv_if_eq (tgt := 21) hx hb dX7_divisor_5 (by decide) (fun c_1 => ?_) (fun c_1 => ?_)
      · replace hv := hv.1 c_1
        refine lv_iload_n hx hb dX7_divisor_21 rfl (lv_at hl 0 rfl) ?_
        exact ret () x2 H locs ls _ rfl hW hS hv dX7_divisor_22
      · replace hv := hv.2 c_1
        refine lv_iload_n hx hb dX7_divisor_8 rfl (lv_at hl 0 rfl) ?_
        refine lv_iload_n hx hb dX7_divisor_9 rfl (lv_at hl 1 rfl) ?_
        obtain ⟨h_2, hv⟩ := hv
        refine lv_irem hx hb dX7_divisor_10 h_2 ?_
        refine lv_istore (lv' := [(4, .int (x2 - x2 / x3 * x3)), (2, .int x2), (3, .int x3)]) hx hb dX7_divisor_11 hl (by decide) rfl (fun ls hl => ?_)
        refine lv_iload_n hx hb dX7_divisor_13 rfl (lv_at hl 2 rfl) ?_
        refine lv_istore_n (lv' := [(2, .int x3), (4, .int (x2 - x2 / x3 * x3)), (3, .int x3)]) hx hb dX7_divisor_14 rfl hl (by decide) rfl (fun ls hl => ?_)
        refine lv_iload hx hb dX7_divisor_15 (lv_at hl 1 rfl) ?_
        refine lv_istore_n (lv' := [(3, .int (x2 - x2 / x3 * x3)), (2, .int x3), (4, .int (x2 - x2 / x3 * x3))]) hx hb dX7_divisor_17 rfl hl (by decide) rfl (fun ls hl => ?_)
        refine lv_goto (tgt := 4) hx hb dX7_divisor_18 (by decide) ?_
        exact ih x3 (x2 - x2 / x3 * x3) H locs ls hW hS (lv_sub hl [1, 0] rfl) hv
  refine lv_iload_n hx hb dX7_divisor_0 rfl (lv_at hl 0 rfl) ?_
  refine lv_istore_n (lv' := [(2, .int p1), (0, .int p1), (1, .int p2)]) hx hb dX7_divisor_1 rfl hl (by decide) rfl (fun ls hl => ?_)
  refine lv_iload_n hx hb dX7_divisor_2 rfl (lv_at hl 2 rfl) ?_
  refine lv_istore_n (lv' := [(3, .int p2), (2, .int p1), (0, .int p1), (1, .int p2)]) hx hb dX7_divisor_3 rfl hl (by decide) rfl (fun ls hl => ?_)
  obtain ⟨n_3, hv⟩ := hv
  exact h_l_X7_divisor_4 n_3 p1 p2 H locs ls hW hS (lv_sub hl [1, 0] rfl) hv
set_option maxHeartbeats 4000000 in
set_option maxRecDepth 100000 in
theorem c_X7_odds (l : Launch) (G : Gt) (b : Nat → Nat) (m_images : Int32) (m_at_ : Int32) (m_open_ : Int32) (m_steps : Int32) (m_use_ : Int32) (m_traced : Int32) (m_speaks : Int32) (m_isParted : Int32) (m_s : Nat → Int32) (m_errors : Nat → Int32) (m_named : Nat → Int32) (m_pile : Nat → Int32) (p1 : Int32) (p2 : Int32) (K : Int32 → (Nat → Int32) → (Nat → Int32) → (Nat → Int32) → Prop) (hv : v_X7_odds p1 p2 m_s m_errors m_named m_pile K) : CI l G yX7_odds (.code yX7_odds cX7_odds 6 (some .int) :: wsG) (rmm 4 93) [.ref (b 0), .int p1, .int p2] (wd_X7_11 G b m_images m_at_ m_open_ m_steps m_use_ m_traced m_speaks m_isParted m_s m_errors m_named m_pile) (S := (Nat → Int32) × (Nat → Int32) × (Nat → Int32)) (fun u => wd_X7_11 G b m_images m_at_ m_open_ m_steps m_use_ m_traced m_speaks m_isParted m_s u.1 u.2.1 u.2.2) (fun r u => K r u.1 u.2.1 u.2.2) := by
  refine ci_intro (by decide) rfl (fun _ => rfl) (Nat.le_of_ble_eq_true rfl) ?_
  intro p e s m args below meth c A H ls Q C hW hS hl ret
  have hx := C.1.1
  have hb := C.1.2.1
  generalize hls : ([] : List Loc) = locs at hS ⊢
  have hl : lv_has ls 6 [(0, .ref (b 0)), (1, .int p1), (2, .int p2)] := hl
  have h_j_X7_odds_17 : ∀ (m_errors : Nat → Int32) (m_named : Nat → Int32) (m_pile : Nat → Int32) (H : Heap) (locs : List Loc) (ls : Array Slot), wo G A (wd_X7_11 G b m_images m_at_ m_open_ m_steps m_use_ m_traced m_speaks m_isParted m_s m_errors m_named m_pile) H → va_S A s.heap H locs → lv_has ls 6 [(0, .ref (b 0))] → j_X7_odds_17 p1 p2 m_s K m_errors m_named m_pile → W p l e (rmm 4 93) s m args below meth c H locs 0 0 Q (F0 m 17 ls []) := by
    intro m_errors m_named m_pile H locs ls hW hS hl hv
    refine lv_aload_n hx hb dX7_odds_17 rfl (lv_at hl 0 rfl) ?_
    refine lv_iconst (v := 1) hx hb dX7_odds_18 kic_1 ?_
    refine q_callV (rest := []) (n := 1) C (c_X7_error l G b m_images m_at_ m_open_ m_steps m_use_ m_traced m_speaks m_isParted m_errors (1 : Int32) _ hv) ml_X7_61 kb_X7_error rfl ⟨⟨rfl, rfl⟩, (Nat.le_of_ble_eq_true rfl), (Nat.le_of_ble_eq_true rfl)⟩ hW hS [0, 2] rfl rfl kc7 (q0 := 0) rfl hl.1 rfl (Nat.le_of_ble_eq_true rfl) dX7_odds_19 ⟨Nat.zero_le _, Nat.zero_le _⟩ (fun r_4 u_5 H locs hv hW hS => ?_)
    obtain ⟨m_errors_4, rfl⟩ : ∃ z, z = u_5 := ⟨_, rfl⟩
    try dsimp only at hv
    have hW : wo G A (wd_X7_11 G b m_images m_at_ m_open_ m_steps m_use_ m_traced m_speaks m_isParted m_s m_errors_4 m_named m_pile) H := hW
    exact ret (m_errors_4, m_named, m_pile) r_4 H locs ls _ rfl hW hS hv dX7_odds_22
  have h_j_X7_odds_88 : ∀ (B48 : Int32 → Int32 → Int32 → (Nat → Int32) → (Nat → Int32) → (Nat → Int32) → Prop) (hB48 : ∀ (x3 : Int32) (x4 : Int32) (x5 : Int32) (m_errors : Nat → Int32) (m_named : Nat → Int32) (m_pile : Nat → Int32) (H : Heap) (locs : List Loc) (ls : Array Slot), wo G A (wd_X7_11 G b m_images m_at_ m_open_ m_steps m_use_ m_traced m_speaks m_isParted m_s m_errors m_named m_pile) H → va_S A s.heap H locs → lv_has ls 6 [(0, .ref (b 0)), (1, .int p1), (2, .int p2), (3, .int x3), (4, .int x4), (5, .int x5)] → B48 x3 x4 x5 m_errors m_named m_pile → W p l e (rmm 4 93) s m args below meth c H locs 0 0 Q (F0 m 48 ls [])), ∀ (x3 : Int32) (x5 : Int32) (t0 : Int32) (t1 : Int32) (m_errors : Nat → Int32) (m_named : Nat → Int32) (m_pile : Nat → Int32) (H : Heap) (locs : List Loc) (ls : Array Slot), t1 = 0 ∨ t1 = 1 → wo G A (wd_X7_11 G b m_images m_at_ m_open_ m_steps m_use_ m_traced m_speaks m_isParted m_s m_errors m_named m_pile) H → va_S A s.heap H locs → lv_has ls 6 [(0, .ref (b 0)), (1, .int p1), (2, .int p2), (3, .int x3), (5, .int x5)] → j_X7_odds_88 p1 p2 m_s B48 K x3 x5 t0 t1 m_errors m_named m_pile → W p l e (rmm 4 93) s m args below meth c H locs 0 0 Q (F0 m 88 ls [.int t1, .int t0]) := by
    intro B48 hB48 x3 x5 t0 t1 m_errors m_named m_pile H locs ls hz_t1 hW hS hl hv
    refine lv_iadd hx hb dX7_odds_88 ?_
    refine lv_istore (lv' := [(4, .int (t0 + t1)), (0, .ref (b 0)), (1, .int p1), (2, .int p2), (3, .int x3), (5, .int x5)]) hx hb dX7_odds_89 hl (by decide) rfl (fun ls hl => ?_)
    refine lv_iinc (v := (x5 + 1)) (lv' := [(5, .int (x5 + 1)), (4, .int (t0 + t1)), (0, .ref (b 0)), (1, .int p1), (2, .int p2), (3, .int x3)]) hx hb dX7_odds_91 hl (k := 5) rfl rfl (by decide) rfl (fun ls hl => ?_)
    refine lv_goto (tgt := 48) hx hb dX7_odds_94 (by decide) ?_
    exact hB48 x3 (t0 + t1) (x5 + 1) m_errors m_named m_pile H locs ls hW hS (lv_sub hl [2, 3, 4, 5, 1, 0] rfl) hv
  have h_j_X7_odds_87 : ∀ (B48 : Int32 → Int32 → Int32 → (Nat → Int32) → (Nat → Int32) → (Nat → Int32) → Prop) (hB48 : ∀ (x3 : Int32) (x4 : Int32) (x5 : Int32) (m_errors : Nat → Int32) (m_named : Nat → Int32) (m_pile : Nat → Int32) (H : Heap) (locs : List Loc) (ls : Array Slot), wo G A (wd_X7_11 G b m_images m_at_ m_open_ m_steps m_use_ m_traced m_speaks m_isParted m_s m_errors m_named m_pile) H → va_S A s.heap H locs → lv_has ls 6 [(0, .ref (b 0)), (1, .int p1), (2, .int p2), (3, .int x3), (4, .int x4), (5, .int x5)] → B48 x3 x4 x5 m_errors m_named m_pile → W p l e (rmm 4 93) s m args below meth c H locs 0 0 Q (F0 m 48 ls [])), ∀ (x3 : Int32) (x5 : Int32) (t0 : Int32) (m_errors : Nat → Int32) (m_named : Nat → Int32) (m_pile : Nat → Int32) (H : Heap) (locs : List Loc) (ls : Array Slot), wo G A (wd_X7_11 G b m_images m_at_ m_open_ m_steps m_use_ m_traced m_speaks m_isParted m_s m_errors m_named m_pile) H → va_S A s.heap H locs → lv_has ls 6 [(0, .ref (b 0)), (1, .int p1), (2, .int p2), (3, .int x3), (5, .int x5)] → j_X7_odds_87 p1 p2 m_s B48 K x3 x5 t0 m_errors m_named m_pile → W p l e (rmm 4 93) s m args below meth c H locs 0 0 Q (F0 m 87 ls [.int t0]) := by
    intro B48 hB48 x3 x5 t0 m_errors m_named m_pile H locs ls hW hS hl hv
    refine lv_iconst (v := 0) hx hb dX7_odds_87 kic_0 ?_
    exact h_j_X7_odds_88 B48 hB48 x3 x5 t0 (0 : Int32) m_errors m_named m_pile H locs ls (Or.inl rfl) hW hS (lv_sub hl [0, 1, 2, 3, 4] rfl) hv
  have h_l_X7_odds_48 : ∀ (n : Nat), ∀ (x3 : Int32) (x4 : Int32) (x5 : Int32) (m_errors : Nat → Int32) (m_named : Nat → Int32) (m_pile : Nat → Int32) (H : Heap) (locs : List Loc) (ls : Array Slot), wo G A (wd_X7_11 G b m_images m_at_ m_open_ m_steps m_use_ m_traced m_speaks m_isParted m_s m_errors m_named m_pile) H → va_S A s.heap H locs → lv_has ls 6 [(0, .ref (b 0)), (1, .int p1), (2, .int p2), (3, .int x3), (4, .int x4), (5, .int x5)] → l_X7_odds_48 p1 p2 m_s K n x3 x4 x5 m_errors m_named m_pile → W p l e (rmm 4 93) s m args below meth c H locs 0 0 Q (F0 m 48 ls []) := by
    intro n
    induction n with
    | zero =>
      intro x3 x4 x5 m_errors m_named m_pile H locs ls hW hS hl hv
      exact False.elim hv
    | succ n ih =>
      intro x3 x4 x5 m_errors m_named m_pile H locs ls hW hS hl hv
      refine lv_iload hx hb dX7_odds_48 (lv_at hl 5 rfl) ?_
      refine lv_aload_n hx hb dX7_odds_50 rfl (lv_at hl 0 rfl) ?_
      refine q_get C kc7 hW 0 rfl 0 (by decide) fl_X7_7 rfl rfl dX7_odds_51 ?_
      refine lv_iconst (v := 4) hx hb dX7_odds_54 kic_4 ?_
      obtain ⟨h_11, hv⟩ := hv
      refine q_iald C hW 1 rfl h_11 dX7_odds_55 ?_
      refine lv_icmp_ge (tgt := 97) hx hb dX7_odds_56 (by decide) (fun c_12 => ?_) (fun c_12 => ?_)
      · replace hv := hv.1 c_12
        refine lv_iload hx hb dX7_odds_97 (lv_at hl 4 rfl) ?_
        refine lv_iload_n hx hb dX7_odds_99 rfl (lv_at hl 3 rfl) ?_
        refine q_callS (rest := []) (n := 2) C (c_X7_divisor l G x4 x3 _ hv) ml_X7_207 kb_X7_divisor rfl ⟨⟨rfl, rfl⟩, (Nat.le_of_ble_eq_true rfl), (Nat.le_of_ble_eq_true rfl)⟩ hW hS hl.1 rfl (Nat.le_of_ble_eq_true rfl) dX7_odds_100 ⟨Nat.zero_le _, Nat.zero_le _⟩ (fun r_13 u_14 H locs hv hW hS => ?_)
        try dsimp only at hv
        refine lv_istore (lv' := [(5, .int r_13), (0, .ref (b 0)), (1, .int p1), (2, .int p2), (3, .int x3), (4, .int x4)]) hx hb dX7_odds_103 hl (by decide) rfl (fun ls hl => ?_)
        refine lv_iload_n hx hb dX7_odds_105 rfl (lv_at hl 3 rfl) ?_
        refine lv_if_ne (tgt := 117) hx hb dX7_odds_106 (by decide) (fun c_15 => ?_) (fun c_15 => ?_)
        · replace hv := hv.1 c_15
          refine lv_iload_n hx hb dX7_odds_117 rfl (lv_at hl 4 rfl) ?_
          refine lv_iload hx hb dX7_odds_118 (lv_at hl 0 rfl) ?_
          obtain ⟨h_16, hv⟩ := hv
          refine lv_idiv hx hb dX7_odds_120 h_16 ?_
          exact ret (m_errors, m_named, m_pile) (x3 / r_13) H locs ls _ rfl hW hS hv dX7_odds_121
        · replace hv := hv.2 c_15
          refine lv_iload hx hb dX7_odds_109 (lv_at hl 5 rfl) ?_
          refine lv_iload hx hb dX7_odds_111 (lv_at hl 0 rfl) ?_
          obtain ⟨h_17, hv⟩ := hv
          refine lv_idiv hx hb dX7_odds_113 h_17 ?_
          refine lv_goto (tgt := 121) hx hb dX7_odds_114 (by decide) ?_
          exact ret (m_errors, m_named, m_pile) (x4 / r_13) H locs ls _ rfl hW hS hv dX7_odds_121
      · replace hv := hv.2 c_12
        refine lv_iload hx hb dX7_odds_59 (lv_at hl 4 rfl) ?_
        refine lv_iload hx hb dX7_odds_61 (lv_at hl 5 rfl) ?_
        refine lv_iload_n hx hb dX7_odds_63 rfl (lv_at hl 1 rfl) ?_
        refine lv_icmp_eq (tgt := 87) hx hb dX7_odds_64 (by decide) (fun c_18 => ?_) (fun c_18 => ?_)
        · replace hv := hv.1 c_18
          exact h_j_X7_odds_87 (fun x3' x4' x5' m_errors' m_named' m_pile' => l_X7_odds_48 p1 p2 m_s K n x3' x4' x5' m_errors' m_named' m_pile') ih x3 x5 x4 m_errors m_named m_pile H locs ls hW hS (lv_sub hl [0, 1, 2, 3, 5] rfl) hv
        · replace hv := hv.2 c_18
          refine lv_aload_n hx hb dX7_odds_67 rfl (lv_at hl 0 rfl) ?_
          refine lv_iload hx hb dX7_odds_68 (lv_at hl 5 rfl) ?_
          refine lv_iload_n hx hb dX7_odds_70 rfl (lv_at hl 1 rfl) ?_
          refine q_callV (rest := [.int x4]) (n := 2) C (c_X7_takes l G b m_images m_at_ m_open_ m_steps m_use_ m_traced m_speaks m_isParted m_s m_named m_pile x5 p1 _ hv) ml_X7_142 kb_X7_takes rfl ⟨⟨rfl, rfl⟩, (Nat.le_of_ble_eq_true rfl), (Nat.le_of_ble_eq_true rfl)⟩ hW hS [0, 1, 3, 4] rfl rfl kc7 (q0 := 0) rfl hl.1 rfl (Nat.le_of_ble_eq_true rfl) dX7_odds_71 ⟨Nat.zero_le _, Nat.zero_le _⟩ (fun r_19 u_20 H locs hv hW hS => ?_)
          obtain ⟨m_named_19, m_pile_19⟩ := u_20
          try dsimp only at hv
          have hW : wo G A (wd_X7_11 G b m_images m_at_ m_open_ m_steps m_use_ m_traced m_speaks m_isParted m_s m_errors m_named_19 m_pile_19) H := hW
          refine lv_aload_n hx hb dX7_odds_74 rfl (lv_at hl 0 rfl) ?_
          refine lv_iload_n hx hb dX7_odds_75 rfl (lv_at hl 1 rfl) ?_
          refine lv_iconst (v := 2) hx hb dX7_odds_76 kic_2 ?_
          refine q_callV (rest := [.int r_19, .int x4]) (n := 2) C (c_X7_its l G b m_images m_at_ m_open_ m_steps m_use_ m_traced m_speaks m_isParted m_s p1 (2 : Int32) _ hv) ml_X7_120 kb_X7_its rfl ⟨⟨rfl, rfl⟩, (Nat.le_of_ble_eq_true rfl), (Nat.le_of_ble_eq_true rfl)⟩ hW hS [0, 1] rfl rfl kc7 (q0 := 0) rfl hl.1 rfl (Nat.le_of_ble_eq_true rfl) dX7_odds_77 ⟨Nat.zero_le _, Nat.zero_le _⟩ (fun r_21 u_22 H locs hv hW hS => ?_)
          try dsimp only at hv
          refine lv_icmp_le (tgt := 87) hx hb dX7_odds_80 (by decide) (fun c_23 => ?_) (fun c_23 => ?_)
          · replace hv := hv.1 c_23
            exact h_j_X7_odds_87 (fun x3' x4' x5' m_errors' m_named' m_pile' => l_X7_odds_48 p1 p2 m_s K n x3' x4' x5' m_errors' m_named' m_pile') ih x3 x5 x4 m_errors m_named_19 m_pile_19 H locs ls hW hS (lv_sub hl [0, 1, 2, 3, 5] rfl) hv
          · replace hv := hv.2 c_23
            refine lv_iconst (v := 1) hx hb dX7_odds_83 kic_1 ?_
            refine lv_goto (tgt := 88) hx hb dX7_odds_84 (by decide) ?_
            exact h_j_X7_odds_88 (fun x3' x4' x5' m_errors' m_named' m_pile' => l_X7_odds_48 p1 p2 m_s K n x3' x4' x5' m_errors' m_named' m_pile') ih x3 x5 x4 (1 : Int32) m_errors m_named_19 m_pile_19 H locs ls (Or.inr rfl) hW hS (lv_sub hl [0, 1, 2, 3, 5] rfl) hv
  refine lv_aload_n hx hb dX7_odds_0 rfl (lv_at hl 0 rfl) ?_
  refine lv_iload_n hx hb dX7_odds_1 rfl (lv_at hl 1 rfl) ?_
  refine q_callV (rest := []) (n := 1) C (c_X7_isPerson l G b m_images m_at_ m_open_ m_steps m_use_ m_traced m_speaks m_isParted m_s p1 _ hv) ml_X7_57 kb_X7_isPerson rfl ⟨⟨rfl, rfl⟩, (Nat.le_of_ble_eq_true rfl), (Nat.le_of_ble_eq_true rfl)⟩ hW hS [0, 1] rfl rfl kc7 (q0 := 0) rfl hl.1 rfl (Nat.le_of_ble_eq_true rfl) dX7_odds_2 ⟨Nat.zero_le _, Nat.zero_le _⟩ (fun r_1 u_2 H locs hv hW hS => ?_)
  obtain ⟨hv_b_1, hv⟩ := hv
  try dsimp only at hv
  refine lv_if_eq (tgt := 17) hx hb dX7_odds_5 (by decide) (fun c_3 => ?_) (fun c_3 => ?_)
  · replace hv := hv.1 c_3
    exact h_j_X7_odds_17 m_errors m_named m_pile H locs ls hW hS (lv_sub hl [0] rfl) hv
  · replace hv := hv.2 c_3
    refine lv_iload_n hx hb dX7_odds_8 rfl (lv_at hl 2 rfl) ?_
    refine lv_iconst (v := 0) hx hb dX7_odds_9 kic_0 ?_
    refine lv_iconst (v := 1) hx hb dX7_odds_10 kic_1 ?_
    refine q_callS (rest := []) (n := 3) C (c_X7_in l G p2 (0 : Int32) (1 : Int32) _ hv) ml_X7_53 kb_X7_in rfl ⟨⟨rfl, rfl⟩, (Nat.le_of_ble_eq_true rfl), (Nat.le_of_ble_eq_true rfl)⟩ hW hS hl.1 rfl (Nat.le_of_ble_eq_true rfl) dX7_odds_11 ⟨Nat.zero_le _, Nat.zero_le _⟩ (fun r_6 u_7 H locs hv hW hS => ?_)
    obtain ⟨hv_b_6, hv⟩ := hv
    try dsimp only at hv
    refine lv_if_ne (tgt := 23) hx hb dX7_odds_14 (by decide) (fun c_8 => ?_) (fun c_8 => ?_)
    · replace hv := hv.1 c_8
      refine lv_aload_n hx hb dX7_odds_23 rfl (lv_at hl 0 rfl) ?_
      refine q_get C kc7 hW 0 rfl 0 (by decide) fl_X7_7 rfl rfl dX7_odds_24 ?_
      refine lv_iconst (v := 4) hx hb dX7_odds_27 kic_4 ?_
      obtain ⟨h_9, hv⟩ := hv
      refine q_iald C hW 1 rfl h_9 dX7_odds_28 ?_
      refine lv_iconst (v := 1) hx hb dX7_odds_29 kic_1 ?_
      refine lv_isub hx hb dX7_odds_30 ?_
      refine lv_istore_n (lv' := [(3, .int ((m_s (4 : Int32).toNatClampNeg) - (1 : Int32))), (0, .ref (b 0)), (1, .int p1), (2, .int p2)]) hx hb dX7_odds_31 rfl hl (by decide) rfl (fun ls hl => ?_)
      refine lv_iload_n hx hb dX7_odds_32 rfl (lv_at hl 0 rfl) ?_
      refine lv_if_ne (tgt := 42) hx hb dX7_odds_33 (by decide) (fun c_10 => ?_) (fun c_10 => ?_)
      · replace hv := hv.1 c_10
        refine lv_iconst (v := 0) hx hb dX7_odds_42 kic_0 ?_
        refine lv_istore (lv' := [(4, .int (0 : Int32)), (3, .int ((m_s (4 : Int32).toNatClampNeg) - (1 : Int32))), (0, .ref (b 0)), (1, .int p1), (2, .int p2)]) hx hb dX7_odds_43 hl (by decide) rfl (fun ls hl => ?_)
        refine lv_iconst (v := 0) hx hb dX7_odds_45 kic_0 ?_
        refine lv_istore (lv' := [(5, .int (0 : Int32)), (4, .int (0 : Int32)), (3, .int ((m_s (4 : Int32).toNatClampNeg) - (1 : Int32))), (0, .ref (b 0)), (1, .int p1), (2, .int p2)]) hx hb dX7_odds_46 hl (by decide) rfl (fun ls hl => ?_)
        obtain ⟨n_24, hv⟩ := hv
        exact h_l_X7_odds_48 n_24 ((m_s (4 : Int32).toNatClampNeg) - (1 : Int32)) (0 : Int32) (0 : Int32) m_errors m_named m_pile H locs ls hW hS (lv_sub hl [3, 4, 5, 2, 1, 0] rfl) hv
      · replace hv := hv.2 c_10
        refine lv_aload_n hx hb dX7_odds_36 rfl (lv_at hl 1 rfl) ?_
        refine lv_iconst (v := 3) hx hb dX7_odds_37 kic_3 ?_
        refine q_callV (rest := []) (n := 1) C (c_X7_error l G b m_images m_at_ m_open_ m_steps m_use_ m_traced m_speaks m_isParted m_errors (3 : Int32) _ hv) ml_X7_61 kb_X7_error rfl ⟨⟨rfl, rfl⟩, (Nat.le_of_ble_eq_true rfl), (Nat.le_of_ble_eq_true rfl)⟩ hW hS [0, 2] rfl rfl kc7 (q0 := 0) rfl hl.1 rfl (Nat.le_of_ble_eq_true rfl) dX7_odds_38 ⟨Nat.zero_le _, Nat.zero_le _⟩ (fun r_25 u_26 H locs hv hW hS => ?_)
        obtain ⟨m_errors_25, rfl⟩ : ∃ z, z = u_26 := ⟨_, rfl⟩
        try dsimp only at hv
        have hW : wo G A (wd_X7_11 G b m_images m_at_ m_open_ m_steps m_use_ m_traced m_speaks m_isParted m_s m_errors_25 m_named m_pile) H := hW
        exact ret (m_errors_25, m_named, m_pile) r_25 H locs ls _ rfl hW hS hv dX7_odds_41
    · replace hv := hv.2 c_8
      exact h_j_X7_odds_17 m_errors m_named m_pile H locs ls hW hS (lv_sub hl [0] rfl) hv
set_option maxHeartbeats 4000000 in
set_option maxRecDepth 100000 in
theorem c_X7_areNearSo (l : Launch) (G : Gt) (b : Nat → Nat) (m_images : Int32) (m_at_ : Int32) (m_open_ : Int32) (m_steps : Int32) (m_use_ : Int32) (m_traced : Int32) (m_speaks : Int32) (m_isParted : Int32) (m_s : Nat → Int32) (m_sizes : Nat → Int32) (m_number : Nat → Int32) (p1 : Int32) (K : Int32 → Prop) (hv : v_X7_areNearSo p1 m_s m_sizes m_number K) : CI l G yX7_areNearSo (.code yX7_areNearSo cX7_areNearSo 4 (some .boolean) :: wsG) (rmm 1 22) [.ref (b 0), .int p1] (wd_X7_15 G b m_images m_at_ m_open_ m_steps m_use_ m_traced m_speaks m_isParted m_s m_sizes m_number) (S := Unit) (fun u => wd_X7_15 G b m_images m_at_ m_open_ m_steps m_use_ m_traced m_speaks m_isParted m_s m_sizes m_number) (fun r u => (r = 0 ∨ r = 1) ∧ K r) := by
  refine ci_intro (by decide) rfl (fun _ => rfl) (Nat.le_of_ble_eq_true rfl) ?_
  intro p e s m args below meth c A H ls Q C hW hS hl ret
  have hx := C.1.1
  have hb := C.1.2.1
  generalize hls : ([] : List Loc) = locs at hS ⊢
  have hl : lv_has ls 4 [(0, .ref (b 0)), (1, .int p1)] := hl
  have h_j_X7_areNearSo_62 : ∀ (B23 : Int32 → Int32 → Prop) (hB23 : ∀ (x2 : Int32) (x3 : Int32) (H : Heap) (locs : List Loc) (ls : Array Slot), x2 = 0 ∨ x2 = 1 → wo G A (wd_X7_15 G b m_images m_at_ m_open_ m_steps m_use_ m_traced m_speaks m_isParted m_s m_sizes m_number) H → va_S A s.heap H locs → lv_has ls 4 [(0, .ref (b 0)), (1, .int p1), (2, .int x2), (3, .int x3)] → B23 x2 x3 → W p l e (rmm 1 22) s m args below meth c H locs 0 0 Q (F0 m 23 ls [])), ∀ (x3 : Int32) (t0 : Int32) (H : Heap) (locs : List Loc) (ls : Array Slot), t0 = 0 ∨ t0 = 1 → wo G A (wd_X7_15 G b m_images m_at_ m_open_ m_steps m_use_ m_traced m_speaks m_isParted m_s m_sizes m_number) H → va_S A s.heap H locs → lv_has ls 4 [(0, .ref (b 0)), (1, .int p1), (3, .int x3)] → j_X7_areNearSo_62 p1 m_s m_sizes m_number B23 K x3 t0 → W p l e (rmm 1 22) s m args below meth c H locs 0 0 Q (F0 m 62 ls [.int t0]) := by
    intro B23 hB23 x3 t0 H locs ls hz_t0 hW hS hl hv
    refine lv_istore_n (lv' := [(2, .int t0), (0, .ref (b 0)), (1, .int p1), (3, .int x3)]) hx hb dX7_areNearSo_62 rfl hl (by decide) rfl (fun ls hl => ?_)
    refine lv_iinc (v := (x3 + 1)) (lv' := [(3, .int (x3 + 1)), (2, .int t0), (0, .ref (b 0)), (1, .int p1)]) hx hb dX7_areNearSo_63 hl (k := 3) rfl rfl (by decide) rfl (fun ls hl => ?_)
    refine lv_goto (tgt := 23) hx hb dX7_areNearSo_66 (by decide) ?_
    exact hB23 t0 (x3 + 1) H locs ls hz_t0 hW hS (lv_sub hl [2, 3, 1, 0] rfl) hv
  have h_l_X7_areNearSo_23 : ∀ (n : Nat), ∀ (x2 : Int32) (x3 : Int32) (H : Heap) (locs : List Loc) (ls : Array Slot), x2 = 0 ∨ x2 = 1 → wo G A (wd_X7_15 G b m_images m_at_ m_open_ m_steps m_use_ m_traced m_speaks m_isParted m_s m_sizes m_number) H → va_S A s.heap H locs → lv_has ls 4 [(0, .ref (b 0)), (1, .int p1), (2, .int x2), (3, .int x3)] → l_X7_areNearSo_23 p1 m_s m_sizes m_number K n x2 x3 → W p l e (rmm 1 22) s m args below meth c H locs 0 0 Q (F0 m 23 ls []) := by
    intro n
    induction n with
    | zero =>
      intro x2 x3 H locs ls hz_x2 hW hS hl hv
      exact False.elim hv
    | succ n ih =>
      intro x2 x3 H locs ls hz_x2 hW hS hl hv
      refine lv_iload_n hx hb dX7_areNearSo_23 rfl (lv_at hl 3 rfl) ?_
      refine lv_aload_n hx hb dX7_areNearSo_24 rfl (lv_at hl 0 rfl) ?_
      refine q_get C kc7 hW 0 rfl 19 (by decide) fl_X7_43 rfl rfl dX7_areNearSo_25 ?_
      refine lv_iload_n hx hb dX7_areNearSo_28 rfl (lv_at hl 1 rfl) ?_
      obtain ⟨h_4, hv⟩ := hv
      refine q_iald C hW 2 rfl h_4 dX7_areNearSo_29 ?_
      refine lv_icmp_ge (tgt := 69) hx hb dX7_areNearSo_30 (by decide) (fun c_5 => ?_) (fun c_5 => ?_)
      · replace hv := hv.1 c_5
        refine lv_iload_n hx hb dX7_areNearSo_69 rfl (lv_at hl 2 rfl) ?_
        exact ret () x2 H locs ls _ (bl_narrow hz_x2) hW hS ⟨hz_x2, hv⟩ dX7_areNearSo_70
      · replace hv := hv.2 c_5
        refine lv_iload_n hx hb dX7_areNearSo_33 rfl (lv_at hl 2 rfl) ?_
        refine lv_if_eq (tgt := 69) hx hb dX7_areNearSo_34 (by decide) (fun c_6 => ?_) (fun c_6 => ?_)
        · replace hv := hv.1 c_6
          refine lv_iload_n hx hb dX7_areNearSo_69 rfl (lv_at hl 2 rfl) ?_
          exact ret () x2 H locs ls _ (bl_narrow hz_x2) hW hS ⟨hz_x2, hv⟩ dX7_areNearSo_70
        · replace hv := hv.2 c_6
          refine lv_aload_n hx hb dX7_areNearSo_37 rfl (lv_at hl 0 rfl) ?_
          refine lv_iload_n hx hb dX7_areNearSo_38 rfl (lv_at hl 3 rfl) ?_
          refine lv_iconst (v := 2) hx hb dX7_areNearSo_39 kic_2 ?_
          refine q_callV (rest := []) (n := 2) C (c_X7_its l G b m_images m_at_ m_open_ m_steps m_use_ m_traced m_speaks m_isParted m_s x3 (2 : Int32) _ hv) ml_X7_120 kb_X7_its rfl ⟨⟨rfl, rfl⟩, (Nat.le_of_ble_eq_true rfl), (Nat.le_of_ble_eq_true rfl)⟩ hW hS [0, 1] rfl rfl kc7 (q0 := 0) rfl hl.1 rfl (Nat.le_of_ble_eq_true rfl) dX7_areNearSo_40 ⟨Nat.zero_le _, Nat.zero_le _⟩ (fun r_7 u_8 H locs hv hW hS => ?_)
          try dsimp only at hv
          refine lv_aload_n hx hb dX7_areNearSo_43 rfl (lv_at hl 0 rfl) ?_
          refine q_get C kc7 hW 0 rfl 20 (by decide) fl_X7_46 rfl rfl dX7_areNearSo_44 ?_
          refine lv_bipush (v := 24) hx hb dX7_areNearSo_47 kbp_24 ?_
          refine lv_iload_n hx hb dX7_areNearSo_49 rfl (lv_at hl 1 rfl) ?_
          refine lv_imul hx hb dX7_areNearSo_50 ?_
          refine lv_iload_n hx hb dX7_areNearSo_51 rfl (lv_at hl 3 rfl) ?_
          refine lv_iadd hx hb dX7_areNearSo_52 ?_
          obtain ⟨h_9, hv⟩ := hv
          refine q_iald C hW 3 rfl h_9 dX7_areNearSo_53 ?_
          refine lv_icmp_ne (tgt := 61) hx hb dX7_areNearSo_54 (by decide) (fun c_10 => ?_) (fun c_10 => ?_)
          · replace hv := hv.1 c_10
            refine lv_iconst (v := 0) hx hb dX7_areNearSo_61 kic_0 ?_
            exact h_j_X7_areNearSo_62 (fun x2' x3' => l_X7_areNearSo_23 p1 m_s m_sizes m_number K n x2' x3') ih x3 (0 : Int32) H locs ls (Or.inl rfl) hW hS (lv_sub hl [0, 1, 3] rfl) hv
          · replace hv := hv.2 c_10
            refine lv_iconst (v := 1) hx hb dX7_areNearSo_57 kic_1 ?_
            refine lv_goto (tgt := 62) hx hb dX7_areNearSo_58 (by decide) ?_
            exact h_j_X7_areNearSo_62 (fun x2' x3' => l_X7_areNearSo_23 p1 m_s m_sizes m_number K n x2' x3') ih x3 (1 : Int32) H locs ls (Or.inr rfl) hW hS (lv_sub hl [0, 1, 3] rfl) hv
  have h_j_X7_areNearSo_20 : ∀ (t0 : Int32) (H : Heap) (locs : List Loc) (ls : Array Slot), t0 = 0 ∨ t0 = 1 → wo G A (wd_X7_15 G b m_images m_at_ m_open_ m_steps m_use_ m_traced m_speaks m_isParted m_s m_sizes m_number) H → va_S A s.heap H locs → lv_has ls 4 [(0, .ref (b 0)), (1, .int p1)] → j_X7_areNearSo_20 p1 m_s m_sizes m_number K t0 → W p l e (rmm 1 22) s m args below meth c H locs 0 0 Q (F0 m 20 ls [.int t0]) := by
    intro t0 H locs ls hz_t0 hW hS hl hv
    refine lv_istore_n (lv' := [(2, .int t0), (0, .ref (b 0)), (1, .int p1)]) hx hb dX7_areNearSo_20 rfl hl (by decide) rfl (fun ls hl => ?_)
    refine lv_iconst (v := 0) hx hb dX7_areNearSo_21 kic_0 ?_
    refine lv_istore_n (lv' := [(3, .int (0 : Int32)), (2, .int t0), (0, .ref (b 0)), (1, .int p1)]) hx hb dX7_areNearSo_22 rfl hl (by decide) rfl (fun ls hl => ?_)
    obtain ⟨n_11, hv⟩ := hv
    exact h_l_X7_areNearSo_23 n_11 t0 (0 : Int32) H locs ls hz_t0 hW hS (lv_sub hl [2, 3, 1, 0] rfl) hv
  refine lv_aload_n hx hb dX7_areNearSo_0 rfl (lv_at hl 0 rfl) ?_
  refine q_get C kc7 hW 0 rfl 19 (by decide) fl_X7_43 rfl rfl dX7_areNearSo_1 ?_
  refine lv_iload_n hx hb dX7_areNearSo_4 rfl (lv_at hl 1 rfl) ?_
  obtain ⟨h_1, hv⟩ := hv
  refine q_iald C hW 2 rfl h_1 dX7_areNearSo_5 ?_
  refine lv_aload_n hx hb dX7_areNearSo_6 rfl (lv_at hl 0 rfl) ?_
  refine q_get C kc7 hW 0 rfl 0 (by decide) fl_X7_7 rfl rfl dX7_areNearSo_7 ?_
  refine lv_iconst (v := 4) hx hb dX7_areNearSo_10 kic_4 ?_
  obtain ⟨h_2, hv⟩ := hv
  refine q_iald C hW 1 rfl h_2 dX7_areNearSo_11 ?_
  refine lv_icmp_gt (tgt := 19) hx hb dX7_areNearSo_12 (by decide) (fun c_3 => ?_) (fun c_3 => ?_)
  · replace hv := hv.1 c_3
    refine lv_iconst (v := 0) hx hb dX7_areNearSo_19 kic_0 ?_
    exact h_j_X7_areNearSo_20 (0 : Int32) H locs ls (Or.inl rfl) hW hS (lv_sub hl [0, 1] rfl) hv
  · replace hv := hv.2 c_3
    refine lv_iconst (v := 1) hx hb dX7_areNearSo_15 kic_1 ?_
    refine lv_goto (tgt := 20) hx hb dX7_areNearSo_16 (by decide) ?_
    exact h_j_X7_areNearSo_20 (1 : Int32) H locs ls (Or.inr rfl) hW hS (lv_sub hl [0, 1] rfl) hv
set_option maxHeartbeats 4000000 in
set_option maxRecDepth 100000 in
theorem c_X7_isSoBy (l : Launch) (G : Gt) (b : Nat → Nat) (m_images : Int32) (m_at_ : Int32) (m_open_ : Int32) (m_steps : Int32) (m_use_ : Int32) (m_traced : Int32) (m_speaks : Int32) (m_isParted : Int32) (m_s : Nat → Int32) (m_laid : Nat → Int32) (m_named : Nat → Int32) (m_pile : Nat → Int32) (m_nearThen : Nat → Int32) (m_shownThen : Nat → Int32) (m_sizes : Nat → Int32) (m_number : Nat → Int32) (p1 : Int32) (p2 : Int32) (p3 : Int32) (p4 : Int32) (K : Int32 → (Nat → Int32) → (Nat → Int32) → (Nat → Int32) → (Nat → Int32) → (Nat → Int32) → (Nat → Int32) → Prop) (hv : v_X7_isSoBy p1 p2 p3 p4 m_s m_laid m_named m_pile m_nearThen m_shownThen m_sizes m_number K) : CI l G yX7_isSoBy (.code yX7_isSoBy cX7_isSoBy 6 (some .boolean) :: wsG) (rmm 7 159) [.ref (b 0), .int p1, .int p2, .int p3, .int p4] (wd_X7_16 G b m_images m_at_ m_open_ m_steps m_use_ m_traced m_speaks m_isParted m_s m_laid m_named m_pile m_nearThen m_shownThen m_sizes m_number) (S := (Nat → Int32) × (Nat → Int32) × (Nat → Int32) × (Nat → Int32) × (Nat → Int32) × (Nat → Int32)) (fun u => wd_X7_16 G b m_images m_at_ m_open_ m_steps m_use_ m_traced m_speaks m_isParted u.1 u.2.1 u.2.2.1 u.2.2.2.1 u.2.2.2.2.1 u.2.2.2.2.2 m_sizes m_number) (fun r u => (r = 0 ∨ r = 1) ∧ K r u.1 u.2.1 u.2.2.1 u.2.2.2.1 u.2.2.2.2.1 u.2.2.2.2.2) := by
  refine ci_intro (by decide) rfl (fun _ => rfl) (Nat.le_of_ble_eq_true rfl) ?_
  intro p e s m args below meth c A H ls Q C hW hS hl ret
  have hx := C.1.1
  have hb := C.1.2.1
  generalize hls : ([] : List Loc) = locs at hS ⊢
  have hl : lv_has ls 6 [(0, .ref (b 0)), (1, .int p1), (2, .int p2), (3, .int p3), (4, .int p4)] := hl
  refine lv_aload_n hx hb dX7_isSoBy_0 rfl (lv_at hl 0 rfl) ?_
  refine q_callVv (rest := []) (n := 0) C (c_X7_layDown l G b m_images m_at_ m_open_ m_steps m_use_ m_traced m_speaks m_isParted m_s m_laid _ hv) ml_X7_191 kb_X7_layDown rfl ⟨⟨rfl, rfl⟩, (Nat.le_of_ble_eq_true rfl), (Nat.le_of_ble_eq_true rfl)⟩ hW hS [0, 1, 2] rfl rfl kc7 (q0 := 0) rfl hl.1 rfl (Nat.le_of_ble_eq_true rfl) dX7_isSoBy_1 ⟨Nat.zero_le _, Nat.zero_le _⟩ (fun u_2 H locs hv hW hS => ?_)
  obtain ⟨m_laid_1, rfl⟩ : ∃ z, z = u_2 := ⟨_, rfl⟩
  try dsimp only at hv
  have hW : wo G A (wd_X7_16 G b m_images m_at_ m_open_ m_steps m_use_ m_traced m_speaks m_isParted m_s m_laid_1 m_named m_pile m_nearThen m_shownThen m_sizes m_number) H := hW
  refine lv_aload_n hx hb dX7_isSoBy_4 rfl (lv_at hl 0 rfl) ?_
  refine lv_iload_n hx hb dX7_isSoBy_5 rfl (lv_at hl 3 rfl) ?_
  refine lv_iconst (v := 3) hx hb dX7_isSoBy_6 kic_3 ?_
  refine lv_iload hx hb dX7_isSoBy_7 (lv_at hl 4 rfl) ?_
  refine q_callVv (rest := []) (n := 3) C (c_X7_lays1 l G b m_images m_at_ m_open_ m_steps m_use_ m_traced m_speaks m_isParted m_s p3 (3 : Int32) p4 _ hv) ml_X7_151 kb_X7_lays1 rfl ⟨⟨rfl, rfl⟩, (Nat.le_of_ble_eq_true rfl), (Nat.le_of_ble_eq_true rfl)⟩ hW hS [0, 1] rfl rfl kc7 (q0 := 0) rfl hl.1 rfl (Nat.le_of_ble_eq_true rfl) dX7_isSoBy_9 ⟨Nat.zero_le _, Nat.zero_le _⟩ (fun u_4 H locs hv hW hS => ?_)
  obtain ⟨m_s_3, rfl⟩ : ∃ z, z = u_4 := ⟨_, rfl⟩
  try dsimp only at hv
  have hW : wo G A (wd_X7_16 G b m_images m_at_ m_open_ m_steps m_use_ m_traced m_speaks m_isParted m_s_3 m_laid_1 m_named m_pile m_nearThen m_shownThen m_sizes m_number) H := hW
  refine lv_aload_n hx hb dX7_isSoBy_12 rfl (lv_at hl 0 rfl) ?_
  refine lv_iload_n hx hb dX7_isSoBy_13 rfl (lv_at hl 2 rfl) ?_
  refine q_callVv (rest := []) (n := 1) C (c_X7_goes l G b m_images m_at_ m_open_ m_steps m_use_ m_traced m_speaks m_isParted m_s_3 m_named m_pile m_nearThen m_shownThen p2 _ hv) ml_X7_178 kb_X7_goes rfl ⟨⟨rfl, rfl⟩, (Nat.le_of_ble_eq_true rfl), (Nat.le_of_ble_eq_true rfl)⟩ hW hS [0, 1, 3, 4, 5, 6] rfl rfl kc7 (q0 := 0) rfl hl.1 rfl (Nat.le_of_ble_eq_true rfl) dX7_isSoBy_14 ⟨Nat.zero_le _, Nat.zero_le _⟩ (fun u_6 H locs hv hW hS => ?_)
  obtain ⟨m_s_5, m_named_5, m_pile_5, m_nearThen_5, m_shownThen_5⟩ := u_6
  try dsimp only at hv
  have hW : wo G A (wd_X7_16 G b m_images m_at_ m_open_ m_steps m_use_ m_traced m_speaks m_isParted m_s_5 m_laid_1 m_named_5 m_pile_5 m_nearThen_5 m_shownThen_5 m_sizes m_number) H := hW
  refine lv_aload_n hx hb dX7_isSoBy_17 rfl (lv_at hl 0 rfl) ?_
  refine lv_iload_n hx hb dX7_isSoBy_18 rfl (lv_at hl 1 rfl) ?_
  refine q_callV (rest := []) (n := 1) C (c_X7_areNearSo l G b m_images m_at_ m_open_ m_steps m_use_ m_traced m_speaks m_isParted m_s_5 m_sizes m_number p1 _ hv) ml_X7_210 kb_X7_areNearSo rfl ⟨⟨rfl, rfl⟩, (Nat.le_of_ble_eq_true rfl), (Nat.le_of_ble_eq_true rfl)⟩ hW hS [0, 1, 7, 8] rfl rfl kc7 (q0 := 0) rfl hl.1 rfl (Nat.le_of_ble_eq_true rfl) dX7_isSoBy_19 ⟨Nat.zero_le _, Nat.zero_le _⟩ (fun r_7 u_8 H locs hv hW hS => ?_)
  obtain ⟨hv_b_7, hv⟩ := hv
  try dsimp only at hv
  refine lv_istore (lv' := [(5, .int r_7), (0, .ref (b 0)), (1, .int p1), (2, .int p2), (3, .int p3), (4, .int p4)]) hx hb dX7_isSoBy_22 hl (by decide) rfl (fun ls hl => ?_)
  refine lv_aload_n hx hb dX7_isSoBy_24 rfl (lv_at hl 1 rfl) ?_
  refine q_callVv (rest := []) (n := 0) C (c_X7_layBack l G b m_images m_at_ m_open_ m_steps m_use_ m_traced m_speaks m_isParted m_s_5 m_laid_1 _ hv) ml_X7_194 kb_X7_layBack rfl ⟨⟨rfl, rfl⟩, (Nat.le_of_ble_eq_true rfl), (Nat.le_of_ble_eq_true rfl)⟩ hW hS [0, 1, 2] rfl rfl kc7 (q0 := 0) rfl hl.1 rfl (Nat.le_of_ble_eq_true rfl) dX7_isSoBy_25 ⟨Nat.zero_le _, Nat.zero_le _⟩ (fun u_10 H locs hv hW hS => ?_)
  obtain ⟨m_s_9, rfl⟩ : ∃ z, z = u_10 := ⟨_, rfl⟩
  try dsimp only at hv
  have hW : wo G A (wd_X7_16 G b m_images m_at_ m_open_ m_steps m_use_ m_traced m_speaks m_isParted m_s_9 m_laid_1 m_named_5 m_pile_5 m_nearThen_5 m_shownThen_5 m_sizes m_number) H := hW
  refine lv_iload hx hb dX7_isSoBy_28 (lv_at hl 0 rfl) ?_
  exact ret (m_s_9, m_laid_1, m_named_5, m_pile_5, m_nearThen_5, m_shownThen_5) r_7 H locs ls _ (bl_narrow hv_b_7) hW hS ⟨hv_b_7, hv⟩ dX7_isSoBy_30
set_option maxHeartbeats 4000000 in
set_option maxRecDepth 100000 in
theorem c_X7_isSheet (l : Launch) (G : Gt) (p1 : Int32) (K : Int32 → Prop) (hv : v_X7_isSheet p1 K) : CI l G yX7_isSheet (.code yX7_isSheet cX7_isSheet 1 (some .boolean) :: wsG) (rmm 1 22) [.int p1] [] (S := Unit) (fun _ => []) (fun r u => (r = 0 ∨ r = 1) ∧ K r) := by
  refine ci_intro (by decide) rfl (fun _ => rfl) (Nat.le_of_ble_eq_true rfl) ?_
  intro p e s m args below meth c A H ls Q C hW hS hl ret
  have hx := C.1.1
  have hb := C.1.2.1
  generalize hls : ([] : List Loc) = locs at hS ⊢
  have hl : lv_has ls 1 [(0, .int p1)] := hl
  refine lv_iload_n hx hb dX7_isSheet_0 rfl (lv_at hl 0 rfl) ?_
  refine lv_iconst (v := 0) hx hb dX7_isSheet_1 kic_0 ?_
  refine lv_iconst (v := 3) hx hb dX7_isSheet_2 kic_3 ?_
  refine q_callS (rest := []) (n := 3) C (c_X7_in l G p1 (0 : Int32) (3 : Int32) _ hv) ml_X7_53 kb_X7_in rfl ⟨⟨rfl, rfl⟩, (Nat.le_of_ble_eq_true rfl), (Nat.le_of_ble_eq_true rfl)⟩ hW hS hl.1 rfl (Nat.le_of_ble_eq_true rfl) dX7_isSheet_3 ⟨Nat.zero_le _, Nat.zero_le _⟩ (fun r_1 u_2 H locs hv hW hS => ?_)
  obtain ⟨hv_b_1, hv⟩ := hv
  try dsimp only at hv
  exact ret () r_1 H locs ls _ (bl_narrow hv_b_1) hW hS ⟨hv_b_1, hv⟩ dX7_isSheet_6
set_option maxHeartbeats 4000000 in
set_option maxRecDepth 100000 in
theorem c_X7_lacks (l : Launch) (G : Gt) (b : Nat → Nat) (m_images : Int32) (m_at_ : Int32) (m_open_ : Int32) (m_steps : Int32) (m_use_ : Int32) (m_traced : Int32) (m_speaks : Int32) (m_isParted : Int32) (m_bits : Nat → Int32) (p1 : Int32) (K : Int32 → Prop) (hv : v_X7_lacks p1 m_bits K) : CI l G yX7_lacks (.code yX7_lacks cX7_lacks 2 (some .int) :: wsG) (rmm 2 42) [.ref (b 0), .int p1] (wd_X7_17 G b m_images m_at_ m_open_ m_steps m_use_ m_traced m_speaks m_isParted m_bits) (S := Unit) (fun u => wd_X7_17 G b m_images m_at_ m_open_ m_steps m_use_ m_traced m_speaks m_isParted m_bits) (fun r u => K r) := by
  refine ci_intro (by decide) rfl (fun _ => rfl) (Nat.le_of_ble_eq_true rfl) ?_
  intro p e s m args below meth c A H ls Q C hW hS hl ret
  have hx := C.1.1
  have hb := C.1.2.1
  generalize hls : ([] : List Loc) = locs at hS ⊢
  have hl : lv_has ls 2 [(0, .ref (b 0)), (1, .int p1)] := hl
  refine lv_iload_n hx hb dX7_lacks_0 rfl (lv_at hl 1 rfl) ?_
  refine q_callS (rest := []) (n := 1) C (c_X7_isSheet l G p1 _ hv) ml_X7_250 kb_X7_isSheet rfl ⟨⟨rfl, rfl⟩, (Nat.le_of_ble_eq_true rfl), (Nat.le_of_ble_eq_true rfl)⟩ hW hS hl.1 rfl (Nat.le_of_ble_eq_true rfl) dX7_lacks_1 ⟨Nat.zero_le _, Nat.zero_le _⟩ (fun r_1 u_2 H locs hv hW hS => ?_)
  obtain ⟨hv_b_1, hv⟩ := hv
  try dsimp only at hv
  refine lv_if_ne (tgt := 11) hx hb dX7_lacks_4 (by decide) (fun c_3 => ?_) (fun c_3 => ?_)
  · replace hv := hv.1 c_3
    refine lv_aload_n hx hb dX7_lacks_11 rfl (lv_at hl 0 rfl) ?_
    refine q_get C kc7 hW 0 rfl 18 (by decide) fl_X7_40 rfl rfl dX7_lacks_12 ?_
    refine lv_iload_n hx hb dX7_lacks_15 rfl (lv_at hl 1 rfl) ?_
    obtain ⟨h_4, hv⟩ := hv
    refine q_iald C hW 1 rfl h_4 dX7_lacks_16 ?_
    refine lv_if_ne (tgt := 24) hx hb dX7_lacks_17 (by decide) (fun c_5 => ?_) (fun c_5 => ?_)
    · replace hv := hv.1 c_5
      refine lv_iconst (v := 0) hx hb dX7_lacks_24 kic_0 ?_
      exact ret () (0 : Int32) H locs ls _ rfl hW hS hv dX7_lacks_25
    · replace hv := hv.2 c_5
      refine lv_iconst (v := 2) hx hb dX7_lacks_20 kic_2 ?_
      refine lv_goto (tgt := 25) hx hb dX7_lacks_21 (by decide) ?_
      exact ret () (2 : Int32) H locs ls _ rfl hW hS hv dX7_lacks_25
  · replace hv := hv.2 c_3
    refine lv_iconst (v := 1) hx hb dX7_lacks_7 kic_1 ?_
    refine lv_goto (tgt := 25) hx hb dX7_lacks_8 (by decide) ?_
    exact ret () (1 : Int32) H locs ls _ rfl hW hS hv dX7_lacks_25
set_option maxHeartbeats 4000000 in
set_option maxRecDepth 100000 in
theorem c_X7_began (l : Launch) (G : Gt) (b : Nat → Nat) (m_images : Int32) (m_at_ : Int32) (m_open_ : Int32) (m_steps : Int32) (m_use_ : Int32) (m_traced : Int32) (m_speaks : Int32) (m_isParted : Int32) (m_s : Nat → Int32) (m_laid : Nat → Int32) (m_errors : Nat → Int32) (m_named : Nat → Int32) (m_pile : Nat → Int32) (m_nearThen : Nat → Int32) (m_shownThen : Nat → Int32) (m_bits : Nat → Int32) (m_sizes : Nat → Int32) (m_number : Nat → Int32) (p1 : Int32) (p2 : Int32) (p3 : Int32) (K : Int32 → (Nat → Int32) → (Nat → Int32) → (Nat → Int32) → (Nat → Int32) → (Nat → Int32) → (Nat → Int32) → (Nat → Int32) → Prop) (hv : v_X7_began p1 p2 p3 m_s m_laid m_errors m_named m_pile m_nearThen m_shownThen m_bits m_sizes m_number K) : CI l G yX7_began (.code yX7_began cX7_began 9 (some .int) :: wsG) (rmm 8 184) [.ref (b 0), .int p1, .int p2, .int p3] (wd_X7_18 G b m_images m_at_ m_open_ m_steps m_use_ m_traced m_speaks m_isParted m_s m_laid m_errors m_named m_pile m_nearThen m_shownThen m_bits m_sizes m_number) (S := (Nat → Int32) × (Nat → Int32) × (Nat → Int32) × (Nat → Int32) × (Nat → Int32) × (Nat → Int32) × (Nat → Int32)) (fun u => wd_X7_18 G b m_images m_at_ m_open_ m_steps m_use_ m_traced m_speaks m_isParted u.1 u.2.1 u.2.2.1 u.2.2.2.1 u.2.2.2.2.1 u.2.2.2.2.2.1 u.2.2.2.2.2.2 m_bits m_sizes m_number) (fun r u => K r u.1 u.2.1 u.2.2.1 u.2.2.2.1 u.2.2.2.2.1 u.2.2.2.2.2.1 u.2.2.2.2.2.2) := by
  refine ci_intro (by decide) rfl (fun _ => rfl) (Nat.le_of_ble_eq_true rfl) ?_
  intro p e s m args below meth c A H ls Q C hW hS hl ret
  have hx := C.1.1
  have hb := C.1.2.1
  generalize hls : ([] : List Loc) = locs at hS ⊢
  have hl : lv_has ls 9 [(0, .ref (b 0)), (1, .int p1), (2, .int p2), (3, .int p3)] := hl
  have h_j_X7_began_127 : ∀ (B61 : Int32 → Int32 → Int32 → (Nat → Int32) → (Nat → Int32) → (Nat → Int32) → (Nat → Int32) → (Nat → Int32) → (Nat → Int32) → (Nat → Int32) → Prop) (hB61 : ∀ (x5 : Int32) (x6 : Int32) (x7 : Int32) (m_s : Nat → Int32) (m_laid : Nat → Int32) (m_errors : Nat → Int32) (m_named : Nat → Int32) (m_pile : Nat → Int32) (m_nearThen : Nat → Int32) (m_shownThen : Nat → Int32) (H : Heap) (locs : List Loc) (ls : Array Slot), wo G A (wd_X7_18 G b m_images m_at_ m_open_ m_steps m_use_ m_traced m_speaks m_isParted m_s m_laid m_errors m_named m_pile m_nearThen m_shownThen m_bits m_sizes m_number) H → va_S A s.heap H locs → lv_has ls 9 [(0, .ref (b 0)), (1, .int p1), (2, .int p2), (3, .int p3), (5, .int x5), (6, .int x6), (7, .int x7)] → B61 x5 x6 x7 m_s m_laid m_errors m_named m_pile m_nearThen m_shownThen → W p l e (rmm 8 184) s m args below meth c H locs 0 0 Q (F0 m 61 ls [])), ∀ (x5 : Int32) (x7 : Int32) (t0 : Int32) (m_s : Nat → Int32) (m_laid : Nat → Int32) (m_errors : Nat → Int32) (m_named : Nat → Int32) (m_pile : Nat → Int32) (m_nearThen : Nat → Int32) (m_shownThen : Nat → Int32) (H : Heap) (locs : List Loc) (ls : Array Slot), wo G A (wd_X7_18 G b m_images m_at_ m_open_ m_steps m_use_ m_traced m_speaks m_isParted m_s m_laid m_errors m_named m_pile m_nearThen m_shownThen m_bits m_sizes m_number) H → va_S A s.heap H locs → lv_has ls 9 [(0, .ref (b 0)), (1, .int p1), (2, .int p2), (3, .int p3), (5, .int x5), (7, .int x7)] → j_X7_began_127 p1 p2 p3 m_bits m_sizes m_number B61 K x5 x7 t0 m_s m_laid m_errors m_named m_pile m_nearThen m_shownThen → W p l e (rmm 8 184) s m args below meth c H locs 0 0 Q (F0 m 127 ls [.int t0]) := by
    intro B61 hB61 x5 x7 t0 m_s m_laid m_errors m_named m_pile m_nearThen m_shownThen H locs ls hW hS hl hv
    refine lv_istore (lv' := [(6, .int t0), (0, .ref (b 0)), (1, .int p1), (2, .int p2), (3, .int p3), (5, .int x5), (7, .int x7)]) hx hb dX7_began_127 hl (by decide) rfl (fun ls hl => ?_)
    refine lv_iinc (v := (x7 + (-1))) (lv' := [(7, .int (x7 + (-1))), (6, .int t0), (0, .ref (b 0)), (1, .int p1), (2, .int p2), (3, .int p3), (5, .int x5)]) hx hb dX7_began_129 hl (k := 6) rfl rfl (by decide) rfl (fun ls hl => ?_)
    refine lv_goto (tgt := 61) hx hb dX7_began_132 (by decide) ?_
    exact hB61 x5 t0 (x7 + (-1)) m_s m_laid m_errors m_named m_pile m_nearThen m_shownThen H locs ls hW hS (lv_sub hl [2, 3, 4, 5, 6, 1, 0] rfl) hv
  have h_j_X7_began_112 : ∀ (B61 : Int32 → Int32 → Int32 → (Nat → Int32) → (Nat → Int32) → (Nat → Int32) → (Nat → Int32) → (Nat → Int32) → (Nat → Int32) → (Nat → Int32) → Prop) (hB61 : ∀ (x5 : Int32) (x6 : Int32) (x7 : Int32) (m_s : Nat → Int32) (m_laid : Nat → Int32) (m_errors : Nat → Int32) (m_named : Nat → Int32) (m_pile : Nat → Int32) (m_nearThen : Nat → Int32) (m_shownThen : Nat → Int32) (H : Heap) (locs : List Loc) (ls : Array Slot), wo G A (wd_X7_18 G b m_images m_at_ m_open_ m_steps m_use_ m_traced m_speaks m_isParted m_s m_laid m_errors m_named m_pile m_nearThen m_shownThen m_bits m_sizes m_number) H → va_S A s.heap H locs → lv_has ls 9 [(0, .ref (b 0)), (1, .int p1), (2, .int p2), (3, .int p3), (5, .int x5), (6, .int x6), (7, .int x7)] → B61 x5 x6 x7 m_s m_laid m_errors m_named m_pile m_nearThen m_shownThen → W p l e (rmm 8 184) s m args below meth c H locs 0 0 Q (F0 m 61 ls [])), ∀ (x6 : Int32) (x7 : Int32) (x8 : Int32) (t0 : Int32) (t1 : Int32) (m_s : Nat → Int32) (m_laid : Nat → Int32) (m_errors : Nat → Int32) (m_named : Nat → Int32) (m_pile : Nat → Int32) (m_nearThen : Nat → Int32) (m_shownThen : Nat → Int32) (H : Heap) (locs : List Loc) (ls : Array Slot), x8 = 0 ∨ x8 = 1 → t1 = 0 ∨ t1 = 1 → wo G A (wd_X7_18 G b m_images m_at_ m_open_ m_steps m_use_ m_traced m_speaks m_isParted m_s m_laid m_errors m_named m_pile m_nearThen m_shownThen m_bits m_sizes m_number) H → va_S A s.heap H locs → lv_has ls 9 [(0, .ref (b 0)), (1, .int p1), (2, .int p2), (3, .int p3), (6, .int x6), (7, .int x7), (8, .int x8)] → j_X7_began_112 p1 p2 p3 m_bits m_sizes m_number B61 K x6 x7 x8 t0 t1 m_s m_laid m_errors m_named m_pile m_nearThen m_shownThen → W p l e (rmm 8 184) s m args below meth c H locs 0 0 Q (F0 m 112 ls [.int t1, .int t0]) := by
    intro B61 hB61 x6 x7 x8 t0 t1 m_s m_laid m_errors m_named m_pile m_nearThen m_shownThen H locs ls hz_x8 hz_t1 hW hS hl hv
    refine lv_iadd hx hb dX7_began_112 ?_
    refine lv_istore (lv' := [(5, .int (t0 + t1)), (0, .ref (b 0)), (1, .int p1), (2, .int p2), (3, .int p3), (6, .int x6), (7, .int x7), (8, .int x8)]) hx hb dX7_began_113 hl (by decide) rfl (fun ls hl => ?_)
    refine lv_iload hx hb dX7_began_115 (lv_at hl 7 rfl) ?_
    refine lv_if_eq (tgt := 125) hx hb dX7_began_117 (by decide) (fun c_14 => ?_) (fun c_14 => ?_)
    · replace hv := hv.1 c_14
      refine lv_iload hx hb dX7_began_125 (lv_at hl 5 rfl) ?_
      exact h_j_X7_began_127 B61 hB61 (t0 + t1) x7 x6 m_s m_laid m_errors m_named m_pile m_nearThen m_shownThen H locs ls hW hS (lv_sub hl [1, 2, 3, 4, 0, 6] rfl) hv
    · replace hv := hv.2 c_14
      refine lv_iload hx hb dX7_began_120 (lv_at hl 6 rfl) ?_
      refine lv_goto (tgt := 127) hx hb dX7_began_122 (by decide) ?_
      exact h_j_X7_began_127 B61 hB61 (t0 + t1) x7 x7 m_s m_laid m_errors m_named m_pile m_nearThen m_shownThen H locs ls hW hS (lv_sub hl [1, 2, 3, 4, 0, 6] rfl) hv
  have h_j_X7_began_98 : ∀ (B61 : Int32 → Int32 → Int32 → (Nat → Int32) → (Nat → Int32) → (Nat → Int32) → (Nat → Int32) → (Nat → Int32) → (Nat → Int32) → (Nat → Int32) → Prop) (hB61 : ∀ (x5 : Int32) (x6 : Int32) (x7 : Int32) (m_s : Nat → Int32) (m_laid : Nat → Int32) (m_errors : Nat → Int32) (m_named : Nat → Int32) (m_pile : Nat → Int32) (m_nearThen : Nat → Int32) (m_shownThen : Nat → Int32) (H : Heap) (locs : List Loc) (ls : Array Slot), wo G A (wd_X7_18 G b m_images m_at_ m_open_ m_steps m_use_ m_traced m_speaks m_isParted m_s m_laid m_errors m_named m_pile m_nearThen m_shownThen m_bits m_sizes m_number) H → va_S A s.heap H locs → lv_has ls 9 [(0, .ref (b 0)), (1, .int p1), (2, .int p2), (3, .int p3), (5, .int x5), (6, .int x6), (7, .int x7)] → B61 x5 x6 x7 m_s m_laid m_errors m_named m_pile m_nearThen m_shownThen → W p l e (rmm 8 184) s m args below meth c H locs 0 0 Q (F0 m 61 ls [])), ∀ (x5 : Int32) (x6 : Int32) (x7 : Int32) (t0 : Int32) (m_s : Nat → Int32) (m_laid : Nat → Int32) (m_errors : Nat → Int32) (m_named : Nat → Int32) (m_pile : Nat → Int32) (m_nearThen : Nat → Int32) (m_shownThen : Nat → Int32) (H : Heap) (locs : List Loc) (ls : Array Slot), t0 = 0 ∨ t0 = 1 → wo G A (wd_X7_18 G b m_images m_at_ m_open_ m_steps m_use_ m_traced m_speaks m_isParted m_s m_laid m_errors m_named m_pile m_nearThen m_shownThen m_bits m_sizes m_number) H → va_S A s.heap H locs → lv_has ls 9 [(0, .ref (b 0)), (1, .int p1), (2, .int p2), (3, .int p3), (5, .int x5), (6, .int x6), (7, .int x7)] → j_X7_began_98 p1 p2 p3 m_bits m_sizes m_number B61 K x5 x6 x7 t0 m_s m_laid m_errors m_named m_pile m_nearThen m_shownThen → W p l e (rmm 8 184) s m args below meth c H locs 0 0 Q (F0 m 98 ls [.int t0]) := by
    intro B61 hB61 x5 x6 x7 t0 m_s m_laid m_errors m_named m_pile m_nearThen m_shownThen H locs ls hz_t0 hW hS hl hv
    refine lv_istore (lv' := [(8, .int t0), (0, .ref (b 0)), (1, .int p1), (2, .int p2), (3, .int p3), (5, .int x5), (6, .int x6), (7, .int x7)]) hx hb dX7_began_98 hl (by decide) rfl (fun ls hl => ?_)
    refine lv_iload hx hb dX7_began_100 (lv_at hl 5 rfl) ?_
    refine lv_iload hx hb dX7_began_102 (lv_at hl 0 rfl) ?_
    refine lv_if_eq (tgt := 111) hx hb dX7_began_104 (by decide) (fun c_13 => ?_) (fun c_13 => ?_)
    · replace hv := hv.1 c_13
      refine lv_iconst (v := 0) hx hb dX7_began_111 kic_0 ?_
      exact h_j_X7_began_112 B61 hB61 x6 x7 t0 x5 (0 : Int32) m_s m_laid m_errors m_named m_pile m_nearThen m_shownThen H locs ls hz_t0 (Or.inl rfl) hW hS (lv_sub hl [1, 2, 3, 4, 6, 7, 0] rfl) hv
    · replace hv := hv.2 c_13
      refine lv_iconst (v := 1) hx hb dX7_began_107 kic_1 ?_
      refine lv_goto (tgt := 112) hx hb dX7_began_108 (by decide) ?_
      exact h_j_X7_began_112 B61 hB61 x6 x7 t0 x5 (1 : Int32) m_s m_laid m_errors m_named m_pile m_nearThen m_shownThen H locs ls hz_t0 (Or.inr rfl) hW hS (lv_sub hl [1, 2, 3, 4, 6, 7, 0] rfl) hv
  have h_j_X7_began_97 : ∀ (B61 : Int32 → Int32 → Int32 → (Nat → Int32) → (Nat → Int32) → (Nat → Int32) → (Nat → Int32) → (Nat → Int32) → (Nat → Int32) → (Nat → Int32) → Prop) (hB61 : ∀ (x5 : Int32) (x6 : Int32) (x7 : Int32) (m_s : Nat → Int32) (m_laid : Nat → Int32) (m_errors : Nat → Int32) (m_named : Nat → Int32) (m_pile : Nat → Int32) (m_nearThen : Nat → Int32) (m_shownThen : Nat → Int32) (H : Heap) (locs : List Loc) (ls : Array Slot), wo G A (wd_X7_18 G b m_images m_at_ m_open_ m_steps m_use_ m_traced m_speaks m_isParted m_s m_laid m_errors m_named m_pile m_nearThen m_shownThen m_bits m_sizes m_number) H → va_S A s.heap H locs → lv_has ls 9 [(0, .ref (b 0)), (1, .int p1), (2, .int p2), (3, .int p3), (5, .int x5), (6, .int x6), (7, .int x7)] → B61 x5 x6 x7 m_s m_laid m_errors m_named m_pile m_nearThen m_shownThen → W p l e (rmm 8 184) s m args below meth c H locs 0 0 Q (F0 m 61 ls [])), ∀ (x5 : Int32) (x6 : Int32) (x7 : Int32) (m_s : Nat → Int32) (m_laid : Nat → Int32) (m_errors : Nat → Int32) (m_named : Nat → Int32) (m_pile : Nat → Int32) (m_nearThen : Nat → Int32) (m_shownThen : Nat → Int32) (H : Heap) (locs : List Loc) (ls : Array Slot), wo G A (wd_X7_18 G b m_images m_at_ m_open_ m_steps m_use_ m_traced m_speaks m_isParted m_s m_laid m_errors m_named m_pile m_nearThen m_shownThen m_bits m_sizes m_number) H → va_S A s.heap H locs → lv_has ls 9 [(0, .ref (b 0)), (1, .int p1), (2, .int p2), (3, .int p3), (5, .int x5), (6, .int x6), (7, .int x7)] → j_X7_began_97 p1 p2 p3 m_bits m_sizes m_number B61 K x5 x6 x7 m_s m_laid m_errors m_named m_pile m_nearThen m_shownThen → W p l e (rmm 8 184) s m args below meth c H locs 0 0 Q (F0 m 97 ls []) := by
    intro B61 hB61 x5 x6 x7 m_s m_laid m_errors m_named m_pile m_nearThen m_shownThen H locs ls hW hS hl hv
    refine lv_iconst (v := 0) hx hb dX7_began_97 kic_0 ?_
    exact h_j_X7_began_98 B61 hB61 x5 x6 x7 (0 : Int32) m_s m_laid m_errors m_named m_pile m_nearThen m_shownThen H locs ls (Or.inl rfl) hW hS (lv_sub hl [0, 1, 2, 3, 4, 5, 6] rfl) hv
  have h_l_X7_began_61 : ∀ (n : Nat), ∀ (x5 : Int32) (x6 : Int32) (x7 : Int32) (m_s : Nat → Int32) (m_laid : Nat → Int32) (m_errors : Nat → Int32) (m_named : Nat → Int32) (m_pile : Nat → Int32) (m_nearThen : Nat → Int32) (m_shownThen : Nat → Int32) (H : Heap) (locs : List Loc) (ls : Array Slot), wo G A (wd_X7_18 G b m_images m_at_ m_open_ m_steps m_use_ m_traced m_speaks m_isParted m_s m_laid m_errors m_named m_pile m_nearThen m_shownThen m_bits m_sizes m_number) H → va_S A s.heap H locs → lv_has ls 9 [(0, .ref (b 0)), (1, .int p1), (2, .int p2), (3, .int p3), (5, .int x5), (6, .int x6), (7, .int x7)] → l_X7_began_61 p1 p2 p3 m_bits m_sizes m_number K n x5 x6 x7 m_s m_laid m_errors m_named m_pile m_nearThen m_shownThen → W p l e (rmm 8 184) s m args below meth c H locs 0 0 Q (F0 m 61 ls []) := by
    intro n
    induction n with
    | zero =>
      intro x5 x6 x7 m_s m_laid m_errors m_named m_pile m_nearThen m_shownThen H locs ls hW hS hl hv
      exact False.elim hv
    | succ n ih =>
      intro x5 x6 x7 m_s m_laid m_errors m_named m_pile m_nearThen m_shownThen H locs ls hW hS hl hv
      refine lv_iload hx hb dX7_began_61 (lv_at hl 6 rfl) ?_
      refine lv_if_le (tgt := 135) hx hb dX7_began_63 (by decide) (fun c_6 => ?_) (fun c_6 => ?_)
      · replace hv := hv.1 c_6
        refine lv_iload_n hx hb dX7_began_135 rfl (lv_at hl 3 rfl) ?_
        refine lv_if_ne (tgt := 144) hx hb dX7_began_136 (by decide) (fun c_7 => ?_) (fun c_7 => ?_)
        · replace hv := hv.1 c_7
          refine lv_iload hx hb dX7_began_144 (lv_at hl 5 rfl) ?_
          refine lv_iconst (v := (-1)) hx hb dX7_began_146 kic_m1 ?_
          refine lv_icmp_ne (tgt := 158) hx hb dX7_began_147 (by decide) (fun c_8 => ?_) (fun c_8 => ?_)
          · replace hv := hv.1 c_8
            refine lv_iload hx hb dX7_began_158 (lv_at hl 5 rfl) ?_
            exact ret (m_s, m_laid, m_errors, m_named, m_pile, m_nearThen, m_shownThen) x6 H locs ls _ rfl hW hS hv dX7_began_160
          · replace hv := hv.2 c_8
            refine lv_aload_n hx hb dX7_began_150 rfl (lv_at hl 0 rfl) ?_
            refine lv_iconst (v := 2) hx hb dX7_began_151 kic_2 ?_
            refine q_callV (rest := []) (n := 1) C (c_X7_error l G b m_images m_at_ m_open_ m_steps m_use_ m_traced m_speaks m_isParted m_errors (2 : Int32) _ hv) ml_X7_61 kb_X7_error rfl ⟨⟨rfl, rfl⟩, (Nat.le_of_ble_eq_true rfl), (Nat.le_of_ble_eq_true rfl)⟩ hW hS [0, 3] rfl rfl kc7 (q0 := 0) rfl hl.1 rfl (Nat.le_of_ble_eq_true rfl) dX7_began_152 ⟨Nat.zero_le _, Nat.zero_le _⟩ (fun r_9 u_10 H locs hv hW hS => ?_)
            obtain ⟨m_errors_9, rfl⟩ : ∃ z, z = u_10 := ⟨_, rfl⟩
            try dsimp only at hv
            have hW : wo G A (wd_X7_18 G b m_images m_at_ m_open_ m_steps m_use_ m_traced m_speaks m_isParted m_s m_laid m_errors_9 m_named m_pile m_nearThen m_shownThen m_bits m_sizes m_number) H := hW
            refine lv_goto (tgt := 160) hx hb dX7_began_155 (by decide) ?_
            exact ret (m_s, m_laid, m_errors_9, m_named, m_pile, m_nearThen, m_shownThen) r_9 H locs ls _ rfl hW hS hv dX7_began_160
        · replace hv := hv.2 c_7
          refine lv_iload hx hb dX7_began_139 (lv_at hl 4 rfl) ?_
          refine lv_goto (tgt := 160) hx hb dX7_began_141 (by decide) ?_
          exact ret (m_s, m_laid, m_errors, m_named, m_pile, m_nearThen, m_shownThen) x5 H locs ls _ rfl hW hS hv dX7_began_160
      · replace hv := hv.2 c_6
        refine lv_iload hx hb dX7_began_66 (lv_at hl 6 rfl) ?_
        refine lv_bipush (v := 10) hx hb dX7_began_68 kbp_10 ?_
        obtain ⟨h_11, hv⟩ := hv
        refine lv_irem hx hb dX7_began_70 h_11 ?_
        refine lv_if_le (tgt := 97) hx hb dX7_began_71 (by decide) (fun c_12 => ?_) (fun c_12 => ?_)
        · replace hv := hv.1 c_12
          exact h_j_X7_began_97 (fun x5' x6' x7' m_s' m_laid' m_errors' m_named' m_pile' m_nearThen' m_shownThen' => l_X7_began_61 p1 p2 p3 m_bits m_sizes m_number K n x5' x6' x7' m_s' m_laid' m_errors' m_named' m_pile' m_nearThen' m_shownThen') ih x5 x6 x7 m_s m_laid m_errors m_named m_pile m_nearThen m_shownThen H locs ls hW hS (lv_sub hl [0, 1, 2, 3, 4, 5, 6] rfl) hv
        · replace hv := hv.2 c_12
          refine lv_aload_n hx hb dX7_began_74 rfl (lv_at hl 0 rfl) ?_
          refine lv_iload_n hx hb dX7_began_75 rfl (lv_at hl 1 rfl) ?_
          refine lv_iload_n hx hb dX7_began_76 rfl (lv_at hl 2 rfl) ?_
          refine lv_iload hx hb dX7_began_77 (lv_at hl 6 rfl) ?_
          refine lv_bipush (v := 10) hx hb dX7_began_79 kbp_10 ?_
          obtain ⟨h_15, hv⟩ := hv
          refine lv_idiv hx hb dX7_began_81 h_15 ?_
          refine lv_iload hx hb dX7_began_82 (lv_at hl 6 rfl) ?_
          refine lv_bipush (v := 10) hx hb dX7_began_84 kbp_10 ?_
          obtain ⟨h_16, hv⟩ := hv
          refine lv_irem hx hb dX7_began_86 h_16 ?_
          refine q_callV (rest := []) (n := 4) C (c_X7_isSoBy l G b m_images m_at_ m_open_ m_steps m_use_ m_traced m_speaks m_isParted m_s m_laid m_named m_pile m_nearThen m_shownThen m_sizes m_number p1 p2 (x7 / (10 : Int32)) (x7 - x7 / (10 : Int32) * (10 : Int32)) _ hv) ml_X7_216 kb_X7_isSoBy rfl ⟨⟨rfl, rfl⟩, (Nat.le_of_ble_eq_true rfl), (Nat.le_of_ble_eq_true rfl)⟩ hW hS [0, 1, 2, 4, 5, 6, 7, 9, 10] rfl rfl kc7 (q0 := 0) rfl hl.1 rfl (Nat.le_of_ble_eq_true rfl) dX7_began_87 ⟨Nat.zero_le _, Nat.zero_le _⟩ (fun r_17 u_18 H locs hv hW hS => ?_)
          obtain ⟨m_s_17, m_laid_17, m_named_17, m_pile_17, m_nearThen_17, m_shownThen_17⟩ := u_18
          obtain ⟨hv_b_17, hv⟩ := hv
          try dsimp only at hv
          have hW : wo G A (wd_X7_18 G b m_images m_at_ m_open_ m_steps m_use_ m_traced m_speaks m_isParted m_s_17 m_laid_17 m_errors m_named_17 m_pile_17 m_nearThen_17 m_shownThen_17 m_bits m_sizes m_number) H := hW
          refine lv_if_eq (tgt := 97) hx hb dX7_began_90 (by decide) (fun c_19 => ?_) (fun c_19 => ?_)
          · replace hv := hv.1 c_19
            exact h_j_X7_began_97 (fun x5' x6' x7' m_s' m_laid' m_errors' m_named' m_pile' m_nearThen' m_shownThen' => l_X7_began_61 p1 p2 p3 m_bits m_sizes m_number K n x5' x6' x7' m_s' m_laid' m_errors' m_named' m_pile' m_nearThen' m_shownThen') ih x5 x6 x7 m_s_17 m_laid_17 m_errors m_named_17 m_pile_17 m_nearThen_17 m_shownThen_17 H locs ls hW hS (lv_sub hl [0, 1, 2, 3, 4, 5, 6] rfl) hv
          · replace hv := hv.2 c_19
            refine lv_iconst (v := 1) hx hb dX7_began_93 kic_1 ?_
            refine lv_goto (tgt := 98) hx hb dX7_began_94 (by decide) ?_
            exact h_j_X7_began_98 (fun x5' x6' x7' m_s' m_laid' m_errors' m_named' m_pile' m_nearThen' m_shownThen' => l_X7_began_61 p1 p2 p3 m_bits m_sizes m_number K n x5' x6' x7' m_s' m_laid' m_errors' m_named' m_pile' m_nearThen' m_shownThen') ih x5 x6 x7 (1 : Int32) m_s_17 m_laid_17 m_errors m_named_17 m_pile_17 m_nearThen_17 m_shownThen_17 H locs ls (Or.inr rfl) hW hS (lv_sub hl [0, 1, 2, 3, 4, 5, 6] rfl) hv
  have h_j_X7_began_28 : ∀ (t0 : Int32) (m_s : Nat → Int32) (m_laid : Nat → Int32) (m_errors : Nat → Int32) (m_named : Nat → Int32) (m_pile : Nat → Int32) (m_nearThen : Nat → Int32) (m_shownThen : Nat → Int32) (H : Heap) (locs : List Loc) (ls : Array Slot), wo G A (wd_X7_18 G b m_images m_at_ m_open_ m_steps m_use_ m_traced m_speaks m_isParted m_s m_laid m_errors m_named m_pile m_nearThen m_shownThen m_bits m_sizes m_number) H → va_S A s.heap H locs → lv_has ls 9 [(0, .ref (b 0)), (1, .int p1), (2, .int p2), (3, .int p3)] → j_X7_began_28 p1 p2 p3 m_bits m_sizes m_number K t0 m_s m_laid m_errors m_named m_pile m_nearThen m_shownThen → W p l e (rmm 8 184) s m args below meth c H locs 0 0 Q (F0 m 28 ls [.int t0]) := by
    intro t0 m_s m_laid m_errors m_named m_pile m_nearThen m_shownThen H locs ls hW hS hl hv
    refine lv_istore (lv' := [(4, .int t0), (0, .ref (b 0)), (1, .int p1), (2, .int p2), (3, .int p3)]) hx hb dX7_began_28 hl (by decide) rfl (fun ls hl => ?_)
    refine lv_iload hx hb dX7_began_30 (lv_at hl 0 rfl) ?_
    refine lv_if_eq (tgt := 42) hx hb dX7_began_32 (by decide) (fun c_4 => ?_) (fun c_4 => ?_)
    · replace hv := hv.1 c_4
      refine lv_iconst (v := 0) hx hb dX7_began_42 kic_0 ?_
      refine lv_istore (lv' := [(5, .int (0 : Int32)), (4, .int t0), (0, .ref (b 0)), (1, .int p1), (2, .int p2), (3, .int p3)]) hx hb dX7_began_43 hl (by decide) rfl (fun ls hl => ?_)
      refine lv_iconst (v := (-1)) hx hb dX7_began_45 kic_m1 ?_
      refine lv_istore (lv' := [(6, .int (-1 : Int32)), (5, .int (0 : Int32)), (4, .int t0), (0, .ref (b 0)), (1, .int p1), (2, .int p2), (3, .int p3)]) hx hb dX7_began_46 hl (by decide) rfl (fun ls hl => ?_)
      refine lv_bipush (v := 10) hx hb dX7_began_48 kbp_10 ?_
      refine lv_aload_n hx hb dX7_began_50 rfl (lv_at hl 3 rfl) ?_
      refine q_get C kc7 hW 0 rfl 0 (by decide) fl_X7_7 rfl rfl dX7_began_51 ?_
      refine lv_iconst (v := 4) hx hb dX7_began_54 kic_4 ?_
      obtain ⟨h_5, hv⟩ := hv
      refine q_iald C hW 1 rfl h_5 dX7_began_55 ?_
      refine lv_imul hx hb dX7_began_56 ?_
      refine lv_iconst (v := 1) hx hb dX7_began_57 kic_1 ?_
      refine lv_isub hx hb dX7_began_58 ?_
      refine lv_istore (lv' := [(7, .int (((10 : Int32) * (m_s (4 : Int32).toNatClampNeg)) - (1 : Int32))), (6, .int (-1 : Int32)), (5, .int (0 : Int32)), (4, .int t0), (0, .ref (b 0)), (1, .int p1), (2, .int p2), (3, .int p3)]) hx hb dX7_began_59 hl (by decide) rfl (fun ls hl => ?_)
      obtain ⟨n_20, hv⟩ := hv
      exact h_l_X7_began_61 n_20 (0 : Int32) (-1 : Int32) (((10 : Int32) * (m_s (4 : Int32).toNatClampNeg)) - (1 : Int32)) m_s m_laid m_errors m_named m_pile m_nearThen m_shownThen H locs ls hW hS (lv_sub hl [4, 5, 6, 7, 2, 1, 0] rfl) hv
    · replace hv := hv.2 c_4
      refine lv_aload_n hx hb dX7_began_35 rfl (lv_at hl 1 rfl) ?_
      refine lv_iload hx hb dX7_began_36 (lv_at hl 0 rfl) ?_
      refine q_callV (rest := []) (n := 1) C (c_X7_error l G b m_images m_at_ m_open_ m_steps m_use_ m_traced m_speaks m_isParted m_errors t0 _ hv) ml_X7_61 kb_X7_error rfl ⟨⟨rfl, rfl⟩, (Nat.le_of_ble_eq_true rfl), (Nat.le_of_ble_eq_true rfl)⟩ hW hS [0, 3] rfl rfl kc7 (q0 := 0) rfl hl.1 rfl (Nat.le_of_ble_eq_true rfl) dX7_began_38 ⟨Nat.zero_le _, Nat.zero_le _⟩ (fun r_21 u_22 H locs hv hW hS => ?_)
      obtain ⟨m_errors_21, rfl⟩ : ∃ z, z = u_22 := ⟨_, rfl⟩
      try dsimp only at hv
      have hW : wo G A (wd_X7_18 G b m_images m_at_ m_open_ m_steps m_use_ m_traced m_speaks m_isParted m_s m_laid m_errors_21 m_named m_pile m_nearThen m_shownThen m_bits m_sizes m_number) H := hW
      exact ret (m_s, m_laid, m_errors_21, m_named, m_pile, m_nearThen, m_shownThen) r_21 H locs ls _ rfl hW hS hv dX7_began_41
  have h_j_X7_began_27 : ∀ (m_s : Nat → Int32) (m_laid : Nat → Int32) (m_errors : Nat → Int32) (m_named : Nat → Int32) (m_pile : Nat → Int32) (m_nearThen : Nat → Int32) (m_shownThen : Nat → Int32) (H : Heap) (locs : List Loc) (ls : Array Slot), wo G A (wd_X7_18 G b m_images m_at_ m_open_ m_steps m_use_ m_traced m_speaks m_isParted m_s m_laid m_errors m_named m_pile m_nearThen m_shownThen m_bits m_sizes m_number) H → va_S A s.heap H locs → lv_has ls 9 [(0, .ref (b 0)), (1, .int p1), (2, .int p2), (3, .int p3)] → j_X7_began_27 p1 p2 p3 m_bits m_sizes m_number K m_s m_laid m_errors m_named m_pile m_nearThen m_shownThen → W p l e (rmm 8 184) s m args below meth c H locs 0 0 Q (F0 m 27 ls []) := by
    intro m_s m_laid m_errors m_named m_pile m_nearThen m_shownThen H locs ls hW hS hl hv
    refine lv_iconst (v := 1) hx hb dX7_began_27 kic_1 ?_
    exact h_j_X7_began_28 (1 : Int32) m_s m_laid m_errors m_named m_pile m_nearThen m_shownThen H locs ls hW hS (lv_sub hl [0, 1, 2, 3] rfl) hv
  refine lv_iload_n hx hb dX7_began_0 rfl (lv_at hl 2 rfl) ?_
  refine lv_iconst (v := 0) hx hb dX7_began_1 kic_0 ?_
  refine lv_bipush (v := 20) hx hb dX7_began_2 kbp_20 ?_
  refine q_callS (rest := []) (n := 3) C (c_X7_in l G p2 (0 : Int32) (20 : Int32) _ hv) ml_X7_53 kb_X7_in rfl ⟨⟨rfl, rfl⟩, (Nat.le_of_ble_eq_true rfl), (Nat.le_of_ble_eq_true rfl)⟩ hW hS hl.1 rfl (Nat.le_of_ble_eq_true rfl) dX7_began_4 ⟨Nat.zero_le _, Nat.zero_le _⟩ (fun r_1 u_2 H locs hv hW hS => ?_)
  obtain ⟨hv_b_1, hv⟩ := hv
  try dsimp only at hv
  refine lv_if_eq (tgt := 27) hx hb dX7_began_7 (by decide) (fun c_3 => ?_) (fun c_3 => ?_)
  · replace hv := hv.1 c_3
    exact h_j_X7_began_27 m_s m_laid m_errors m_named m_pile m_nearThen m_shownThen H locs ls hW hS (lv_sub hl [0, 1, 2, 3] rfl) hv
  · replace hv := hv.2 c_3
    refine lv_iload_n hx hb dX7_began_10 rfl (lv_at hl 3 rfl) ?_
    refine lv_iconst (v := 0) hx hb dX7_began_11 kic_0 ?_
    refine lv_iconst (v := 1) hx hb dX7_began_12 kic_1 ?_
    refine q_callS (rest := []) (n := 3) C (c_X7_in l G p3 (0 : Int32) (1 : Int32) _ hv) ml_X7_53 kb_X7_in rfl ⟨⟨rfl, rfl⟩, (Nat.le_of_ble_eq_true rfl), (Nat.le_of_ble_eq_true rfl)⟩ hW hS hl.1 rfl (Nat.le_of_ble_eq_true rfl) dX7_began_13 ⟨Nat.zero_le _, Nat.zero_le _⟩ (fun r_23 u_24 H locs hv hW hS => ?_)
    obtain ⟨hv_b_23, hv⟩ := hv
    try dsimp only at hv
    refine lv_if_eq (tgt := 27) hx hb dX7_began_16 (by decide) (fun c_25 => ?_) (fun c_25 => ?_)
    · replace hv := hv.1 c_25
      exact h_j_X7_began_27 m_s m_laid m_errors m_named m_pile m_nearThen m_shownThen H locs ls hW hS (lv_sub hl [0, 1, 2, 3] rfl) hv
    · replace hv := hv.2 c_25
      refine lv_aload_n hx hb dX7_began_19 rfl (lv_at hl 0 rfl) ?_
      refine lv_iload_n hx hb dX7_began_20 rfl (lv_at hl 1 rfl) ?_
      refine q_callV (rest := []) (n := 1) C (c_X7_lacks l G b m_images m_at_ m_open_ m_steps m_use_ m_traced m_speaks m_isParted m_bits p1 _ hv) ml_X7_213 kb_X7_lacks rfl ⟨⟨rfl, rfl⟩, (Nat.le_of_ble_eq_true rfl), (Nat.le_of_ble_eq_true rfl)⟩ hW hS [0, 8] rfl rfl kc7 (q0 := 0) rfl hl.1 rfl (Nat.le_of_ble_eq_true rfl) dX7_began_21 ⟨Nat.zero_le _, Nat.zero_le _⟩ (fun r_26 u_27 H locs hv hW hS => ?_)
      try dsimp only at hv
      refine lv_goto (tgt := 28) hx hb dX7_began_24 (by decide) ?_
      exact h_j_X7_began_28 r_26 m_s m_laid m_errors m_named m_pile m_nearThen m_shownThen H locs ls hW hS (lv_sub hl [0, 1, 2, 3] rfl) hv
set_option maxHeartbeats 4000000 in
set_option maxRecDepth 100000 in
theorem c_X7_fits (l : Launch) (G : Gt) (b : Nat → Nat) (m_images : Int32) (m_at_ : Int32) (m_open_ : Int32) (m_steps : Int32) (m_use_ : Int32) (m_traced : Int32) (m_speaks : Int32) (m_isParted : Int32) (m_s : Nat → Int32) (m_laid : Nat → Int32) (m_errors : Nat → Int32) (m_named : Nat → Int32) (m_pile : Nat → Int32) (m_nearThen : Nat → Int32) (m_shownThen : Nat → Int32) (m_bits : Nat → Int32) (m_sizes : Nat → Int32) (m_number : Nat → Int32) (p1 : Int32) (K : Int32 → (Nat → Int32) → (Nat → Int32) → (Nat → Int32) → (Nat → Int32) → (Nat → Int32) → (Nat → Int32) → (Nat → Int32) → Prop) (hv : v_X7_fits p1 m_s m_laid m_errors m_named m_pile m_nearThen m_shownThen m_bits m_sizes m_number K) : CI l G yX7_fits (.code yX7_fits cX7_fits 4 (some .int) :: wsG) (rmm 6 137) [.ref (b 0), .int p1] (wd_X7_18 G b m_images m_at_ m_open_ m_steps m_use_ m_traced m_speaks m_isParted m_s m_laid m_errors m_named m_pile m_nearThen m_shownThen m_bits m_sizes m_number) (S := (Nat → Int32) × (Nat → Int32) × (Nat → Int32) × (Nat → Int32) × (Nat → Int32) × (Nat → Int32) × (Nat → Int32)) (fun u => wd_X7_18 G b m_images m_at_ m_open_ m_steps m_use_ m_traced m_speaks m_isParted u.1 u.2.1 u.2.2.1 u.2.2.2.1 u.2.2.2.2.1 u.2.2.2.2.2.1 u.2.2.2.2.2.2 m_bits m_sizes m_number) (fun r u => K r u.1 u.2.1 u.2.2.1 u.2.2.2.1 u.2.2.2.2.1 u.2.2.2.2.2.1 u.2.2.2.2.2.2) := by
  refine ci_intro (by decide) rfl (fun _ => rfl) (Nat.le_of_ble_eq_true rfl) ?_
  intro p e s m args below meth c A H ls Q C hW hS hl ret
  have hx := C.1.1
  have hb := C.1.2.1
  generalize hls : ([] : List Loc) = locs at hS ⊢
  have hl : lv_has ls 4 [(0, .ref (b 0)), (1, .int p1)] := hl
  have h_j_X7_fits_46 : ∀ (x3 : Int32) (m_s : Nat → Int32) (m_laid : Nat → Int32) (m_errors : Nat → Int32) (m_named : Nat → Int32) (m_pile : Nat → Int32) (m_nearThen : Nat → Int32) (m_shownThen : Nat → Int32) (H : Heap) (locs : List Loc) (ls : Array Slot), wo G A (wd_X7_18 G b m_images m_at_ m_open_ m_steps m_use_ m_traced m_speaks m_isParted m_s m_laid m_errors m_named m_pile m_nearThen m_shownThen m_bits m_sizes m_number) H → va_S A s.heap H locs → lv_has ls 4 [(0, .ref (b 0)), (3, .int x3)] → j_X7_fits_46 p1 m_bits m_sizes m_number K x3 m_s m_laid m_errors m_named m_pile m_nearThen m_shownThen → W p l e (rmm 6 137) s m args below meth c H locs 0 0 Q (F0 m 46 ls []) := by
    intro x3 m_s m_laid m_errors m_named m_pile m_nearThen m_shownThen H locs ls hW hS hl hv
    refine lv_aload_n hx hb dX7_fits_46 rfl (lv_at hl 0 rfl) ?_
    refine q_callVv (rest := []) (n := 0) C (c_X7_layBack l G b m_images m_at_ m_open_ m_steps m_use_ m_traced m_speaks m_isParted m_s m_laid _ hv) ml_X7_194 kb_X7_layBack rfl ⟨⟨rfl, rfl⟩, (Nat.le_of_ble_eq_true rfl), (Nat.le_of_ble_eq_true rfl)⟩ hW hS [0, 1, 2] rfl rfl kc7 (q0 := 0) rfl hl.1 rfl (Nat.le_of_ble_eq_true rfl) dX7_fits_47 ⟨Nat.zero_le _, Nat.zero_le _⟩ (fun u_8 H locs hv hW hS => ?_)
    obtain ⟨m_s_7, rfl⟩ : ∃ z, z = u_8 := ⟨_, rfl⟩
    try dsimp only at hv
    have hW : wo G A (wd_X7_18 G b m_images m_at_ m_open_ m_steps m_use_ m_traced m_speaks m_isParted m_s_7 m_laid m_errors m_named m_pile m_nearThen m_shownThen m_bits m_sizes m_number) H := hW
    refine lv_iload_n hx hb dX7_fits_50 rfl (lv_at hl 1 rfl) ?_
    refine lv_bipush (v := 100) hx hb dX7_fits_51 kbp_100 ?_
    refine lv_icmp_le (tgt := 64) hx hb dX7_fits_53 (by decide) (fun c_9 => ?_) (fun c_9 => ?_)
    · replace hv := hv.1 c_9
      refine lv_iload_n hx hb dX7_fits_64 rfl (lv_at hl 1 rfl) ?_
      exact ret (m_s_7, m_laid, m_errors, m_named, m_pile, m_nearThen, m_shownThen) x3 H locs ls _ rfl hW hS hv dX7_fits_65
    · replace hv := hv.2 c_9
      refine lv_aload_n hx hb dX7_fits_56 rfl (lv_at hl 0 rfl) ?_
      refine lv_iconst (v := 2) hx hb dX7_fits_57 kic_2 ?_
      refine q_callV (rest := []) (n := 1) C (c_X7_error l G b m_images m_at_ m_open_ m_steps m_use_ m_traced m_speaks m_isParted m_errors (2 : Int32) _ hv) ml_X7_61 kb_X7_error rfl ⟨⟨rfl, rfl⟩, (Nat.le_of_ble_eq_true rfl), (Nat.le_of_ble_eq_true rfl)⟩ hW hS [0, 3] rfl rfl kc7 (q0 := 0) rfl hl.1 rfl (Nat.le_of_ble_eq_true rfl) dX7_fits_58 ⟨Nat.zero_le _, Nat.zero_le _⟩ (fun r_10 u_11 H locs hv hW hS => ?_)
      obtain ⟨m_errors_10, rfl⟩ : ∃ z, z = u_11 := ⟨_, rfl⟩
      try dsimp only at hv
      have hW : wo G A (wd_X7_18 G b m_images m_at_ m_open_ m_steps m_use_ m_traced m_speaks m_isParted m_s_7 m_laid m_errors_10 m_named m_pile m_nearThen m_shownThen m_bits m_sizes m_number) H := hW
      refine lv_goto (tgt := 65) hx hb dX7_fits_61 (by decide) ?_
      exact ret (m_s_7, m_laid, m_errors_10, m_named, m_pile, m_nearThen, m_shownThen) r_10 H locs ls _ rfl hW hS hv dX7_fits_65
  have h_l_X7_fits_22 : ∀ (n : Nat), ∀ (x3 : Int32) (m_s : Nat → Int32) (m_laid : Nat → Int32) (m_errors : Nat → Int32) (m_named : Nat → Int32) (m_pile : Nat → Int32) (m_nearThen : Nat → Int32) (m_shownThen : Nat → Int32) (H : Heap) (locs : List Loc) (ls : Array Slot), wo G A (wd_X7_18 G b m_images m_at_ m_open_ m_steps m_use_ m_traced m_speaks m_isParted m_s m_laid m_errors m_named m_pile m_nearThen m_shownThen m_bits m_sizes m_number) H → va_S A s.heap H locs → lv_has ls 4 [(0, .ref (b 0)), (1, .int p1), (3, .int x3)] → l_X7_fits_22 p1 m_bits m_sizes m_number K n x3 m_s m_laid m_errors m_named m_pile m_nearThen m_shownThen → W p l e (rmm 6 137) s m args below meth c H locs 0 0 Q (F0 m 22 ls []) := by
    intro n
    induction n with
    | zero =>
      intro x3 m_s m_laid m_errors m_named m_pile m_nearThen m_shownThen H locs ls hW hS hl hv
      exact False.elim hv
    | succ n ih =>
      intro x3 m_s m_laid m_errors m_named m_pile m_nearThen m_shownThen H locs ls hW hS hl hv
      refine lv_iload_n hx hb dX7_fits_22 rfl (lv_at hl 2 rfl) ?_
      refine lv_bipush (v := 100) hx hb dX7_fits_23 kbp_100 ?_
      refine lv_icmp_gt (tgt := 46) hx hb dX7_fits_25 (by decide) (fun c_6 => ?_) (fun c_6 => ?_)
      · replace hv := hv.1 c_6
        exact h_j_X7_fits_46 x3 m_s m_laid m_errors m_named m_pile m_nearThen m_shownThen H locs ls hW hS (lv_sub hl [0, 2] rfl) hv
      · replace hv := hv.2 c_6
        refine lv_aload_n hx hb dX7_fits_28 rfl (lv_at hl 0 rfl) ?_
        refine lv_iload_n hx hb dX7_fits_29 rfl (lv_at hl 1 rfl) ?_
        refine q_callV (rest := []) (n := 1) C (c_X7_areNearSo l G b m_images m_at_ m_open_ m_steps m_use_ m_traced m_speaks m_isParted m_s m_sizes m_number p1 _ hv) ml_X7_210 kb_X7_areNearSo rfl ⟨⟨rfl, rfl⟩, (Nat.le_of_ble_eq_true rfl), (Nat.le_of_ble_eq_true rfl)⟩ hW hS [0, 1, 9, 10] rfl rfl kc7 (q0 := 0) rfl hl.1 rfl (Nat.le_of_ble_eq_true rfl) dX7_fits_30 ⟨Nat.zero_le _, Nat.zero_le _⟩ (fun r_12 u_13 H locs hv hW hS => ?_)
        obtain ⟨hv_b_12, hv⟩ := hv
        try dsimp only at hv
        refine lv_if_ne (tgt := 46) hx hb dX7_fits_33 (by decide) (fun c_14 => ?_) (fun c_14 => ?_)
        · replace hv := hv.1 c_14
          exact h_j_X7_fits_46 x3 m_s m_laid m_errors m_named m_pile m_nearThen m_shownThen H locs ls hW hS (lv_sub hl [0, 2] rfl) hv
        · replace hv := hv.2 c_14
          refine lv_aload_n hx hb dX7_fits_36 rfl (lv_at hl 0 rfl) ?_
          refine q_callVv (rest := []) (n := 0) C (c_X7_aDay l G b m_images m_at_ m_open_ m_steps m_use_ m_traced m_speaks m_isParted m_s m_named m_pile m_nearThen m_shownThen _ hv) ml_X7_155 kb_X7_aDay rfl ⟨⟨rfl, rfl⟩, (Nat.le_of_ble_eq_true rfl), (Nat.le_of_ble_eq_true rfl)⟩ hW hS [0, 1, 4, 5, 6, 7] rfl rfl kc7 (q0 := 0) rfl hl.1 rfl (Nat.le_of_ble_eq_true rfl) dX7_fits_37 ⟨Nat.zero_le _, Nat.zero_le _⟩ (fun u_16 H locs hv hW hS => ?_)
          obtain ⟨m_s_15, m_named_15, m_pile_15, m_nearThen_15, m_shownThen_15⟩ := u_16
          try dsimp only at hv
          have hW : wo G A (wd_X7_18 G b m_images m_at_ m_open_ m_steps m_use_ m_traced m_speaks m_isParted m_s_15 m_laid m_errors m_named_15 m_pile_15 m_nearThen_15 m_shownThen_15 m_bits m_sizes m_number) H := hW
          refine lv_iinc (v := (x3 + 1)) (lv' := [(3, .int (x3 + 1)), (0, .ref (b 0)), (1, .int p1)]) hx hb dX7_fits_40 hl (k := 2) rfl rfl (by decide) rfl (fun ls hl => ?_)
          refine lv_goto (tgt := 22) hx hb dX7_fits_43 (by decide) ?_
          exact ih (x3 + 1) m_s_15 m_laid m_errors m_named_15 m_pile_15 m_nearThen_15 m_shownThen_15 H locs ls hW hS (lv_sub hl [1, 2, 0] rfl) hv
  refine lv_aload_n hx hb dX7_fits_0 rfl (lv_at hl 0 rfl) ?_
  refine lv_iload_n hx hb dX7_fits_1 rfl (lv_at hl 1 rfl) ?_
  refine q_callV (rest := []) (n := 1) C (c_X7_lacks l G b m_images m_at_ m_open_ m_steps m_use_ m_traced m_speaks m_isParted m_bits p1 _ hv) ml_X7_213 kb_X7_lacks rfl ⟨⟨rfl, rfl⟩, (Nat.le_of_ble_eq_true rfl), (Nat.le_of_ble_eq_true rfl)⟩ hW hS [0, 8] rfl rfl kc7 (q0 := 0) rfl hl.1 rfl (Nat.le_of_ble_eq_true rfl) dX7_fits_2 ⟨Nat.zero_le _, Nat.zero_le _⟩ (fun r_1 u_2 H locs hv hW hS => ?_)
  try dsimp only at hv
  refine lv_istore_n (lv' := [(2, .int r_1), (0, .ref (b 0)), (1, .int p1)]) hx hb dX7_fits_5 rfl hl (by decide) rfl (fun ls hl => ?_)
  refine lv_iload_n hx hb dX7_fits_6 rfl (lv_at hl 0 rfl) ?_
  refine lv_if_eq (tgt := 16) hx hb dX7_fits_7 (by decide) (fun c_3 => ?_) (fun c_3 => ?_)
  · replace hv := hv.1 c_3
    refine lv_aload_n hx hb dX7_fits_16 rfl (lv_at hl 1 rfl) ?_
    refine q_callVv (rest := []) (n := 0) C (c_X7_layDown l G b m_images m_at_ m_open_ m_steps m_use_ m_traced m_speaks m_isParted m_s m_laid _ hv) ml_X7_191 kb_X7_layDown rfl ⟨⟨rfl, rfl⟩, (Nat.le_of_ble_eq_true rfl), (Nat.le_of_ble_eq_true rfl)⟩ hW hS [0, 1, 2] rfl rfl kc7 (q0 := 0) rfl hl.1 rfl (Nat.le_of_ble_eq_true rfl) dX7_fits_17 ⟨Nat.zero_le _, Nat.zero_le _⟩ (fun u_5 H locs hv hW hS => ?_)
    obtain ⟨m_laid_4, rfl⟩ : ∃ z, z = u_5 := ⟨_, rfl⟩
    try dsimp only at hv
    have hW : wo G A (wd_X7_18 G b m_images m_at_ m_open_ m_steps m_use_ m_traced m_speaks m_isParted m_s m_laid_4 m_errors m_named m_pile m_nearThen m_shownThen m_bits m_sizes m_number) H := hW
    refine lv_iconst (v := 0) hx hb dX7_fits_20 kic_0 ?_
    refine lv_istore_n (lv' := [(3, .int (0 : Int32)), (2, .int r_1), (0, .ref (b 0)), (1, .int p1)]) hx hb dX7_fits_21 rfl hl (by decide) rfl (fun ls hl => ?_)
    obtain ⟨n_17, hv⟩ := hv
    exact h_l_X7_fits_22 n_17 (0 : Int32) m_s m_laid_4 m_errors m_named m_pile m_nearThen m_shownThen H locs ls hW hS (lv_sub hl [2, 3, 0] rfl) hv
  · replace hv := hv.2 c_3
    refine lv_aload_n hx hb dX7_fits_10 rfl (lv_at hl 1 rfl) ?_
    refine lv_iload_n hx hb dX7_fits_11 rfl (lv_at hl 0 rfl) ?_
    refine q_callV (rest := []) (n := 1) C (c_X7_error l G b m_images m_at_ m_open_ m_steps m_use_ m_traced m_speaks m_isParted m_errors r_1 _ hv) ml_X7_61 kb_X7_error rfl ⟨⟨rfl, rfl⟩, (Nat.le_of_ble_eq_true rfl), (Nat.le_of_ble_eq_true rfl)⟩ hW hS [0, 3] rfl rfl kc7 (q0 := 0) rfl hl.1 rfl (Nat.le_of_ble_eq_true rfl) dX7_fits_12 ⟨Nat.zero_le _, Nat.zero_le _⟩ (fun r_18 u_19 H locs hv hW hS => ?_)
    obtain ⟨m_errors_18, rfl⟩ : ∃ z, z = u_19 := ⟨_, rfl⟩
    try dsimp only at hv
    have hW : wo G A (wd_X7_18 G b m_images m_at_ m_open_ m_steps m_use_ m_traced m_speaks m_isParted m_s m_laid m_errors_18 m_named m_pile m_nearThen m_shownThen m_bits m_sizes m_number) H := hW
    exact ret (m_s, m_laid, m_errors_18, m_named, m_pile, m_nearThen, m_shownThen) r_18 H locs ls _ rfl hW hS hv dX7_fits_15
set_option maxHeartbeats 4000000 in
set_option maxRecDepth 100000 in
theorem c_X7_starts (l : Launch) (G : Gt) (b : Nat → Nat) (m_images : Int32) (m_at_ : Int32) (m_open_ : Int32) (m_steps : Int32) (m_use_ : Int32) (m_traced : Int32) (m_speaks : Int32) (m_isParted : Int32) (m_trace : Nat → Int32) (p1 : Int32) (K : Int32 → (Nat → Int32) → Prop) (hv : v_X7_starts p1 m_traced m_trace K) : CV l G yX7_starts (.code yX7_starts cX7_starts 2 none :: wsG) (rmm 0 0) [.ref (b 0), .int p1] (wd_X7_19 G b m_images m_at_ m_open_ m_steps m_use_ m_traced m_speaks m_isParted m_trace) (S := Int32 × (Nat → Int32)) (fun u => wd_X7_19 G b m_images m_at_ m_open_ m_steps m_use_ u.1 m_speaks m_isParted u.2) (fun u => K u.1 u.2) := by
  refine cv_intro (by decide) rfl (fun _ => rfl) (Nat.le_of_ble_eq_true rfl) ?_
  intro p e s m args below meth c A H ls Q C hW hS hl ret
  have hx := C.1.1
  have hb := C.1.2.1
  generalize hls : ([] : List Loc) = locs at hS ⊢
  have hl : lv_has ls 2 [(0, .ref (b 0)), (1, .int p1)] := hl
  refine lv_aload_n hx hb dX7_starts_0 rfl (lv_at hl 0 rfl) ?_
  refine q_get C kc7 hW 0 rfl 14 (by decide) fl_X7_219 rfl rfl dX7_starts_1 ?_
  refine lv_bipush (v := 30) hx hb dX7_starts_4 kbp_30 ?_
  refine lv_icmp_ge (tgt := 29) hx hb dX7_starts_6 (by decide) (fun c_1 => ?_) (fun c_1 => ?_)
  · replace hv := hv.1 c_1
    exact ret (m_traced, m_trace) H locs ls _ hW hS hv dX7_starts_29
  · replace hv := hv.2 c_1
    refine lv_aload_n hx hb dX7_starts_9 rfl (lv_at hl 0 rfl) ?_
    refine q_get C kc7 hW 0 rfl 15 (by decide) fl_X7_37 rfl rfl dX7_starts_10 ?_
    refine lv_aload_n hx hb dX7_starts_13 rfl (lv_at hl 0 rfl) ?_
    refine q_get C kc7 hW 0 rfl 14 (by decide) fl_X7_219 rfl rfl dX7_starts_14 ?_
    refine lv_iload_n hx hb dX7_starts_17 rfl (lv_at hl 1 rfl) ?_
    obtain ⟨h_2, hv⟩ := hv
    refine q_iast C hW hS 1 rfl h_2 dX7_starts_18 (fun H locs hW hS => ?_)
    have hW : wo G A (wd_X7_19 G b m_images m_at_ m_open_ m_steps m_use_ m_traced m_speaks m_isParted (upd m_trace m_traced.toNatClampNeg p1)) H := hW
    refine lv_aload_n hx hb dX7_starts_19 rfl (lv_at hl 0 rfl) ?_
    refine lv_dup hx hb dX7_starts_20 rfl ?_
    refine q_get C kc7 hW 0 rfl 14 (by decide) fl_X7_219 rfl rfl dX7_starts_21 ?_
    refine lv_iconst (v := 1) hx hb dX7_starts_24 kic_1 ?_
    refine lv_iadd hx hb dX7_starts_25 ?_
    refine q_put C kc7 hW hS 0 rfl 14 (by decide) fl_X7_219 rfl rfl rfl rfl (Nat.le_of_ble_eq_true rfl) dX7_starts_26 (fun H locs hW hS => ?_)
    have hW : wo G A (wd_X7_19 G b m_images m_at_ m_open_ m_steps m_use_ (m_traced + (1 : Int32)) m_speaks m_isParted (upd m_trace m_traced.toNatClampNeg p1)) H := hW
    exact ret ((m_traced + (1 : Int32)), (upd m_trace m_traced.toNatClampNeg p1)) H locs ls _ hW hS hv dX7_starts_29
set_option maxHeartbeats 4000000 in
set_option maxRecDepth 100000 in
theorem c_X7_kindNow (l : Launch) (G : Gt) (b : Nat → Nat) (m_images : Int32) (m_at_ : Int32) (m_open_ : Int32) (m_steps : Int32) (m_use_ : Int32) (m_traced : Int32) (m_speaks : Int32) (m_isParted : Int32) (m_s : Nat → Int32) (K : Int32 → Prop) (hv : v_X7_kindNow m_speaks m_s K) : CI l G yX7_kindNow (.code yX7_kindNow cX7_kindNow 1 (some .int) :: wsG) (rmm 1 22) [.ref (b 0)] (wd_X7_3 G b m_images m_at_ m_open_ m_steps m_use_ m_traced m_speaks m_isParted m_s) (S := Unit) (fun u => wd_X7_3 G b m_images m_at_ m_open_ m_steps m_use_ m_traced m_speaks m_isParted m_s) (fun r u => K r) := by
  refine ci_intro (by decide) rfl (fun _ => rfl) (Nat.le_of_ble_eq_true rfl) ?_
  intro p e s m args below meth c A H ls Q C hW hS hl ret
  have hx := C.1.1
  have hb := C.1.2.1
  generalize hls : ([] : List Loc) = locs at hS ⊢
  have hl : lv_has ls 1 [(0, .ref (b 0))] := hl
  refine lv_aload_n hx hb dX7_kindNow_0 rfl (lv_at hl 0 rfl) ?_
  refine lv_aload_n hx hb dX7_kindNow_1 rfl (lv_at hl 0 rfl) ?_
  refine q_get C kc7 hW 0 rfl 16 (by decide) fl_X7_222 rfl rfl dX7_kindNow_2 ?_
  refine lv_iconst (v := 0) hx hb dX7_kindNow_5 kic_0 ?_
  refine q_callV (rest := []) (n := 2) C (c_X7_its l G b m_images m_at_ m_open_ m_steps m_use_ m_traced m_speaks m_isParted m_s m_speaks (0 : Int32) _ hv) ml_X7_120 kb_X7_its rfl ⟨⟨rfl, rfl⟩, (Nat.le_of_ble_eq_true rfl), (Nat.le_of_ble_eq_true rfl)⟩ hW hS [0, 1] rfl rfl kc7 (q0 := 0) rfl hl.1 rfl (Nat.le_of_ble_eq_true rfl) dX7_kindNow_6 ⟨Nat.zero_le _, Nat.zero_le _⟩ (fun r_1 u_2 H locs hv hW hS => ?_)
  try dsimp only at hv
  exact ret () r_1 H locs ls _ rfl hW hS hv dX7_kindNow_9
set_option maxHeartbeats 4000000 in
set_option maxRecDepth 100000 in
theorem c_X7_mNow (l : Launch) (G : Gt) (b : Nat → Nat) (m_images : Int32) (m_at_ : Int32) (m_open_ : Int32) (m_steps : Int32) (m_use_ : Int32) (m_traced : Int32) (m_speaks : Int32) (m_isParted : Int32) (m_s : Nat → Int32) (K : Int32 → Prop) (hv : v_X7_mNow m_speaks m_s K) : CI l G yX7_mNow (.code yX7_mNow cX7_mNow 1 (some .int) :: wsG) (rmm 1 22) [.ref (b 0)] (wd_X7_3 G b m_images m_at_ m_open_ m_steps m_use_ m_traced m_speaks m_isParted m_s) (S := Unit) (fun u => wd_X7_3 G b m_images m_at_ m_open_ m_steps m_use_ m_traced m_speaks m_isParted m_s) (fun r u => K r) := by
  refine ci_intro (by decide) rfl (fun _ => rfl) (Nat.le_of_ble_eq_true rfl) ?_
  intro p e s m args below meth c A H ls Q C hW hS hl ret
  have hx := C.1.1
  have hb := C.1.2.1
  generalize hls : ([] : List Loc) = locs at hS ⊢
  have hl : lv_has ls 1 [(0, .ref (b 0))] := hl
  refine lv_aload_n hx hb dX7_mNow_0 rfl (lv_at hl 0 rfl) ?_
  refine lv_aload_n hx hb dX7_mNow_1 rfl (lv_at hl 0 rfl) ?_
  refine q_get C kc7 hW 0 rfl 16 (by decide) fl_X7_222 rfl rfl dX7_mNow_2 ?_
  refine lv_iconst (v := 1) hx hb dX7_mNow_5 kic_1 ?_
  refine q_callV (rest := []) (n := 2) C (c_X7_its l G b m_images m_at_ m_open_ m_steps m_use_ m_traced m_speaks m_isParted m_s m_speaks (1 : Int32) _ hv) ml_X7_120 kb_X7_its rfl ⟨⟨rfl, rfl⟩, (Nat.le_of_ble_eq_true rfl), (Nat.le_of_ble_eq_true rfl)⟩ hW hS [0, 1] rfl rfl kc7 (q0 := 0) rfl hl.1 rfl (Nat.le_of_ble_eq_true rfl) dX7_mNow_6 ⟨Nat.zero_le _, Nat.zero_le _⟩ (fun r_1 u_2 H locs hv hW hS => ?_)
  try dsimp only at hv
  exact ret () r_1 H locs ls _ rfl hW hS hv dX7_mNow_9
set_option maxHeartbeats 4000000 in
set_option maxRecDepth 100000 in
theorem cb_X7_sighsAs (l : Launch) (f o : Nat) (O_X7_sighsAs : Int32 → Int32 → Int32 → Int32 → (Nat → Int32) → (Int32 → Int32 → (Nat → Int32) → Prop) → Prop) (hO_X7_sighsAs : ∀ (G : Gt) (b : Nat → Nat) (m_images : Int32) (m_at_ : Int32) (m_open_ : Int32) (m_steps : Int32) (m_use_ : Int32) (m_traced : Int32) (m_speaks : Int32) (m_isParted : Int32) (m_trace : Nat → Int32) (p1 : Int32) (p2 : Int32) (K : Int32 → Int32 → (Nat → Int32) → Prop), O_X7_sighsAs p1 p2 m_traced m_speaks m_trace K → CI l G yX7_sighsAs (.code yX7_sighsAs cX7_sighsAs 3 (some .int) :: wsG) (rmm f o) [.ref (b 0), .int p1, .int p2] (wd_X7_19 G b m_images m_at_ m_open_ m_steps m_use_ m_traced m_speaks m_isParted m_trace) (S := Int32 × (Nat → Int32)) (fun u => wd_X7_19 G b m_images m_at_ m_open_ m_steps m_use_ u.1 m_speaks m_isParted u.2) (fun r u => K r u.1 u.2)) (G : Gt) (b : Nat → Nat) (m_images : Int32) (m_at_ : Int32) (m_open_ : Int32) (m_steps : Int32) (m_use_ : Int32) (m_traced : Int32) (m_speaks : Int32) (m_isParted : Int32) (m_trace : Nat → Int32) (p1 : Int32) (p2 : Int32) (K : Int32 → Int32 → (Nat → Int32) → Prop) (hv : b_X7_sighsAs O_X7_sighsAs p1 p2 m_traced m_speaks m_trace K) : CI l G yX7_sighsAs (.code yX7_sighsAs cX7_sighsAs 3 (some .int) :: wsG) (rmm (f + 1) (o + 22)) [.ref (b 0), .int p1, .int p2] (wd_X7_19 G b m_images m_at_ m_open_ m_steps m_use_ m_traced m_speaks m_isParted m_trace) (S := Int32 × (Nat → Int32)) (fun u => wd_X7_19 G b m_images m_at_ m_open_ m_steps m_use_ u.1 m_speaks m_isParted u.2) (fun r u => K r u.1 u.2) := by
  refine ci_intro (by decide) rfl (fun _ => rfl) (Nat.le_of_ble_eq_true rfl) ?_
  intro p e s m args below meth c A H ls Q C hW hS hl ret
  have hx := C.1.1
  have hb := C.1.2.1
  generalize hls : ([] : List Loc) = locs at hS ⊢
  have hl : lv_has ls 3 [(0, .ref (b 0)), (1, .int p1), (2, .int p2)] := hl
  refine lv_iload_n hx hb dX7_sighsAs_0 rfl (lv_at hl 1 rfl) ?_
  by_cases c_1_0 : p1 = 0
  · replace hv := hv.1 c_1_0
    refine lv_tableIn (tgt := 44) hx hb dX7_sighsAs_1 (by rw [c_1_0]; decide) (by rw [c_1_0]; decide) (by rw [c_1_0]; rfl) (by decide) ?_
    refine lv_aload_n hx hb dX7_sighsAs_44 rfl (lv_at hl 0 rfl) ?_
    refine lv_bipush (v := 10) hx hb dX7_sighsAs_45 kbp_10 ?_
    refine q_callVv (rest := []) (n := 1) C (c_X7_starts l G b m_images m_at_ m_open_ m_steps m_use_ m_traced m_speaks m_isParted m_trace (10 : Int32) _ hv) ml_X7_225 kb_X7_starts rfl ⟨⟨rfl, rfl⟩, (by show 0 + 1 ≤ f + 1; omega), (by show 8 + (2 + 11) + 0 ≤ o + 22; omega)⟩ hW hS [0, 1] rfl rfl kc7 (q0 := 0) rfl hl.1 rfl (Nat.le_of_ble_eq_true rfl) dX7_sighsAs_47 ⟨Nat.zero_le _, Nat.zero_le _⟩ (fun u_3 H locs hv hW hS => ?_)
    obtain ⟨m_traced_2, m_trace_2⟩ := u_3
    try dsimp only at hv
    have hW : wo G A (wd_X7_19 G b m_images m_at_ m_open_ m_steps m_use_ m_traced_2 m_speaks m_isParted m_trace_2) H := hW
    refine lv_iload_n hx hb dX7_sighsAs_50 rfl (lv_at hl 2 rfl) ?_
    refine lv_aload_n hx hb dX7_sighsAs_51 rfl (lv_at hl 0 rfl) ?_
    refine q_get C kc7 hW 0 rfl 16 (by decide) fl_X7_222 rfl rfl dX7_sighsAs_52 ?_
    refine lv_iadd hx hb dX7_sighsAs_55 ?_
    exact ret (m_traced_2, m_trace_2) (p2 + m_speaks) H locs ls _ rfl hW hS hv dX7_sighsAs_56
  · replace hv := hv.2 c_1_0
    by_cases c_1_1 : p1 = 1
    · replace hv := hv.1 c_1_1
      refine lv_tableIn (tgt := 57) hx hb dX7_sighsAs_1 (by rw [c_1_1]; decide) (by rw [c_1_1]; decide) (by rw [c_1_1]; rfl) (by decide) ?_
      refine lv_aload_n hx hb dX7_sighsAs_57 rfl (lv_at hl 0 rfl) ?_
      refine lv_bipush (v := 20) hx hb dX7_sighsAs_58 kbp_20 ?_
      refine q_callVv (rest := []) (n := 1) C (c_X7_starts l G b m_images m_at_ m_open_ m_steps m_use_ m_traced m_speaks m_isParted m_trace (20 : Int32) _ hv) ml_X7_225 kb_X7_starts rfl ⟨⟨rfl, rfl⟩, (by show 0 + 1 ≤ f + 1; omega), (by show 8 + (2 + 11) + 0 ≤ o + 22; omega)⟩ hW hS [0, 1] rfl rfl kc7 (q0 := 0) rfl hl.1 rfl (Nat.le_of_ble_eq_true rfl) dX7_sighsAs_60 ⟨Nat.zero_le _, Nat.zero_le _⟩ (fun u_5 H locs hv hW hS => ?_)
      obtain ⟨m_traced_4, m_trace_4⟩ := u_5
      try dsimp only at hv
      have hW : wo G A (wd_X7_19 G b m_images m_at_ m_open_ m_steps m_use_ m_traced_4 m_speaks m_isParted m_trace_4) H := hW
      refine lv_aload_n hx hb dX7_sighsAs_63 rfl (lv_at hl 0 rfl) ?_
      refine lv_iconst (v := 1) hx hb dX7_sighsAs_64 kic_1 ?_
      refine q_callS (rest := [.ref (b 0)]) (n := 1) C (c_X7_above l G (1 : Int32) _ hv) ml_X7_165 kb_X7_above rfl ⟨⟨rfl, rfl⟩, (by show 0 + 1 ≤ f + 1; omega), (by show 8 + (1 + 11) + 0 ≤ o + 22; omega)⟩ hW hS hl.1 rfl (Nat.le_of_ble_eq_true rfl) dX7_sighsAs_65 ⟨Nat.zero_le _, Nat.zero_le _⟩ (fun r_6 u_7 H locs hv hW hS => ?_)
      try dsimp only at hv
      refine lv_iload_n hx hb dX7_sighsAs_68 rfl (lv_at hl 2 rfl) ?_
      refine q_callV (rest := []) (n := 2) C (hO_X7_sighsAs G b m_images m_at_ m_open_ m_steps m_use_ m_traced_4 m_speaks m_isParted m_trace_4 r_6 p2 _ hv) ml_X7_228 kb_X7_sighsAs rfl ⟨⟨rfl, rfl⟩, (by show f + 1 ≤ f + 1; omega), (by show 8 + (3 + 11) + o ≤ o + 22; omega)⟩ hW hS [0, 1] rfl rfl kc7 (q0 := 0) rfl hl.1 rfl (Nat.le_of_ble_eq_true rfl) dX7_sighsAs_69 ⟨Nat.zero_le _, Nat.zero_le _⟩ (fun r_8 u_9 H locs hv hW hS => ?_)
      obtain ⟨m_traced_8, m_trace_8⟩ := u_9
      try dsimp only at hv
      have hW : wo G A (wd_X7_19 G b m_images m_at_ m_open_ m_steps m_use_ m_traced_8 m_speaks m_isParted m_trace_8) H := hW
      refine lv_iconst (v := 4) hx hb dX7_sighsAs_72 kic_4 ?_
      refine lv_isub hx hb dX7_sighsAs_73 ?_
      exact ret (m_traced_8, m_trace_8) (r_8 - (4 : Int32)) H locs ls _ rfl hW hS hv dX7_sighsAs_74
    · replace hv := hv.2 c_1_1
      by_cases c_1_2 : p1 = 4
      · replace hv := hv.1 c_1_2
        refine lv_tableIn (tgt := 75) hx hb dX7_sighsAs_1 (by rw [c_1_2]; decide) (by rw [c_1_2]; decide) (by rw [c_1_2]; rfl) (by decide) ?_
        refine lv_aload_n hx hb dX7_sighsAs_75 rfl (lv_at hl 0 rfl) ?_
        refine lv_bipush (v := 50) hx hb dX7_sighsAs_76 kbp_50 ?_
        refine q_callVv (rest := []) (n := 1) C (c_X7_starts l G b m_images m_at_ m_open_ m_steps m_use_ m_traced m_speaks m_isParted m_trace (50 : Int32) _ hv) ml_X7_225 kb_X7_starts rfl ⟨⟨rfl, rfl⟩, (by show 0 + 1 ≤ f + 1; omega), (by show 8 + (2 + 11) + 0 ≤ o + 22; omega)⟩ hW hS [0, 1] rfl rfl kc7 (q0 := 0) rfl hl.1 rfl (Nat.le_of_ble_eq_true rfl) dX7_sighsAs_78 ⟨Nat.zero_le _, Nat.zero_le _⟩ (fun u_11 H locs hv hW hS => ?_)
        obtain ⟨m_traced_10, m_trace_10⟩ := u_11
        try dsimp only at hv
        have hW : wo G A (wd_X7_19 G b m_images m_at_ m_open_ m_steps m_use_ m_traced_10 m_speaks m_isParted m_trace_10) H := hW
        refine lv_aload_n hx hb dX7_sighsAs_81 rfl (lv_at hl 0 rfl) ?_
        refine lv_iconst (v := 4) hx hb dX7_sighsAs_82 kic_4 ?_
        refine q_callS (rest := [.ref (b 0)]) (n := 1) C (c_X7_above l G (4 : Int32) _ hv) ml_X7_165 kb_X7_above rfl ⟨⟨rfl, rfl⟩, (by show 0 + 1 ≤ f + 1; omega), (by show 8 + (1 + 11) + 0 ≤ o + 22; omega)⟩ hW hS hl.1 rfl (Nat.le_of_ble_eq_true rfl) dX7_sighsAs_83 ⟨Nat.zero_le _, Nat.zero_le _⟩ (fun r_12 u_13 H locs hv hW hS => ?_)
        try dsimp only at hv
        refine lv_iload_n hx hb dX7_sighsAs_86 rfl (lv_at hl 2 rfl) ?_
        refine q_callV (rest := []) (n := 2) C (hO_X7_sighsAs G b m_images m_at_ m_open_ m_steps m_use_ m_traced_10 m_speaks m_isParted m_trace_10 r_12 p2 _ hv) ml_X7_228 kb_X7_sighsAs rfl ⟨⟨rfl, rfl⟩, (by show f + 1 ≤ f + 1; omega), (by show 8 + (3 + 11) + o ≤ o + 22; omega)⟩ hW hS [0, 1] rfl rfl kc7 (q0 := 0) rfl hl.1 rfl (Nat.le_of_ble_eq_true rfl) dX7_sighsAs_87 ⟨Nat.zero_le _, Nat.zero_le _⟩ (fun r_14 u_15 H locs hv hW hS => ?_)
        obtain ⟨m_traced_14, m_trace_14⟩ := u_15
        try dsimp only at hv
        have hW : wo G A (wd_X7_19 G b m_images m_at_ m_open_ m_steps m_use_ m_traced_14 m_speaks m_isParted m_trace_14) H := hW
        refine lv_iconst (v := 3) hx hb dX7_sighsAs_90 kic_3 ?_
        refine lv_imul hx hb dX7_sighsAs_91 ?_
        exact ret (m_traced_14, m_trace_14) (r_14 * (3 : Int32)) H locs ls _ rfl hW hS hv dX7_sighsAs_92
      · replace hv := hv.2 c_1_2
        by_cases c_1_3 : p1 = 6
        · replace hv := hv.1 c_1_3
          refine lv_tableIn (tgt := 93) hx hb dX7_sighsAs_1 (by rw [c_1_3]; decide) (by rw [c_1_3]; decide) (by rw [c_1_3]; rfl) (by decide) ?_
          refine lv_aload_n hx hb dX7_sighsAs_93 rfl (lv_at hl 0 rfl) ?_
          refine lv_bipush (v := 70) hx hb dX7_sighsAs_94 kbp_70 ?_
          refine q_callVv (rest := []) (n := 1) C (c_X7_starts l G b m_images m_at_ m_open_ m_steps m_use_ m_traced m_speaks m_isParted m_trace (70 : Int32) _ hv) ml_X7_225 kb_X7_starts rfl ⟨⟨rfl, rfl⟩, (by show 0 + 1 ≤ f + 1; omega), (by show 8 + (2 + 11) + 0 ≤ o + 22; omega)⟩ hW hS [0, 1] rfl rfl kc7 (q0 := 0) rfl hl.1 rfl (Nat.le_of_ble_eq_true rfl) dX7_sighsAs_96 ⟨Nat.zero_le _, Nat.zero_le _⟩ (fun u_17 H locs hv hW hS => ?_)
          obtain ⟨m_traced_16, m_trace_16⟩ := u_17
          try dsimp only at hv
          have hW : wo G A (wd_X7_19 G b m_images m_at_ m_open_ m_steps m_use_ m_traced_16 m_speaks m_isParted m_trace_16) H := hW
          refine lv_bipush (v := 9) hx hb dX7_sighsAs_99 kbp_9 ?_
          exact ret (m_traced_16, m_trace_16) (9 : Int32) H locs ls _ rfl hW hS hv dX7_sighsAs_101
        · replace hv := hv.2 c_1_3
          refine sw_row (tgt := 102) hx hb dX7_sighsAs_1 rfl (lt_s (lt_s (lt_s (lt_s (lt_s (lt_s (lt_s lt_0 (Or.inr (lv_neT c_1_0 rfl))) (Or.inr (lv_neT c_1_1 rfl))) (Or.inl rfl)) (Or.inl rfl)) (Or.inr (lv_neT c_1_2 rfl))) (Or.inl rfl)) (Or.inr (lv_neT c_1_3 rfl))) (by decide) ?_
          refine lv_aload_n hx hb dX7_sighsAs_102 rfl (lv_at hl 0 rfl) ?_
          refine lv_iload_n hx hb dX7_sighsAs_103 rfl (lv_at hl 1 rfl) ?_
          refine q_callS (rest := [.ref (b 0)]) (n := 1) C (c_X7_above l G p1 _ hv) ml_X7_165 kb_X7_above rfl ⟨⟨rfl, rfl⟩, (by show 0 + 1 ≤ f + 1; omega), (by show 8 + (1 + 11) + 0 ≤ o + 22; omega)⟩ hW hS hl.1 rfl (Nat.le_of_ble_eq_true rfl) dX7_sighsAs_104 ⟨Nat.zero_le _, Nat.zero_le _⟩ (fun r_18 u_19 H locs hv hW hS => ?_)
          try dsimp only at hv
          refine lv_iload_n hx hb dX7_sighsAs_107 rfl (lv_at hl 2 rfl) ?_
          refine q_callV (rest := []) (n := 2) C (hO_X7_sighsAs G b m_images m_at_ m_open_ m_steps m_use_ m_traced m_speaks m_isParted m_trace r_18 p2 _ hv) ml_X7_228 kb_X7_sighsAs rfl ⟨⟨rfl, rfl⟩, (by show f + 1 ≤ f + 1; omega), (by show 8 + (3 + 11) + o ≤ o + 22; omega)⟩ hW hS [0, 1] rfl rfl kc7 (q0 := 0) rfl hl.1 rfl (Nat.le_of_ble_eq_true rfl) dX7_sighsAs_108 ⟨Nat.zero_le _, Nat.zero_le _⟩ (fun r_20 u_21 H locs hv hW hS => ?_)
          obtain ⟨m_traced_20, m_trace_20⟩ := u_21
          try dsimp only at hv
          have hW : wo G A (wd_X7_19 G b m_images m_at_ m_open_ m_steps m_use_ m_traced_20 m_speaks m_isParted m_trace_20) H := hW
          exact ret (m_traced_20, m_trace_20) r_20 H locs ls _ rfl hW hS hv dX7_sighsAs_111
theorem c_X7_sighsAs (l : Launch) : ∀ (d : Nat) (G : Gt) (b : Nat → Nat) (m_images : Int32) (m_at_ : Int32) (m_open_ : Int32) (m_steps : Int32) (m_use_ : Int32) (m_traced : Int32) (m_speaks : Int32) (m_isParted : Int32) (m_trace : Nat → Int32) (p1 : Int32) (p2 : Int32) (K : Int32 → Int32 → (Nat → Int32) → Prop) (hv : v_X7_sighsAs d p1 p2 m_traced m_speaks m_trace K), CI l G yX7_sighsAs (.code yX7_sighsAs cX7_sighsAs 3 (some .int) :: wsG) (rmm (1 * d) (22 * d)) [.ref (b 0), .int p1, .int p2] (wd_X7_19 G b m_images m_at_ m_open_ m_steps m_use_ m_traced m_speaks m_isParted m_trace) (S := Int32 × (Nat → Int32)) (fun u => wd_X7_19 G b m_images m_at_ m_open_ m_steps m_use_ u.1 m_speaks m_isParted u.2) (fun r u => K r u.1 u.2)
  | 0, _, _, _, _, _, _, _, _, _, _, _, _, _, _, hv => False.elim hv
  | d + 1, G, b, m_images, m_at_, m_open_, m_steps, m_use_, m_traced, m_speaks, m_isParted, m_trace, p1, p2, K, hv => cb_X7_sighsAs l (1 * d) (22 * d) (fun a0 a1 a2 a3 a4 K => v_X7_sighsAs d a0 a1 a2 a3 a4 K) (fun G b m_images m_at_ m_open_ m_steps m_use_ m_traced m_speaks m_isParted m_trace p1 p2 K hv => c_X7_sighsAs l d G b m_images m_at_ m_open_ m_steps m_use_ m_traced m_speaks m_isParted m_trace p1 p2 K hv) G b m_images m_at_ m_open_ m_steps m_use_ m_traced m_speaks m_isParted m_trace p1 p2 K hv
