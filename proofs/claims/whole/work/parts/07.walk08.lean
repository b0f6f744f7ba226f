set_option maxHeartbeats 4000000 in
set_option maxRecDepth 100000 in
theorem cb_X7_stirsAs (l : Launch) (f o : Nat) (O_X7_stirsAs : Int32 → Int32 → Int32 → Int32 → (Nat → Int32) → (Nat → Int32) → (Int32 → Int32 → (Nat → Int32) → Prop) → Prop) (hO_X7_stirsAs : ∀ (G : Gt) (b : Nat → Nat) (m_images : Int32) (m_at_ : Int32) (m_open_ : Int32) (m_steps : Int32) (m_use_ : Int32) (m_traced : Int32) (m_speaks : Int32) (m_isParted : Int32) (m_s : Nat → Int32) (m_trace : Nat → Int32) (p1 : Int32) (p2 : Int32) (K : Int32 → Int32 → (Nat → Int32) → Prop), O_X7_stirsAs p1 p2 m_traced m_speaks m_s m_trace K → CI l G yX7_stirsAs (.code yX7_stirsAs cX7_stirsAs 3 (some .int) :: wsG) (rmm f o) [.ref (b 0), .int p1, .int p2] (wd_X7_20 G b m_images m_at_ m_open_ m_steps m_use_ m_traced m_speaks m_isParted m_s m_trace) (S := Int32 × (Nat → Int32)) (fun u => wd_X7_20 G b m_images m_at_ m_open_ m_steps m_use_ u.1 m_speaks m_isParted m_s u.2) (fun r u => K r u.1 u.2)) (G : Gt) (b : Nat → Nat) (m_images : Int32) (m_at_ : Int32) (m_open_ : Int32) (m_steps : Int32) (m_use_ : Int32) (m_traced : Int32) (m_speaks : Int32) (m_isParted : Int32) (m_s : Nat → Int32) (m_trace : Nat → Int32) (p1 : Int32) (p2 : Int32) (K : Int32 → Int32 → (Nat → Int32) → Prop) (hv : b_X7_stirsAs O_X7_stirsAs p1 p2 m_traced m_speaks m_s m_trace K) : CI l G yX7_stirsAs (.code yX7_stirsAs cX7_stirsAs 3 (some .int) :: wsG) (rmm (f + 5) (o + 110)) [.ref (b 0), .int p1, .int p2] (wd_X7_20 G b m_images m_at_ m_open_ m_steps m_use_ m_traced m_speaks m_isParted m_s m_trace) (S := Int32 × (Nat → Int32)) (fun u => wd_X7_20 G b m_images m_at_ m_open_ m_steps m_use_ u.1 m_speaks m_isParted m_s u.2) (fun r u => K r u.1 u.2) := by
  refine ci_intro (by decide) rfl (fun _ => rfl) (Nat.le_of_ble_eq_true rfl) ?_
  intro p e s m args below meth c A H ls Q C hW hS hl ret
  have hx := C.1.1
  have hb := C.1.2.1
  generalize hls : ([] : List Loc) = locs at hS ⊢
  have hl : lv_has ls 3 [(0, .ref (b 0)), (1, .int p1), (2, .int p2)] := hl
  refine lv_iload_n hx hb dX7_stirsAs_0 rfl (lv_at hl 1 rfl) ?_
  by_cases c_1_0 : p1 = 0
  · replace hv := hv.1 c_1_0
    refine lv_tableIn (tgt := 44) hx hb dX7_stirsAs_1 (by rw [c_1_0]; decide) (by rw [c_1_0]; decide) (by rw [c_1_0]; rfl) (by decide) ?_
    refine lv_aload_n hx hb dX7_stirsAs_44 rfl (lv_at hl 0 rfl) ?_
    refine lv_bipush (v := 11) hx hb dX7_stirsAs_45 kbp_11 ?_
    refine q_callVv (rest := []) (n := 1) C (c_X7_starts l G b m_images m_at_ m_open_ m_steps m_use_ m_traced m_speaks m_isParted m_trace (11 : Int32) _ hv) ml_X7_225 kb_X7_starts rfl ⟨⟨rfl, rfl⟩, (by show 0 + 1 ≤ f + 5; omega), (by show 8 + (2 + 11) + 0 ≤ o + 110; omega)⟩ hW hS [0, 2] rfl rfl kc7 (q0 := 0) rfl hl.1 rfl (Nat.le_of_ble_eq_true rfl) dX7_stirsAs_47 ⟨Nat.zero_le _, Nat.zero_le _⟩ (fun u_3 H locs hv hW hS => ?_)
    obtain ⟨m_traced_2, m_trace_2⟩ := u_3
    try dsimp only at hv
    have hW : wo G A (wd_X7_20 G b m_images m_at_ m_open_ m_steps m_use_ m_traced_2 m_speaks m_isParted m_s m_trace_2) H := hW
    refine lv_aload_n hx hb dX7_stirsAs_50 rfl (lv_at hl 0 rfl) ?_
    refine lv_aload_n hx hb dX7_stirsAs_51 rfl (lv_at hl 0 rfl) ?_
    refine q_callV (rest := [.ref (b 0)]) (n := 0) C (c_X7_kindNow l G b m_images m_at_ m_open_ m_steps m_use_ m_traced_2 m_speaks m_isParted m_s _ hv) ml_X7_231 kb_X7_kindNow rfl ⟨⟨rfl, rfl⟩, (by show 1 + 1 ≤ f + 5; omega), (by show 8 + (1 + 11) + 22 ≤ o + 110; omega)⟩ hW hS [0, 1] rfl rfl kc7 (q0 := 0) rfl hl.1 rfl (Nat.le_of_ble_eq_true rfl) dX7_stirsAs_52 ⟨Nat.zero_le _, Nat.zero_le _⟩ (fun r_4 u_5 H locs hv hW hS => ?_)
    try dsimp only at hv
    refine lv_iload_n hx hb dX7_stirsAs_55 rfl (lv_at hl 2 rfl) ?_
    refine q_callV (rest := []) (n := 2) C (c_X7_sighsAs l 4 G b m_images m_at_ m_open_ m_steps m_use_ m_traced_2 m_speaks m_isParted m_trace_2 r_4 p2 _ hv) ml_X7_228 kb_X7_sighsAs rfl ⟨⟨rfl, rfl⟩, (by show 4 + 1 ≤ f + 5; omega), (by show 8 + (3 + 11) + 88 ≤ o + 110; omega)⟩ hW hS [0, 2] rfl rfl kc7 (q0 := 0) rfl hl.1 rfl (Nat.le_of_ble_eq_true rfl) dX7_stirsAs_56 ⟨Nat.zero_le _, Nat.zero_le _⟩ (fun r_6 u_7 H locs hv hW hS => ?_)
    obtain ⟨m_traced_6, m_trace_6⟩ := u_7
    try dsimp only at hv
    have hW : wo G A (wd_X7_20 G b m_images m_at_ m_open_ m_steps m_use_ m_traced_6 m_speaks m_isParted m_s m_trace_6) H := hW
    refine lv_iconst (v := 2) hx hb dX7_stirsAs_59 kic_2 ?_
    refine lv_imul hx hb dX7_stirsAs_60 ?_
    exact ret (m_traced_6, m_trace_6) (r_6 * (2 : Int32)) H locs ls _ rfl hW hS hv dX7_stirsAs_61
  · replace hv := hv.2 c_1_0
    by_cases c_1_1 : p1 = 2
    · replace hv := hv.1 c_1_1
      refine lv_tableIn (tgt := 62) hx hb dX7_stirsAs_1 (by rw [c_1_1]; decide) (by rw [c_1_1]; decide) (by rw [c_1_1]; rfl) (by decide) ?_
      refine lv_aload_n hx hb dX7_stirsAs_62 rfl (lv_at hl 0 rfl) ?_
      refine lv_bipush (v := 30) hx hb dX7_stirsAs_63 kbp_30 ?_
      refine q_callVv (rest := []) (n := 1) C (c_X7_starts l G b m_images m_at_ m_open_ m_steps m_use_ m_traced m_speaks m_isParted m_trace (30 : Int32) _ hv) ml_X7_225 kb_X7_starts rfl ⟨⟨rfl, rfl⟩, (by show 0 + 1 ≤ f + 5; omega), (by show 8 + (2 + 11) + 0 ≤ o + 110; omega)⟩ hW hS [0, 2] rfl rfl kc7 (q0 := 0) rfl hl.1 rfl (Nat.le_of_ble_eq_true rfl) dX7_stirsAs_65 ⟨Nat.zero_le _, Nat.zero_le _⟩ (fun u_9 H locs hv hW hS => ?_)
      obtain ⟨m_traced_8, m_trace_8⟩ := u_9
      try dsimp only at hv
      have hW : wo G A (wd_X7_20 G b m_images m_at_ m_open_ m_steps m_use_ m_traced_8 m_speaks m_isParted m_s m_trace_8) H := hW
      refine lv_iconst (v := 0) hx hb dX7_stirsAs_68 kic_0 ?_
      refine lv_aload_n hx hb dX7_stirsAs_69 rfl (lv_at hl 0 rfl) ?_
      refine lv_iconst (v := 2) hx hb dX7_stirsAs_70 kic_2 ?_
      refine q_callS (rest := [.ref (b 0), .int (0 : Int32)]) (n := 1) C (c_X7_above l G (2 : Int32) _ hv) ml_X7_165 kb_X7_above rfl ⟨⟨rfl, rfl⟩, (by show 0 + 1 ≤ f + 5; omega), (by show 8 + (1 + 11) + 0 ≤ o + 110; omega)⟩ hW hS hl.1 rfl (Nat.le_of_ble_eq_true rfl) dX7_stirsAs_71 ⟨Nat.zero_le _, Nat.zero_le _⟩ (fun r_10 u_11 H locs hv hW hS => ?_)
      try dsimp only at hv
      refine lv_iload_n hx hb dX7_stirsAs_74 rfl (lv_at hl 2 rfl) ?_
      refine q_callV (rest := [.int (0 : Int32)]) (n := 2) C (hO_X7_stirsAs G b m_images m_at_ m_open_ m_steps m_use_ m_traced_8 m_speaks m_isParted m_s m_trace_8 r_10 p2 _ hv) ml_X7_234 kb_X7_stirsAs rfl ⟨⟨rfl, rfl⟩, (by show f + 1 ≤ f + 5; omega), (by show 8 + (3 + 11) + o ≤ o + 110; omega)⟩ hW hS [0, 1, 2] rfl rfl kc7 (q0 := 0) rfl hl.1 rfl (Nat.le_of_ble_eq_true rfl) dX7_stirsAs_75 ⟨Nat.zero_le _, Nat.zero_le _⟩ (fun r_12 u_13 H locs hv hW hS => ?_)
      obtain ⟨m_traced_12, m_trace_12⟩ := u_13
      try dsimp only at hv
      have hW : wo G A (wd_X7_20 G b m_images m_at_ m_open_ m_steps m_use_ m_traced_12 m_speaks m_isParted m_s m_trace_12) H := hW
      refine lv_isub hx hb dX7_stirsAs_78 ?_
      exact ret (m_traced_12, m_trace_12) ((0 : Int32) - r_12) H locs ls _ rfl hW hS hv dX7_stirsAs_79
    · replace hv := hv.2 c_1_1
      by_cases c_1_2 : p1 = 5
      · replace hv := hv.1 c_1_2
        refine lv_tableIn (tgt := 80) hx hb dX7_stirsAs_1 (by rw [c_1_2]; decide) (by rw [c_1_2]; decide) (by rw [c_1_2]; rfl) (by decide) ?_
        refine lv_aload_n hx hb dX7_stirsAs_80 rfl (lv_at hl 0 rfl) ?_
        refine lv_bipush (v := 60) hx hb dX7_stirsAs_81 kbp_60 ?_
        refine q_callVv (rest := []) (n := 1) C (c_X7_starts l G b m_images m_at_ m_open_ m_steps m_use_ m_traced m_speaks m_isParted m_trace (60 : Int32) _ hv) ml_X7_225 kb_X7_starts rfl ⟨⟨rfl, rfl⟩, (by show 0 + 1 ≤ f + 5; omega), (by show 8 + (2 + 11) + 0 ≤ o + 110; omega)⟩ hW hS [0, 2] rfl rfl kc7 (q0 := 0) rfl hl.1 rfl (Nat.le_of_ble_eq_true rfl) dX7_stirsAs_83 ⟨Nat.zero_le _, Nat.zero_le _⟩ (fun u_15 H locs hv hW hS => ?_)
        obtain ⟨m_traced_14, m_trace_14⟩ := u_15
        try dsimp only at hv
        have hW : wo G A (wd_X7_20 G b m_images m_at_ m_open_ m_steps m_use_ m_traced_14 m_speaks m_isParted m_s m_trace_14) H := hW
        refine lv_aload_n hx hb dX7_stirsAs_86 rfl (lv_at hl 0 rfl) ?_
        refine lv_iconst (v := 5) hx hb dX7_stirsAs_87 kic_5 ?_
        refine q_callS (rest := [.ref (b 0)]) (n := 1) C (c_X7_above l G (5 : Int32) _ hv) ml_X7_165 kb_X7_above rfl ⟨⟨rfl, rfl⟩, (by show 0 + 1 ≤ f + 5; omega), (by show 8 + (1 + 11) + 0 ≤ o + 110; omega)⟩ hW hS hl.1 rfl (Nat.le_of_ble_eq_true rfl) dX7_stirsAs_88 ⟨Nat.zero_le _, Nat.zero_le _⟩ (fun r_16 u_17 H locs hv hW hS => ?_)
        try dsimp only at hv
        refine lv_iload_n hx hb dX7_stirsAs_91 rfl (lv_at hl 2 rfl) ?_
        refine lv_iconst (v := 1) hx hb dX7_stirsAs_92 kic_1 ?_
        refine lv_iadd hx hb dX7_stirsAs_93 ?_
        refine q_callV (rest := []) (n := 2) C (hO_X7_stirsAs G b m_images m_at_ m_open_ m_steps m_use_ m_traced_14 m_speaks m_isParted m_s m_trace_14 r_16 (p2 + (1 : Int32)) _ hv) ml_X7_234 kb_X7_stirsAs rfl ⟨⟨rfl, rfl⟩, (by show f + 1 ≤ f + 5; omega), (by show 8 + (3 + 11) + o ≤ o + 110; omega)⟩ hW hS [0, 1, 2] rfl rfl kc7 (q0 := 0) rfl hl.1 rfl (Nat.le_of_ble_eq_true rfl) dX7_stirsAs_94 ⟨Nat.zero_le _, Nat.zero_le _⟩ (fun r_18 u_19 H locs hv hW hS => ?_)
        obtain ⟨m_traced_18, m_trace_18⟩ := u_19
        try dsimp only at hv
        have hW : wo G A (wd_X7_20 G b m_images m_at_ m_open_ m_steps m_use_ m_traced_18 m_speaks m_isParted m_s m_trace_18) H := hW
        exact ret (m_traced_18, m_trace_18) r_18 H locs ls _ rfl hW hS hv dX7_stirsAs_97
      · replace hv := hv.2 c_1_2
        by_cases c_1_3 : p1 = 6
        · replace hv := hv.1 c_1_3
          refine lv_tableIn (tgt := 98) hx hb dX7_stirsAs_1 (by rw [c_1_3]; decide) (by rw [c_1_3]; decide) (by rw [c_1_3]; rfl) (by decide) ?_
          refine lv_aload_n hx hb dX7_stirsAs_98 rfl (lv_at hl 0 rfl) ?_
          refine lv_bipush (v := 71) hx hb dX7_stirsAs_99 kbp_71 ?_
          refine q_callVv (rest := []) (n := 1) C (c_X7_starts l G b m_images m_at_ m_open_ m_steps m_use_ m_traced m_speaks m_isParted m_trace (71 : Int32) _ hv) ml_X7_225 kb_X7_starts rfl ⟨⟨rfl, rfl⟩, (by show 0 + 1 ≤ f + 5; omega), (by show 8 + (2 + 11) + 0 ≤ o + 110; omega)⟩ hW hS [0, 2] rfl rfl kc7 (q0 := 0) rfl hl.1 rfl (Nat.le_of_ble_eq_true rfl) dX7_stirsAs_101 ⟨Nat.zero_le _, Nat.zero_le _⟩ (fun u_21 H locs hv hW hS => ?_)
          obtain ⟨m_traced_20, m_trace_20⟩ := u_21
          try dsimp only at hv
          have hW : wo G A (wd_X7_20 G b m_images m_at_ m_open_ m_steps m_use_ m_traced_20 m_speaks m_isParted m_s m_trace_20) H := hW
          refine lv_aload_n hx hb dX7_stirsAs_104 rfl (lv_at hl 0 rfl) ?_
          refine lv_bipush (v := 6) hx hb dX7_stirsAs_105 kbp_6 ?_
          refine q_callS (rest := [.ref (b 0)]) (n := 1) C (c_X7_above l G (6 : Int32) _ hv) ml_X7_165 kb_X7_above rfl ⟨⟨rfl, rfl⟩, (by show 0 + 1 ≤ f + 5; omega), (by show 8 + (1 + 11) + 0 ≤ o + 110; omega)⟩ hW hS hl.1 rfl (Nat.le_of_ble_eq_true rfl) dX7_stirsAs_107 ⟨Nat.zero_le _, Nat.zero_le _⟩ (fun r_22 u_23 H locs hv hW hS => ?_)
          try dsimp only at hv
          refine lv_iload_n hx hb dX7_stirsAs_110 rfl (lv_at hl 2 rfl) ?_
          refine q_callV (rest := []) (n := 2) C (hO_X7_stirsAs G b m_images m_at_ m_open_ m_steps m_use_ m_traced_20 m_speaks m_isParted m_s m_trace_20 r_22 p2 _ hv) ml_X7_234 kb_X7_stirsAs rfl ⟨⟨rfl, rfl⟩, (by show f + 1 ≤ f + 5; omega), (by show 8 + (3 + 11) + o ≤ o + 110; omega)⟩ hW hS [0, 1, 2] rfl rfl kc7 (q0 := 0) rfl hl.1 rfl (Nat.le_of_ble_eq_true rfl) dX7_stirsAs_111 ⟨Nat.zero_le _, Nat.zero_le _⟩ (fun r_24 u_25 H locs hv hW hS => ?_)
          obtain ⟨m_traced_24, m_trace_24⟩ := u_25
          try dsimp only at hv
          have hW : wo G A (wd_X7_20 G b m_images m_at_ m_open_ m_steps m_use_ m_traced_24 m_speaks m_isParted m_s m_trace_24) H := hW
          refine lv_aload_n hx hb dX7_stirsAs_114 rfl (lv_at hl 0 rfl) ?_
          refine q_callV (rest := [.int r_24]) (n := 0) C (c_X7_mNow l G b m_images m_at_ m_open_ m_steps m_use_ m_traced_24 m_speaks m_isParted m_s _ hv) ml_X7_237 kb_X7_mNow rfl ⟨⟨rfl, rfl⟩, (by show 1 + 1 ≤ f + 5; omega), (by show 8 + (1 + 11) + 22 ≤ o + 110; omega)⟩ hW hS [0, 1] rfl rfl kc7 (q0 := 0) rfl hl.1 rfl (Nat.le_of_ble_eq_true rfl) dX7_stirsAs_115 ⟨Nat.zero_le _, Nat.zero_le _⟩ (fun r_26 u_27 H locs hv hW hS => ?_)
          try dsimp only at hv
          refine lv_iadd hx hb dX7_stirsAs_118 ?_
          exact ret (m_traced_24, m_trace_24) (r_24 + r_26) H locs ls _ rfl hW hS hv dX7_stirsAs_119
        · replace hv := hv.2 c_1_3
          refine sw_row (tgt := 120) hx hb dX7_stirsAs_1 rfl (lt_s (lt_s (lt_s (lt_s (lt_s (lt_s (lt_s lt_0 (Or.inr (lv_neT c_1_0 rfl))) (Or.inl rfl)) (Or.inr (lv_neT c_1_1 rfl))) (Or.inl rfl)) (Or.inl rfl)) (Or.inr (lv_neT c_1_2 rfl))) (Or.inr (lv_neT c_1_3 rfl))) (by decide) ?_
          refine lv_aload_n hx hb dX7_stirsAs_120 rfl (lv_at hl 0 rfl) ?_
          refine lv_iload_n hx hb dX7_stirsAs_121 rfl (lv_at hl 1 rfl) ?_
          refine q_callS (rest := [.ref (b 0)]) (n := 1) C (c_X7_above l G p1 _ hv) ml_X7_165 kb_X7_above rfl ⟨⟨rfl, rfl⟩, (by show 0 + 1 ≤ f + 5; omega), (by show 8 + (1 + 11) + 0 ≤ o + 110; omega)⟩ hW hS hl.1 rfl (Nat.le_of_ble_eq_true rfl) dX7_stirsAs_122 ⟨Nat.zero_le _, Nat.zero_le _⟩ (fun r_28 u_29 H locs hv hW hS => ?_)
          try dsimp only at hv
          refine lv_iload_n hx hb dX7_stirsAs_125 rfl (lv_at hl 2 rfl) ?_
          refine q_callV (rest := []) (n := 2) C (hO_X7_stirsAs G b m_images m_at_ m_open_ m_steps m_use_ m_traced m_speaks m_isParted m_s m_trace r_28 p2 _ hv) ml_X7_234 kb_X7_stirsAs rfl ⟨⟨rfl, rfl⟩, (by show f + 1 ≤ f + 5; omega), (by show 8 + (3 + 11) + o ≤ o + 110; omega)⟩ hW hS [0, 1, 2] rfl rfl kc7 (q0 := 0) rfl hl.1 rfl (Nat.le_of_ble_eq_true rfl) dX7_stirsAs_126 ⟨Nat.zero_le _, Nat.zero_le _⟩ (fun r_30 u_31 H locs hv hW hS => ?_)
          obtain ⟨m_traced_30, m_trace_30⟩ := u_31
          try dsimp only at hv
          have hW : wo G A (wd_X7_20 G b m_images m_at_ m_open_ m_steps m_use_ m_traced_30 m_speaks m_isParted m_s m_trace_30) H := hW
          exact ret (m_traced_30, m_trace_30) r_30 H locs ls _ rfl hW hS hv dX7_stirsAs_129
theorem c_X7_stirsAs (l : Launch) : ∀ (d : Nat) (G : Gt) (b : Nat → Nat) (m_images : Int32) (m_at_ : Int32) (m_open_ : Int32) (m_steps : Int32) (m_use_ : Int32) (m_traced : Int32) (m_speaks : Int32) (m_isParted : Int32) (m_s : Nat → Int32) (m_trace : Nat → Int32) (p1 : Int32) (p2 : Int32) (K : Int32 → Int32 → (Nat → Int32) → Prop) (hv : v_X7_stirsAs d p1 p2 m_traced m_speaks m_s m_trace K), CI l G yX7_stirsAs (.code yX7_stirsAs cX7_stirsAs 3 (some .int) :: wsG) (rmm (5 * d) (110 * d)) [.ref (b 0), .int p1, .int p2] (wd_X7_20 G b m_images m_at_ m_open_ m_steps m_use_ m_traced m_speaks m_isParted m_s m_trace) (S := Int32 × (Nat → Int32)) (fun u => wd_X7_20 G b m_images m_at_ m_open_ m_steps m_use_ u.1 m_speaks m_isParted m_s u.2) (fun r u => K r u.1 u.2)
  | 0, _, _, _, _, _, _, _, _, _, _, _, _, _, _, _, hv => False.elim hv
  | d + 1, G, b, m_images, m_at_, m_open_, m_steps, m_use_, m_traced, m_speaks, m_isParted, m_s, m_trace, p1, p2, K, hv => cb_X7_stirsAs l (5 * d) (110 * d) (fun a0 a1 a2 a3 a4 a5 K => v_X7_stirsAs d a0 a1 a2 a3 a4 a5 K) (fun G b m_images m_at_ m_open_ m_steps m_use_ m_traced m_speaks m_isParted m_s m_trace p1 p2 K hv => c_X7_stirsAs l d G b m_images m_at_ m_open_ m_steps m_use_ m_traced m_speaks m_isParted m_s m_trace p1 p2 K hv) G b m_images m_at_ m_open_ m_steps m_use_ m_traced m_speaks m_isParted m_s m_trace p1 p2 K hv
set_option maxHeartbeats 4000000 in
set_option maxRecDepth 100000 in
theorem cb_X7_callsAs (l : Launch) (f o : Nat) (O_X7_callsAs : Int32 → Int32 → Int32 → Int32 → (Nat → Int32) → (Nat → Int32) → (Int32 → Int32 → (Nat → Int32) → Prop) → Prop) (hO_X7_callsAs : ∀ (G : Gt) (b : Nat → Nat) (m_images : Int32) (m_at_ : Int32) (m_open_ : Int32) (m_steps : Int32) (m_use_ : Int32) (m_traced : Int32) (m_speaks : Int32) (m_isParted : Int32) (m_s : Nat → Int32) (m_trace : Nat → Int32) (p1 : Int32) (p2 : Int32) (K : Int32 → Int32 → (Nat → Int32) → Prop), O_X7_callsAs p1 p2 m_traced m_speaks m_s m_trace K → CI l G yX7_callsAs (.code yX7_callsAs cX7_callsAs 3 (some .int) :: wsG) (rmm f o) [.ref (b 0), .int p1, .int p2] (wd_X7_20 G b m_images m_at_ m_open_ m_steps m_use_ m_traced m_speaks m_isParted m_s m_trace) (S := Int32 × (Nat → Int32)) (fun u => wd_X7_20 G b m_images m_at_ m_open_ m_steps m_use_ u.1 m_speaks m_isParted m_s u.2) (fun r u => K r u.1 u.2)) (G : Gt) (b : Nat → Nat) (m_images : Int32) (m_at_ : Int32) (m_open_ : Int32) (m_steps : Int32) (m_use_ : Int32) (m_traced : Int32) (m_speaks : Int32) (m_isParted : Int32) (m_s : Nat → Int32) (m_trace : Nat → Int32) (p1 : Int32) (p2 : Int32) (K : Int32 → Int32 → (Nat → Int32) → Prop) (hv : b_X7_callsAs O_X7_callsAs p1 p2 m_traced m_speaks m_s m_trace K) : CI l G yX7_callsAs (.code yX7_callsAs cX7_callsAs 3 (some .int) :: wsG) (rmm (f + 21) (o + 462)) [.ref (b 0), .int p1, .int p2] (wd_X7_20 G b m_images m_at_ m_open_ m_steps m_use_ m_traced m_speaks m_isParted m_s m_trace) (S := Int32 × (Nat → Int32)) (fun u => wd_X7_20 G b m_images m_at_ m_open_ m_steps m_use_ u.1 m_speaks m_isParted m_s u.2) (fun r u => K r u.1 u.2) := by
  refine ci_intro (by decide) rfl (fun _ => rfl) (Nat.le_of_ble_eq_true rfl) ?_
  intro p e s m args below meth c A H ls Q C hW hS hl ret
  have hx := C.1.1
  have hb := C.1.2.1
  generalize hls : ([] : List Loc) = locs at hS ⊢
  have hl : lv_has ls 3 [(0, .ref (b 0)), (1, .int p1), (2, .int p2)] := hl
  refine lv_iload_n hx hb dX7_callsAs_0 rfl (lv_at hl 1 rfl) ?_
  by_cases c_1_0 : p1 = 0
  · replace hv := hv.1 c_1_0
    refine lv_tableIn (tgt := 36) hx hb dX7_callsAs_1 (by rw [c_1_0]; decide) (by rw [c_1_0]; decide) (by rw [c_1_0]; rfl) (by decide) ?_
    refine lv_aload_n hx hb dX7_callsAs_36 rfl (lv_at hl 0 rfl) ?_
    refine lv_bipush (v := 12) hx hb dX7_callsAs_37 kbp_12 ?_
    refine q_callVv (rest := []) (n := 1) C (c_X7_starts l G b m_images m_at_ m_open_ m_steps m_use_ m_traced m_speaks m_isParted m_trace (12 : Int32) _ hv) ml_X7_225 kb_X7_starts rfl ⟨⟨rfl, rfl⟩, (by show 0 + 1 ≤ f + 21; omega), (by show 8 + (2 + 11) + 0 ≤ o + 462; omega)⟩ hW hS [0, 2] rfl rfl kc7 (q0 := 0) rfl hl.1 rfl (Nat.le_of_ble_eq_true rfl) dX7_callsAs_39 ⟨Nat.zero_le _, Nat.zero_le _⟩ (fun u_3 H locs hv hW hS => ?_)
    obtain ⟨m_traced_2, m_trace_2⟩ := u_3
    try dsimp only at hv
    have hW : wo G A (wd_X7_20 G b m_images m_at_ m_open_ m_steps m_use_ m_traced_2 m_speaks m_isParted m_s m_trace_2) H := hW
    refine lv_aload_n hx hb dX7_callsAs_42 rfl (lv_at hl 0 rfl) ?_
    refine lv_aload_n hx hb dX7_callsAs_43 rfl (lv_at hl 0 rfl) ?_
    refine q_callV (rest := [.ref (b 0)]) (n := 0) C (c_X7_kindNow l G b m_images m_at_ m_open_ m_steps m_use_ m_traced_2 m_speaks m_isParted m_s _ hv) ml_X7_231 kb_X7_kindNow rfl ⟨⟨rfl, rfl⟩, (by show 1 + 1 ≤ f + 21; omega), (by show 8 + (1 + 11) + 22 ≤ o + 462; omega)⟩ hW hS [0, 1] rfl rfl kc7 (q0 := 0) rfl hl.1 rfl (Nat.le_of_ble_eq_true rfl) dX7_callsAs_44 ⟨Nat.zero_le _, Nat.zero_le _⟩ (fun r_4 u_5 H locs hv hW hS => ?_)
    try dsimp only at hv
    refine lv_iload_n hx hb dX7_callsAs_47 rfl (lv_at hl 2 rfl) ?_
    refine q_callV (rest := []) (n := 2) C (c_X7_stirsAs l 4 G b m_images m_at_ m_open_ m_steps m_use_ m_traced_2 m_speaks m_isParted m_s m_trace_2 r_4 p2 _ hv) ml_X7_234 kb_X7_stirsAs rfl ⟨⟨rfl, rfl⟩, (by show 20 + 1 ≤ f + 21; omega), (by show 8 + (3 + 11) + 440 ≤ o + 462; omega)⟩ hW hS [0, 1, 2] rfl rfl kc7 (q0 := 0) rfl hl.1 rfl (Nat.le_of_ble_eq_true rfl) dX7_callsAs_48 ⟨Nat.zero_le _, Nat.zero_le _⟩ (fun r_6 u_7 H locs hv hW hS => ?_)
    obtain ⟨m_traced_6, m_trace_6⟩ := u_7
    try dsimp only at hv
    have hW : wo G A (wd_X7_20 G b m_images m_at_ m_open_ m_steps m_use_ m_traced_6 m_speaks m_isParted m_s m_trace_6) H := hW
    refine lv_aload_n hx hb dX7_callsAs_51 rfl (lv_at hl 0 rfl) ?_
    refine q_callV (rest := [.int r_6]) (n := 0) C (c_X7_mNow l G b m_images m_at_ m_open_ m_steps m_use_ m_traced_6 m_speaks m_isParted m_s _ hv) ml_X7_237 kb_X7_mNow rfl ⟨⟨rfl, rfl⟩, (by show 1 + 1 ≤ f + 21; omega), (by show 8 + (1 + 11) + 22 ≤ o + 462; omega)⟩ hW hS [0, 1] rfl rfl kc7 (q0 := 0) rfl hl.1 rfl (Nat.le_of_ble_eq_true rfl) dX7_callsAs_52 ⟨Nat.zero_le _, Nat.zero_le _⟩ (fun r_8 u_9 H locs hv hW hS => ?_)
    try dsimp only at hv
    refine lv_isub hx hb dX7_callsAs_55 ?_
    exact ret (m_traced_6, m_trace_6) (r_6 - r_8) H locs ls _ rfl hW hS hv dX7_callsAs_56
  · replace hv := hv.2 c_1_0
    by_cases c_1_1 : p1 = 3
    · replace hv := hv.1 c_1_1
      refine lv_tableIn (tgt := 57) hx hb dX7_callsAs_1 (by rw [c_1_1]; decide) (by rw [c_1_1]; decide) (by rw [c_1_1]; rfl) (by decide) ?_
      refine lv_aload_n hx hb dX7_callsAs_57 rfl (lv_at hl 0 rfl) ?_
      refine lv_bipush (v := 40) hx hb dX7_callsAs_58 kbp_40 ?_
      refine q_callVv (rest := []) (n := 1) C (c_X7_starts l G b m_images m_at_ m_open_ m_steps m_use_ m_traced m_speaks m_isParted m_trace (40 : Int32) _ hv) ml_X7_225 kb_X7_starts rfl ⟨⟨rfl, rfl⟩, (by show 0 + 1 ≤ f + 21; omega), (by show 8 + (2 + 11) + 0 ≤ o + 462; omega)⟩ hW hS [0, 2] rfl rfl kc7 (q0 := 0) rfl hl.1 rfl (Nat.le_of_ble_eq_true rfl) dX7_callsAs_60 ⟨Nat.zero_le _, Nat.zero_le _⟩ (fun u_11 H locs hv hW hS => ?_)
      obtain ⟨m_traced_10, m_trace_10⟩ := u_11
      try dsimp only at hv
      have hW : wo G A (wd_X7_20 G b m_images m_at_ m_open_ m_steps m_use_ m_traced_10 m_speaks m_isParted m_s m_trace_10) H := hW
      refine lv_aload_n hx hb dX7_callsAs_63 rfl (lv_at hl 0 rfl) ?_
      refine lv_iconst (v := 3) hx hb dX7_callsAs_64 kic_3 ?_
      refine q_callS (rest := [.ref (b 0)]) (n := 1) C (c_X7_above l G (3 : Int32) _ hv) ml_X7_165 kb_X7_above rfl ⟨⟨rfl, rfl⟩, (by show 0 + 1 ≤ f + 21; omega), (by show 8 + (1 + 11) + 0 ≤ o + 462; omega)⟩ hW hS hl.1 rfl (Nat.le_of_ble_eq_true rfl) dX7_callsAs_65 ⟨Nat.zero_le _, Nat.zero_le _⟩ (fun r_12 u_13 H locs hv hW hS => ?_)
      try dsimp only at hv
      refine lv_iload_n hx hb dX7_callsAs_68 rfl (lv_at hl 2 rfl) ?_
      refine lv_iconst (v := 2) hx hb dX7_callsAs_69 kic_2 ?_
      obtain ⟨h_14, hv⟩ := hv
      refine lv_idiv hx hb dX7_callsAs_70 h_14 ?_
      refine q_callV (rest := []) (n := 2) C (hO_X7_callsAs G b m_images m_at_ m_open_ m_steps m_use_ m_traced_10 m_speaks m_isParted m_s m_trace_10 r_12 (p2 / (2 : Int32)) _ hv) ml_X7_240 kb_X7_callsAs rfl ⟨⟨rfl, rfl⟩, (by show f + 1 ≤ f + 21; omega), (by show 8 + (3 + 11) + o ≤ o + 462; omega)⟩ hW hS [0, 1, 2] rfl rfl kc7 (q0 := 0) rfl hl.1 rfl (Nat.le_of_ble_eq_true rfl) dX7_callsAs_71 ⟨Nat.zero_le _, Nat.zero_le _⟩ (fun r_15 u_16 H locs hv hW hS => ?_)
      obtain ⟨m_traced_15, m_trace_15⟩ := u_16
      try dsimp only at hv
      have hW : wo G A (wd_X7_20 G b m_images m_at_ m_open_ m_steps m_use_ m_traced_15 m_speaks m_isParted m_s m_trace_15) H := hW
      exact ret (m_traced_15, m_trace_15) r_15 H locs ls _ rfl hW hS hv dX7_callsAs_74
    · replace hv := hv.2 c_1_1
      by_cases c_1_2 : p1 = 4
      · replace hv := hv.1 c_1_2
        refine lv_tableIn (tgt := 75) hx hb dX7_callsAs_1 (by rw [c_1_2]; decide) (by rw [c_1_2]; decide) (by rw [c_1_2]; rfl) (by decide) ?_
        refine lv_aload_n hx hb dX7_callsAs_75 rfl (lv_at hl 0 rfl) ?_
        refine lv_bipush (v := 51) hx hb dX7_callsAs_76 kbp_51 ?_
        refine q_callVv (rest := []) (n := 1) C (c_X7_starts l G b m_images m_at_ m_open_ m_steps m_use_ m_traced m_speaks m_isParted m_trace (51 : Int32) _ hv) ml_X7_225 kb_X7_starts rfl ⟨⟨rfl, rfl⟩, (by show 0 + 1 ≤ f + 21; omega), (by show 8 + (2 + 11) + 0 ≤ o + 462; omega)⟩ hW hS [0, 2] rfl rfl kc7 (q0 := 0) rfl hl.1 rfl (Nat.le_of_ble_eq_true rfl) dX7_callsAs_78 ⟨Nat.zero_le _, Nat.zero_le _⟩ (fun u_18 H locs hv hW hS => ?_)
        obtain ⟨m_traced_17, m_trace_17⟩ := u_18
        try dsimp only at hv
        have hW : wo G A (wd_X7_20 G b m_images m_at_ m_open_ m_steps m_use_ m_traced_17 m_speaks m_isParted m_s m_trace_17) H := hW
        refine lv_aload_n hx hb dX7_callsAs_81 rfl (lv_at hl 0 rfl) ?_
        refine lv_iconst (v := 4) hx hb dX7_callsAs_82 kic_4 ?_
        refine q_callS (rest := [.ref (b 0)]) (n := 1) C (c_X7_above l G (4 : Int32) _ hv) ml_X7_165 kb_X7_above rfl ⟨⟨rfl, rfl⟩, (by show 0 + 1 ≤ f + 21; omega), (by show 8 + (1 + 11) + 0 ≤ o + 462; omega)⟩ hW hS hl.1 rfl (Nat.le_of_ble_eq_true rfl) dX7_callsAs_83 ⟨Nat.zero_le _, Nat.zero_le _⟩ (fun r_19 u_20 H locs hv hW hS => ?_)
        try dsimp only at hv
        refine lv_iload_n hx hb dX7_callsAs_86 rfl (lv_at hl 2 rfl) ?_
        refine q_callV (rest := []) (n := 2) C (hO_X7_callsAs G b m_images m_at_ m_open_ m_steps m_use_ m_traced_17 m_speaks m_isParted m_s m_trace_17 r_19 p2 _ hv) ml_X7_240 kb_X7_callsAs rfl ⟨⟨rfl, rfl⟩, (by show f + 1 ≤ f + 21; omega), (by show 8 + (3 + 11) + o ≤ o + 462; omega)⟩ hW hS [0, 1, 2] rfl rfl kc7 (q0 := 0) rfl hl.1 rfl (Nat.le_of_ble_eq_true rfl) dX7_callsAs_87 ⟨Nat.zero_le _, Nat.zero_le _⟩ (fun r_21 u_22 H locs hv hW hS => ?_)
        obtain ⟨m_traced_21, m_trace_21⟩ := u_22
        try dsimp only at hv
        have hW : wo G A (wd_X7_20 G b m_images m_at_ m_open_ m_steps m_use_ m_traced_21 m_speaks m_isParted m_s m_trace_21) H := hW
        refine lv_aload_n hx hb dX7_callsAs_90 rfl (lv_at hl 0 rfl) ?_
        refine q_get C kc7 hW 0 rfl 16 (by decide) fl_X7_222 rfl rfl dX7_callsAs_91 ?_
        refine lv_ixor hx hb dX7_callsAs_94 ?_
        exact ret (m_traced_21, m_trace_21) (r_21 ^^^ m_speaks) H locs ls _ rfl hW hS hv dX7_callsAs_95
      · replace hv := hv.2 c_1_2
        refine sw_row (tgt := 96) hx hb dX7_callsAs_1 rfl (lt_s (lt_s (lt_s (lt_s (lt_s lt_0 (Or.inr (lv_neT c_1_0 rfl))) (Or.inl rfl)) (Or.inl rfl)) (Or.inr (lv_neT c_1_1 rfl))) (Or.inr (lv_neT c_1_2 rfl))) (by decide) ?_
        refine lv_aload_n hx hb dX7_callsAs_96 rfl (lv_at hl 0 rfl) ?_
        refine lv_iload_n hx hb dX7_callsAs_97 rfl (lv_at hl 1 rfl) ?_
        refine q_callS (rest := [.ref (b 0)]) (n := 1) C (c_X7_above l G p1 _ hv) ml_X7_165 kb_X7_above rfl ⟨⟨rfl, rfl⟩, (by show 0 + 1 ≤ f + 21; omega), (by show 8 + (1 + 11) + 0 ≤ o + 462; omega)⟩ hW hS hl.1 rfl (Nat.le_of_ble_eq_true rfl) dX7_callsAs_98 ⟨Nat.zero_le _, Nat.zero_le _⟩ (fun r_23 u_24 H locs hv hW hS => ?_)
        try dsimp only at hv
        refine lv_iload_n hx hb dX7_callsAs_101 rfl (lv_at hl 2 rfl) ?_
        refine q_callV (rest := []) (n := 2) C (hO_X7_callsAs G b m_images m_at_ m_open_ m_steps m_use_ m_traced m_speaks m_isParted m_s m_trace r_23 p2 _ hv) ml_X7_240 kb_X7_callsAs rfl ⟨⟨rfl, rfl⟩, (by show f + 1 ≤ f + 21; omega), (by show 8 + (3 + 11) + o ≤ o + 462; omega)⟩ hW hS [0, 1, 2] rfl rfl kc7 (q0 := 0) rfl hl.1 rfl (Nat.le_of_ble_eq_true rfl) dX7_callsAs_102 ⟨Nat.zero_le _, Nat.zero_le _⟩ (fun r_25 u_26 H locs hv hW hS => ?_)
        obtain ⟨m_traced_25, m_trace_25⟩ := u_26
        try dsimp only at hv
        have hW : wo G A (wd_X7_20 G b m_images m_at_ m_open_ m_steps m_use_ m_traced_25 m_speaks m_isParted m_s m_trace_25) H := hW
        exact ret (m_traced_25, m_trace_25) r_25 H locs ls _ rfl hW hS hv dX7_callsAs_105
theorem c_X7_callsAs (l : Launch) : ∀ (d : Nat) (G : Gt) (b : Nat → Nat) (m_images : Int32) (m_at_ : Int32) (m_open_ : Int32) (m_steps : Int32) (m_use_ : Int32) (m_traced : Int32) (m_speaks : Int32) (m_isParted : Int32) (m_s : Nat → Int32) (m_trace : Nat → Int32) (p1 : Int32) (p2 : Int32) (K : Int32 → Int32 → (Nat → Int32) → Prop) (hv : v_X7_callsAs d p1 p2 m_traced m_speaks m_s m_trace K), CI l G yX7_callsAs (.code yX7_callsAs cX7_callsAs 3 (some .int) :: wsG) (rmm (21 * d) (462 * d)) [.ref (b 0), .int p1, .int p2] (wd_X7_20 G b m_images m_at_ m_open_ m_steps m_use_ m_traced m_speaks m_isParted m_s m_trace) (S := Int32 × (Nat → Int32)) (fun u => wd_X7_20 G b m_images m_at_ m_open_ m_steps m_use_ u.1 m_speaks m_isParted m_s u.2) (fun r u => K r u.1 u.2)
  | 0, _, _, _, _, _, _, _, _, _, _, _, _, _, _, _, hv => False.elim hv
  | d + 1, G, b, m_images, m_at_, m_open_, m_steps, m_use_, m_traced, m_speaks, m_isParted, m_s, m_trace, p1, p2, K, hv => cb_X7_callsAs l (21 * d) (462 * d) (fun a0 a1 a2 a3 a4 a5 K => v_X7_callsAs d a0 a1 a2 a3 a4 a5 K) (fun G b m_images m_at_ m_open_ m_steps m_use_ m_traced m_speaks m_isParted m_s m_trace p1 p2 K hv => c_X7_callsAs l d G b m_images m_at_ m_open_ m_steps m_use_ m_traced m_speaks m_isParted m_s m_trace p1 p2 K hv) G b m_images m_at_ m_open_ m_steps m_use_ m_traced m_speaks m_isParted m_s m_trace p1 p2 K hv
set_option maxHeartbeats 4000000 in
set_option maxRecDepth 100000 in
theorem cb_X7_partsAs (l : Launch) (f o : Nat) (O_X7_partsAs : Int32 → Int32 → Int32 → Int32 → Int32 → (Nat → Int32) → (Nat → Int32) → (Int32 → Int32 → Int32 → (Nat → Int32) → Prop) → Prop) (hO_X7_partsAs : ∀ (G : Gt) (b : Nat → Nat) (m_images : Int32) (m_at_ : Int32) (m_open_ : Int32) (m_steps : Int32) (m_use_ : Int32) (m_traced : Int32) (m_speaks : Int32) (m_isParted : Int32) (m_s : Nat → Int32) (m_trace : Nat → Int32) (p1 : Int32) (p2 : Int32) (K : Int32 → Int32 → Int32 → (Nat → Int32) → Prop), O_X7_partsAs p1 p2 m_traced m_speaks m_isParted m_s m_trace K → CI l G yX7_partsAs (.code yX7_partsAs cX7_partsAs 5 (some .int) :: wsG) (rmm f o) [.ref (b 0), .int p1, .int p2] (wd_X7_20 G b m_images m_at_ m_open_ m_steps m_use_ m_traced m_speaks m_isParted m_s m_trace) (S := Int32 × Int32 × (Nat → Int32)) (fun u => wd_X7_20 G b m_images m_at_ m_open_ m_steps m_use_ u.1 m_speaks u.2.1 m_s u.2.2) (fun r u => K r u.1 u.2.1 u.2.2)) (G : Gt) (b : Nat → Nat) (m_images : Int32) (m_at_ : Int32) (m_open_ : Int32) (m_steps : Int32) (m_use_ : Int32) (m_traced : Int32) (m_speaks : Int32) (m_isParted : Int32) (m_s : Nat → Int32) (m_trace : Nat → Int32) (p1 : Int32) (p2 : Int32) (K : Int32 → Int32 → Int32 → (Nat → Int32) → Prop) (hv : b_X7_partsAs O_X7_partsAs p1 p2 m_traced m_speaks m_isParted m_s m_trace K) : CI l G yX7_partsAs (.code yX7_partsAs cX7_partsAs 5 (some .int) :: wsG) (rmm (f + 21) (o + 462)) [.ref (b 0), .int p1, .int p2] (wd_X7_20 G b m_images m_at_ m_open_ m_steps m_use_ m_traced m_speaks m_isParted m_s m_trace) (S := Int32 × Int32 × (Nat → Int32)) (fun u => wd_X7_20 G b m_images m_at_ m_open_ m_steps m_use_ u.1 m_speaks u.2.1 m_s u.2.2) (fun r u => K r u.1 u.2.1 u.2.2) := by
  refine ci_intro (by decide) rfl (fun _ => rfl) (Nat.le_of_ble_eq_true rfl) ?_
  intro p e s m args below meth c A H ls Q C hW hS hl ret
  have hx := C.1.1
  have hb := C.1.2.1
  generalize hls : ([] : List Loc) = locs at hS ⊢
  have hl : lv_has ls 5 [(0, .ref (b 0)), (1, .int p1), (2, .int p2)] := hl
  have h_j_X7_partsAs_54 : ∀ (x3 : Int32) (t1 : Int32) (m_traced : Int32) (m_isParted : Int32) (m_trace : Nat → Int32) (H : Heap) (locs : List Loc) (ls : Array Slot), t1 = 0 ∨ t1 = 1 → wo G A (wd_X7_20 G b m_images m_at_ m_open_ m_steps m_use_ m_traced m_speaks m_isParted m_s m_trace) H → va_S A s.heap H locs → lv_has ls 5 [(2, .int p2), (3, .int x3)] → j_X7_partsAs_54 O_X7_partsAs p1 p2 m_speaks m_s K x3 t1 m_traced m_isParted m_trace → W p l e (rmm (f + 21) (o + 462)) s m args below meth c H locs 0 0 Q (F0 m 54 ls [.int t1, .ref (b 0)]) := by
    intro x3 t1 m_traced m_isParted m_trace H locs ls hz_t1 hW hS hl hv
    refine q_put C kc7 hW hS 0 rfl 17 (by decide) fl_X7_243 rfl rfl (bl_narrow hz_t1) (bl_fits hz_t1) (Nat.le_of_ble_eq_true rfl) dX7_partsAs_54 (fun H locs hW hS => ?_)
    have hW : wo G A (wd_X7_20 G b m_images m_at_ m_open_ m_steps m_use_ m_traced m_speaks t1 m_s m_trace) H := hW
    refine lv_iload_n hx hb dX7_partsAs_57 rfl (lv_at hl 1 rfl) ?_
    refine lv_if_ne (tgt := 65) hx hb dX7_partsAs_58 (by decide) (fun c_7 => ?_) (fun c_7 => ?_)
    · replace hv := hv.1 c_7
      refine lv_iload_n hx hb dX7_partsAs_65 rfl (lv_at hl 1 rfl) ?_
      refine lv_iconst (v := (-1)) hx hb dX7_partsAs_66 kic_m1 ?_
      refine lv_icmp_ne (tgt := 75) hx hb dX7_partsAs_67 (by decide) (fun c_8 => ?_) (fun c_8 => ?_)
      · replace hv := hv.1 c_8
        refine lv_iload_n hx hb dX7_partsAs_75 rfl (lv_at hl 0 rfl) ?_
        refine lv_iload_n hx hb dX7_partsAs_76 rfl (lv_at hl 1 rfl) ?_
        obtain ⟨h_9, hv⟩ := hv
        refine lv_idiv hx hb dX7_partsAs_77 h_9 ?_
        exact ret (m_traced, t1, m_trace) (p2 / x3) H locs ls _ rfl hW hS hv dX7_partsAs_78
      · replace hv := hv.2 c_8
        refine lv_iload_n hx hb dX7_partsAs_70 rfl (lv_at hl 0 rfl) ?_
        refine lv_ineg hx hb dX7_partsAs_71 ?_
        refine lv_goto (tgt := 78) hx hb dX7_partsAs_72 (by decide) ?_
        exact ret (m_traced, t1, m_trace) (-p2) H locs ls _ rfl hW hS hv dX7_partsAs_78
    · replace hv := hv.2 c_7
      refine lv_iconst (v := 0) hx hb dX7_partsAs_61 kic_0 ?_
      refine lv_goto (tgt := 78) hx hb dX7_partsAs_62 (by decide) ?_
      exact ret (m_traced, t1, m_trace) (0 : Int32) H locs ls _ rfl hW hS hv dX7_partsAs_78
  refine lv_iload_n hx hb dX7_partsAs_0 rfl (lv_at hl 1 rfl) ?_
  by_cases c_1_0 : p1 = 0
  · replace hv := hv.1 c_1_0
    refine lv_lookup (off := 27) (tgt := 28) hx hb dX7_partsAs_1 (by decide) (by rw [c_1_0] <;> rfl) (by decide) ?_
    refine lv_aload_n hx hb dX7_partsAs_28 rfl (lv_at hl 0 rfl) ?_
    refine lv_bipush (v := 13) hx hb dX7_partsAs_29 kbp_13 ?_
    refine q_callVv (rest := []) (n := 1) C (c_X7_starts l G b m_images m_at_ m_open_ m_steps m_use_ m_traced m_speaks m_isParted m_trace (13 : Int32) _ hv) ml_X7_225 kb_X7_starts rfl ⟨⟨rfl, rfl⟩, (by show 0 + 1 ≤ f + 21; omega), (by show 8 + (2 + 11) + 0 ≤ o + 462; omega)⟩ hW hS [0, 2] rfl rfl kc7 (q0 := 0) rfl hl.1 rfl (Nat.le_of_ble_eq_true rfl) dX7_partsAs_31 ⟨Nat.zero_le _, Nat.zero_le _⟩ (fun u_3 H locs hv hW hS => ?_)
    obtain ⟨m_traced_2, m_trace_2⟩ := u_3
    try dsimp only at hv
    have hW : wo G A (wd_X7_20 G b m_images m_at_ m_open_ m_steps m_use_ m_traced_2 m_speaks m_isParted m_s m_trace_2) H := hW
    refine lv_aload_n hx hb dX7_partsAs_34 rfl (lv_at hl 0 rfl) ?_
    refine q_callV (rest := []) (n := 0) C (c_X7_mNow l G b m_images m_at_ m_open_ m_steps m_use_ m_traced_2 m_speaks m_isParted m_s _ hv) ml_X7_237 kb_X7_mNow rfl ⟨⟨rfl, rfl⟩, (by show 1 + 1 ≤ f + 21; omega), (by show 8 + (1 + 11) + 22 ≤ o + 462; omega)⟩ hW hS [0, 1] rfl rfl kc7 (q0 := 0) rfl hl.1 rfl (Nat.le_of_ble_eq_true rfl) dX7_partsAs_35 ⟨Nat.zero_le _, Nat.zero_le _⟩ (fun r_4 u_5 H locs hv hW hS => ?_)
    try dsimp only at hv
    refine lv_aload_n hx hb dX7_partsAs_38 rfl (lv_at hl 0 rfl) ?_
    refine q_get C kc7 hW 0 rfl 16 (by decide) fl_X7_222 rfl rfl dX7_partsAs_39 ?_
    refine lv_isub hx hb dX7_partsAs_42 ?_
    refine lv_istore_n (lv' := [(3, .int (r_4 - m_speaks)), (0, .ref (b 0)), (1, .int p1), (2, .int p2)]) hx hb dX7_partsAs_43 rfl hl (by decide) rfl (fun ls hl => ?_)
    refine lv_aload_n hx hb dX7_partsAs_44 rfl (lv_at hl 1 rfl) ?_
    refine lv_iload_n hx hb dX7_partsAs_45 rfl (lv_at hl 0 rfl) ?_
    refine lv_if_ne (tgt := 53) hx hb dX7_partsAs_46 (by decide) (fun c_6 => ?_) (fun c_6 => ?_)
    · replace hv := hv.1 c_6
      refine lv_iconst (v := 0) hx hb dX7_partsAs_53 kic_0 ?_
      exact h_j_X7_partsAs_54 (r_4 - m_speaks) (0 : Int32) m_traced_2 m_isParted m_trace_2 H locs ls (Or.inl rfl) hW hS (lv_sub hl [3, 0] rfl) hv
    · replace hv := hv.2 c_6
      refine lv_iconst (v := 1) hx hb dX7_partsAs_49 kic_1 ?_
      refine lv_goto (tgt := 54) hx hb dX7_partsAs_50 (by decide) ?_
      exact h_j_X7_partsAs_54 (r_4 - m_speaks) (1 : Int32) m_traced_2 m_isParted m_trace_2 H locs ls (Or.inr rfl) hW hS (lv_sub hl [3, 0] rfl) hv
  · replace hv := hv.2 c_1_0
    by_cases c_1_1 : p1 = 1
    · replace hv := hv.1 c_1_1
      refine lv_lookup (off := 78) (tgt := 79) hx hb dX7_partsAs_1 (by decide) (by rw [c_1_1] <;> rfl) (by decide) ?_
      refine lv_aload_n hx hb dX7_partsAs_79 rfl (lv_at hl 0 rfl) ?_
      refine lv_bipush (v := 21) hx hb dX7_partsAs_80 kbp_21 ?_
      refine q_callVv (rest := []) (n := 1) C (c_X7_starts l G b m_images m_at_ m_open_ m_steps m_use_ m_traced m_speaks m_isParted m_trace (21 : Int32) _ hv) ml_X7_225 kb_X7_starts rfl ⟨⟨rfl, rfl⟩, (by show 0 + 1 ≤ f + 21; omega), (by show 8 + (2 + 11) + 0 ≤ o + 462; omega)⟩ hW hS [0, 2] rfl rfl kc7 (q0 := 0) rfl hl.1 rfl (Nat.le_of_ble_eq_true rfl) dX7_partsAs_82 ⟨Nat.zero_le _, Nat.zero_le _⟩ (fun u_11 H locs hv hW hS => ?_)
      obtain ⟨m_traced_10, m_trace_10⟩ := u_11
      try dsimp only at hv
      have hW : wo G A (wd_X7_20 G b m_images m_at_ m_open_ m_steps m_use_ m_traced_10 m_speaks m_isParted m_s m_trace_10) H := hW
      refine lv_aload_n hx hb dX7_partsAs_85 rfl (lv_at hl 0 rfl) ?_
      refine lv_iconst (v := 1) hx hb dX7_partsAs_86 kic_1 ?_
      refine q_callS (rest := [.ref (b 0)]) (n := 1) C (c_X7_above l G (1 : Int32) _ hv) ml_X7_165 kb_X7_above rfl ⟨⟨rfl, rfl⟩, (by show 0 + 1 ≤ f + 21; omega), (by show 8 + (1 + 11) + 0 ≤ o + 462; omega)⟩ hW hS hl.1 rfl (Nat.le_of_ble_eq_true rfl) dX7_partsAs_87 ⟨Nat.zero_le _, Nat.zero_le _⟩ (fun r_12 u_13 H locs hv hW hS => ?_)
      try dsimp only at hv
      refine lv_iload_n hx hb dX7_partsAs_90 rfl (lv_at hl 2 rfl) ?_
      refine q_callV (rest := []) (n := 2) C (hO_X7_partsAs G b m_images m_at_ m_open_ m_steps m_use_ m_traced_10 m_speaks m_isParted m_s m_trace_10 r_12 p2 _ hv) ml_X7_247 kb_X7_partsAs rfl ⟨⟨rfl, rfl⟩, (by show f + 1 ≤ f + 21; omega), (by show 8 + (5 + 11) + o ≤ o + 462; omega)⟩ hW hS [0, 1, 2] rfl rfl kc7 (q0 := 0) rfl hl.1 rfl (Nat.le_of_ble_eq_true rfl) dX7_partsAs_91 ⟨Nat.zero_le _, Nat.zero_le _⟩ (fun r_14 u_15 H locs hv hW hS => ?_)
      obtain ⟨m_traced_14, m_isParted_14, m_trace_14⟩ := u_15
      try dsimp only at hv
      have hW : wo G A (wd_X7_20 G b m_images m_at_ m_open_ m_steps m_use_ m_traced_14 m_speaks m_isParted_14 m_s m_trace_14) H := hW
      refine lv_istore (lv' := [(4, .int r_14), (0, .ref (b 0)), (1, .int p1), (2, .int p2)]) hx hb dX7_partsAs_94 hl (by decide) rfl (fun ls hl => ?_)
      refine lv_aload_n hx hb dX7_partsAs_96 rfl (lv_at hl 1 rfl) ?_
      refine q_get C kc7 hW 0 rfl 17 (by decide) fl_X7_243 rfl rfl dX7_partsAs_97 ?_
      refine lv_if_eq (tgt := 107) hx hb dX7_partsAs_100 (by decide) (fun c_16 => ?_) (fun c_16 => ?_)
      · replace hv := hv.1 c_16
        refine lv_iload hx hb dX7_partsAs_107 (lv_at hl 0 rfl) ?_
        refine lv_aload_n hx hb dX7_partsAs_109 rfl (lv_at hl 1 rfl) ?_
        refine lv_aload_n hx hb dX7_partsAs_110 rfl (lv_at hl 1 rfl) ?_
        refine q_callV (rest := [.ref (b 0), .int r_14]) (n := 0) C (c_X7_kindNow l G b m_images m_at_ m_open_ m_steps m_use_ m_traced_14 m_speaks m_isParted_14 m_s _ hv) ml_X7_231 kb_X7_kindNow rfl ⟨⟨rfl, rfl⟩, (by show 1 + 1 ≤ f + 21; omega), (by show 8 + (1 + 11) + 22 ≤ o + 462; omega)⟩ hW hS [0, 1] rfl rfl kc7 (q0 := 0) rfl hl.1 rfl (Nat.le_of_ble_eq_true rfl) dX7_partsAs_111 ⟨Nat.zero_le _, Nat.zero_le _⟩ (fun r_17 u_18 H locs hv hW hS => ?_)
        try dsimp only at hv
        refine lv_iconst (v := 1) hx hb dX7_partsAs_114 kic_1 ?_
        refine q_callV (rest := [.int r_14]) (n := 2) C (c_X7_stirsAs l 4 G b m_images m_at_ m_open_ m_steps m_use_ m_traced_14 m_speaks m_isParted_14 m_s m_trace_14 r_17 (1 : Int32) _ hv) ml_X7_234 kb_X7_stirsAs rfl ⟨⟨rfl, rfl⟩, (by show 20 + 1 ≤ f + 21; omega), (by show 8 + (3 + 11) + 440 ≤ o + 462; omega)⟩ hW hS [0, 1, 2] rfl rfl kc7 (q0 := 0) rfl hl.1 rfl (Nat.le_of_ble_eq_true rfl) dX7_partsAs_115 ⟨Nat.zero_le _, Nat.zero_le _⟩ (fun r_19 u_20 H locs hv hW hS => ?_)
        obtain ⟨m_traced_19, m_trace_19⟩ := u_20
        try dsimp only at hv
        have hW : wo G A (wd_X7_20 G b m_images m_at_ m_open_ m_steps m_use_ m_traced_19 m_speaks m_isParted_14 m_s m_trace_19) H := hW
        refine lv_iadd hx hb dX7_partsAs_118 ?_
        exact ret (m_traced_19, m_isParted_14, m_trace_19) (r_14 + r_19) H locs ls _ rfl hW hS hv dX7_partsAs_119
      · replace hv := hv.2 c_16
        refine lv_iconst (v := 0) hx hb dX7_partsAs_103 kic_0 ?_
        refine lv_goto (tgt := 119) hx hb dX7_partsAs_104 (by decide) ?_
        exact ret (m_traced_14, m_isParted_14, m_trace_14) (0 : Int32) H locs ls _ rfl hW hS hv dX7_partsAs_119
    · replace hv := hv.2 c_1_1
      refine lv_lookup (off := 119) (tgt := 120) hx hb dX7_partsAs_1 (by decide) ((lv_osw c_1_0 rfl).trans ((lv_osw c_1_1 rfl).trans rfl)) (by decide) ?_
      refine lv_aload_n hx hb dX7_partsAs_120 rfl (lv_at hl 0 rfl) ?_
      refine lv_iload_n hx hb dX7_partsAs_121 rfl (lv_at hl 1 rfl) ?_
      refine q_callS (rest := [.ref (b 0)]) (n := 1) C (c_X7_above l G p1 _ hv) ml_X7_165 kb_X7_above rfl ⟨⟨rfl, rfl⟩, (by show 0 + 1 ≤ f + 21; omega), (by show 8 + (1 + 11) + 0 ≤ o + 462; omega)⟩ hW hS hl.1 rfl (Nat.le_of_ble_eq_true rfl) dX7_partsAs_122 ⟨Nat.zero_le _, Nat.zero_le _⟩ (fun r_21 u_22 H locs hv hW hS => ?_)
      try dsimp only at hv
      refine lv_iload_n hx hb dX7_partsAs_125 rfl (lv_at hl 2 rfl) ?_
      refine q_callV (rest := []) (n := 2) C (hO_X7_partsAs G b m_images m_at_ m_open_ m_steps m_use_ m_traced m_speaks m_isParted m_s m_trace r_21 p2 _ hv) ml_X7_247 kb_X7_partsAs rfl ⟨⟨rfl, rfl⟩, (by show f + 1 ≤ f + 21; omega), (by show 8 + (5 + 11) + o ≤ o + 462; omega)⟩ hW hS [0, 1, 2] rfl rfl kc7 (q0 := 0) rfl hl.1 rfl (Nat.le_of_ble_eq_true rfl) dX7_partsAs_126 ⟨Nat.zero_le _, Nat.zero_le _⟩ (fun r_23 u_24 H locs hv hW hS => ?_)
      obtain ⟨m_traced_23, m_isParted_23, m_trace_23⟩ := u_24
      try dsimp only at hv
      have hW : wo G A (wd_X7_20 G b m_images m_at_ m_open_ m_steps m_use_ m_traced_23 m_speaks m_isParted_23 m_s m_trace_23) H := hW
      exact ret (m_traced_23, m_isParted_23, m_trace_23) r_23 H locs ls _ rfl hW hS hv dX7_partsAs_129
theorem c_X7_partsAs (l : Launch) : ∀ (d : Nat) (G : Gt) (b : Nat → Nat) (m_images : Int32) (m_at_ : Int32) (m_open_ : Int32) (m_steps : Int32) (m_use_ : Int32) (m_traced : Int32) (m_speaks : Int32) (m_isParted : Int32) (m_s : Nat → Int32) (m_trace : Nat → Int32) (p1 : Int32) (p2 : Int32) (K : Int32 → Int32 → Int32 → (Nat → Int32) → Prop) (hv : v_X7_partsAs d p1 p2 m_traced m_speaks m_isParted m_s m_trace K), CI l G yX7_partsAs (.code yX7_partsAs cX7_partsAs 5 (some .int) :: wsG) (rmm (21 * d) (462 * d)) [.ref (b 0), .int p1, .int p2] (wd_X7_20 G b m_images m_at_ m_open_ m_steps m_use_ m_traced m_speaks m_isParted m_s m_trace) (S := Int32 × Int32 × (Nat → Int32)) (fun u => wd_X7_20 G b m_images m_at_ m_open_ m_steps m_use_ u.1 m_speaks u.2.1 m_s u.2.2) (fun r u => K r u.1 u.2.1 u.2.2)
  | 0, _, _, _, _, _, _, _, _, _, _, _, _, _, _, _, hv => False.elim hv
  | d + 1, G, b, m_images, m_at_, m_open_, m_steps, m_use_, m_traced, m_speaks, m_isParted, m_s, m_trace, p1, p2, K, hv => cb_X7_partsAs l (21 * d) (462 * d) (fun a0 a1 a2 a3 a4 a5 a6 K => v_X7_partsAs d a0 a1 a2 a3 a4 a5 a6 K) (fun G b m_images m_at_ m_open_ m_steps m_use_ m_traced m_speaks m_isParted m_s m_trace p1 p2 K hv => c_X7_partsAs l d G b m_images m_at_ m_open_ m_steps m_use_ m_traced m_speaks m_isParted m_s m_trace p1 p2 K hv) G b m_images m_at_ m_open_ m_steps m_use_ m_traced m_speaks m_isParted m_s m_trace p1 p2 K hv
set_option maxHeartbeats 4000000 in
set_option maxRecDepth 100000 in
theorem c_X7_voice (l : Launch) (G : Gt) (b : Nat → Nat) (m_images : Int32) (m_at_ : Int32) (m_open_ : Int32) (m_steps : Int32) (m_use_ : Int32) (m_traced : Int32) (m_speaks : Int32) (m_isParted : Int32) (m_s : Nat → Int32) (m_errors : Nat → Int32) (m_trace : Nat → Int32) (p1 : Int32) (p2 : Int32) (p3 : Int32) (K : Int32 → Int32 → Int32 → Int32 → (Nat → Int32) → (Nat → Int32) → Prop) (hv : v_X7_voice p1 p2 p3 m_traced m_speaks m_isParted m_s m_errors m_trace K) : CI l G yX7_voice (.code yX7_voice cX7_voice 6 (some .int) :: wsG) (rmm 85 1872) [.ref (b 0), .int p1, .int p2, .int p3] (wd_X7_21 G b m_images m_at_ m_open_ m_steps m_use_ m_traced m_speaks m_isParted m_s m_errors m_trace) (S := Int32 × Int32 × Int32 × (Nat → Int32) × (Nat → Int32)) (fun u => wd_X7_21 G b m_images m_at_ m_open_ m_steps m_use_ u.1 u.2.1 u.2.2.1 m_s u.2.2.2.1 u.2.2.2.2) (fun r u => K r u.1 u.2.1 u.2.2.1 u.2.2.2.1 u.2.2.2.2) := by
  refine ci_intro (by decide) rfl (fun _ => rfl) (Nat.le_of_ble_eq_true rfl) ?_
  intro p e s m args below meth c A H ls Q C hW hS hl ret
  have hx := C.1.1
  have hb := C.1.2.1
  generalize hls : ([] : List Loc) = locs at hS ⊢
  have hl : lv_has ls 6 [(0, .ref (b 0)), (1, .int p1), (2, .int p2), (3, .int p3)] := hl
  have h_j_X7_voice_17 : ∀ (m_traced : Int32) (m_speaks : Int32) (m_isParted : Int32) (m_errors : Nat → Int32) (m_trace : Nat → Int32) (H : Heap) (locs : List Loc) (ls : Array Slot), wo G A (wd_X7_21 G b m_images m_at_ m_open_ m_steps m_use_ m_traced m_speaks m_isParted m_s m_errors m_trace) H → va_S A s.heap H locs → lv_has ls 6 [(0, .ref (b 0))] → j_X7_voice_17 p1 p2 p3 m_s K m_traced m_speaks m_isParted m_errors m_trace → W p l e (rmm 85 1872) s m args below meth c H locs 0 0 Q (F0 m 17 ls []) := by
    intro m_traced m_speaks m_isParted m_errors m_trace H locs ls hW hS hl hv
    refine lv_aload_n hx hb dX7_voice_17 rfl (lv_at hl 0 rfl) ?_
    refine lv_iconst (v := 1) hx hb dX7_voice_18 kic_1 ?_
    refine q_callV (rest := []) (n := 1) C (c_X7_error l G b m_images m_at_ m_open_ m_steps m_use_ m_traced m_speaks m_isParted m_errors (1 : Int32) _ hv) ml_X7_61 kb_X7_error rfl ⟨⟨rfl, rfl⟩, (Nat.le_of_ble_eq_true rfl), (Nat.le_of_ble_eq_true rfl)⟩ hW hS [0, 2] rfl rfl kc7 (q0 := 0) rfl hl.1 rfl (Nat.le_of_ble_eq_true rfl) dX7_voice_19 ⟨Nat.zero_le _, Nat.zero_le _⟩ (fun r_4 u_5 H locs hv hW hS => ?_)
    obtain ⟨m_errors_4, rfl⟩ : ∃ z, z = u_5 := ⟨_, rfl⟩
    try dsimp only at hv
    have hW : wo G A (wd_X7_21 G b m_images m_at_ m_open_ m_steps m_use_ m_traced m_speaks m_isParted m_s m_errors_4 m_trace) H := hW
    exact ret (m_traced, m_speaks, m_isParted, m_errors_4, m_trace) r_4 H locs ls _ rfl hW hS hv dX7_voice_22
  have h_j_X7_voice_95 : ∀ (t0 : Int32) (m_traced : Int32) (m_speaks : Int32) (m_isParted : Int32) (m_errors : Nat → Int32) (m_trace : Nat → Int32) (H : Heap) (locs : List Loc) (ls : Array Slot), wo G A (wd_X7_21 G b m_images m_at_ m_open_ m_steps m_use_ m_traced m_speaks m_isParted m_s m_errors m_trace) H → va_S A s.heap H locs → lv_has ls 6 [(0, .ref (b 0))] → j_X7_voice_95 p1 p2 p3 m_s K t0 m_traced m_speaks m_isParted m_errors m_trace → W p l e (rmm 85 1872) s m args below meth c H locs 0 0 Q (F0 m 95 ls [.int t0]) := by
    intro t0 m_traced m_speaks m_isParted m_errors m_trace H locs ls hW hS hl hv
    refine lv_istore (lv' := [(5, .int t0), (0, .ref (b 0))]) hx hb dX7_voice_95 hl (by decide) rfl (fun ls hl => ?_)
    refine lv_aload_n hx hb dX7_voice_97 rfl (lv_at hl 1 rfl) ?_
    refine q_get C kc7 hW 0 rfl 17 (by decide) fl_X7_243 rfl rfl dX7_voice_98 ?_
    refine lv_if_eq (tgt := 113) hx hb dX7_voice_101 (by decide) (fun c_16 => ?_) (fun c_16 => ?_)
    · replace hv := hv.1 c_16
      refine lv_iload hx hb dX7_voice_113 (lv_at hl 0 rfl) ?_
      exact ret (m_traced, m_speaks, m_isParted, m_errors, m_trace) t0 H locs ls _ rfl hW hS hv dX7_voice_115
    · replace hv := hv.2 c_16
      refine lv_aload_n hx hb dX7_voice_104 rfl (lv_at hl 1 rfl) ?_
      refine lv_bipush (v := 6) hx hb dX7_voice_105 kbp_6 ?_
      refine q_callV (rest := []) (n := 1) C (c_X7_error l G b m_images m_at_ m_open_ m_steps m_use_ m_traced m_speaks m_isParted m_errors (6 : Int32) _ hv) ml_X7_61 kb_X7_error rfl ⟨⟨rfl, rfl⟩, (Nat.le_of_ble_eq_true rfl), (Nat.le_of_ble_eq_true rfl)⟩ hW hS [0, 2] rfl rfl kc7 (q0 := 0) rfl hl.1 rfl (Nat.le_of_ble_eq_true rfl) dX7_voice_107 ⟨Nat.zero_le _, Nat.zero_le _⟩ (fun r_17 u_18 H locs hv hW hS => ?_)
      obtain ⟨m_errors_17, rfl⟩ : ∃ z, z = u_18 := ⟨_, rfl⟩
      try dsimp only at hv
      have hW : wo G A (wd_X7_21 G b m_images m_at_ m_open_ m_steps m_use_ m_traced m_speaks m_isParted m_s m_errors_17 m_trace) H := hW
      refine lv_goto (tgt := 115) hx hb dX7_voice_110 (by decide) ?_
      exact ret (m_traced, m_speaks, m_isParted, m_errors_17, m_trace) r_17 H locs ls _ rfl hW hS hv dX7_voice_115
  refine lv_aload_n hx hb dX7_voice_0 rfl (lv_at hl 0 rfl) ?_
  refine lv_iload_n hx hb dX7_voice_1 rfl (lv_at hl 1 rfl) ?_
  refine q_callV (rest := []) (n := 1) C (c_X7_isPerson l G b m_images m_at_ m_open_ m_steps m_use_ m_traced m_speaks m_isParted m_s p1 _ hv) ml_X7_57 kb_X7_isPerson rfl ⟨⟨rfl, rfl⟩, (Nat.le_of_ble_eq_true rfl), (Nat.le_of_ble_eq_true rfl)⟩ hW hS [0, 1] rfl rfl kc7 (q0 := 0) rfl hl.1 rfl (Nat.le_of_ble_eq_true rfl) dX7_voice_2 ⟨Nat.zero_le _, Nat.zero_le _⟩ (fun r_1 u_2 H locs hv hW hS => ?_)
  obtain ⟨hv_b_1, hv⟩ := hv
  try dsimp only at hv
  refine lv_if_eq (tgt := 17) hx hb dX7_voice_5 (by decide) (fun c_3 => ?_) (fun c_3 => ?_)
  · replace hv := hv.1 c_3
    exact h_j_X7_voice_17 m_traced m_speaks m_isParted m_errors m_trace H locs ls hW hS (lv_sub hl [0] rfl) hv
  · replace hv := hv.2 c_3
    refine lv_iload_n hx hb dX7_voice_8 rfl (lv_at hl 2 rfl) ?_
    refine lv_iconst (v := 0) hx hb dX7_voice_9 kic_0 ?_
    refine lv_iconst (v := 3) hx hb dX7_voice_10 kic_3 ?_
    refine q_callS (rest := []) (n := 3) C (c_X7_in l G p2 (0 : Int32) (3 : Int32) _ hv) ml_X7_53 kb_X7_in rfl ⟨⟨rfl, rfl⟩, (Nat.le_of_ble_eq_true rfl), (Nat.le_of_ble_eq_true rfl)⟩ hW hS hl.1 rfl (Nat.le_of_ble_eq_true rfl) dX7_voice_11 ⟨Nat.zero_le _, Nat.zero_le _⟩ (fun r_6 u_7 H locs hv hW hS => ?_)
    obtain ⟨hv_b_6, hv⟩ := hv
    try dsimp only at hv
    refine lv_if_ne (tgt := 23) hx hb dX7_voice_14 (by decide) (fun c_8 => ?_) (fun c_8 => ?_)
    · replace hv := hv.1 c_8
      refine lv_aload_n hx hb dX7_voice_23 rfl (lv_at hl 0 rfl) ?_
      refine lv_iconst (v := 0) hx hb dX7_voice_24 kic_0 ?_
      refine q_put C kc7 hW hS 0 rfl 14 (by decide) fl_X7_219 rfl rfl rfl rfl (Nat.le_of_ble_eq_true rfl) dX7_voice_25 (fun H locs hW hS => ?_)
      have hW : wo G A (wd_X7_21 G b m_images m_at_ m_open_ m_steps m_use_ (0 : Int32) m_speaks m_isParted m_s m_errors m_trace) H := hW
      refine lv_aload_n hx hb dX7_voice_28 rfl (lv_at hl 0 rfl) ?_
      refine lv_iload_n hx hb dX7_voice_29 rfl (lv_at hl 1 rfl) ?_
      refine q_put C kc7 hW hS 0 rfl 16 (by decide) fl_X7_222 rfl rfl rfl rfl (Nat.le_of_ble_eq_true rfl) dX7_voice_30 (fun H locs hW hS => ?_)
      have hW : wo G A (wd_X7_21 G b m_images m_at_ m_open_ m_steps m_use_ (0 : Int32) p1 m_isParted m_s m_errors m_trace) H := hW
      refine lv_aload_n hx hb dX7_voice_33 rfl (lv_at hl 0 rfl) ?_
      refine lv_iconst (v := 0) hx hb dX7_voice_34 kic_0 ?_
      refine q_put C kc7 hW hS 0 rfl 17 (by decide) fl_X7_243 rfl rfl (bl_narrow (Or.inl rfl)) (bl_fits (Or.inl rfl)) (Nat.le_of_ble_eq_true rfl) dX7_voice_35 (fun H locs hW hS => ?_)
      have hW : wo G A (wd_X7_21 G b m_images m_at_ m_open_ m_steps m_use_ (0 : Int32) p1 (0 : Int32) m_s m_errors m_trace) H := hW
      refine lv_aload_n hx hb dX7_voice_38 rfl (lv_at hl 0 rfl) ?_
      refine q_callV (rest := []) (n := 0) C (c_X7_kindNow l G b m_images m_at_ m_open_ m_steps m_use_ (0 : Int32) p1 (0 : Int32) m_s _ hv) ml_X7_231 kb_X7_kindNow rfl ⟨⟨rfl, rfl⟩, (Nat.le_of_ble_eq_true rfl), (Nat.le_of_ble_eq_true rfl)⟩ hW hS [0, 1] rfl rfl kc7 (q0 := 0) rfl hl.1 rfl (Nat.le_of_ble_eq_true rfl) dX7_voice_39 ⟨Nat.zero_le _, Nat.zero_le _⟩ (fun r_9 u_10 H locs hv hW hS => ?_)
      try dsimp only at hv
      refine lv_istore (lv' := [(4, .int r_9), (0, .ref (b 0)), (1, .int p1), (2, .int p2), (3, .int p3)]) hx hb dX7_voice_42 hl (by decide) rfl (fun ls hl => ?_)
      refine lv_iload_n hx hb dX7_voice_44 rfl (lv_at hl 3 rfl) ?_
      refine lv_if_ne (tgt := 58) hx hb dX7_voice_45 (by decide) (fun c_11 => ?_) (fun c_11 => ?_)
      · replace hv := hv.1 c_11
        refine lv_iload_n hx hb dX7_voice_58 rfl (lv_at hl 3 rfl) ?_
        refine lv_iconst (v := 1) hx hb dX7_voice_59 kic_1 ?_
        refine lv_icmp_ne (tgt := 73) hx hb dX7_voice_60 (by decide) (fun c_12 => ?_) (fun c_12 => ?_)
        · replace hv := hv.1 c_12
          refine lv_iload_n hx hb dX7_voice_73 rfl (lv_at hl 3 rfl) ?_
          refine lv_iconst (v := 2) hx hb dX7_voice_74 kic_2 ?_
          refine lv_icmp_ne (tgt := 88) hx hb dX7_voice_75 (by decide) (fun c_13 => ?_) (fun c_13 => ?_)
          · replace hv := hv.1 c_13
            refine lv_aload_n hx hb dX7_voice_88 rfl (lv_at hl 1 rfl) ?_
            refine lv_iload hx hb dX7_voice_89 (lv_at hl 0 rfl) ?_
            refine lv_iload_n hx hb dX7_voice_91 rfl (lv_at hl 4 rfl) ?_
            refine q_callV (rest := []) (n := 2) C (c_X7_partsAs l 4 G b m_images m_at_ m_open_ m_steps m_use_ (0 : Int32) p1 (0 : Int32) m_s m_trace r_9 p3 _ hv) ml_X7_247 kb_X7_partsAs rfl ⟨⟨rfl, rfl⟩, (Nat.le_of_ble_eq_true rfl), (Nat.le_of_ble_eq_true rfl)⟩ hW hS [0, 1, 3] rfl rfl kc7 (q0 := 0) rfl hl.1 rfl (Nat.le_of_ble_eq_true rfl) dX7_voice_92 ⟨Nat.zero_le _, Nat.zero_le _⟩ (fun r_14 u_15 H locs hv hW hS => ?_)
            obtain ⟨m_traced_14, m_isParted_14, m_trace_14⟩ := u_15
            try dsimp only at hv
            have hW : wo G A (wd_X7_21 G b m_images m_at_ m_open_ m_steps m_use_ m_traced_14 p1 m_isParted_14 m_s m_errors m_trace_14) H := hW
            exact h_j_X7_voice_95 r_14 m_traced_14 p1 m_isParted_14 m_errors m_trace_14 H locs ls hW hS (lv_sub hl [1] rfl) hv
          · replace hv := hv.2 c_13
            refine lv_aload_n hx hb dX7_voice_78 rfl (lv_at hl 1 rfl) ?_
            refine lv_iload hx hb dX7_voice_79 (lv_at hl 0 rfl) ?_
            refine lv_iload_n hx hb dX7_voice_81 rfl (lv_at hl 4 rfl) ?_
            refine q_callV (rest := []) (n := 2) C (c_X7_callsAs l 4 G b m_images m_at_ m_open_ m_steps m_use_ (0 : Int32) p1 (0 : Int32) m_s m_trace r_9 p3 _ hv) ml_X7_240 kb_X7_callsAs rfl ⟨⟨rfl, rfl⟩, (Nat.le_of_ble_eq_true rfl), (Nat.le_of_ble_eq_true rfl)⟩ hW hS [0, 1, 3] rfl rfl kc7 (q0 := 0) rfl hl.1 rfl (Nat.le_of_ble_eq_true rfl) dX7_voice_82 ⟨Nat.zero_le _, Nat.zero_le _⟩ (fun r_19 u_20 H locs hv hW hS => ?_)
            obtain ⟨m_traced_19, m_trace_19⟩ := u_20
            try dsimp only at hv
            have hW : wo G A (wd_X7_21 G b m_images m_at_ m_open_ m_steps m_use_ m_traced_19 p1 (0 : Int32) m_s m_errors m_trace_19) H := hW
            refine lv_goto (tgt := 95) hx hb dX7_voice_85 (by decide) ?_
            exact h_j_X7_voice_95 r_19 m_traced_19 p1 (0 : Int32) m_errors m_trace_19 H locs ls hW hS (lv_sub hl [1] rfl) hv
        · replace hv := hv.2 c_12
          refine lv_aload_n hx hb dX7_voice_63 rfl (lv_at hl 1 rfl) ?_
          refine lv_iload hx hb dX7_voice_64 (lv_at hl 0 rfl) ?_
          refine lv_iload_n hx hb dX7_voice_66 rfl (lv_at hl 4 rfl) ?_
          refine q_callV (rest := []) (n := 2) C (c_X7_stirsAs l 4 G b m_images m_at_ m_open_ m_steps m_use_ (0 : Int32) p1 (0 : Int32) m_s m_trace r_9 p3 _ hv) ml_X7_234 kb_X7_stirsAs rfl ⟨⟨rfl, rfl⟩, (Nat.le_of_ble_eq_true rfl), (Nat.le_of_ble_eq_true rfl)⟩ hW hS [0, 1, 3] rfl rfl kc7 (q0 := 0) rfl hl.1 rfl (Nat.le_of_ble_eq_true rfl) dX7_voice_67 ⟨Nat.zero_le _, Nat.zero_le _⟩ (fun r_21 u_22 H locs hv hW hS => ?_)
          obtain ⟨m_traced_21, m_trace_21⟩ := u_22
          try dsimp only at hv
          have hW : wo G A (wd_X7_21 G b m_images m_at_ m_open_ m_steps m_use_ m_traced_21 p1 (0 : Int32) m_s m_errors m_trace_21) H := hW
          refine lv_goto (tgt := 95) hx hb dX7_voice_70 (by decide) ?_
          exact h_j_X7_voice_95 r_21 m_traced_21 p1 (0 : Int32) m_errors m_trace_21 H locs ls hW hS (lv_sub hl [1] rfl) hv
      · replace hv := hv.2 c_11
        refine lv_aload_n hx hb dX7_voice_48 rfl (lv_at hl 1 rfl) ?_
        refine lv_iload hx hb dX7_voice_49 (lv_at hl 0 rfl) ?_
        refine lv_iload_n hx hb dX7_voice_51 rfl (lv_at hl 4 rfl) ?_
        refine q_callV (rest := []) (n := 2) C (c_X7_sighsAs l 4 G b m_images m_at_ m_open_ m_steps m_use_ (0 : Int32) p1 (0 : Int32) m_trace r_9 p3 _ hv) ml_X7_228 kb_X7_sighsAs rfl ⟨⟨rfl, rfl⟩, (Nat.le_of_ble_eq_true rfl), (Nat.le_of_ble_eq_true rfl)⟩ hW hS [0, 3] rfl rfl kc7 (q0 := 0) rfl hl.1 rfl (Nat.le_of_ble_eq_true rfl) dX7_voice_52 ⟨Nat.zero_le _, Nat.zero_le _⟩ (fun r_23 u_24 H locs hv hW hS => ?_)
        obtain ⟨m_traced_23, m_trace_23⟩ := u_24
        try dsimp only at hv
        have hW : wo G A (wd_X7_21 G b m_images m_at_ m_open_ m_steps m_use_ m_traced_23 p1 (0 : Int32) m_s m_errors m_trace_23) H := hW
        refine lv_goto (tgt := 95) hx hb dX7_voice_55 (by decide) ?_
        exact h_j_X7_voice_95 r_23 m_traced_23 p1 (0 : Int32) m_errors m_trace_23 H locs ls hW hS (lv_sub hl [1] rfl) hv
    · replace hv := hv.2 c_8
      exact h_j_X7_voice_17 m_traced m_speaks m_isParted m_errors m_trace H locs ls hW hS (lv_sub hl [0] rfl) hv
set_option maxHeartbeats 4000000 in
set_option maxRecDepth 100000 in
theorem c_X7_body (l : Launch) (G : Gt) (b : Nat → Nat) (m_images : Int32) (m_at_ : Int32) (m_open_ : Int32) (m_steps : Int32) (m_use_ : Int32) (m_traced : Int32) (m_speaks : Int32) (m_isParted : Int32) (m_errors : Nat → Int32) (m_trace : Nat → Int32) (p1 : Int32) (K : Int32 → (Nat → Int32) → Prop) (hv : v_X7_body p1 m_traced m_errors m_trace K) : CI l G yX7_body (.code yX7_body cX7_body 2 (some .int) :: wsG) (rmm 1 22) [.ref (b 0), .int p1] (wd_X7_22 G b m_images m_at_ m_open_ m_steps m_use_ m_traced m_speaks m_isParted m_errors m_trace) (S := (Nat → Int32)) (fun u => wd_X7_22 G b m_images m_at_ m_open_ m_steps m_use_ m_traced m_speaks m_isParted u m_trace) (fun r u => K r u) := by
  refine ci_intro (by decide) rfl (fun _ => rfl) (Nat.le_of_ble_eq_true rfl) ?_
  intro p e s m args below meth c A H ls Q C hW hS hl ret
  have hx := C.1.1
  have hb := C.1.2.1
  generalize hls : ([] : List Loc) = locs at hS ⊢
  have hl : lv_has ls 2 [(0, .ref (b 0)), (1, .int p1)] := hl
  refine lv_iload_n hx hb dX7_body_0 rfl (lv_at hl 1 rfl) ?_
  refine lv_iconst (v := 0) hx hb dX7_body_1 kic_0 ?_
  refine lv_aload_n hx hb dX7_body_2 rfl (lv_at hl 0 rfl) ?_
  refine q_get C kc7 hW 0 rfl 14 (by decide) fl_X7_219 rfl rfl dX7_body_3 ?_
  refine lv_iconst (v := 1) hx hb dX7_body_6 kic_1 ?_
  refine lv_isub hx hb dX7_body_7 ?_
  refine q_callS (rest := []) (n := 3) C (c_X7_in l G p1 (0 : Int32) (m_traced - (1 : Int32)) _ hv) ml_X7_53 kb_X7_in rfl ⟨⟨rfl, rfl⟩, (Nat.le_of_ble_eq_true rfl), (Nat.le_of_ble_eq_true rfl)⟩ hW hS hl.1 rfl (Nat.le_of_ble_eq_true rfl) dX7_body_8 ⟨Nat.zero_le _, Nat.zero_le _⟩ (fun r_1 u_2 H locs hv hW hS => ?_)
  obtain ⟨hv_b_1, hv⟩ := hv
  try dsimp only at hv
  refine lv_if_eq (tgt := 23) hx hb dX7_body_11 (by decide) (fun c_3 => ?_) (fun c_3 => ?_)
  · replace hv := hv.1 c_3
    refine lv_aload_n hx hb dX7_body_23 rfl (lv_at hl 0 rfl) ?_
    refine lv_iconst (v := 2) hx hb dX7_body_24 kic_2 ?_
    refine q_callV (rest := []) (n := 1) C (c_X7_error l G b m_images m_at_ m_open_ m_steps m_use_ m_traced m_speaks m_isParted m_errors (2 : Int32) _ hv) ml_X7_61 kb_X7_error rfl ⟨⟨rfl, rfl⟩, (Nat.le_of_ble_eq_true rfl), (Nat.le_of_ble_eq_true rfl)⟩ hW hS [0, 1] rfl rfl kc7 (q0 := 0) rfl hl.1 rfl (Nat.le_of_ble_eq_true rfl) dX7_body_25 ⟨Nat.zero_le _, Nat.zero_le _⟩ (fun r_4 u_5 H locs hv hW hS => ?_)
    obtain ⟨m_errors_4, rfl⟩ : ∃ z, z = u_5 := ⟨_, rfl⟩
    try dsimp only at hv
    have hW : wo G A (wd_X7_22 G b m_images m_at_ m_open_ m_steps m_use_ m_traced m_speaks m_isParted m_errors_4 m_trace) H := hW
    exact ret (m_errors_4) r_4 H locs ls _ rfl hW hS hv dX7_body_28
  · replace hv := hv.2 c_3
    refine lv_aload_n hx hb dX7_body_14 rfl (lv_at hl 0 rfl) ?_
    refine q_get C kc7 hW 0 rfl 15 (by decide) fl_X7_37 rfl rfl dX7_body_15 ?_
    refine lv_iload_n hx hb dX7_body_18 rfl (lv_at hl 1 rfl) ?_
    obtain ⟨h_6, hv⟩ := hv
    refine q_iald C hW 2 rfl h_6 dX7_body_19 ?_
    refine lv_goto (tgt := 28) hx hb dX7_body_20 (by decide) ?_
    exact ret (m_errors) (m_trace p1.toNatClampNeg) H locs ls _ rfl hW hS hv dX7_body_28
set_option maxHeartbeats 4000000 in
set_option maxRecDepth 100000 in
theorem c_X7_sheet (l : Launch) (G : Gt) (b : Nat → Nat) (m_images : Int32) (m_at_ : Int32) (m_open_ : Int32) (m_steps : Int32) (m_use_ : Int32) (m_traced : Int32) (m_speaks : Int32) (m_isParted : Int32) (m_errors : Nat → Int32) (m_bits : Nat → Int32) (m_sizes : Nat → Int32) (m_number : Nat → Int32) (p1 : Int32) (p2 : Int32) (p3 : Int32) (K : Int32 → (Nat → Int32) → (Nat → Int32) → (Nat → Int32) → (Nat → Int32) → Prop) (hv : v_X7_sheet p1 p2 p3 m_errors m_bits m_sizes m_number K) : CI l G yX7_sheet (.code yX7_sheet cX7_sheet 5 (some .int) :: wsG) (rmm 2 42) [.ref (b 0), .int p1, .int p2, .int p3] (wd_X7_23 G b m_images m_at_ m_open_ m_steps m_use_ m_traced m_speaks m_isParted m_errors m_bits m_sizes m_number) (S := (Nat → Int32) × (Nat → Int32) × (Nat → Int32) × (Nat → Int32)) (fun u => wd_X7_23 G b m_images m_at_ m_open_ m_steps m_use_ m_traced m_speaks m_isParted u.1 u.2.1 u.2.2.1 u.2.2.2) (fun r u => K r u.1 u.2.1 u.2.2.1 u.2.2.2) := by
  refine ci_intro (by decide) rfl (fun _ => rfl) (Nat.le_of_ble_eq_true rfl) ?_
  intro p e s m args below meth c A H ls Q C hW hS hl ret
  have hx := C.1.1
  have hb := C.1.2.1
  generalize hls : ([] : List Loc) = locs at hS ⊢
  have hl : lv_has ls 5 [(0, .ref (b 0)), (1, .int p1), (2, .int p2), (3, .int p3)] := hl
  have h_j_X7_sheet_29 : ∀ (m_errors : Nat → Int32) (m_bits : Nat → Int32) (m_sizes : Nat → Int32) (m_number : Nat → Int32) (H : Heap) (locs : List Loc) (ls : Array Slot), wo G A (wd_X7_23 G b m_images m_at_ m_open_ m_steps m_use_ m_traced m_speaks m_isParted m_errors m_bits m_sizes m_number) H → va_S A s.heap H locs → lv_has ls 5 [(0, .ref (b 0))] → j_X7_sheet_29 p1 p2 p3 K m_errors m_bits m_sizes m_number → W p l e (rmm 2 42) s m args below meth c H locs 0 0 Q (F0 m 29 ls []) := by
    intro m_errors m_bits m_sizes m_number H locs ls hW hS hl hv
    refine lv_aload_n hx hb dX7_sheet_29 rfl (lv_at hl 0 rfl) ?_
    refine lv_iconst (v := 1) hx hb dX7_sheet_30 kic_1 ?_
    refine q_callV (rest := []) (n := 1) C (c_X7_error l G b m_images m_at_ m_open_ m_steps m_use_ m_traced m_speaks m_isParted m_errors (1 : Int32) _ hv) ml_X7_61 kb_X7_error rfl ⟨⟨rfl, rfl⟩, (Nat.le_of_ble_eq_true rfl), (Nat.le_of_ble_eq_true rfl)⟩ hW hS [0, 1] rfl rfl kc7 (q0 := 0) rfl hl.1 rfl (Nat.le_of_ble_eq_true rfl) dX7_sheet_31 ⟨Nat.zero_le _, Nat.zero_le _⟩ (fun r_4 u_5 H locs hv hW hS => ?_)
    obtain ⟨m_errors_4, rfl⟩ : ∃ z, z = u_5 := ⟨_, rfl⟩
    try dsimp only at hv
    have hW : wo G A (wd_X7_23 G b m_images m_at_ m_open_ m_steps m_use_ m_traced m_speaks m_isParted m_errors_4 m_bits m_sizes m_number) H := hW
    exact ret (m_errors_4, m_bits, m_sizes, m_number) r_4 H locs ls _ rfl hW hS hv dX7_sheet_34
  have h_l_X7_sheet_90 : ∀ (n : Nat), ∀ (x4 : Int32) (m_errors : Nat → Int32) (m_bits : Nat → Int32) (m_sizes : Nat → Int32) (m_number : Nat → Int32) (H : Heap) (locs : List Loc) (ls : Array Slot), wo G A (wd_X7_23 G b m_images m_at_ m_open_ m_steps m_use_ m_traced m_speaks m_isParted m_errors m_bits m_sizes m_number) H → va_S A s.heap H locs → lv_has ls 5 [(0, .ref (b 0)), (1, .int p1), (4, .int x4)] → l_X7_sheet_90 p1 p2 p3 K n x4 m_errors m_bits m_sizes m_number → W p l e (rmm 2 42) s m args below meth c H locs 0 0 Q (F0 m 90 ls []) := by
    intro n
    induction n with
    | zero =>
      intro x4 m_errors m_bits m_sizes m_number H locs ls hW hS hl hv
      exact False.elim hv
    | succ n ih =>
      intro x4 m_errors m_bits m_sizes m_number H locs ls hW hS hl hv
      refine lv_iload hx hb dX7_sheet_90 (lv_at hl 2 rfl) ?_
      refine lv_bipush (v := 24) hx hb dX7_sheet_92 kbp_24 ?_
      refine lv_icmp_ge (tgt := 116) hx hb dX7_sheet_94 (by decide) (fun c_12 => ?_) (fun c_12 => ?_)
      · replace hv := hv.1 c_12
        refine lv_iconst (v := 1) hx hb dX7_sheet_116 kic_1 ?_
        exact ret (m_errors, m_bits, m_sizes, m_number) (1 : Int32) H locs ls _ rfl hW hS hv dX7_sheet_117
      · replace hv := hv.2 c_12
        refine lv_aload_n hx hb dX7_sheet_97 rfl (lv_at hl 0 rfl) ?_
        refine q_get C kc7 hW 0 rfl 20 (by decide) fl_X7_46 rfl rfl dX7_sheet_98 ?_
        refine lv_bipush (v := 24) hx hb dX7_sheet_101 kbp_24 ?_
        refine lv_iload_n hx hb dX7_sheet_103 rfl (lv_at hl 1 rfl) ?_
        refine lv_imul hx hb dX7_sheet_104 ?_
        refine lv_iload hx hb dX7_sheet_105 (lv_at hl 2 rfl) ?_
        refine lv_iadd hx hb dX7_sheet_107 ?_
        refine lv_iconst (v := 0) hx hb dX7_sheet_108 kic_0 ?_
        obtain ⟨h_13, hv⟩ := hv
        refine q_iast C hW hS 4 rfl h_13 dX7_sheet_109 (fun H locs hW hS => ?_)
        have hW : wo G A (wd_X7_23 G b m_images m_at_ m_open_ m_steps m_use_ m_traced m_speaks m_isParted m_errors m_bits m_sizes (upd m_number (((24 : Int32) * p1) + x4).toNatClampNeg (0 : Int32))) H := hW
        refine lv_iinc (v := (x4 + 1)) (lv' := [(4, .int (x4 + 1)), (0, .ref (b 0)), (1, .int p1)]) hx hb dX7_sheet_110 hl (k := 2) rfl rfl (by decide) rfl (fun ls hl => ?_)
        refine lv_goto (tgt := 90) hx hb dX7_sheet_113 (by decide) ?_
        exact ih (x4 + 1) m_errors m_bits m_sizes (upd m_number (((24 : Int32) * p1) + x4).toNatClampNeg (0 : Int32)) H locs ls hW hS (lv_sub hl [1, 2, 0] rfl) hv
  have h_j_X7_sheet_86 : ∀ (t1 : Int32) (t2 : Int32) (m_errors : Nat → Int32) (m_bits : Nat → Int32) (m_sizes : Nat → Int32) (m_number : Nat → Int32) (H : Heap) (locs : List Loc) (ls : Array Slot), wo G A (wd_X7_23 G b m_images m_at_ m_open_ m_steps m_use_ m_traced m_speaks m_isParted m_errors m_bits m_sizes m_number) H → va_S A s.heap H locs → lv_has ls 5 [(0, .ref (b 0)), (1, .int p1)] → j_X7_sheet_86 p1 p2 p3 K t1 t2 m_errors m_bits m_sizes m_number → W p l e (rmm 2 42) s m args below meth c H locs 0 0 Q (F0 m 86 ls [.int t2, .int t1, .ref (b 12)]) := by
    intro t1 t2 m_errors m_bits m_sizes m_number H locs ls hW hS hl hv
    obtain ⟨h_11, hv⟩ := hv
    refine q_iast C hW hS 3 rfl h_11 dX7_sheet_86 (fun H locs hW hS => ?_)
    have hW : wo G A (wd_X7_23 G b m_images m_at_ m_open_ m_steps m_use_ m_traced m_speaks m_isParted m_errors m_bits (upd m_sizes t1.toNatClampNeg t2) m_number) H := hW
    refine lv_iconst (v := 0) hx hb dX7_sheet_87 kic_0 ?_
    refine lv_istore (lv' := [(4, .int (0 : Int32)), (0, .ref (b 0)), (1, .int p1)]) hx hb dX7_sheet_88 hl (by decide) rfl (fun ls hl => ?_)
    obtain ⟨n_14, hv⟩ := hv
    exact h_l_X7_sheet_90 n_14 (0 : Int32) m_errors m_bits (upd m_sizes t1.toNatClampNeg t2) m_number H locs ls hW hS (lv_sub hl [1, 2, 0] rfl) hv
  have h_j_X7_sheet_65 : ∀ (m_errors : Nat → Int32) (m_bits : Nat → Int32) (m_sizes : Nat → Int32) (m_number : Nat → Int32) (H : Heap) (locs : List Loc) (ls : Array Slot), wo G A (wd_X7_23 G b m_images m_at_ m_open_ m_steps m_use_ m_traced m_speaks m_isParted m_errors m_bits m_sizes m_number) H → va_S A s.heap H locs → lv_has ls 5 [(0, .ref (b 0)), (1, .int p1), (2, .int p2), (3, .int p3)] → j_X7_sheet_65 p1 p2 p3 K m_errors m_bits m_sizes m_number → W p l e (rmm 2 42) s m args below meth c H locs 0 0 Q (F0 m 65 ls []) := by
    intro m_errors m_bits m_sizes m_number H locs ls hW hS hl hv
    refine lv_aload_n hx hb dX7_sheet_65 rfl (lv_at hl 0 rfl) ?_
    refine q_get C kc7 hW 0 rfl 18 (by decide) fl_X7_40 rfl rfl dX7_sheet_66 ?_
    refine lv_iload_n hx hb dX7_sheet_69 rfl (lv_at hl 1 rfl) ?_
    refine lv_iload_n hx hb dX7_sheet_70 rfl (lv_at hl 2 rfl) ?_
    obtain ⟨h_9, hv⟩ := hv
    refine q_iast C hW hS 2 rfl h_9 dX7_sheet_71 (fun H locs hW hS => ?_)
    have hW : wo G A (wd_X7_23 G b m_images m_at_ m_open_ m_steps m_use_ m_traced m_speaks m_isParted m_errors (upd m_bits p1.toNatClampNeg p2) m_sizes m_number) H := hW
    refine lv_aload_n hx hb dX7_sheet_72 rfl (lv_at hl 0 rfl) ?_
    refine q_get C kc7 hW 0 rfl 19 (by decide) fl_X7_43 rfl rfl dX7_sheet_73 ?_
    refine lv_iload_n hx hb dX7_sheet_76 rfl (lv_at hl 1 rfl) ?_
    refine lv_iload_n hx hb dX7_sheet_77 rfl (lv_at hl 2 rfl) ?_
    refine lv_if_ne (tgt := 85) hx hb dX7_sheet_78 (by decide) (fun c_10 => ?_) (fun c_10 => ?_)
    · replace hv := hv.1 c_10
      refine lv_iload_n hx hb dX7_sheet_85 rfl (lv_at hl 3 rfl) ?_
      exact h_j_X7_sheet_86 p1 p3 m_errors (upd m_bits p1.toNatClampNeg p2) m_sizes m_number H locs ls hW hS (lv_sub hl [0, 1] rfl) hv
    · replace hv := hv.2 c_10
      refine lv_iconst (v := 0) hx hb dX7_sheet_81 kic_0 ?_
      refine lv_goto (tgt := 86) hx hb dX7_sheet_82 (by decide) ?_
      exact h_j_X7_sheet_86 p1 (0 : Int32) m_errors (upd m_bits p1.toNatClampNeg p2) m_sizes m_number H locs ls hW hS (lv_sub hl [0, 1] rfl) hv
  have h_j_X7_sheet_49 : ∀ (m_errors : Nat → Int32) (m_bits : Nat → Int32) (m_sizes : Nat → Int32) (m_number : Nat → Int32) (H : Heap) (locs : List Loc) (ls : Array Slot), wo G A (wd_X7_23 G b m_images m_at_ m_open_ m_steps m_use_ m_traced m_speaks m_isParted m_errors m_bits m_sizes m_number) H → va_S A s.heap H locs → lv_has ls 5 [(0, .ref (b 0)), (1, .int p1), (2, .int p2), (3, .int p3)] → j_X7_sheet_49 p1 p2 p3 K m_errors m_bits m_sizes m_number → W p l e (rmm 2 42) s m args below meth c H locs 0 0 Q (F0 m 49 ls []) := by
    intro m_errors m_bits m_sizes m_number H locs ls hW hS hl hv
    refine lv_iload_n hx hb dX7_sheet_49 rfl (lv_at hl 2 rfl) ?_
    refine lv_if_eq (tgt := 65) hx hb dX7_sheet_50 (by decide) (fun c_8 => ?_) (fun c_8 => ?_)
    · replace hv := hv.1 c_8
      exact h_j_X7_sheet_65 m_errors m_bits m_sizes m_number H locs ls hW hS (lv_sub hl [0, 1, 2, 3] rfl) hv
    · replace hv := hv.2 c_8
      refine lv_iload_n hx hb dX7_sheet_53 rfl (lv_at hl 3 rfl) ?_
      refine lv_bipush (v := 24) hx hb dX7_sheet_54 kbp_24 ?_
      refine lv_icmp_le (tgt := 65) hx hb dX7_sheet_56 (by decide) (fun c_15 => ?_) (fun c_15 => ?_)
      · replace hv := hv.1 c_15
        exact h_j_X7_sheet_65 m_errors m_bits m_sizes m_number H locs ls hW hS (lv_sub hl [0, 1, 2, 3] rfl) hv
      · replace hv := hv.2 c_15
        refine lv_aload_n hx hb dX7_sheet_59 rfl (lv_at hl 0 rfl) ?_
        refine lv_iconst (v := 1) hx hb dX7_sheet_60 kic_1 ?_
        refine q_callV (rest := []) (n := 1) C (c_X7_error l G b m_images m_at_ m_open_ m_steps m_use_ m_traced m_speaks m_isParted m_errors (1 : Int32) _ hv) ml_X7_61 kb_X7_error rfl ⟨⟨rfl, rfl⟩, (Nat.le_of_ble_eq_true rfl), (Nat.le_of_ble_eq_true rfl)⟩ hW hS [0, 1] rfl rfl kc7 (q0 := 0) rfl hl.1 rfl (Nat.le_of_ble_eq_true rfl) dX7_sheet_61 ⟨Nat.zero_le _, Nat.zero_le _⟩ (fun r_16 u_17 H locs hv hW hS => ?_)
        obtain ⟨m_errors_16, rfl⟩ : ∃ z, z = u_17 := ⟨_, rfl⟩
        try dsimp only at hv
        have hW : wo G A (wd_X7_23 G b m_images m_at_ m_open_ m_steps m_use_ m_traced m_speaks m_isParted m_errors_16 m_bits m_sizes m_number) H := hW
        exact ret (m_errors_16, m_bits, m_sizes, m_number) r_16 H locs ls _ rfl hW hS hv dX7_sheet_64
  have h_j_X7_sheet_35 : ∀ (m_errors : Nat → Int32) (m_bits : Nat → Int32) (m_sizes : Nat → Int32) (m_number : Nat → Int32) (H : Heap) (locs : List Loc) (ls : Array Slot), wo G A (wd_X7_23 G b m_images m_at_ m_open_ m_steps m_use_ m_traced m_speaks m_isParted m_errors m_bits m_sizes m_number) H → va_S A s.heap H locs → lv_has ls 5 [(0, .ref (b 0)), (1, .int p1), (2, .int p2), (3, .int p3)] → j_X7_sheet_35 p1 p2 p3 K m_errors m_bits m_sizes m_number → W p l e (rmm 2 42) s m args below meth c H locs 0 0 Q (F0 m 35 ls []) := by
    intro m_errors m_bits m_sizes m_number H locs ls hW hS hl hv
    refine lv_iload_n hx hb dX7_sheet_35 rfl (lv_at hl 2 rfl) ?_
    refine lv_if_eq (tgt := 49) hx hb dX7_sheet_36 (by decide) (fun c_7 => ?_) (fun c_7 => ?_)
    · replace hv := hv.1 c_7
      exact h_j_X7_sheet_49 m_errors m_bits m_sizes m_number H locs ls hW hS (lv_sub hl [0, 1, 2, 3] rfl) hv
    · replace hv := hv.2 c_7
      refine lv_iload_n hx hb dX7_sheet_39 rfl (lv_at hl 3 rfl) ?_
      refine lv_if_ge (tgt := 49) hx hb dX7_sheet_40 (by decide) (fun c_18 => ?_) (fun c_18 => ?_)
      · replace hv := hv.1 c_18
        exact h_j_X7_sheet_49 m_errors m_bits m_sizes m_number H locs ls hW hS (lv_sub hl [0, 1, 2, 3] rfl) hv
      · replace hv := hv.2 c_18
        refine lv_aload_n hx hb dX7_sheet_43 rfl (lv_at hl 0 rfl) ?_
        refine lv_iconst (v := 3) hx hb dX7_sheet_44 kic_3 ?_
        refine q_callV (rest := []) (n := 1) C (c_X7_error l G b m_images m_at_ m_open_ m_steps m_use_ m_traced m_speaks m_isParted m_errors (3 : Int32) _ hv) ml_X7_61 kb_X7_error rfl ⟨⟨rfl, rfl⟩, (Nat.le_of_ble_eq_true rfl), (Nat.le_of_ble_eq_true rfl)⟩ hW hS [0, 1] rfl rfl kc7 (q0 := 0) rfl hl.1 rfl (Nat.le_of_ble_eq_true rfl) dX7_sheet_45 ⟨Nat.zero_le _, Nat.zero_le _⟩ (fun r_19 u_20 H locs hv hW hS => ?_)
        obtain ⟨m_errors_19, rfl⟩ : ∃ z, z = u_20 := ⟨_, rfl⟩
        try dsimp only at hv
        have hW : wo G A (wd_X7_23 G b m_images m_at_ m_open_ m_steps m_use_ m_traced m_speaks m_isParted m_errors_19 m_bits m_sizes m_number) H := hW
        exact ret (m_errors_19, m_bits, m_sizes, m_number) r_19 H locs ls _ rfl hW hS hv dX7_sheet_48
  refine lv_iload_n hx hb dX7_sheet_0 rfl (lv_at hl 1 rfl) ?_
  refine q_callS (rest := []) (n := 1) C (c_X7_isSheet l G p1 _ hv) ml_X7_250 kb_X7_isSheet rfl ⟨⟨rfl, rfl⟩, (Nat.le_of_ble_eq_true rfl), (Nat.le_of_ble_eq_true rfl)⟩ hW hS hl.1 rfl (Nat.le_of_ble_eq_true rfl) dX7_sheet_1 ⟨Nat.zero_le _, Nat.zero_le _⟩ (fun r_1 u_2 H locs hv hW hS => ?_)
  obtain ⟨hv_b_1, hv⟩ := hv
  try dsimp only at hv
  refine lv_if_eq (tgt := 29) hx hb dX7_sheet_4 (by decide) (fun c_3 => ?_) (fun c_3 => ?_)
  · replace hv := hv.1 c_3
    exact h_j_X7_sheet_29 m_errors m_bits m_sizes m_number H locs ls hW hS (lv_sub hl [0] rfl) hv
  · replace hv := hv.2 c_3
    refine lv_iload_n hx hb dX7_sheet_7 rfl (lv_at hl 2 rfl) ?_
    refine lv_if_eq (tgt := 35) hx hb dX7_sheet_8 (by decide) (fun c_6 => ?_) (fun c_6 => ?_)
    · replace hv := hv.1 c_6
      exact h_j_X7_sheet_35 m_errors m_bits m_sizes m_number H locs ls hW hS (lv_sub hl [0, 1, 2, 3] rfl) hv
    · replace hv := hv.2 c_6
      refine lv_iload_n hx hb dX7_sheet_11 rfl (lv_at hl 2 rfl) ?_
      refine lv_bipush (v := 8) hx hb dX7_sheet_12 kbp_8 ?_
      refine lv_icmp_eq (tgt := 35) hx hb dX7_sheet_14 (by decide) (fun c_21 => ?_) (fun c_21 => ?_)
      · replace hv := hv.1 c_21
        exact h_j_X7_sheet_35 m_errors m_bits m_sizes m_number H locs ls hW hS (lv_sub hl [0, 1, 2, 3] rfl) hv
      · replace hv := hv.2 c_21
        refine lv_iload_n hx hb dX7_sheet_17 rfl (lv_at hl 2 rfl) ?_
        refine lv_bipush (v := 16) hx hb dX7_sheet_18 kbp_16 ?_
        refine lv_icmp_eq (tgt := 35) hx hb dX7_sheet_20 (by decide) (fun c_22 => ?_) (fun c_22 => ?_)
        · replace hv := hv.1 c_22
          exact h_j_X7_sheet_35 m_errors m_bits m_sizes m_number H locs ls hW hS (lv_sub hl [0, 1, 2, 3] rfl) hv
        · replace hv := hv.2 c_22
          refine lv_iload_n hx hb dX7_sheet_23 rfl (lv_at hl 2 rfl) ?_
          refine lv_bipush (v := 32) hx hb dX7_sheet_24 kbp_32 ?_
          refine lv_icmp_eq (tgt := 35) hx hb dX7_sheet_26 (by decide) (fun c_23 => ?_) (fun c_23 => ?_)
          · replace hv := hv.1 c_23
            exact h_j_X7_sheet_35 m_errors m_bits m_sizes m_number H locs ls hW hS (lv_sub hl [0, 1, 2, 3] rfl) hv
          · replace hv := hv.2 c_23
            exact h_j_X7_sheet_29 m_errors m_bits m_sizes m_number H locs ls hW hS (lv_sub hl [0] rfl) hv
set_option maxHeartbeats 4000000 in
set_option maxRecDepth 100000 in
theorem c_X7_put (l : Launch) (G : Gt) (b : Nat → Nat) (m_images : Int32) (m_at_ : Int32) (m_open_ : Int32) (m_steps : Int32) (m_use_ : Int32) (m_traced : Int32) (m_speaks : Int32) (m_isParted : Int32) (m_errors : Nat → Int32) (m_bits : Nat → Int32) (m_sizes : Nat → Int32) (m_number : Nat → Int32) (p1 : Int32) (p2 : Int32) (p3 : Int32) (K : Int32 → (Nat → Int32) → (Nat → Int32) → Prop) (hv : v_X7_put p1 p2 p3 m_errors m_bits m_sizes m_number K) : CI l G yX7_put (.code yX7_put cX7_put 5 (some .int) :: wsG) (rmm 2 42) [.ref (b 0), .int p1, .int p2, .int p3] (wd_X7_23 G b m_images m_at_ m_open_ m_steps m_use_ m_traced m_speaks m_isParted m_errors m_bits m_sizes m_number) (S := (Nat → Int32) × (Nat → Int32)) (fun u => wd_X7_23 G b m_images m_at_ m_open_ m_steps m_use_ m_traced m_speaks m_isParted u.1 m_bits m_sizes u.2) (fun r u => K r u.1 u.2) := by
  refine ci_intro (by decide) rfl (fun _ => rfl) (Nat.le_of_ble_eq_true rfl) ?_
  intro p e s m args below meth c A H ls Q C hW hS hl ret
  have hx := C.1.1
  have hb := C.1.2.1
  generalize hls : ([] : List Loc) = locs at hS ⊢
  have hl : lv_has ls 5 [(0, .ref (b 0)), (1, .int p1), (2, .int p2), (3, .int p3)] := hl
  refine lv_iload_n hx hb dX7_put_0 rfl (lv_at hl 1 rfl) ?_
  refine q_callS (rest := []) (n := 1) C (c_X7_isSheet l G p1 _ hv) ml_X7_250 kb_X7_isSheet rfl ⟨⟨rfl, rfl⟩, (Nat.le_of_ble_eq_true rfl), (Nat.le_of_ble_eq_true rfl)⟩ hW hS hl.1 rfl (Nat.le_of_ble_eq_true rfl) dX7_put_1 ⟨Nat.zero_le _, Nat.zero_le _⟩ (fun r_1 u_2 H locs hv hW hS => ?_)
  obtain ⟨hv_b_1, hv⟩ := hv
  try dsimp only at hv
  refine lv_if_ne (tgt := 13) hx hb dX7_put_4 (by decide) (fun c_3 => ?_) (fun c_3 => ?_)
  · replace hv := hv.1 c_3
    refine lv_aload_n hx hb dX7_put_13 rfl (lv_at hl 0 rfl) ?_
    refine q_get C kc7 hW 0 rfl 18 (by decide) fl_X7_40 rfl rfl dX7_put_14 ?_
    refine lv_iload_n hx hb dX7_put_17 rfl (lv_at hl 1 rfl) ?_
    obtain ⟨h_4, hv⟩ := hv
    refine q_iald C hW 2 rfl h_4 dX7_put_18 ?_
    refine lv_if_ne (tgt := 28) hx hb dX7_put_19 (by decide) (fun c_5 => ?_) (fun c_5 => ?_)
    · replace hv := hv.1 c_5
      refine lv_iload_n hx hb dX7_put_28 rfl (lv_at hl 2 rfl) ?_
      refine lv_iconst (v := 0) hx hb dX7_put_29 kic_0 ?_
      refine lv_aload_n hx hb dX7_put_30 rfl (lv_at hl 0 rfl) ?_
      refine q_get C kc7 hW 0 rfl 19 (by decide) fl_X7_43 rfl rfl dX7_put_31 ?_
      refine lv_iload_n hx hb dX7_put_34 rfl (lv_at hl 1 rfl) ?_
      obtain ⟨h_6, hv⟩ := hv
      refine q_iald C hW 3 rfl h_6 dX7_put_35 ?_
      refine lv_iconst (v := 1) hx hb dX7_put_36 kic_1 ?_
      refine lv_isub hx hb dX7_put_37 ?_
      refine q_callS (rest := []) (n := 3) C (c_X7_in l G p2 (0 : Int32) ((m_sizes p1.toNatClampNeg) - (1 : Int32)) _ hv) ml_X7_53 kb_X7_in rfl ⟨⟨rfl, rfl⟩, (Nat.le_of_ble_eq_true rfl), (Nat.le_of_ble_eq_true rfl)⟩ hW hS hl.1 rfl (Nat.le_of_ble_eq_true rfl) dX7_put_38 ⟨Nat.zero_le _, Nat.zero_le _⟩ (fun r_7 u_8 H locs hv hW hS => ?_)
      obtain ⟨hv_b_7, hv⟩ := hv
      try dsimp only at hv
      refine lv_if_ne (tgt := 50) hx hb dX7_put_41 (by decide) (fun c_9 => ?_) (fun c_9 => ?_)
      · replace hv := hv.1 c_9
        refine lv_bipush (v := 32) hx hb dX7_put_50 kbp_32 ?_
        refine lv_aload_n hx hb dX7_put_52 rfl (lv_at hl 0 rfl) ?_
        refine q_get C kc7 hW 0 rfl 18 (by decide) fl_X7_40 rfl rfl dX7_put_53 ?_
        refine lv_iload_n hx hb dX7_put_56 rfl (lv_at hl 1 rfl) ?_
        obtain ⟨h_10, hv⟩ := hv
        refine q_iald C hW 2 rfl h_10 dX7_put_57 ?_
        refine lv_isub hx hb dX7_put_58 ?_
        refine lv_istore (lv' := [(4, .int ((32 : Int32) - (m_bits p1.toNatClampNeg))), (0, .ref (b 0)), (1, .int p1), (2, .int p2), (3, .int p3)]) hx hb dX7_put_59 hl (by decide) rfl (fun ls hl => ?_)
        refine lv_aload_n hx hb dX7_put_61 rfl (lv_at hl 1 rfl) ?_
        refine q_get C kc7 hW 0 rfl 20 (by decide) fl_X7_46 rfl rfl dX7_put_62 ?_
        refine lv_bipush (v := 24) hx hb dX7_put_65 kbp_24 ?_
        refine lv_iload_n hx hb dX7_put_67 rfl (lv_at hl 2 rfl) ?_
        refine lv_imul hx hb dX7_put_68 ?_
        refine lv_iload_n hx hb dX7_put_69 rfl (lv_at hl 3 rfl) ?_
        refine lv_iadd hx hb dX7_put_70 ?_
        refine lv_iload_n hx hb dX7_put_71 rfl (lv_at hl 4 rfl) ?_
        refine lv_iload hx hb dX7_put_72 (lv_at hl 0 rfl) ?_
        refine lv_ishl hx hb dX7_put_74 ?_
        refine lv_iload hx hb dX7_put_75 (lv_at hl 0 rfl) ?_
        refine lv_ishr hx hb dX7_put_77 ?_
        obtain ⟨h_11, hv⟩ := hv
        refine q_iast C hW hS 4 rfl h_11 dX7_put_78 (fun H locs hW hS => ?_)
        have hW : wo G A (wd_X7_23 G b m_images m_at_ m_open_ m_steps m_use_ m_traced m_speaks m_isParted m_errors m_bits m_sizes (upd m_number (((24 : Int32) * p1) + p2).toNatClampNeg ((p3 <<< (((32 : Int32) - (m_bits p1.toNatClampNeg)) &&& 31)) >>> (((32 : Int32) - (m_bits p1.toNatClampNeg)) &&& 31)))) H := hW
        refine lv_iconst (v := 1) hx hb dX7_put_79 kic_1 ?_
        exact ret (m_errors, (upd m_number (((24 : Int32) * p1) + p2).toNatClampNeg ((p3 <<< (((32 : Int32) - (m_bits p1.toNatClampNeg)) &&& 31)) >>> (((32 : Int32) - (m_bits p1.toNatClampNeg)) &&& 31)))) (1 : Int32) H locs ls _ rfl hW hS hv dX7_put_80
      · replace hv := hv.2 c_9
        refine lv_aload_n hx hb dX7_put_44 rfl (lv_at hl 0 rfl) ?_
        refine lv_iconst (v := 1) hx hb dX7_put_45 kic_1 ?_
        refine q_callV (rest := []) (n := 1) C (c_X7_error l G b m_images m_at_ m_open_ m_steps m_use_ m_traced m_speaks m_isParted m_errors (1 : Int32) _ hv) ml_X7_61 kb_X7_error rfl ⟨⟨rfl, rfl⟩, (Nat.le_of_ble_eq_true rfl), (Nat.le_of_ble_eq_true rfl)⟩ hW hS [0, 1] rfl rfl kc7 (q0 := 0) rfl hl.1 rfl (Nat.le_of_ble_eq_true rfl) dX7_put_46 ⟨Nat.zero_le _, Nat.zero_le _⟩ (fun r_12 u_13 H locs hv hW hS => ?_)
        obtain ⟨m_errors_12, rfl⟩ : ∃ z, z = u_13 := ⟨_, rfl⟩
        try dsimp only at hv
        have hW : wo G A (wd_X7_23 G b m_images m_at_ m_open_ m_steps m_use_ m_traced m_speaks m_isParted m_errors_12 m_bits m_sizes m_number) H := hW
        exact ret (m_errors_12, m_number) r_12 H locs ls _ rfl hW hS hv dX7_put_49
    · replace hv := hv.2 c_5
      refine lv_aload_n hx hb dX7_put_22 rfl (lv_at hl 0 rfl) ?_
      refine lv_iconst (v := 2) hx hb dX7_put_23 kic_2 ?_
      refine q_callV (rest := []) (n := 1) C (c_X7_error l G b m_images m_at_ m_open_ m_steps m_use_ m_traced m_speaks m_isParted m_errors (2 : Int32) _ hv) ml_X7_61 kb_X7_error rfl ⟨⟨rfl, rfl⟩, (Nat.le_of_ble_eq_true rfl), (Nat.le_of_ble_eq_true rfl)⟩ hW hS [0, 1] rfl rfl kc7 (q0 := 0) rfl hl.1 rfl (Nat.le_of_ble_eq_true rfl) dX7_put_24 ⟨Nat.zero_le _, Nat.zero_le _⟩ (fun r_14 u_15 H locs hv hW hS => ?_)
      obtain ⟨m_errors_14, rfl⟩ : ∃ z, z = u_15 := ⟨_, rfl⟩
      try dsimp only at hv
      have hW : wo G A (wd_X7_23 G b m_images m_at_ m_open_ m_steps m_use_ m_traced m_speaks m_isParted m_errors_14 m_bits m_sizes m_number) H := hW
      exact ret (m_errors_14, m_number) r_14 H locs ls _ rfl hW hS hv dX7_put_27
  · replace hv := hv.2 c_3
    refine lv_aload_n hx hb dX7_put_7 rfl (lv_at hl 0 rfl) ?_
    refine lv_iconst (v := 1) hx hb dX7_put_8 kic_1 ?_
    refine q_callV (rest := []) (n := 1) C (c_X7_error l G b m_images m_at_ m_open_ m_steps m_use_ m_traced m_speaks m_isParted m_errors (1 : Int32) _ hv) ml_X7_61 kb_X7_error rfl ⟨⟨rfl, rfl⟩, (Nat.le_of_ble_eq_true rfl), (Nat.le_of_ble_eq_true rfl)⟩ hW hS [0, 1] rfl rfl kc7 (q0 := 0) rfl hl.1 rfl (Nat.le_of_ble_eq_true rfl) dX7_put_9 ⟨Nat.zero_le _, Nat.zero_le _⟩ (fun r_16 u_17 H locs hv hW hS => ?_)
    obtain ⟨m_errors_16, rfl⟩ : ∃ z, z = u_17 := ⟨_, rfl⟩
    try dsimp only at hv
    have hW : wo G A (wd_X7_23 G b m_images m_at_ m_open_ m_steps m_use_ m_traced m_speaks m_isParted m_errors_16 m_bits m_sizes m_number) H := hW
    exact ret (m_errors_16, m_number) r_16 H locs ls _ rfl hW hS hv dX7_put_12
set_option maxHeartbeats 4000000 in
set_option maxRecDepth 100000 in
theorem c_X7_move (l : Launch) (G : Gt) (b : Nat → Nat) (m_images : Int32) (m_at_ : Int32) (m_open_ : Int32) (m_steps : Int32) (m_use_ : Int32) (m_traced : Int32) (m_speaks : Int32) (m_isParted : Int32) (m_errors : Nat → Int32) (m_bits : Nat → Int32) (m_sizes : Nat → Int32) (m_number : Nat → Int32) (m_aside : Nat → Int32) (p1 : Int32) (p2 : Int32) (p3 : Int32) (p4 : Int32) (p5 : Int32) (K : Int32 → (Nat → Int32) → (Nat → Int32) → (Nat → Int32) → Prop) (hv : v_X7_move p1 p2 p3 p4 p5 m_errors m_bits m_sizes m_number m_aside K) : CI l G yX7_move (.code yX7_move cX7_move 7 (some .int) :: wsG) (rmm 2 42) [.ref (b 0), .int p1, .int p2, .int p3, .int p4, .int p5] (wd_X7_24 G b m_images m_at_ m_open_ m_steps m_use_ m_traced m_speaks m_isParted m_errors m_bits m_sizes m_number m_aside) (S := (Nat → Int32) × (Nat → Int32) × (Nat → Int32)) (fun u => wd_X7_24 G b m_images m_at_ m_open_ m_steps m_use_ m_traced m_speaks m_isParted u.1 m_bits m_sizes u.2.1 u.2.2) (fun r u => K r u.1 u.2.1 u.2.2) := by
  refine ci_intro (by decide) rfl (fun _ => rfl) (Nat.le_of_ble_eq_true rfl) ?_
  intro p e s m args below meth c A H ls Q C hW hS hl ret
  have hx := C.1.1
  have hb := C.1.2.1
  generalize hls : ([] : List Loc) = locs at hS ⊢
  have hl : lv_has ls 7 [(0, .ref (b 0)), (1, .int p1), (2, .int p2), (3, .int p3), (4, .int p4), (5, .int p5)] := hl
  have h_j_X7_move_14 : ∀ (m_errors : Nat → Int32) (m_number : Nat → Int32) (m_aside : Nat → Int32) (H : Heap) (locs : List Loc) (ls : Array Slot), wo G A (wd_X7_24 G b m_images m_at_ m_open_ m_steps m_use_ m_traced m_speaks m_isParted m_errors m_bits m_sizes m_number m_aside) H → va_S A s.heap H locs → lv_has ls 7 [(0, .ref (b 0))] → j_X7_move_14 p1 p2 p3 p4 p5 m_bits m_sizes K m_errors m_number m_aside → W p l e (rmm 2 42) s m args below meth c H locs 0 0 Q (F0 m 14 ls []) := by
    intro m_errors m_number m_aside H locs ls hW hS hl hv
    refine lv_aload_n hx hb dX7_move_14 rfl (lv_at hl 0 rfl) ?_
    refine lv_iconst (v := 1) hx hb dX7_move_15 kic_1 ?_
    refine q_callV (rest := []) (n := 1) C (c_X7_error l G b m_images m_at_ m_open_ m_steps m_use_ m_traced m_speaks m_isParted m_errors (1 : Int32) _ hv) ml_X7_61 kb_X7_error rfl ⟨⟨rfl, rfl⟩, (Nat.le_of_ble_eq_true rfl), (Nat.le_of_ble_eq_true rfl)⟩ hW hS [0, 1] rfl rfl kc7 (q0 := 0) rfl hl.1 rfl (Nat.le_of_ble_eq_true rfl) dX7_move_16 ⟨Nat.zero_le _, Nat.zero_le _⟩ (fun r_4 u_5 H locs hv hW hS => ?_)
    obtain ⟨m_errors_4, rfl⟩ : ∃ z, z = u_5 := ⟨_, rfl⟩
    try dsimp only at hv
    have hW : wo G A (wd_X7_24 G b m_images m_at_ m_open_ m_steps m_use_ m_traced m_speaks m_isParted m_errors_4 m_bits m_sizes m_number m_aside) H := hW
    exact ret (m_errors_4, m_number, m_aside) r_4 H locs ls _ rfl hW hS hv dX7_move_19
  have h_j_X7_move_38 : ∀ (m_errors : Nat → Int32) (m_number : Nat → Int32) (m_aside : Nat → Int32) (H : Heap) (locs : List Loc) (ls : Array Slot), wo G A (wd_X7_24 G b m_images m_at_ m_open_ m_steps m_use_ m_traced m_speaks m_isParted m_errors m_bits m_sizes m_number m_aside) H → va_S A s.heap H locs → lv_has ls 7 [(0, .ref (b 0))] → j_X7_move_38 p1 p2 p3 p4 p5 m_bits m_sizes K m_errors m_number m_aside → W p l e (rmm 2 42) s m args below meth c H locs 0 0 Q (F0 m 38 ls []) := by
    intro m_errors m_number m_aside H locs ls hW hS hl hv
    refine lv_aload_n hx hb dX7_move_38 rfl (lv_at hl 0 rfl) ?_
    refine lv_iconst (v := 2) hx hb dX7_move_39 kic_2 ?_
    refine q_callV (rest := []) (n := 1) C (c_X7_error l G b m_images m_at_ m_open_ m_steps m_use_ m_traced m_speaks m_isParted m_errors (2 : Int32) _ hv) ml_X7_61 kb_X7_error rfl ⟨⟨rfl, rfl⟩, (Nat.le_of_ble_eq_true rfl), (Nat.le_of_ble_eq_true rfl)⟩ hW hS [0, 1] rfl rfl kc7 (q0 := 0) rfl hl.1 rfl (Nat.le_of_ble_eq_true rfl) dX7_move_40 ⟨Nat.zero_le _, Nat.zero_le _⟩ (fun r_11 u_12 H locs hv hW hS => ?_)
    obtain ⟨m_errors_11, rfl⟩ : ∃ z, z = u_12 := ⟨_, rfl⟩
    try dsimp only at hv
    have hW : wo G A (wd_X7_24 G b m_images m_at_ m_open_ m_steps m_use_ m_traced m_speaks m_isParted m_errors_11 m_bits m_sizes m_number m_aside) H := hW
    exact ret (m_errors_11, m_number, m_aside) r_11 H locs ls _ rfl hW hS hv dX7_move_43
  have h_j_X7_move_106 : ∀ (m_errors : Nat → Int32) (m_number : Nat → Int32) (m_aside : Nat → Int32) (H : Heap) (locs : List Loc) (ls : Array Slot), wo G A (wd_X7_24 G b m_images m_at_ m_open_ m_steps m_use_ m_traced m_speaks m_isParted m_errors m_bits m_sizes m_number m_aside) H → va_S A s.heap H locs → lv_has ls 7 [(0, .ref (b 0))] → j_X7_move_106 p1 p2 p3 p4 p5 m_bits m_sizes K m_errors m_number m_aside → W p l e (rmm 2 42) s m args below meth c H locs 0 0 Q (F0 m 106 ls []) := by
    intro m_errors m_number m_aside H locs ls hW hS hl hv
    refine lv_aload_n hx hb dX7_move_106 rfl (lv_at hl 0 rfl) ?_
    refine lv_iconst (v := 1) hx hb dX7_move_107 kic_1 ?_
    refine q_callV (rest := []) (n := 1) C (c_X7_error l G b m_images m_at_ m_open_ m_steps m_use_ m_traced m_speaks m_isParted m_errors (1 : Int32) _ hv) ml_X7_61 kb_X7_error rfl ⟨⟨rfl, rfl⟩, (Nat.le_of_ble_eq_true rfl), (Nat.le_of_ble_eq_true rfl)⟩ hW hS [0, 1] rfl rfl kc7 (q0 := 0) rfl hl.1 rfl (Nat.le_of_ble_eq_true rfl) dX7_move_108 ⟨Nat.zero_le _, Nat.zero_le _⟩ (fun r_19 u_20 H locs hv hW hS => ?_)
    obtain ⟨m_errors_19, rfl⟩ : ∃ z, z = u_20 := ⟨_, rfl⟩
    try dsimp only at hv
    have hW : wo G A (wd_X7_24 G b m_images m_at_ m_open_ m_steps m_use_ m_traced m_speaks m_isParted m_errors_19 m_bits m_sizes m_number m_aside) H := hW
    exact ret (m_errors_19, m_number, m_aside) r_19 H locs ls _ rfl hW hS hv dX7_move_111
  have h_l_X7_move_152 : ∀ (n : Nat), ∀ (x6 : Int32) (m_errors : Nat → Int32) (m_number : Nat → Int32) (m_aside : Nat → Int32) (H : Heap) (locs : List Loc) (ls : Array Slot), wo G A (wd_X7_24 G b m_images m_at_ m_open_ m_steps m_use_ m_traced m_speaks m_isParted m_errors m_bits m_sizes m_number m_aside) H → va_S A s.heap H locs → lv_has ls 7 [(0, .ref (b 0)), (3, .int p3), (4, .int p4), (5, .int p5), (6, .int x6)] → l_X7_move_152 p1 p2 p3 p4 p5 m_bits m_sizes K n x6 m_errors m_number m_aside → W p l e (rmm 2 42) s m args below meth c H locs 0 0 Q (F0 m 152 ls []) := by
    intro n
    induction n with
    | zero =>
      intro x6 m_errors m_number m_aside H locs ls hW hS hl hv
      exact False.elim hv
    | succ n ih =>
      intro x6 m_errors m_number m_aside H locs ls hW hS hl hv
      refine lv_iload hx hb dX7_move_152 (lv_at hl 4 rfl) ?_
      refine lv_iload hx hb dX7_move_154 (lv_at hl 3 rfl) ?_
      refine lv_icmp_ge (tgt := 187) hx hb dX7_move_156 (by decide) (fun c_28 => ?_) (fun c_28 => ?_)
      · replace hv := hv.1 c_28
        refine lv_iload hx hb dX7_move_187 (lv_at hl 3 rfl) ?_
        exact ret (m_errors, m_number, m_aside) p5 H locs ls _ rfl hW hS hv dX7_move_189
      · replace hv := hv.2 c_28
        refine lv_aload_n hx hb dX7_move_159 rfl (lv_at hl 0 rfl) ?_
        refine q_get C kc7 hW 0 rfl 20 (by decide) fl_X7_46 rfl rfl dX7_move_160 ?_
        refine lv_bipush (v := 24) hx hb dX7_move_163 kbp_24 ?_
        refine lv_iload_n hx hb dX7_move_165 rfl (lv_at hl 1 rfl) ?_
        refine lv_imul hx hb dX7_move_166 ?_
        refine lv_iload hx hb dX7_move_167 (lv_at hl 2 rfl) ?_
        refine lv_iadd hx hb dX7_move_169 ?_
        refine lv_iload hx hb dX7_move_170 (lv_at hl 4 rfl) ?_
        refine lv_iadd hx hb dX7_move_172 ?_
        refine lv_aload_n hx hb dX7_move_173 rfl (lv_at hl 0 rfl) ?_
        refine q_get C kc7 hW 0 rfl 21 (by decide) fl_X7_49 rfl rfl dX7_move_174 ?_
        refine lv_iload hx hb dX7_move_177 (lv_at hl 4 rfl) ?_
        obtain ⟨h_29, hv⟩ := hv
        refine q_iald C hW 5 rfl h_29 dX7_move_179 ?_
        obtain ⟨h_30, hv⟩ := hv
        refine q_iast C hW hS 4 rfl h_30 dX7_move_180 (fun H locs hW hS => ?_)
        have hW : wo G A (wd_X7_24 G b m_images m_at_ m_open_ m_steps m_use_ m_traced m_speaks m_isParted m_errors m_bits m_sizes (upd m_number ((((24 : Int32) * p3) + p4) + x6).toNatClampNeg (m_aside x6.toNatClampNeg)) m_aside) H := hW
        refine lv_iinc (v := (x6 + 1)) (lv' := [(6, .int (x6 + 1)), (0, .ref (b 0)), (3, .int p3), (4, .int p4), (5, .int p5)]) hx hb dX7_move_181 hl (k := 4) rfl rfl (by decide) rfl (fun ls hl => ?_)
        refine lv_goto (tgt := 152) hx hb dX7_move_184 (by decide) ?_
        exact ih (x6 + 1) m_errors (upd m_number ((((24 : Int32) * p3) + p4) + x6).toNatClampNeg (m_aside x6.toNatClampNeg)) m_aside H locs ls hW hS (lv_sub hl [1, 2, 3, 4, 0] rfl) hv
  have h_l_X7_move_115 : ∀ (n : Nat), ∀ (x6 : Int32) (m_errors : Nat → Int32) (m_number : Nat → Int32) (m_aside : Nat → Int32) (H : Heap) (locs : List Loc) (ls : Array Slot), wo G A (wd_X7_24 G b m_images m_at_ m_open_ m_steps m_use_ m_traced m_speaks m_isParted m_errors m_bits m_sizes m_number m_aside) H → va_S A s.heap H locs → lv_has ls 7 [(0, .ref (b 0)), (1, .int p1), (2, .int p2), (3, .int p3), (4, .int p4), (5, .int p5), (6, .int x6)] → l_X7_move_115 p1 p2 p3 p4 p5 m_bits m_sizes K n x6 m_errors m_number m_aside → W p l e (rmm 2 42) s m args below meth c H locs 0 0 Q (F0 m 115 ls []) := by
    intro n
    induction n with
    | zero =>
      intro x6 m_errors m_number m_aside H locs ls hW hS hl hv
      exact False.elim hv
    | succ n ih =>
      intro x6 m_errors m_number m_aside H locs ls hW hS hl hv
      refine lv_iload hx hb dX7_move_115 (lv_at hl 6 rfl) ?_
      refine lv_iload hx hb dX7_move_117 (lv_at hl 5 rfl) ?_
      refine lv_icmp_ge (tgt := 149) hx hb dX7_move_119 (by decide) (fun c_27 => ?_) (fun c_27 => ?_)
      · replace hv := hv.1 c_27
        refine lv_iconst (v := 0) hx hb dX7_move_149 kic_0 ?_
        refine lv_istore (lv' := [(6, .int (0 : Int32)), (0, .ref (b 0)), (1, .int p1), (2, .int p2), (3, .int p3), (4, .int p4), (5, .int p5)]) hx hb dX7_move_150 hl (by decide) rfl (fun ls hl => ?_)
        obtain ⟨n_31, hv⟩ := hv
        exact h_l_X7_move_152 n_31 (0 : Int32) m_errors m_number m_aside H locs ls hW hS (lv_sub hl [1, 4, 5, 6, 0] rfl) hv
      · replace hv := hv.2 c_27
        refine lv_aload_n hx hb dX7_move_122 rfl (lv_at hl 0 rfl) ?_
        refine q_get C kc7 hW 0 rfl 21 (by decide) fl_X7_49 rfl rfl dX7_move_123 ?_
        refine lv_iload hx hb dX7_move_126 (lv_at hl 6 rfl) ?_
        refine lv_aload_n hx hb dX7_move_128 rfl (lv_at hl 0 rfl) ?_
        refine q_get C kc7 hW 0 rfl 20 (by decide) fl_X7_46 rfl rfl dX7_move_129 ?_
        refine lv_bipush (v := 24) hx hb dX7_move_132 kbp_24 ?_
        refine lv_iload_n hx hb dX7_move_134 rfl (lv_at hl 1 rfl) ?_
        refine lv_imul hx hb dX7_move_135 ?_
        refine lv_iload_n hx hb dX7_move_136 rfl (lv_at hl 2 rfl) ?_
        refine lv_iadd hx hb dX7_move_137 ?_
        refine lv_iload hx hb dX7_move_138 (lv_at hl 6 rfl) ?_
        refine lv_iadd hx hb dX7_move_140 ?_
        obtain ⟨h_32, hv⟩ := hv
        refine q_iald C hW 4 rfl h_32 dX7_move_141 ?_
        obtain ⟨h_33, hv⟩ := hv
        refine q_iast C hW hS 5 rfl h_33 dX7_move_142 (fun H locs hW hS => ?_)
        have hW : wo G A (wd_X7_24 G b m_images m_at_ m_open_ m_steps m_use_ m_traced m_speaks m_isParted m_errors m_bits m_sizes m_number (upd m_aside x6.toNatClampNeg (m_number ((((24 : Int32) * p1) + p2) + x6).toNatClampNeg))) H := hW
        refine lv_iinc (v := (x6 + 1)) (lv' := [(6, .int (x6 + 1)), (0, .ref (b 0)), (1, .int p1), (2, .int p2), (3, .int p3), (4, .int p4), (5, .int p5)]) hx hb dX7_move_143 hl (k := 6) rfl rfl (by decide) rfl (fun ls hl => ?_)
        refine lv_goto (tgt := 115) hx hb dX7_move_146 (by decide) ?_
        exact ih (x6 + 1) m_errors m_number (upd m_aside x6.toNatClampNeg (m_number ((((24 : Int32) * p1) + p2) + x6).toNatClampNeg)) H locs ls hW hS (lv_sub hl [1, 2, 3, 4, 5, 6, 0] rfl) hv
  refine lv_iload_n hx hb dX7_move_0 rfl (lv_at hl 1 rfl) ?_
  refine q_callS (rest := []) (n := 1) C (c_X7_isSheet l G p1 _ hv) ml_X7_250 kb_X7_isSheet rfl ⟨⟨rfl, rfl⟩, (Nat.le_of_ble_eq_true rfl), (Nat.le_of_ble_eq_true rfl)⟩ hW hS hl.1 rfl (Nat.le_of_ble_eq_true rfl) dX7_move_1 ⟨Nat.zero_le _, Nat.zero_le _⟩ (fun r_1 u_2 H locs hv hW hS => ?_)
  obtain ⟨hv_b_1, hv⟩ := hv
  try dsimp only at hv
  refine lv_if_eq (tgt := 14) hx hb dX7_move_4 (by decide) (fun c_3 => ?_) (fun c_3 => ?_)
  · replace hv := hv.1 c_3
    exact h_j_X7_move_14 m_errors m_number m_aside H locs ls hW hS (lv_sub hl [0] rfl) hv
  · replace hv := hv.2 c_3
    refine lv_iload_n hx hb dX7_move_7 rfl (lv_at hl 3 rfl) ?_
    refine q_callS (rest := []) (n := 1) C (c_X7_isSheet l G p3 _ hv) ml_X7_250 kb_X7_isSheet rfl ⟨⟨rfl, rfl⟩, (Nat.le_of_ble_eq_true rfl), (Nat.le_of_ble_eq_true rfl)⟩ hW hS hl.1 rfl (Nat.le_of_ble_eq_true rfl) dX7_move_8 ⟨Nat.zero_le _, Nat.zero_le _⟩ (fun r_6 u_7 H locs hv hW hS => ?_)
    obtain ⟨hv_b_6, hv⟩ := hv
    try dsimp only at hv
    refine lv_if_ne (tgt := 20) hx hb dX7_move_11 (by decide) (fun c_8 => ?_) (fun c_8 => ?_)
    · replace hv := hv.1 c_8
      refine lv_aload_n hx hb dX7_move_20 rfl (lv_at hl 0 rfl) ?_
      refine q_get C kc7 hW 0 rfl 18 (by decide) fl_X7_40 rfl rfl dX7_move_21 ?_
      refine lv_iload_n hx hb dX7_move_24 rfl (lv_at hl 1 rfl) ?_
      obtain ⟨h_9, hv⟩ := hv
      refine q_iald C hW 2 rfl h_9 dX7_move_25 ?_
      refine lv_if_eq (tgt := 38) hx hb dX7_move_26 (by decide) (fun c_10 => ?_) (fun c_10 => ?_)
      · replace hv := hv.1 c_10
        exact h_j_X7_move_38 m_errors m_number m_aside H locs ls hW hS (lv_sub hl [0] rfl) hv
      · replace hv := hv.2 c_10
        refine lv_aload_n hx hb dX7_move_29 rfl (lv_at hl 0 rfl) ?_
        refine q_get C kc7 hW 0 rfl 18 (by decide) fl_X7_40 rfl rfl dX7_move_30 ?_
        refine lv_iload_n hx hb dX7_move_33 rfl (lv_at hl 3 rfl) ?_
        obtain ⟨h_13, hv⟩ := hv
        refine q_iald C hW 2 rfl h_13 dX7_move_34 ?_
        refine lv_if_ne (tgt := 44) hx hb dX7_move_35 (by decide) (fun c_14 => ?_) (fun c_14 => ?_)
        · replace hv := hv.1 c_14
          refine lv_aload_n hx hb dX7_move_44 rfl (lv_at hl 0 rfl) ?_
          refine q_get C kc7 hW 0 rfl 18 (by decide) fl_X7_40 rfl rfl dX7_move_45 ?_
          refine lv_iload_n hx hb dX7_move_48 rfl (lv_at hl 1 rfl) ?_
          obtain ⟨h_15, hv⟩ := hv
          refine q_iald C hW 2 rfl h_15 dX7_move_49 ?_
          refine lv_aload_n hx hb dX7_move_50 rfl (lv_at hl 0 rfl) ?_
          refine q_get C kc7 hW 0 rfl 18 (by decide) fl_X7_40 rfl rfl dX7_move_51 ?_
          refine lv_iload_n hx hb dX7_move_54 rfl (lv_at hl 3 rfl) ?_
          obtain ⟨h_16, hv⟩ := hv
          refine q_iald C hW 2 rfl h_16 dX7_move_55 ?_
          refine lv_icmp_eq (tgt := 65) hx hb dX7_move_56 (by decide) (fun c_17 => ?_) (fun c_17 => ?_)
          · replace hv := hv.1 c_17
            refine lv_iload hx hb dX7_move_65 (lv_at hl 5 rfl) ?_
            refine lv_if_lt (tgt := 106) hx hb dX7_move_67 (by decide) (fun c_18 => ?_) (fun c_18 => ?_)
            · replace hv := hv.1 c_18
              exact h_j_X7_move_106 m_errors m_number m_aside H locs ls hW hS (lv_sub hl [0] rfl) hv
            · replace hv := hv.2 c_18
              refine lv_iload_n hx hb dX7_move_70 rfl (lv_at hl 2 rfl) ?_
              refine lv_if_lt (tgt := 106) hx hb dX7_move_71 (by decide) (fun c_21 => ?_) (fun c_21 => ?_)
              · replace hv := hv.1 c_21
                exact h_j_X7_move_106 m_errors m_number m_aside H locs ls hW hS (lv_sub hl [0] rfl) hv
              · replace hv := hv.2 c_21
                refine lv_iload hx hb dX7_move_74 (lv_at hl 4 rfl) ?_
                refine lv_if_lt (tgt := 106) hx hb dX7_move_76 (by decide) (fun c_22 => ?_) (fun c_22 => ?_)
                · replace hv := hv.1 c_22
                  exact h_j_X7_move_106 m_errors m_number m_aside H locs ls hW hS (lv_sub hl [0] rfl) hv
                · replace hv := hv.2 c_22
                  refine lv_iload_n hx hb dX7_move_79 rfl (lv_at hl 2 rfl) ?_
                  refine lv_aload_n hx hb dX7_move_80 rfl (lv_at hl 0 rfl) ?_
                  refine q_get C kc7 hW 0 rfl 19 (by decide) fl_X7_43 rfl rfl dX7_move_81 ?_
                  refine lv_iload_n hx hb dX7_move_84 rfl (lv_at hl 1 rfl) ?_
                  obtain ⟨h_23, hv⟩ := hv
                  refine q_iald C hW 3 rfl h_23 dX7_move_85 ?_
                  refine lv_iload hx hb dX7_move_86 (lv_at hl 5 rfl) ?_
                  refine lv_isub hx hb dX7_move_88 ?_
                  refine lv_icmp_gt (tgt := 106) hx hb dX7_move_89 (by decide) (fun c_24 => ?_) (fun c_24 => ?_)
                  · replace hv := hv.1 c_24
                    exact h_j_X7_move_106 m_errors m_number m_aside H locs ls hW hS (lv_sub hl [0] rfl) hv
                  · replace hv := hv.2 c_24
                    refine lv_iload hx hb dX7_move_92 (lv_at hl 4 rfl) ?_
                    refine lv_aload_n hx hb dX7_move_94 rfl (lv_at hl 0 rfl) ?_
                    refine q_get C kc7 hW 0 rfl 19 (by decide) fl_X7_43 rfl rfl dX7_move_95 ?_
                    refine lv_iload_n hx hb dX7_move_98 rfl (lv_at hl 3 rfl) ?_
                    obtain ⟨h_25, hv⟩ := hv
                    refine q_iald C hW 3 rfl h_25 dX7_move_99 ?_
                    refine lv_iload hx hb dX7_move_100 (lv_at hl 5 rfl) ?_
                    refine lv_isub hx hb dX7_move_102 ?_
                    refine lv_icmp_le (tgt := 112) hx hb dX7_move_103 (by decide) (fun c_26 => ?_) (fun c_26 => ?_)
                    · replace hv := hv.1 c_26
                      refine lv_iconst (v := 0) hx hb dX7_move_112 kic_0 ?_
                      refine lv_istore (lv' := [(6, .int (0 : Int32)), (0, .ref (b 0)), (1, .int p1), (2, .int p2), (3, .int p3), (4, .int p4), (5, .int p5)]) hx hb dX7_move_113 hl (by decide) rfl (fun ls hl => ?_)
                      obtain ⟨n_34, hv⟩ := hv
                      exact h_l_X7_move_115 n_34 (0 : Int32) m_errors m_number m_aside H locs ls hW hS (lv_sub hl [1, 2, 3, 4, 5, 6, 0] rfl) hv
                    · replace hv := hv.2 c_26
                      exact h_j_X7_move_106 m_errors m_number m_aside H locs ls hW hS (lv_sub hl [0] rfl) hv
          · replace hv := hv.2 c_17
            refine lv_aload_n hx hb dX7_move_59 rfl (lv_at hl 0 rfl) ?_
            refine lv_iconst (v := 5) hx hb dX7_move_60 kic_5 ?_
            refine q_callV (rest := []) (n := 1) C (c_X7_error l G b m_images m_at_ m_open_ m_steps m_use_ m_traced m_speaks m_isParted m_errors (5 : Int32) _ hv) ml_X7_61 kb_X7_error rfl ⟨⟨rfl, rfl⟩, (Nat.le_of_ble_eq_true rfl), (Nat.le_of_ble_eq_true rfl)⟩ hW hS [0, 1] rfl rfl kc7 (q0 := 0) rfl hl.1 rfl (Nat.le_of_ble_eq_true rfl) dX7_move_61 ⟨Nat.zero_le _, Nat.zero_le _⟩ (fun r_35 u_36 H locs hv hW hS => ?_)
            obtain ⟨m_errors_35, rfl⟩ : ∃ z, z = u_36 := ⟨_, rfl⟩
            try dsimp only at hv
            have hW : wo G A (wd_X7_24 G b m_images m_at_ m_open_ m_steps m_use_ m_traced m_speaks m_isParted m_errors_35 m_bits m_sizes m_number m_aside) H := hW
            exact ret (m_errors_35, m_number, m_aside) r_35 H locs ls _ rfl hW hS hv dX7_move_64
        · replace hv := hv.2 c_14
          exact h_j_X7_move_38 m_errors m_number m_aside H locs ls hW hS (lv_sub hl [0] rfl) hv
    · replace hv := hv.2 c_8
      exact h_j_X7_move_14 m_errors m_number m_aside H locs ls hW hS (lv_sub hl [0] rfl) hv
set_option maxHeartbeats 4000000 in
set_option maxRecDepth 100000 in
theorem c_X7_nears (l : Launch) (G : Gt) (b : Nat → Nat) (m_images : Int32) (m_at_ : Int32) (m_open_ : Int32) (m_steps : Int32) (m_use_ : Int32) (m_traced : Int32) (m_speaks : Int32) (m_isParted : Int32) (m_s : Nat → Int32) (m_errors : Nat → Int32) (m_bits : Nat → Int32) (m_sizes : Nat → Int32) (m_number : Nat → Int32) (p1 : Int32) (K : Int32 → (Nat → Int32) → (Nat → Int32) → Prop) (hv : v_X7_nears p1 m_s m_errors m_bits m_sizes m_number K) : CI l G yX7_nears (.code yX7_nears cX7_nears 4 (some .int) :: wsG) (rmm 3 63) [.ref (b 0), .int p1] (wd_X7_25 G b m_images m_at_ m_open_ m_steps m_use_ m_traced m_speaks m_isParted m_s m_errors m_bits m_sizes m_number) (S := (Nat → Int32) × (Nat → Int32)) (fun u => wd_X7_25 G b m_images m_at_ m_open_ m_steps m_use_ m_traced m_speaks m_isParted u.1 u.2 m_bits m_sizes m_number) (fun r u => K r u.1 u.2) := by
  refine ci_intro (by decide) rfl (fun _ => rfl) (Nat.le_of_ble_eq_true rfl) ?_
  intro p e s m args below meth c A H ls Q C hW hS hl ret
  have hx := C.1.1
  have hb := C.1.2.1
  generalize hls : ([] : List Loc) = locs at hS ⊢
  have hl : lv_has ls 4 [(0, .ref (b 0)), (1, .int p1)] := hl
  have h_l_X7_nears_18 : ∀ (n : Nat), ∀ (x3 : Int32) (m_s : Nat → Int32) (m_errors : Nat → Int32) (H : Heap) (locs : List Loc) (ls : Array Slot), wo G A (wd_X7_25 G b m_images m_at_ m_open_ m_steps m_use_ m_traced m_speaks m_isParted m_s m_errors m_bits m_sizes m_number) H → va_S A s.heap H locs → lv_has ls 4 [(0, .ref (b 0)), (1, .int p1), (3, .int x3)] → l_X7_nears_18 p1 m_bits m_sizes m_number K n x3 m_s m_errors → W p l e (rmm 3 63) s m args below meth c H locs 0 0 Q (F0 m 18 ls []) := by
    intro n
    induction n with
    | zero =>
      intro x3 m_s m_errors H locs ls hW hS hl hv
      exact False.elim hv
    | succ n ih =>
      intro x3 m_s m_errors H locs ls hW hS hl hv
      refine lv_iload_n hx hb dX7_nears_18 rfl (lv_at hl 2 rfl) ?_
      refine lv_aload_n hx hb dX7_nears_19 rfl (lv_at hl 0 rfl) ?_
      refine q_get C kc7 hW 0 rfl 19 (by decide) fl_X7_43 rfl rfl dX7_nears_20 ?_
      refine lv_iload_n hx hb dX7_nears_23 rfl (lv_at hl 1 rfl) ?_
      obtain ⟨h_4, hv⟩ := hv
      refine q_iald C hW 4 rfl h_4 dX7_nears_24 ?_
      refine lv_icmp_ge (tgt := 79) hx hb dX7_nears_25 (by decide) (fun c_5 => ?_) (fun c_5 => ?_)
      · replace hv := hv.1 c_5
        refine lv_iload_n hx hb dX7_nears_79 rfl (lv_at hl 2 rfl) ?_
        exact ret (m_s, m_errors) x3 H locs ls _ rfl hW hS hv dX7_nears_80
      · replace hv := hv.2 c_5
        refine lv_aload_n hx hb dX7_nears_28 rfl (lv_at hl 0 rfl) ?_
        refine lv_iload_n hx hb dX7_nears_29 rfl (lv_at hl 2 rfl) ?_
        refine q_callV (rest := []) (n := 1) C (c_X7_isPerson l G b m_images m_at_ m_open_ m_steps m_use_ m_traced m_speaks m_isParted m_s x3 _ hv) ml_X7_57 kb_X7_isPerson rfl ⟨⟨rfl, rfl⟩, (Nat.le_of_ble_eq_true rfl), (Nat.le_of_ble_eq_true rfl)⟩ hW hS [0, 1] rfl rfl kc7 (q0 := 0) rfl hl.1 rfl (Nat.le_of_ble_eq_true rfl) dX7_nears_30 ⟨Nat.zero_le _, Nat.zero_le _⟩ (fun r_6 u_7 H locs hv hW hS => ?_)
        obtain ⟨hv_b_6, hv⟩ := hv
        try dsimp only at hv
        refine lv_if_eq (tgt := 79) hx hb dX7_nears_33 (by decide) (fun c_8 => ?_) (fun c_8 => ?_)
        · replace hv := hv.1 c_8
          refine lv_iload_n hx hb dX7_nears_79 rfl (lv_at hl 2 rfl) ?_
          exact ret (m_s, m_errors) x3 H locs ls _ rfl hW hS hv dX7_nears_80
        · replace hv := hv.2 c_8
          refine lv_aload_n hx hb dX7_nears_36 rfl (lv_at hl 0 rfl) ?_
          refine q_get C kc7 hW 0 rfl 20 (by decide) fl_X7_46 rfl rfl dX7_nears_37 ?_
          refine lv_bipush (v := 24) hx hb dX7_nears_40 kbp_24 ?_
          refine lv_iload_n hx hb dX7_nears_42 rfl (lv_at hl 1 rfl) ?_
          refine lv_imul hx hb dX7_nears_43 ?_
          refine lv_iload_n hx hb dX7_nears_44 rfl (lv_at hl 2 rfl) ?_
          refine lv_iadd hx hb dX7_nears_45 ?_
          obtain ⟨h_9, hv⟩ := hv
          refine q_iald C hW 5 rfl h_9 dX7_nears_46 ?_
          refine lv_iconst (v := 0) hx hb dX7_nears_47 kic_0 ?_
          refine lv_bipush (v := 99) hx hb dX7_nears_48 kbp_99 ?_
          refine q_callS (rest := []) (n := 3) C (c_X7_in l G (m_number (((24 : Int32) * p1) + x3).toNatClampNeg) (0 : Int32) (99 : Int32) _ hv) ml_X7_53 kb_X7_in rfl ⟨⟨rfl, rfl⟩, (Nat.le_of_ble_eq_true rfl), (Nat.le_of_ble_eq_true rfl)⟩ hW hS hl.1 rfl (Nat.le_of_ble_eq_true rfl) dX7_nears_50 ⟨Nat.zero_le _, Nat.zero_le _⟩ (fun r_10 u_11 H locs hv hW hS => ?_)
          obtain ⟨hv_b_10, hv⟩ := hv
          try dsimp only at hv
          refine lv_if_eq (tgt := 79) hx hb dX7_nears_53 (by decide) (fun c_12 => ?_) (fun c_12 => ?_)
          · replace hv := hv.1 c_12
            refine lv_iload_n hx hb dX7_nears_79 rfl (lv_at hl 2 rfl) ?_
            exact ret (m_s, m_errors) x3 H locs ls _ rfl hW hS hv dX7_nears_80
          · replace hv := hv.2 c_12
            refine lv_aload_n hx hb dX7_nears_56 rfl (lv_at hl 0 rfl) ?_
            refine lv_iload_n hx hb dX7_nears_57 rfl (lv_at hl 2 rfl) ?_
            refine lv_iconst (v := 2) hx hb dX7_nears_58 kic_2 ?_
            refine lv_aload_n hx hb dX7_nears_59 rfl (lv_at hl 0 rfl) ?_
            refine q_get C kc7 hW 0 rfl 20 (by decide) fl_X7_46 rfl rfl dX7_nears_60 ?_
            refine lv_bipush (v := 24) hx hb dX7_nears_63 kbp_24 ?_
            refine lv_iload_n hx hb dX7_nears_65 rfl (lv_at hl 1 rfl) ?_
            refine lv_imul hx hb dX7_nears_66 ?_
            refine lv_iload_n hx hb dX7_nears_67 rfl (lv_at hl 2 rfl) ?_
            refine lv_iadd hx hb dX7_nears_68 ?_
            obtain ⟨h_13, hv⟩ := hv
            refine q_iald C hW 5 rfl h_13 dX7_nears_69 ?_
            refine q_callVv (rest := []) (n := 3) C (c_X7_lays1 l G b m_images m_at_ m_open_ m_steps m_use_ m_traced m_speaks m_isParted m_s x3 (2 : Int32) (m_number (((24 : Int32) * p1) + x3).toNatClampNeg) _ hv) ml_X7_151 kb_X7_lays1 rfl ⟨⟨rfl, rfl⟩, (Nat.le_of_ble_eq_true rfl), (Nat.le_of_ble_eq_true rfl)⟩ hW hS [0, 1] rfl rfl kc7 (q0 := 0) rfl hl.1 rfl (Nat.le_of_ble_eq_true rfl) dX7_nears_70 ⟨Nat.zero_le _, Nat.zero_le _⟩ (fun u_15 H locs hv hW hS => ?_)
            obtain ⟨m_s_14, rfl⟩ : ∃ z, z = u_15 := ⟨_, rfl⟩
            try dsimp only at hv
            have hW : wo G A (wd_X7_25 G b m_images m_at_ m_open_ m_steps m_use_ m_traced m_speaks m_isParted m_s_14 m_errors m_bits m_sizes m_number) H := hW
            refine lv_iinc (v := (x3 + 1)) (lv' := [(3, .int (x3 + 1)), (0, .ref (b 0)), (1, .int p1)]) hx hb dX7_nears_73 hl (k := 2) rfl rfl (by decide) rfl (fun ls hl => ?_)
            refine lv_goto (tgt := 18) hx hb dX7_nears_76 (by decide) ?_
            exact ih (x3 + 1) m_s_14 m_errors H locs ls hW hS (lv_sub hl [1, 2, 0] rfl) hv
  refine lv_aload_n hx hb dX7_nears_0 rfl (lv_at hl 0 rfl) ?_
  refine lv_iload_n hx hb dX7_nears_1 rfl (lv_at hl 1 rfl) ?_
  refine q_callV (rest := []) (n := 1) C (c_X7_lacks l G b m_images m_at_ m_open_ m_steps m_use_ m_traced m_speaks m_isParted m_bits p1 _ hv) ml_X7_213 kb_X7_lacks rfl ⟨⟨rfl, rfl⟩, (Nat.le_of_ble_eq_true rfl), (Nat.le_of_ble_eq_true rfl)⟩ hW hS [0, 3] rfl rfl kc7 (q0 := 0) rfl hl.1 rfl (Nat.le_of_ble_eq_true rfl) dX7_nears_2 ⟨Nat.zero_le _, Nat.zero_le _⟩ (fun r_1 u_2 H locs hv hW hS => ?_)
  try dsimp only at hv
  refine lv_istore_n (lv' := [(2, .int r_1), (0, .ref (b 0)), (1, .int p1)]) hx hb dX7_nears_5 rfl hl (by decide) rfl (fun ls hl => ?_)
  refine lv_iload_n hx hb dX7_nears_6 rfl (lv_at hl 0 rfl) ?_
  refine lv_if_eq (tgt := 16) hx hb dX7_nears_7 (by decide) (fun c_3 => ?_) (fun c_3 => ?_)
  · replace hv := hv.1 c_3
    refine lv_iconst (v := 0) hx hb dX7_nears_16 kic_0 ?_
    refine lv_istore_n (lv' := [(3, .int (0 : Int32)), (2, .int r_1), (0, .ref (b 0)), (1, .int p1)]) hx hb dX7_nears_17 rfl hl (by decide) rfl (fun ls hl => ?_)
    obtain ⟨n_16, hv⟩ := hv
    exact h_l_X7_nears_18 n_16 (0 : Int32) m_s m_errors H locs ls hW hS (lv_sub hl [2, 3, 0] rfl) hv
  · replace hv := hv.2 c_3
    refine lv_aload_n hx hb dX7_nears_10 rfl (lv_at hl 1 rfl) ?_
    refine lv_iload_n hx hb dX7_nears_11 rfl (lv_at hl 0 rfl) ?_
    refine q_callV (rest := []) (n := 1) C (c_X7_error l G b m_images m_at_ m_open_ m_steps m_use_ m_traced m_speaks m_isParted m_errors r_1 _ hv) ml_X7_61 kb_X7_error rfl ⟨⟨rfl, rfl⟩, (Nat.le_of_ble_eq_true rfl), (Nat.le_of_ble_eq_true rfl)⟩ hW hS [0, 2] rfl rfl kc7 (q0 := 0) rfl hl.1 rfl (Nat.le_of_ble_eq_true rfl) dX7_nears_12 ⟨Nat.zero_le _, Nat.zero_le _⟩ (fun r_17 u_18 H locs hv hW hS => ?_)
    obtain ⟨m_errors_17, rfl⟩ : ∃ z, z = u_18 := ⟨_, rfl⟩
    try dsimp only at hv
    have hW : wo G A (wd_X7_25 G b m_images m_at_ m_open_ m_steps m_use_ m_traced m_speaks m_isParted m_s m_errors_17 m_bits m_sizes m_number) H := hW
    exact ret (m_s, m_errors_17) r_17 H locs ls _ rfl hW hS hv dX7_nears_15
set_option maxHeartbeats 4000000 in
set_option maxRecDepth 100000 in
theorem c_X7_judge (l : Launch) (G : Gt) (b : Nat → Nat) (m_images : Int32) (m_at_ : Int32) (m_open_ : Int32) (m_steps : Int32) (m_use_ : Int32) (m_traced : Int32) (m_speaks : Int32) (m_isParted : Int32) (m_s : Nat → Int32) (m_errors : Nat → Int32) (m_named : Nat → Int32) (m_pile : Nat → Int32) (m_bits : Nat → Int32) (m_sizes : Nat → Int32) (m_number : Nat → Int32) (p1 : Int32) (K : Int32 → (Nat → Int32) → (Nat → Int32) → (Nat → Int32) → Prop) (hv : v_X7_judge p1 m_s m_errors m_named m_pile m_bits m_sizes m_number K) : CI l G yX7_judge (.code yX7_judge cX7_judge 4 (some .int) :: wsG) (rmm 4 92) [.ref (b 0), .int p1] (wd_X7_26 G b m_images m_at_ m_open_ m_steps m_use_ m_traced m_speaks m_isParted m_s m_errors m_named m_pile m_bits m_sizes m_number) (S := (Nat → Int32) × (Nat → Int32) × (Nat → Int32)) (fun u => wd_X7_26 G b m_images m_at_ m_open_ m_steps m_use_ m_traced m_speaks m_isParted m_s u.1 u.2.1 u.2.2 m_bits m_sizes m_number) (fun r u => K r u.1 u.2.1 u.2.2) := by
  refine ci_intro (by decide) rfl (fun _ => rfl) (Nat.le_of_ble_eq_true rfl) ?_
  intro p e s m args below meth c A H ls Q C hW hS hl ret
  have hx := C.1.1
  have hb := C.1.2.1
  generalize hls : ([] : List Loc) = locs at hS ⊢
  have hl : lv_has ls 4 [(0, .ref (b 0)), (1, .int p1)] := hl
  have h_l_X7_judge_18 : ∀ (n : Nat), ∀ (x3 : Int32) (m_errors : Nat → Int32) (m_named : Nat → Int32) (m_pile : Nat → Int32) (H : Heap) (locs : List Loc) (ls : Array Slot), wo G A (wd_X7_26 G b m_images m_at_ m_open_ m_steps m_use_ m_traced m_speaks m_isParted m_s m_errors m_named m_pile m_bits m_sizes m_number) H → va_S A s.heap H locs → lv_has ls 4 [(0, .ref (b 0)), (1, .int p1), (3, .int x3)] → l_X7_judge_18 p1 m_s m_bits m_sizes m_number K n x3 m_errors m_named m_pile → W p l e (rmm 4 92) s m args below meth c H locs 0 0 Q (F0 m 18 ls []) := by
    intro n
    induction n with
    | zero =>
      intro x3 m_errors m_named m_pile H locs ls hW hS hl hv
      exact False.elim hv
    | succ n ih =>
      intro x3 m_errors m_named m_pile H locs ls hW hS hl hv
      refine lv_iload_n hx hb dX7_judge_18 rfl (lv_at hl 2 rfl) ?_
      refine lv_aload_n hx hb dX7_judge_19 rfl (lv_at hl 0 rfl) ?_
      refine q_get C kc7 hW 0 rfl 19 (by decide) fl_X7_43 rfl rfl dX7_judge_20 ?_
      refine lv_iload_n hx hb dX7_judge_23 rfl (lv_at hl 1 rfl) ?_
      obtain ⟨h_4, hv⟩ := hv
      refine q_iald C hW 6 rfl h_4 dX7_judge_24 ?_
      refine lv_icmp_ge (tgt := 61) hx hb dX7_judge_25 (by decide) (fun c_5 => ?_) (fun c_5 => ?_)
      · replace hv := hv.1 c_5
        refine lv_iload_n hx hb dX7_judge_61 rfl (lv_at hl 2 rfl) ?_
        exact ret (m_errors, m_named, m_pile) x3 H locs ls _ rfl hW hS hv dX7_judge_62
      · replace hv := hv.2 c_5
        refine lv_aload_n hx hb dX7_judge_28 rfl (lv_at hl 0 rfl) ?_
        refine lv_iload_n hx hb dX7_judge_29 rfl (lv_at hl 2 rfl) ?_
        refine q_callV (rest := []) (n := 1) C (c_X7_isPerson l G b m_images m_at_ m_open_ m_steps m_use_ m_traced m_speaks m_isParted m_s x3 _ hv) ml_X7_57 kb_X7_isPerson rfl ⟨⟨rfl, rfl⟩, (Nat.le_of_ble_eq_true rfl), (Nat.le_of_ble_eq_true rfl)⟩ hW hS [0, 1] rfl rfl kc7 (q0 := 0) rfl hl.1 rfl (Nat.le_of_ble_eq_true rfl) dX7_judge_30 ⟨Nat.zero_le _, Nat.zero_le _⟩ (fun r_6 u_7 H locs hv hW hS => ?_)
        obtain ⟨hv_b_6, hv⟩ := hv
        try dsimp only at hv
        refine lv_if_eq (tgt := 61) hx hb dX7_judge_33 (by decide) (fun c_8 => ?_) (fun c_8 => ?_)
        · replace hv := hv.1 c_8
          refine lv_iload_n hx hb dX7_judge_61 rfl (lv_at hl 2 rfl) ?_
          exact ret (m_errors, m_named, m_pile) x3 H locs ls _ rfl hW hS hv dX7_judge_62
        · replace hv := hv.2 c_8
          refine lv_aload_n hx hb dX7_judge_36 rfl (lv_at hl 0 rfl) ?_
          refine lv_iload_n hx hb dX7_judge_37 rfl (lv_at hl 2 rfl) ?_
          refine q_callV (rest := []) (n := 1) C (c_X7_signOf l G b m_images m_at_ m_open_ m_steps m_use_ m_traced m_speaks m_isParted m_s m_named m_pile x3 _ hv) ml_X7_145 kb_X7_signOf rfl ⟨⟨rfl, rfl⟩, (Nat.le_of_ble_eq_true rfl), (Nat.le_of_ble_eq_true rfl)⟩ hW hS [0, 1, 3, 4] rfl rfl kc7 (q0 := 0) rfl hl.1 rfl (Nat.le_of_ble_eq_true rfl) dX7_judge_38 ⟨Nat.zero_le _, Nat.zero_le _⟩ (fun r_9 u_10 H locs hv hW hS => ?_)
          obtain ⟨m_named_9, m_pile_9⟩ := u_10
          try dsimp only at hv
          have hW : wo G A (wd_X7_26 G b m_images m_at_ m_open_ m_steps m_use_ m_traced m_speaks m_isParted m_s m_errors m_named_9 m_pile_9 m_bits m_sizes m_number) H := hW
          refine lv_aload_n hx hb dX7_judge_41 rfl (lv_at hl 0 rfl) ?_
          refine q_get C kc7 hW 0 rfl 20 (by decide) fl_X7_46 rfl rfl dX7_judge_42 ?_
          refine lv_bipush (v := 24) hx hb dX7_judge_45 kbp_24 ?_
          refine lv_iload_n hx hb dX7_judge_47 rfl (lv_at hl 1 rfl) ?_
          refine lv_imul hx hb dX7_judge_48 ?_
          refine lv_iload_n hx hb dX7_judge_49 rfl (lv_at hl 2 rfl) ?_
          refine lv_iadd hx hb dX7_judge_50 ?_
          obtain ⟨h_11, hv⟩ := hv
          refine q_iald C hW 7 rfl h_11 dX7_judge_51 ?_
          refine lv_icmp_ne (tgt := 61) hx hb dX7_judge_52 (by decide) (fun c_12 => ?_) (fun c_12 => ?_)
          · replace hv := hv.1 c_12
            refine lv_iload_n hx hb dX7_judge_61 rfl (lv_at hl 2 rfl) ?_
            exact ret (m_errors, m_named_9, m_pile_9) x3 H locs ls _ rfl hW hS hv dX7_judge_62
          · replace hv := hv.2 c_12
            refine lv_iinc (v := (x3 + 1)) (lv' := [(3, .int (x3 + 1)), (0, .ref (b 0)), (1, .int p1)]) hx hb dX7_judge_55 hl (k := 2) rfl rfl (by decide) rfl (fun ls hl => ?_)
            refine lv_goto (tgt := 18) hx hb dX7_judge_58 (by decide) ?_
            exact ih (x3 + 1) m_errors m_named_9 m_pile_9 H locs ls hW hS (lv_sub hl [1, 2, 0] rfl) hv
  refine lv_aload_n hx hb dX7_judge_0 rfl (lv_at hl 0 rfl) ?_
  refine lv_iload_n hx hb dX7_judge_1 rfl (lv_at hl 1 rfl) ?_
  refine q_callV (rest := []) (n := 1) C (c_X7_lacks l G b m_images m_at_ m_open_ m_steps m_use_ m_traced m_speaks m_isParted m_bits p1 _ hv) ml_X7_213 kb_X7_lacks rfl ⟨⟨rfl, rfl⟩, (Nat.le_of_ble_eq_true rfl), (Nat.le_of_ble_eq_true rfl)⟩ hW hS [0, 5] rfl rfl kc7 (q0 := 0) rfl hl.1 rfl (Nat.le_of_ble_eq_true rfl) dX7_judge_2 ⟨Nat.zero_le _, Nat.zero_le _⟩ (fun r_1 u_2 H locs hv hW hS => ?_)
  try dsimp only at hv
  refine lv_istore_n (lv' := [(2, .int r_1), (0, .ref (b 0)), (1, .int p1)]) hx hb dX7_judge_5 rfl hl (by decide) rfl (fun ls hl => ?_)
  refine lv_iload_n hx hb dX7_judge_6 rfl (lv_at hl 0 rfl) ?_
  refine lv_if_eq (tgt := 16) hx hb dX7_judge_7 (by decide) (fun c_3 => ?_) (fun c_3 => ?_)
  · replace hv := hv.1 c_3
    refine lv_iconst (v := 0) hx hb dX7_judge_16 kic_0 ?_
    refine lv_istore_n (lv' := [(3, .int (0 : Int32)), (2, .int r_1), (0, .ref (b 0)), (1, .int p1)]) hx hb dX7_judge_17 rfl hl (by decide) rfl (fun ls hl => ?_)
    obtain ⟨n_13, hv⟩ := hv
    exact h_l_X7_judge_18 n_13 (0 : Int32) m_errors m_named m_pile H locs ls hW hS (lv_sub hl [2, 3, 0] rfl) hv
  · replace hv := hv.2 c_3
    refine lv_aload_n hx hb dX7_judge_10 rfl (lv_at hl 1 rfl) ?_
    refine lv_iload_n hx hb dX7_judge_11 rfl (lv_at hl 0 rfl) ?_
    refine q_callV (rest := []) (n := 1) C (c_X7_error l G b m_images m_at_ m_open_ m_steps m_use_ m_traced m_speaks m_isParted m_errors r_1 _ hv) ml_X7_61 kb_X7_error rfl ⟨⟨rfl, rfl⟩, (Nat.le_of_ble_eq_true rfl), (Nat.le_of_ble_eq_true rfl)⟩ hW hS [0, 2] rfl rfl kc7 (q0 := 0) rfl hl.1 rfl (Nat.le_of_ble_eq_true rfl) dX7_judge_12 ⟨Nat.zero_le _, Nat.zero_le _⟩ (fun r_14 u_15 H locs hv hW hS => ?_)
    obtain ⟨m_errors_14, rfl⟩ : ∃ z, z = u_15 := ⟨_, rfl⟩
    try dsimp only at hv
    have hW : wo G A (wd_X7_26 G b m_images m_at_ m_open_ m_steps m_use_ m_traced m_speaks m_isParted m_s m_errors_14 m_named m_pile m_bits m_sizes m_number) H := hW
    exact ret (m_errors_14, m_named, m_pile) r_14 H locs ls _ rfl hW hS hv dX7_judge_15
set_option maxHeartbeats 4000000 in
set_option maxRecDepth 100000 in
theorem c_X7_image (l : Launch) (G : Gt) (b : Nat → Nat) (m_images : Int32) (m_at_ : Int32) (m_open_ : Int32) (m_steps : Int32) (m_use_ : Int32) (m_traced : Int32) (m_speaks : Int32) (m_isParted : Int32) (m_s : Nat → Int32) (m_kept : Nat → Int32) (K : Int32 → Int32 → (Nat → Int32) → Prop) (hv : v_X7_image m_images m_s m_kept K) : CI l G yX7_image (.code yX7_image cX7_image 1 (some .int) :: wsG) (rmm 1 22) [.ref (b 0)] (wd_X7_27 G b m_images m_at_ m_open_ m_steps m_use_ m_traced m_speaks m_isParted m_s m_kept) (S := Int32 × (Nat → Int32)) (fun u => wd_X7_27 G b u.1 m_at_ m_open_ m_steps m_use_ m_traced m_speaks m_isParted m_s u.2) (fun r u => K r u.1 u.2) := by
  refine ci_intro (by decide) rfl (fun _ => rfl) (Nat.le_of_ble_eq_true rfl) ?_
  intro p e s m args below meth c A H ls Q C hW hS hl ret
  have hx := C.1.1
  have hb := C.1.2.1
  generalize hls : ([] : List Loc) = locs at hS ⊢
  have hl : lv_has ls 1 [(0, .ref (b 0))] := hl
  refine lv_aload_n hx hb dX7_image_0 rfl (lv_at hl 0 rfl) ?_
  refine q_get C kc7 hW 0 rfl 0 (by decide) fl_X7_7 rfl rfl dX7_image_1 ?_
  refine lv_aload_n hx hb dX7_image_4 rfl (lv_at hl 0 rfl) ?_
  refine q_get C kc7 hW 0 rfl 1 (by decide) fl_X7_13 rfl rfl dX7_image_5 ?_
  refine q_callSCv (rest := []) (n := 2) C (c_X7_copyAll l G (b 1) (b 2) m_s m_kept _ hv) ml_X7_253 kb_X7_copyAll rfl ⟨⟨rfl, rfl⟩, (Nat.le_of_ble_eq_true rfl), (Nat.le_of_ble_eq_true rfl)⟩ hW hS [1, 2] rfl rfl hl.1 rfl (Nat.le_of_ble_eq_true rfl) dX7_image_8 ⟨Nat.zero_le _, Nat.zero_le _⟩ (fun u_2 H locs hv hW hS => ?_)
  obtain ⟨m_kept_1, rfl⟩ : ∃ z, z = u_2 := ⟨_, rfl⟩
  try dsimp only at hv
  have hW : wo G A (wd_X7_27 G b m_images m_at_ m_open_ m_steps m_use_ m_traced m_speaks m_isParted m_s m_kept_1) H := hW
  refine lv_aload_n hx hb dX7_image_11 rfl (lv_at hl 0 rfl) ?_
  refine lv_dup hx hb dX7_image_12 rfl ?_
  refine q_get C kc7 hW 0 rfl 3 (by decide) fl_X7_257 rfl rfl dX7_image_13 ?_
  refine lv_iconst (v := 1) hx hb dX7_image_16 kic_1 ?_
  refine lv_iadd hx hb dX7_image_17 ?_
  refine q_put C kc7 hW hS 0 rfl 3 (by decide) fl_X7_257 rfl rfl rfl rfl (Nat.le_of_ble_eq_true rfl) dX7_image_18 (fun H locs hW hS => ?_)
  have hW : wo G A (wd_X7_27 G b (m_images + (1 : Int32)) m_at_ m_open_ m_steps m_use_ m_traced m_speaks m_isParted m_s m_kept_1) H := hW
  refine lv_aload_n hx hb dX7_image_21 rfl (lv_at hl 0 rfl) ?_
  refine q_get C kc7 hW 0 rfl 3 (by decide) fl_X7_257 rfl rfl dX7_image_22 ?_
  exact ret ((m_images + (1 : Int32)), m_kept_1) (m_images + (1 : Int32)) H locs ls _ rfl hW hS hv dX7_image_25
set_option maxHeartbeats 4000000 in
set_option maxRecDepth 100000 in
theorem c_X7_restore (l : Launch) (G : Gt) (b : Nat → Nat) (m_images : Int32) (m_at_ : Int32) (m_open_ : Int32) (m_steps : Int32) (m_use_ : Int32) (m_traced : Int32) (m_speaks : Int32) (m_isParted : Int32) (m_s : Nat → Int32) (m_kept : Nat → Int32) (m_errors : Nat → Int32) (K : Int32 → (Nat → Int32) → (Nat → Int32) → Prop) (hv : v_X7_restore m_images m_s m_kept m_errors K) : CI l G yX7_restore (.code yX7_restore cX7_restore 1 (some .int) :: wsG) (rmm 1 22) [.ref (b 0)] (wd_X7_28 G b m_images m_at_ m_open_ m_steps m_use_ m_traced m_speaks m_isParted m_s m_kept m_errors) (S := (Nat → Int32) × (Nat → Int32)) (fun u => wd_X7_28 G b m_images m_at_ m_open_ m_steps m_use_ m_traced m_speaks m_isParted u.1 m_kept u.2) (fun r u => K r u.1 u.2) := by
  refine ci_intro (by decide) rfl (fun _ => rfl) (Nat.le_of_ble_eq_true rfl) ?_
  intro p e s m args below meth c A H ls Q C hW hS hl ret
  have hx := C.1.1
  have hb := C.1.2.1
  generalize hls : ([] : List Loc) = locs at hS ⊢
  have hl : lv_has ls 1 [(0, .ref (b 0))] := hl
  refine lv_aload_n hx hb dX7_restore_0 rfl (lv_at hl 0 rfl) ?_
  refine q_get C kc7 hW 0 rfl 3 (by decide) fl_X7_257 rfl rfl dX7_restore_1 ?_
  refine lv_if_ne (tgt := 13) hx hb dX7_restore_4 (by decide) (fun c_1 => ?_) (fun c_1 => ?_)
  · replace hv := hv.1 c_1
    refine lv_aload_n hx hb dX7_restore_13 rfl (lv_at hl 0 rfl) ?_
    refine q_get C kc7 hW 0 rfl 1 (by decide) fl_X7_13 rfl rfl dX7_restore_14 ?_
    refine lv_aload_n hx hb dX7_restore_17 rfl (lv_at hl 0 rfl) ?_
    refine q_get C kc7 hW 0 rfl 0 (by decide) fl_X7_7 rfl rfl dX7_restore_18 ?_
    refine q_callSCv (rest := []) (n := 2) C (c_X7_copyAll l G (b 2) (b 1) m_kept m_s _ hv) ml_X7_253 kb_X7_copyAll rfl ⟨⟨rfl, rfl⟩, (Nat.le_of_ble_eq_true rfl), (Nat.le_of_ble_eq_true rfl)⟩ hW hS [2, 1] rfl rfl hl.1 rfl (Nat.le_of_ble_eq_true rfl) dX7_restore_21 ⟨Nat.zero_le _, Nat.zero_le _⟩ (fun u_3 H locs hv hW hS => ?_)
    obtain ⟨m_s_2, rfl⟩ : ∃ z, z = u_3 := ⟨_, rfl⟩
    try dsimp only at hv
    have hW : wo G A (wd_X7_28 G b m_images m_at_ m_open_ m_steps m_use_ m_traced m_speaks m_isParted m_s_2 m_kept m_errors) H := hW
    refine lv_aload_n hx hb dX7_restore_24 rfl (lv_at hl 0 rfl) ?_
    refine q_get C kc7 hW 0 rfl 0 (by decide) fl_X7_7 rfl rfl dX7_restore_25 ?_
    refine lv_iconst (v := 0) hx hb dX7_restore_28 kic_0 ?_
    obtain ⟨h_4, hv⟩ := hv
    refine q_iald C hW 1 rfl h_4 dX7_restore_29 ?_
    exact ret (m_s_2, m_errors) (m_s_2 (0 : Int32).toNatClampNeg) H locs ls _ rfl hW hS hv dX7_restore_30
  · replace hv := hv.2 c_1
    refine lv_aload_n hx hb dX7_restore_7 rfl (lv_at hl 0 rfl) ?_
    refine lv_iconst (v := 2) hx hb dX7_restore_8 kic_2 ?_
    refine q_callV (rest := []) (n := 1) C (c_X7_error l G b m_images m_at_ m_open_ m_steps m_use_ m_traced m_speaks m_isParted m_errors (2 : Int32) _ hv) ml_X7_61 kb_X7_error rfl ⟨⟨rfl, rfl⟩, (Nat.le_of_ble_eq_true rfl), (Nat.le_of_ble_eq_true rfl)⟩ hW hS [0, 3] rfl rfl kc7 (q0 := 0) rfl hl.1 rfl (Nat.le_of_ble_eq_true rfl) dX7_restore_9 ⟨Nat.zero_le _, Nat.zero_le _⟩ (fun r_5 u_6 H locs hv hW hS => ?_)
    obtain ⟨m_errors_5, rfl⟩ : ∃ z, z = u_6 := ⟨_, rfl⟩
    try dsimp only at hv
    have hW : wo G A (wd_X7_28 G b m_images m_at_ m_open_ m_steps m_use_ m_traced m_speaks m_isParted m_s m_kept m_errors_5) H := hW
    exact ret (m_s, m_errors_5) r_5 H locs ls _ rfl hW hS hv dX7_restore_12
set_option maxHeartbeats 4000000 in
set_option maxRecDepth 100000 in
theorem c_X7_tell (l : Launch) (G : Gt) (b : Nat → Nat) (m_images : Int32) (m_at_ : Int32) (m_open_ : Int32) (m_steps : Int32) (m_use_ : Int32) (m_traced : Int32) (m_speaks : Int32) (m_isParted : Int32) (m_s : Nat → Int32) (m_errors : Nat → Int32) (p1 : Int32) (K : Int32 → (Nat → Int32) → (Nat → Int32) → Prop) (hv : v_X7_tell p1 m_s m_errors K) : CI l G yX7_tell (.code yX7_tell cX7_tell 2 (some .int) :: wsG) (rmm 1 21) [.ref (b 0), .int p1] (wd_X7_4 G b m_images m_at_ m_open_ m_steps m_use_ m_traced m_speaks m_isParted m_s m_errors) (S := (Nat → Int32) × (Nat → Int32)) (fun u => wd_X7_4 G b m_images m_at_ m_open_ m_steps m_use_ m_traced m_speaks m_isParted u.1 u.2) (fun r u => K r u.1 u.2) := by
  refine ci_intro (by decide) rfl (fun _ => rfl) (Nat.le_of_ble_eq_true rfl) ?_
  intro p e s m args below meth c A H ls Q C hW hS hl ret
  have hx := C.1.1
  have hb := C.1.2.1
  generalize hls : ([] : List Loc) = locs at hS ⊢
  have hl : lv_has ls 2 [(0, .ref (b 0)), (1, .int p1)] := hl
  refine lv_aload_n hx hb dX7_tell_0 rfl (lv_at hl 0 rfl) ?_
  refine q_get C kc7 hW 0 rfl 0 (by decide) fl_X7_7 rfl rfl dX7_tell_1 ?_
  refine lv_iconst (v := 3) hx hb dX7_tell_4 kic_3 ?_
  obtain ⟨h_1, hv⟩ := hv
  refine q_iald C hW 1 rfl h_1 dX7_tell_5 ?_
  refine lv_bipush (v := 24) hx hb dX7_tell_6 kbp_24 ?_
  refine lv_icmp_ne (tgt := 17) hx hb dX7_tell_8 (by decide) (fun c_2 => ?_) (fun c_2 => ?_)
  · replace hv := hv.1 c_2
    refine lv_aload_n hx hb dX7_tell_17 rfl (lv_at hl 0 rfl) ?_
    refine q_get C kc7 hW 0 rfl 0 (by decide) fl_X7_7 rfl rfl dX7_tell_18 ?_
    refine lv_sipush (v := 358) hx hb dX7_tell_21 ksp_358 ?_
    refine lv_aload_n hx hb dX7_tell_24 rfl (lv_at hl 0 rfl) ?_
    refine q_get C kc7 hW 0 rfl 0 (by decide) fl_X7_7 rfl rfl dX7_tell_25 ?_
    refine lv_iconst (v := 3) hx hb dX7_tell_28 kic_3 ?_
    obtain ⟨h_3, hv⟩ := hv
    refine q_iald C hW 1 rfl h_3 dX7_tell_29 ?_
    refine lv_iadd hx hb dX7_tell_30 ?_
    refine lv_iload_n hx hb dX7_tell_31 rfl (lv_at hl 1 rfl) ?_
    obtain ⟨h_4, hv⟩ := hv
    refine q_iast C hW hS 1 rfl h_4 dX7_tell_32 (fun H locs hW hS => ?_)
    have hW : wo G A (wd_X7_4 G b m_images m_at_ m_open_ m_steps m_use_ m_traced m_speaks m_isParted (upd m_s ((358 : Int32) + (m_s (3 : Int32).toNatClampNeg)).toNatClampNeg p1) m_errors) H := hW
    refine lv_aload_n hx hb dX7_tell_33 rfl (lv_at hl 0 rfl) ?_
    refine q_get C kc7 hW 0 rfl 0 (by decide) fl_X7_7 rfl rfl dX7_tell_34 ?_
    refine lv_iconst (v := 3) hx hb dX7_tell_37 kic_3 ?_
    refine lv_dup2_11 hx hb dX7_tell_38 rfl rfl ?_
    obtain ⟨h_5, hv⟩ := hv
    refine q_iald C hW 1 rfl h_5 dX7_tell_39 ?_
    refine lv_iconst (v := 1) hx hb dX7_tell_40 kic_1 ?_
    refine lv_iadd hx hb dX7_tell_41 ?_
    obtain ⟨h_6, hv⟩ := hv
    refine q_iast C hW hS 1 rfl h_6 dX7_tell_42 (fun H locs hW hS => ?_)
    have hW : wo G A (wd_X7_4 G b m_images m_at_ m_open_ m_steps m_use_ m_traced m_speaks m_isParted (upd (upd m_s ((358 : Int32) + (m_s (3 : Int32).toNatClampNeg)).toNatClampNeg p1) (3 : Int32).toNatClampNeg (((upd m_s ((358 : Int32) + (m_s (3 : Int32).toNatClampNeg)).toNatClampNeg p1) (3 : Int32).toNatClampNeg) + (1 : Int32))) m_errors) H := hW
    refine lv_aload_n hx hb dX7_tell_43 rfl (lv_at hl 0 rfl) ?_
    refine q_get C kc7 hW 0 rfl 0 (by decide) fl_X7_7 rfl rfl dX7_tell_44 ?_
    refine lv_iconst (v := 3) hx hb dX7_tell_47 kic_3 ?_
    obtain ⟨h_7, hv⟩ := hv
    refine q_iald C hW 1 rfl h_7 dX7_tell_48 ?_
    exact ret ((upd (upd m_s ((358 : Int32) + (m_s (3 : Int32).toNatClampNeg)).toNatClampNeg p1) (3 : Int32).toNatClampNeg (((upd m_s ((358 : Int32) + (m_s (3 : Int32).toNatClampNeg)).toNatClampNeg p1) (3 : Int32).toNatClampNeg) + (1 : Int32))), m_errors) ((upd (upd m_s ((358 : Int32) + (m_s (3 : Int32).toNatClampNeg)).toNatClampNeg p1) (3 : Int32).toNatClampNeg (((upd m_s ((358 : Int32) + (m_s (3 : Int32).toNatClampNeg)).toNatClampNeg p1) (3 : Int32).toNatClampNeg) + (1 : Int32))) (3 : Int32).toNatClampNeg) H locs ls _ rfl hW hS hv dX7_tell_49
  · replace hv := hv.2 c_2
    refine lv_aload_n hx hb dX7_tell_11 rfl (lv_at hl 0 rfl) ?_
    refine lv_iconst (v := 4) hx hb dX7_tell_12 kic_4 ?_
    refine q_callV (rest := []) (n := 1) C (c_X7_error l G b m_images m_at_ m_open_ m_steps m_use_ m_traced m_speaks m_isParted m_errors (4 : Int32) _ hv) ml_X7_61 kb_X7_error rfl ⟨⟨rfl, rfl⟩, (Nat.le_of_ble_eq_true rfl), (Nat.le_of_ble_eq_true rfl)⟩ hW hS [0, 2] rfl rfl kc7 (q0 := 0) rfl hl.1 rfl (Nat.le_of_ble_eq_true rfl) dX7_tell_13 ⟨Nat.zero_le _, Nat.zero_le _⟩ (fun r_8 u_9 H locs hv hW hS => ?_)
    obtain ⟨m_errors_8, rfl⟩ : ∃ z, z = u_9 := ⟨_, rfl⟩
    try dsimp only at hv
    have hW : wo G A (wd_X7_4 G b m_images m_at_ m_open_ m_steps m_use_ m_traced m_speaks m_isParted m_s m_errors_8) H := hW
    exact ret (m_s, m_errors_8) r_8 H locs ls _ rfl hW hS hv dX7_tell_16
set_option maxHeartbeats 4000000 in
set_option maxRecDepth 100000 in
theorem c_X7_check (l : Launch) (G : Gt) (b : Nat → Nat) (m_images : Int32) (m_at_ : Int32) (m_open_ : Int32) (m_steps : Int32) (m_use_ : Int32) (m_traced : Int32) (m_speaks : Int32) (m_isParted : Int32) (m_s : Nat → Int32) (K : Int32 → (Nat → Int32) → Prop) (hv : v_X7_check m_s K) : CI l G yX7_check (.code yX7_check cX7_check 3 (some .int) :: wsG) (rmm 2 43) [.ref (b 0)] (wd_X7_3 G b m_images m_at_ m_open_ m_steps m_use_ m_traced m_speaks m_isParted m_s) (S := (Nat → Int32)) (fun u => wd_X7_3 G b m_images m_at_ m_open_ m_steps m_use_ m_traced m_speaks m_isParted u) (fun r u => K r u) := by
  refine ci_intro (by decide) rfl (fun _ => rfl) (Nat.le_of_ble_eq_true rfl) ?_
  intro p e s m args below meth c A H ls Q C hW hS hl ret
  have hx := C.1.1
  have hb := C.1.2.1
  generalize hls : ([] : List Loc) = locs at hS ⊢
  have hl : lv_has ls 3 [(0, .ref (b 0))] := hl
  have h_l_X7_check_16 : ∀ (n : Nat), ∀ (x1 : Int32) (x2 : Int32) (m_s : Nat → Int32) (H : Heap) (locs : List Loc) (ls : Array Slot), wo G A (wd_X7_3 G b m_images m_at_ m_open_ m_steps m_use_ m_traced m_speaks m_isParted m_s) H → va_S A s.heap H locs → lv_has ls 3 [(0, .ref (b 0)), (1, .int x1), (2, .int x2)] → l_X7_check_16 K n x1 x2 m_s → W p l e (rmm 2 43) s m args below meth c H locs 0 0 Q (F0 m 16 ls []) := by
    intro n
    induction n with
    | zero =>
      intro x1 x2 m_s H locs ls hW hS hl hv
      exact False.elim hv
    | succ n ih =>
      intro x1 x2 m_s H locs ls hW hS hl hv
      refine lv_iload_n hx hb dX7_check_16 rfl (lv_at hl 2 rfl) ?_
      refine lv_iload_n hx hb dX7_check_17 rfl (lv_at hl 1 rfl) ?_
      refine lv_icmp_ge (tgt := 58) hx hb dX7_check_18 (by decide) (fun c_3 => ?_) (fun c_3 => ?_)
      · replace hv := hv.1 c_3
        refine lv_iconst (v := 0) hx hb dX7_check_58 kic_0 ?_
        exact ret (m_s) (0 : Int32) H locs ls _ rfl hW hS hv dX7_check_59
      · replace hv := hv.2 c_3
        refine lv_aload_n hx hb dX7_check_21 rfl (lv_at hl 0 rfl) ?_
        refine lv_iload_n hx hb dX7_check_22 rfl (lv_at hl 2 rfl) ?_
        refine q_callV (rest := []) (n := 1) C (c_X7_isPerson l G b m_images m_at_ m_open_ m_steps m_use_ m_traced m_speaks m_isParted m_s x2 _ hv) ml_X7_57 kb_X7_isPerson rfl ⟨⟨rfl, rfl⟩, (Nat.le_of_ble_eq_true rfl), (Nat.le_of_ble_eq_true rfl)⟩ hW hS [0, 1] rfl rfl kc7 (q0 := 0) rfl hl.1 rfl (Nat.le_of_ble_eq_true rfl) dX7_check_23 ⟨Nat.zero_le _, Nat.zero_le _⟩ (fun r_4 u_5 H locs hv hW hS => ?_)
        obtain ⟨hv_b_4, hv⟩ := hv
        try dsimp only at hv
        refine lv_if_eq (tgt := 48) hx hb dX7_check_26 (by decide) (fun c_6 => ?_) (fun c_6 => ?_)
        · replace hv := hv.1 c_6
          refine lv_iconst (v := 1) hx hb dX7_check_48 kic_1 ?_
          refine lv_iload_n hx hb dX7_check_49 rfl (lv_at hl 2 rfl) ?_
          refine lv_iadd hx hb dX7_check_50 ?_
          exact ret (m_s) ((1 : Int32) + x2) H locs ls _ rfl hW hS hv dX7_check_51
        · replace hv := hv.2 c_6
          refine lv_aload_n hx hb dX7_check_29 rfl (lv_at hl 0 rfl) ?_
          refine q_get C kc7 hW 0 rfl 0 (by decide) fl_X7_7 rfl rfl dX7_check_30 ?_
          refine lv_sipush (v := 358) hx hb dX7_check_33 ksp_358 ?_
          refine lv_iload_n hx hb dX7_check_36 rfl (lv_at hl 2 rfl) ?_
          refine lv_iadd hx hb dX7_check_37 ?_
          obtain ⟨h_7, hv⟩ := hv
          refine q_iald C hW 1 rfl h_7 dX7_check_38 ?_
          refine lv_aload_n hx hb dX7_check_39 rfl (lv_at hl 0 rfl) ?_
          refine lv_iload_n hx hb dX7_check_40 rfl (lv_at hl 2 rfl) ?_
          refine lv_iconst (v := 2) hx hb dX7_check_41 kic_2 ?_
          refine q_callV (rest := [.int (m_s ((358 : Int32) + x2).toNatClampNeg)]) (n := 2) C (c_X7_its l G b m_images m_at_ m_open_ m_steps m_use_ m_traced m_speaks m_isParted m_s x2 (2 : Int32) _ hv) ml_X7_120 kb_X7_its rfl ⟨⟨rfl, rfl⟩, (Nat.le_of_ble_eq_true rfl), (Nat.le_of_ble_eq_true rfl)⟩ hW hS [0, 1] rfl rfl kc7 (q0 := 0) rfl hl.1 rfl (Nat.le_of_ble_eq_true rfl) dX7_check_42 ⟨Nat.zero_le _, Nat.zero_le _⟩ (fun r_8 u_9 H locs hv hW hS => ?_)
          try dsimp only at hv
          refine lv_icmp_eq (tgt := 52) hx hb dX7_check_45 (by decide) (fun c_10 => ?_) (fun c_10 => ?_)
          · replace hv := hv.1 c_10
            refine lv_iinc (v := (x2 + 1)) (lv' := [(2, .int (x2 + 1)), (0, .ref (b 0)), (1, .int x1)]) hx hb dX7_check_52 hl (k := 2) rfl rfl (by decide) rfl (fun ls hl => ?_)
            refine lv_goto (tgt := 16) hx hb dX7_check_55 (by decide) ?_
            exact ih x1 (x2 + 1) m_s H locs ls hW hS (lv_sub hl [1, 2, 0] rfl) hv
          · replace hv := hv.2 c_10
            refine lv_iconst (v := 1) hx hb dX7_check_48 kic_1 ?_
            refine lv_iload_n hx hb dX7_check_49 rfl (lv_at hl 2 rfl) ?_
            refine lv_iadd hx hb dX7_check_50 ?_
            exact ret (m_s) ((1 : Int32) + x2) H locs ls _ rfl hW hS hv dX7_check_51
  refine lv_aload_n hx hb dX7_check_0 rfl (lv_at hl 0 rfl) ?_
  refine q_get C kc7 hW 0 rfl 0 (by decide) fl_X7_7 rfl rfl dX7_check_1 ?_
  refine lv_iconst (v := 3) hx hb dX7_check_4 kic_3 ?_
  obtain ⟨h_1, hv⟩ := hv
  refine q_iald C hW 1 rfl h_1 dX7_check_5 ?_
  refine lv_istore_n (lv' := [(1, .int (m_s (3 : Int32).toNatClampNeg)), (0, .ref (b 0))]) hx hb dX7_check_6 rfl hl (by decide) rfl (fun ls hl => ?_)
  refine lv_aload_n hx hb dX7_check_7 rfl (lv_at hl 1 rfl) ?_
  refine q_get C kc7 hW 0 rfl 0 (by decide) fl_X7_7 rfl rfl dX7_check_8 ?_
  refine lv_iconst (v := 3) hx hb dX7_check_11 kic_3 ?_
  refine lv_iconst (v := 0) hx hb dX7_check_12 kic_0 ?_
  obtain ⟨h_2, hv⟩ := hv
  refine q_iast C hW hS 1 rfl h_2 dX7_check_13 (fun H locs hW hS => ?_)
  have hW : wo G A (wd_X7_3 G b m_images m_at_ m_open_ m_steps m_use_ m_traced m_speaks m_isParted (upd m_s (3 : Int32).toNatClampNeg (0 : Int32))) H := hW
  refine lv_iconst (v := 0) hx hb dX7_check_14 kic_0 ?_
  refine lv_istore_n (lv' := [(2, .int (0 : Int32)), (1, .int (m_s (3 : Int32).toNatClampNeg)), (0, .ref (b 0))]) hx hb dX7_check_15 rfl hl (by decide) rfl (fun ls hl => ?_)
  obtain ⟨n_11, hv⟩ := hv
  exact h_l_X7_check_16 n_11 (m_s (3 : Int32).toNatClampNeg) (0 : Int32) (upd m_s (3 : Int32).toNatClampNeg (0 : Int32)) H locs ls hW hS (lv_sub hl [2, 1, 0] rfl) hv
set_option maxHeartbeats 4000000 in
set_option maxRecDepth 100000 in
theorem c_X7_count (l : Launch) (G : Gt) (b : Nat → Nat) (m_images : Int32) (m_at_ : Int32) (m_open_ : Int32) (m_steps : Int32) (m_use_ : Int32) (m_traced : Int32) (m_speaks : Int32) (m_isParted : Int32) (m_s : Nat → Int32) (m_errors : Nat → Int32) (p1 : Int32) (K : Int32 → (Nat → Int32) → Prop) (hv : v_X7_count p1 m_traced m_s m_errors K) : CI l G yX7_count (.code yX7_count cX7_count 2 (some .int) :: wsG) (rmm 2 44) [.ref (b 0), .int p1] (wd_X7_4 G b m_images m_at_ m_open_ m_steps m_use_ m_traced m_speaks m_isParted m_s m_errors) (S := (Nat → Int32)) (fun u => wd_X7_4 G b m_images m_at_ m_open_ m_steps m_use_ m_traced m_speaks m_isParted m_s u) (fun r u => K r u) := by
  refine ci_intro (by decide) rfl (fun _ => rfl) (Nat.le_of_ble_eq_true rfl) ?_
  intro p e s m args below meth c A H ls Q C hW hS hl ret
  have hx := C.1.1
  have hb := C.1.2.1
  generalize hls : ([] : List Loc) = locs at hS ⊢
  have hl : lv_has ls 2 [(0, .ref (b 0)), (1, .int p1)] := hl
  refine lv_iload_n hx hb dX7_count_0 rfl (lv_at hl 1 rfl) ?_
  by_cases c_1_0 : p1 = 0
  · replace hv := hv.1 c_1_0
    refine lv_tableIn (tgt := 44) hx hb dX7_count_1 (by rw [c_1_0]; decide) (by rw [c_1_0]; decide) (by rw [c_1_0]; rfl) (by decide) ?_
    refine lv_aload_n hx hb dX7_count_44 rfl (lv_at hl 0 rfl) ?_
    refine q_get C kc7 hW 0 rfl 0 (by decide) fl_X7_7 rfl rfl dX7_count_45 ?_
    refine lv_iconst (v := 4) hx hb dX7_count_48 kic_4 ?_
    obtain ⟨h_2, hv⟩ := hv
    refine q_iald C hW 1 rfl h_2 dX7_count_49 ?_
    exact ret (m_errors) (m_s (4 : Int32).toNatClampNeg) H locs ls _ rfl hW hS hv dX7_count_50
  · replace hv := hv.2 c_1_0
    by_cases c_1_1 : p1 = 1
    · replace hv := hv.1 c_1_1
      refine lv_tableIn (tgt := 51) hx hb dX7_count_1 (by rw [c_1_1]; decide) (by rw [c_1_1]; decide) (by rw [c_1_1]; rfl) (by decide) ?_
      refine lv_aload_n hx hb dX7_count_51 rfl (lv_at hl 0 rfl) ?_
      refine q_get C kc7 hW 0 rfl 0 (by decide) fl_X7_7 rfl rfl dX7_count_52 ?_
      refine lv_iconst (v := 0) hx hb dX7_count_55 kic_0 ?_
      obtain ⟨h_3, hv⟩ := hv
      refine q_iald C hW 1 rfl h_3 dX7_count_56 ?_
      exact ret (m_errors) (m_s (0 : Int32).toNatClampNeg) H locs ls _ rfl hW hS hv dX7_count_57
    · replace hv := hv.2 c_1_1
      by_cases c_1_2 : p1 = 2
      · replace hv := hv.1 c_1_2
        refine lv_tableIn (tgt := 58) hx hb dX7_count_1 (by rw [c_1_2]; decide) (by rw [c_1_2]; decide) (by rw [c_1_2]; rfl) (by decide) ?_
        refine lv_aload_n hx hb dX7_count_58 rfl (lv_at hl 0 rfl) ?_
        refine q_callV (rest := []) (n := 0) C (c_X7_nearestNow l G b m_images m_at_ m_open_ m_steps m_use_ m_traced m_speaks m_isParted m_s _ hv) ml_X7_188 kb_X7_nearestNow rfl ⟨⟨rfl, rfl⟩, (Nat.le_of_ble_eq_true rfl), (Nat.le_of_ble_eq_true rfl)⟩ hW hS [0, 1] rfl rfl kc7 (q0 := 0) rfl hl.1 rfl (Nat.le_of_ble_eq_true rfl) dX7_count_59 ⟨Nat.zero_le _, Nat.zero_le _⟩ (fun r_4 u_5 H locs hv hW hS => ?_)
        try dsimp only at hv
        exact ret (m_errors) r_4 H locs ls _ rfl hW hS hv dX7_count_62
      · replace hv := hv.2 c_1_2
        by_cases c_1_3 : p1 = 3
        · replace hv := hv.1 c_1_3
          refine lv_tableIn (tgt := 63) hx hb dX7_count_1 (by rw [c_1_3]; decide) (by rw [c_1_3]; decide) (by rw [c_1_3]; rfl) (by decide) ?_
          refine lv_aload_n hx hb dX7_count_63 rfl (lv_at hl 0 rfl) ?_
          refine q_get C kc7 hW 0 rfl 0 (by decide) fl_X7_7 rfl rfl dX7_count_64 ?_
          refine lv_iconst (v := 2) hx hb dX7_count_67 kic_2 ?_
          obtain ⟨h_6, hv⟩ := hv
          refine q_iald C hW 1 rfl h_6 dX7_count_68 ?_
          exact ret (m_errors) (m_s (2 : Int32).toNatClampNeg) H locs ls _ rfl hW hS hv dX7_count_69
        · replace hv := hv.2 c_1_3
          by_cases c_1_4 : p1 = 4
          · replace hv := hv.1 c_1_4
            refine lv_tableIn (tgt := 70) hx hb dX7_count_1 (by rw [c_1_4]; decide) (by rw [c_1_4]; decide) (by rw [c_1_4]; rfl) (by decide) ?_
            refine lv_aload_n hx hb dX7_count_70 rfl (lv_at hl 0 rfl) ?_
            refine q_get C kc7 hW 0 rfl 0 (by decide) fl_X7_7 rfl rfl dX7_count_71 ?_
            refine lv_iconst (v := 3) hx hb dX7_count_74 kic_3 ?_
            obtain ⟨h_7, hv⟩ := hv
            refine q_iald C hW 1 rfl h_7 dX7_count_75 ?_
            exact ret (m_errors) (m_s (3 : Int32).toNatClampNeg) H locs ls _ rfl hW hS hv dX7_count_76
          · replace hv := hv.2 c_1_4
            by_cases c_1_5 : p1 = 5
            · replace hv := hv.1 c_1_5
              refine lv_tableIn (tgt := 77) hx hb dX7_count_1 (by rw [c_1_5]; decide) (by rw [c_1_5]; decide) (by rw [c_1_5]; rfl) (by decide) ?_
              refine lv_aload_n hx hb dX7_count_77 rfl (lv_at hl 0 rfl) ?_
              refine q_get C kc7 hW 0 rfl 14 (by decide) fl_X7_219 rfl rfl dX7_count_78 ?_
              exact ret (m_errors) m_traced H locs ls _ rfl hW hS hv dX7_count_81
            · replace hv := hv.2 c_1_5
              by_cases c_1_6 : p1 = 6
              · replace hv := hv.1 c_1_6
                refine lv_tableIn (tgt := 82) hx hb dX7_count_1 (by rw [c_1_6]; decide) (by rw [c_1_6]; decide) (by rw [c_1_6]; rfl) (by decide) ?_
                refine lv_aload_n hx hb dX7_count_82 rfl (lv_at hl 0 rfl) ?_
                refine q_get C kc7 hW 0 rfl 0 (by decide) fl_X7_7 rfl rfl dX7_count_83 ?_
                refine lv_iconst (v := 1) hx hb dX7_count_86 kic_1 ?_
                obtain ⟨h_8, hv⟩ := hv
                refine q_iald C hW 1 rfl h_8 dX7_count_87 ?_
                exact ret (m_errors) (m_s (1 : Int32).toNatClampNeg) H locs ls _ rfl hW hS hv dX7_count_88
              · replace hv := hv.2 c_1_6
                refine sw_row (tgt := 89) hx hb dX7_count_1 rfl (lt_s (lt_s (lt_s (lt_s (lt_s (lt_s (lt_s lt_0 (Or.inr (lv_neT c_1_0 rfl))) (Or.inr (lv_neT c_1_1 rfl))) (Or.inr (lv_neT c_1_2 rfl))) (Or.inr (lv_neT c_1_3 rfl))) (Or.inr (lv_neT c_1_4 rfl))) (Or.inr (lv_neT c_1_5 rfl))) (Or.inr (lv_neT c_1_6 rfl))) (by decide) ?_
                refine lv_aload_n hx hb dX7_count_89 rfl (lv_at hl 0 rfl) ?_
                refine lv_iconst (v := 1) hx hb dX7_count_90 kic_1 ?_
                refine q_callV (rest := []) (n := 1) C (c_X7_error l G b m_images m_at_ m_open_ m_steps m_use_ m_traced m_speaks m_isParted m_errors (1 : Int32) _ hv) ml_X7_61 kb_X7_error rfl ⟨⟨rfl, rfl⟩, (Nat.le_of_ble_eq_true rfl), (Nat.le_of_ble_eq_true rfl)⟩ hW hS [0, 2] rfl rfl kc7 (q0 := 0) rfl hl.1 rfl (Nat.le_of_ble_eq_true rfl) dX7_count_91 ⟨Nat.zero_le _, Nat.zero_le _⟩ (fun r_9 u_10 H locs hv hW hS => ?_)
                obtain ⟨m_errors_9, rfl⟩ : ∃ z, z = u_10 := ⟨_, rfl⟩
                try dsimp only at hv
                have hW : wo G A (wd_X7_4 G b m_images m_at_ m_open_ m_steps m_use_ m_traced m_speaks m_isParted m_s m_errors_9) H := hW
                exact ret (m_errors_9) r_9 H locs ls _ rfl hW hS hv dX7_count_94
set_option maxHeartbeats 4000000 in
set_option maxRecDepth 100000 in
theorem c_X7_told (l : Launch) (G : Gt) (b : Nat → Nat) (m_images : Int32) (m_at_ : Int32) (m_open_ : Int32) (m_steps : Int32) (m_use_ : Int32) (m_traced : Int32) (m_speaks : Int32) (m_isParted : Int32) (m_errors : Nat → Int32) (p1 : Int32) (K : Int32 → (Nat → Int32) → Prop) (hv : v_X7_told p1 m_errors K) : CI l G yX7_told (.code yX7_told cX7_told 2 (some .int) :: wsG) (rmm 1 22) [.ref (b 0), .int p1] (wd_X7_0 G b m_images m_at_ m_open_ m_steps m_use_ m_traced m_speaks m_isParted m_errors) (S := (Nat → Int32)) (fun u => wd_X7_0 G b m_images m_at_ m_open_ m_steps m_use_ m_traced m_speaks m_isParted u) (fun r u => K r u) := by
  refine ci_intro (by decide) rfl (fun _ => rfl) (Nat.le_of_ble_eq_true rfl) ?_
  intro p e s m args below meth c A H ls Q C hW hS hl ret
  have hx := C.1.1
  have hb := C.1.2.1
  generalize hls : ([] : List Loc) = locs at hS ⊢
  have hl : lv_has ls 2 [(0, .ref (b 0)), (1, .int p1)] := hl
  refine lv_iload_n hx hb dX7_told_0 rfl (lv_at hl 1 rfl) ?_
  refine lv_iconst (v := 1) hx hb dX7_told_1 kic_1 ?_
  refine lv_bipush (v := 6) hx hb dX7_told_2 kbp_6 ?_
  refine q_callS (rest := []) (n := 3) C (c_X7_in l G p1 (1 : Int32) (6 : Int32) _ hv) ml_X7_53 kb_X7_in rfl ⟨⟨rfl, rfl⟩, (Nat.le_of_ble_eq_true rfl), (Nat.le_of_ble_eq_true rfl)⟩ hW hS hl.1 rfl (Nat.le_of_ble_eq_true rfl) dX7_told_4 ⟨Nat.zero_le _, Nat.zero_le _⟩ (fun r_1 u_2 H locs hv hW hS => ?_)
  obtain ⟨hv_b_1, hv⟩ := hv
  try dsimp only at hv
  refine lv_if_eq (tgt := 19) hx hb dX7_told_7 (by decide) (fun c_3 => ?_) (fun c_3 => ?_)
  · replace hv := hv.1 c_3
    refine lv_aload_n hx hb dX7_told_19 rfl (lv_at hl 0 rfl) ?_
    refine lv_iconst (v := 1) hx hb dX7_told_20 kic_1 ?_
    refine q_callV (rest := []) (n := 1) C (c_X7_error l G b m_images m_at_ m_open_ m_steps m_use_ m_traced m_speaks m_isParted m_errors (1 : Int32) _ hv) ml_X7_61 kb_X7_error rfl ⟨⟨rfl, rfl⟩, (Nat.le_of_ble_eq_true rfl), (Nat.le_of_ble_eq_true rfl)⟩ hW hS [0, 1] rfl rfl kc7 (q0 := 0) rfl hl.1 rfl (Nat.le_of_ble_eq_true rfl) dX7_told_21 ⟨Nat.zero_le _, Nat.zero_le _⟩ (fun r_4 u_5 H locs hv hW hS => ?_)
    obtain ⟨m_errors_4, rfl⟩ : ∃ z, z = u_5 := ⟨_, rfl⟩
    try dsimp only at hv
    have hW : wo G A (wd_X7_0 G b m_images m_at_ m_open_ m_steps m_use_ m_traced m_speaks m_isParted m_errors_4) H := hW
    exact ret (m_errors_4) r_4 H locs ls _ rfl hW hS hv dX7_told_24
  · replace hv := hv.2 c_3
    refine lv_aload_n hx hb dX7_told_10 rfl (lv_at hl 0 rfl) ?_
    refine q_get C kc7 hW 0 rfl 4 (by decide) fl_X7_19 rfl rfl dX7_told_11 ?_
    refine lv_iload_n hx hb dX7_told_14 rfl (lv_at hl 1 rfl) ?_
    obtain ⟨h_6, hv⟩ := hv
    refine q_iald C hW 1 rfl h_6 dX7_told_15 ?_
    refine lv_goto (tgt := 24) hx hb dX7_told_16 (by decide) ?_
    exact ret (m_errors) (m_errors p1.toNatClampNeg) H locs ls _ rfl hW hS hv dX7_told_24
