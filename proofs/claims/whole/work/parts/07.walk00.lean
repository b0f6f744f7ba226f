set_option maxHeartbeats 4000000 in
set_option maxRecDepth 100000 in
theorem c_X0_copy (l : Launch) (G : Gt) (b : Nat → Nat) (f0 : Nat) (most : Int32) (size : Int32) (steps : Nat → Int32) (f_a : Nat → Int32) (p2 : Int32) (K : Int32 → (Nat → Int32) → Prop) (hv : v_X0_copy p2 size steps f_a K) : CV l G yX0_copy (.code yX0_copy cX0_copy 3 none :: wsG) (rmm 1 60) [.ref (b 0), .ref f0, .int p2] (wd_X0_0 G b f0 most size steps f_a) (S := Int32 × (Nat → Int32)) (fun u => wd_X0_0 G b f0 most u.1 u.2 f_a) (fun u => K u.1 u.2) := by
  refine cv_intro (by decide) rfl (fun _ => rfl) (Nat.le_of_ble_eq_true rfl) ?_
  intro p e s m args below meth c A H ls Q C hW hS hl ret
  have hx := C.1.1
  have hb := C.1.2.1
  generalize hls : ([] : List Loc) = locs at hS ⊢
  have hl : lv_has ls 3 [(0, .ref (b 0)), (1, .ref f0), (2, .int p2)] := hl
  refine lv_aload_n hx hb dX0_copy_0 rfl (lv_at hl 0 rfl) ?_
  refine lv_iconst (v := 0) hx hb dX0_copy_1 kic_0 ?_
  refine lv_iload_n hx hb dX0_copy_2 rfl (lv_at hl 2 rfl) ?_
  refine lv_aload_n hx hb dX0_copy_3 rfl (lv_at hl 1 rfl) ?_
  refine va_alen (D := G.1) (cl := GB_cl) (tys := tyG G) (v := 60) hx hb C.2.1 hW.1 2 0 rfl rfl kal_60 dX0_copy_4 ?_
  refine lv_bipush (v := 60) hx hb dX0_copy_5 kbp_60 ?_
  refine va_mmin hx hb (C.1.2.2.1.trans hl.1.symm) C.1.2.2.2.1 (C.hts ml_X0_22) (C.hts st_mmin) (C.hts ini_javalangMath) (C.hts cd_mmin) (Nat.le_of_ble_eq_true rfl) (Nat.le_of_ble_eq_true rfl) (Nat.zero_le _) (Nat.zero_le _) dX0_copy_7 ?_
  refine va_mmin hx hb (C.1.2.2.1.trans hl.1.symm) C.1.2.2.2.1 (C.hts ml_X0_22) (C.hts st_mmin) (C.hts ini_javalangMath) (C.hts cd_mmin) (Nat.le_of_ble_eq_true rfl) (Nat.le_of_ble_eq_true rfl) (Nat.zero_le _) (Nat.zero_le _) dX0_copy_10 ?_
  refine va_mmax hx hb (C.1.2.2.1.trans hl.1.symm) C.1.2.2.2.1 (C.hts ml_X0_28) (C.hts st_mmax) (C.hts ini_javalangMath) (C.hts cd_mmax) (Nat.le_of_ble_eq_true rfl) (Nat.le_of_ble_eq_true rfl) (Nat.zero_le _) (Nat.zero_le _) dX0_copy_13 ?_
  refine q_put C kc0 hW hS 0 rfl 2 (by decide) fl_X0_31 rfl rfl rfl rfl (Nat.le_of_ble_eq_true rfl) dX0_copy_16 (fun H locs hW hS => ?_)
  have hW : wo G A (wd_X0_0 G b f0 most (if (0 : Int32) < (if (if (60 : Int32) < (60 : Int32) then (60 : Int32) else (60 : Int32)) < p2 then (if (60 : Int32) < (60 : Int32) then (60 : Int32) else (60 : Int32)) else p2) then (if (if (60 : Int32) < (60 : Int32) then (60 : Int32) else (60 : Int32)) < p2 then (if (60 : Int32) < (60 : Int32) then (60 : Int32) else (60 : Int32)) else p2) else (0 : Int32)) steps f_a) H := hW
  refine lv_aload_n hx hb dX0_copy_19 rfl (lv_at hl 1 rfl) ?_
  refine lv_iconst (v := 0) hx hb dX0_copy_20 kic_0 ?_
  refine lv_aload_n hx hb dX0_copy_21 rfl (lv_at hl 0 rfl) ?_
  refine q_get C kc0 hW 0 rfl 1 (by decide) fl_X0_9 rfl rfl dX0_copy_22 ?_
  refine lv_iconst (v := 0) hx hb dX0_copy_25 kic_0 ?_
  refine lv_aload_n hx hb dX0_copy_26 rfl (lv_at hl 0 rfl) ?_
  refine q_get C kc0 hW 0 rfl 2 (by decide) fl_X0_31 rfl rfl dX0_copy_27 ?_
  obtain ⟨h_1, hv⟩ := hv
  obtain ⟨h_2, hv⟩ := hv
  obtain ⟨h_3, hv⟩ := hv
  obtain ⟨h_4, hv⟩ := hv
  obtain ⟨h_5, hv⟩ := hv
  refine va_copyi (D := G.1) (cl := GB_cl) (tys := tyG G) hx hb (C.1.2.2.1.trans hl.1.symm) C.1.2.2.2.1 (C.hts ml_X0_34) (C.hts nat_copy) (C.hts st_copy) (C.hts ini_javalangSystem) C.2.1 hW.1 hW.2 hS 2 1 0 0 rfl rfl rfl rfl rfl h_1 h_2 h_3 h_4 h_5 (fun _ _ => rfl) (Nat.le_of_ble_eq_true rfl) (Nat.le_of_ble_eq_true rfl) dX0_copy_30 (fun H locs hP hD hS => ?_)
  have hW : wo G A (wd_X0_0 G b f0 most (if (0 : Int32) < (if (if (60 : Int32) < (60 : Int32) then (60 : Int32) else (60 : Int32)) < p2 then (if (60 : Int32) < (60 : Int32) then (60 : Int32) else (60 : Int32)) else p2) then (if (if (60 : Int32) < (60 : Int32) then (60 : Int32) else (60 : Int32)) < p2 then (if (60 : Int32) < (60 : Int32) then (60 : Int32) else (60 : Int32)) else p2) else (0 : Int32)) (va_cpy f_a steps (0 : Int32).toNatClampNeg (0 : Int32).toNatClampNeg (if (0 : Int32) < (if (if (60 : Int32) < (60 : Int32) then (60 : Int32) else (60 : Int32)) < p2 then (if (60 : Int32) < (60 : Int32) then (60 : Int32) else (60 : Int32)) else p2) then (if (if (60 : Int32) < (60 : Int32) then (60 : Int32) else (60 : Int32)) < p2 then (if (60 : Int32) < (60 : Int32) then (60 : Int32) else (60 : Int32)) else p2) else (0 : Int32)).toNatClampNeg) f_a) H := ⟨hP, hD⟩
  exact ret ((if (0 : Int32) < (if (if (60 : Int32) < (60 : Int32) then (60 : Int32) else (60 : Int32)) < p2 then (if (60 : Int32) < (60 : Int32) then (60 : Int32) else (60 : Int32)) else p2) then (if (if (60 : Int32) < (60 : Int32) then (60 : Int32) else (60 : Int32)) < p2 then (if (60 : Int32) < (60 : Int32) then (60 : Int32) else (60 : Int32)) else p2) else (0 : Int32)), (va_cpy f_a steps (0 : Int32).toNatClampNeg (0 : Int32).toNatClampNeg (if (0 : Int32) < (if (if (60 : Int32) < (60 : Int32) then (60 : Int32) else (60 : Int32)) < p2 then (if (60 : Int32) < (60 : Int32) then (60 : Int32) else (60 : Int32)) else p2) then (if (if (60 : Int32) < (60 : Int32) then (60 : Int32) else (60 : Int32)) < p2 then (if (60 : Int32) < (60 : Int32) then (60 : Int32) else (60 : Int32)) else p2) else (0 : Int32)).toNatClampNeg)) H locs ls _ hW hS hv dX0_copy_33
set_option maxHeartbeats 4000000 in
set_option maxRecDepth 100000 in
theorem c_X0_named (l : Launch) (G : Gt) (p1 : Int32) (p2 : Int32) (p3 : Int32) (p4 : Int32) (K : Int32 → Prop) (hv : v_X0_named p1 p2 p3 p4 K) : CI l G yX0_named (.code yX0_named cX0_named 4 (some .int) :: wsG) (rmm 0 0) [.int p1, .int p2, .int p3, .int p4] [] (S := Unit) (fun _ => []) (fun r u => K r) := by
  refine ci_intro (by decide) rfl (fun _ => rfl) (Nat.le_of_ble_eq_true rfl) ?_
  intro p e s m args below meth c A H ls Q C hW hS hl ret
  have hx := C.1.1
  have hb := C.1.2.1
  generalize hls : ([] : List Loc) = locs at hS ⊢
  have hl : lv_has ls 4 [(0, .int p1), (1, .int p2), (2, .int p3), (3, .int p4)] := hl
  refine lv_iload_n hx hb dX0_named_0 rfl (lv_at hl 0 rfl) ?_
  refine lv_iconst (v := (-1)) hx hb dX0_named_1 kic_m1 ?_
  refine lv_icmp_ne (tgt := 7) hx hb dX0_named_2 (by decide) (fun c_1 => ?_) (fun c_1 => ?_)
  · replace hv := hv.1 c_1
    refine lv_iload_n hx hb dX0_named_7 rfl (lv_at hl 0 rfl) ?_
    refine lv_bipush (v := (-2)) hx hb dX0_named_8 kbp_m2 ?_
    refine lv_icmp_ne (tgt := 17) hx hb dX0_named_10 (by decide) (fun c_2 => ?_) (fun c_2 => ?_)
    · replace hv := hv.1 c_2
      refine lv_iload_n hx hb dX0_named_17 rfl (lv_at hl 3 rfl) ?_
      exact ret () p4 H locs ls _ rfl hW hS hv dX0_named_18
    · replace hv := hv.2 c_2
      refine lv_iload_n hx hb dX0_named_13 rfl (lv_at hl 2 rfl) ?_
      refine lv_goto (tgt := 18) hx hb dX0_named_14 (by decide) ?_
      exact ret () p3 H locs ls _ rfl hW hS hv dX0_named_18
  · replace hv := hv.2 c_1
    refine lv_iload_n hx hb dX0_named_5 rfl (lv_at hl 1 rfl) ?_
    exact ret () p2 H locs ls _ rfl hW hS hv dX0_named_6
set_option maxHeartbeats 4000000 in
set_option maxRecDepth 100000 in
theorem c_X0_joined (l : Launch) (G : Gt) (p1 : Int32) (p2 : Int32) (p3 : Int32) (K : Int32 → Prop) (hv : v_X0_joined p1 p2 p3 K) : CI l G yX0_joined (.code yX0_joined cX0_joined 3 (some .int) :: wsG) (rmm 0 0) [.int p1, .int p2, .int p3] [] (S := Unit) (fun _ => []) (fun r u => K r) := by
  refine ci_intro (by decide) rfl (fun _ => rfl) (Nat.le_of_ble_eq_true rfl) ?_
  intro p e s m args below meth c A H ls Q C hW hS hl ret
  have hx := C.1.1
  have hb := C.1.2.1
  generalize hls : ([] : List Loc) = locs at hS ⊢
  have hl : lv_has ls 3 [(0, .int p1), (1, .int p2), (2, .int p3)] := hl
  refine lv_iload_n hx hb dX0_joined_0 rfl (lv_at hl 0 rfl) ?_
  by_cases c_1_0 : p1 = 37
  · replace hv := hv.1 c_1_0
    refine lv_lookup (off := 115) (tgt := 116) hx hb dX0_joined_1 (by decide) (by rw [c_1_0] <;> rfl) (by decide) ?_
    refine lv_iload_n hx hb dX0_joined_116 rfl (lv_at hl 2 rfl) ?_
    refine lv_if_ne (tgt := 124) hx hb dX0_joined_117 (by decide) (fun c_2 => ?_) (fun c_2 => ?_)
    · replace hv := hv.1 c_2
      refine lv_iload_n hx hb dX0_joined_124 rfl (lv_at hl 1 rfl) ?_
      refine lv_iload_n hx hb dX0_joined_125 rfl (lv_at hl 2 rfl) ?_
      obtain ⟨h_3, hv⟩ := hv
      refine lv_irem hx hb dX0_joined_126 h_3 ?_
      exact ret () (p2 - p2 / p3 * p3) H locs ls _ rfl hW hS hv dX0_joined_127
    · replace hv := hv.2 c_2
      refine lv_iconst (v := 0) hx hb dX0_joined_120 kic_0 ?_
      refine lv_goto (tgt := 127) hx hb dX0_joined_121 (by decide) ?_
      exact ret () (0 : Int32) H locs ls _ rfl hW hS hv dX0_joined_127
  · replace hv := hv.2 c_1_0
    by_cases c_1_1 : p1 = 38
    · replace hv := hv.1 c_1_1
      refine lv_lookup (off := 160) (tgt := 161) hx hb dX0_joined_1 (by decide) (by rw [c_1_1] <;> rfl) (by decide) ?_
      refine lv_iload_n hx hb dX0_joined_161 rfl (lv_at hl 1 rfl) ?_
      refine lv_if_eq (tgt := 173) hx hb dX0_joined_162 (by decide) (fun c_4 => ?_) (fun c_4 => ?_)
      · replace hv := hv.1 c_4
        refine lv_iconst (v := 0) hx hb dX0_joined_173 kic_0 ?_
        exact ret () (0 : Int32) H locs ls _ rfl hW hS hv dX0_joined_174
      · replace hv := hv.2 c_4
        refine lv_iload_n hx hb dX0_joined_165 rfl (lv_at hl 2 rfl) ?_
        refine lv_if_eq (tgt := 173) hx hb dX0_joined_166 (by decide) (fun c_5 => ?_) (fun c_5 => ?_)
        · replace hv := hv.1 c_5
          refine lv_iconst (v := 0) hx hb dX0_joined_173 kic_0 ?_
          exact ret () (0 : Int32) H locs ls _ rfl hW hS hv dX0_joined_174
        · replace hv := hv.2 c_5
          refine lv_iconst (v := 1) hx hb dX0_joined_169 kic_1 ?_
          refine lv_goto (tgt := 174) hx hb dX0_joined_170 (by decide) ?_
          exact ret () (1 : Int32) H locs ls _ rfl hW hS hv dX0_joined_174
    · replace hv := hv.2 c_1_1
      by_cases c_1_2 : p1 = 42
      · replace hv := hv.1 c_1_2
        refine lv_lookup (off := 99) (tgt := 100) hx hb dX0_joined_1 (by decide) (by rw [c_1_2] <;> rfl) (by decide) ?_
        refine lv_iload_n hx hb dX0_joined_100 rfl (lv_at hl 1 rfl) ?_
        refine lv_iload_n hx hb dX0_joined_101 rfl (lv_at hl 2 rfl) ?_
        refine lv_imul hx hb dX0_joined_102 ?_
        exact ret () (p2 * p3) H locs ls _ rfl hW hS hv dX0_joined_103
      · replace hv := hv.2 c_1_2
        by_cases c_1_3 : p1 = 43
        · replace hv := hv.1 c_1_3
          refine lv_lookup (off := 91) (tgt := 92) hx hb dX0_joined_1 (by decide) (by rw [c_1_3] <;> rfl) (by decide) ?_
          refine lv_iload_n hx hb dX0_joined_92 rfl (lv_at hl 1 rfl) ?_
          refine lv_iload_n hx hb dX0_joined_93 rfl (lv_at hl 2 rfl) ?_
          refine lv_iadd hx hb dX0_joined_94 ?_
          exact ret () (p2 + p3) H locs ls _ rfl hW hS hv dX0_joined_95
        · replace hv := hv.2 c_1_3
          by_cases c_1_4 : p1 = 45
          · replace hv := hv.1 c_1_4
            refine lv_lookup (off := 95) (tgt := 96) hx hb dX0_joined_1 (by decide) (by rw [c_1_4] <;> rfl) (by decide) ?_
            refine lv_iload_n hx hb dX0_joined_96 rfl (lv_at hl 1 rfl) ?_
            refine lv_iload_n hx hb dX0_joined_97 rfl (lv_at hl 2 rfl) ?_
            refine lv_isub hx hb dX0_joined_98 ?_
            exact ret () (p2 - p3) H locs ls _ rfl hW hS hv dX0_joined_99
          · replace hv := hv.2 c_1_4
            by_cases c_1_5 : p1 = 47
            · replace hv := hv.1 c_1_5
              refine lv_lookup (off := 103) (tgt := 104) hx hb dX0_joined_1 (by decide) (by rw [c_1_5] <;> rfl) (by decide) ?_
              refine lv_iload_n hx hb dX0_joined_104 rfl (lv_at hl 2 rfl) ?_
              refine lv_if_ne (tgt := 112) hx hb dX0_joined_105 (by decide) (fun c_6 => ?_) (fun c_6 => ?_)
              · replace hv := hv.1 c_6
                refine lv_iload_n hx hb dX0_joined_112 rfl (lv_at hl 1 rfl) ?_
                refine lv_iload_n hx hb dX0_joined_113 rfl (lv_at hl 2 rfl) ?_
                obtain ⟨h_7, hv⟩ := hv
                refine lv_idiv hx hb dX0_joined_114 h_7 ?_
                exact ret () (p2 / p3) H locs ls _ rfl hW hS hv dX0_joined_115
              · replace hv := hv.2 c_6
                refine lv_iconst (v := 0) hx hb dX0_joined_108 kic_0 ?_
                refine lv_goto (tgt := 115) hx hb dX0_joined_109 (by decide) ?_
                exact ret () (0 : Int32) H locs ls _ rfl hW hS hv dX0_joined_115
            · replace hv := hv.2 c_1_5
              by_cases c_1_6 : p1 = 60
              · replace hv := hv.1 c_1_6
                refine lv_lookup (off := 127) (tgt := 128) hx hb dX0_joined_1 (by decide) (by rw [c_1_6] <;> rfl) (by decide) ?_
                refine lv_iload_n hx hb dX0_joined_128 rfl (lv_at hl 1 rfl) ?_
                refine lv_iload_n hx hb dX0_joined_129 rfl (lv_at hl 2 rfl) ?_
                refine lv_icmp_ge (tgt := 137) hx hb dX0_joined_130 (by decide) (fun c_8 => ?_) (fun c_8 => ?_)
                · replace hv := hv.1 c_8
                  refine lv_iconst (v := 0) hx hb dX0_joined_137 kic_0 ?_
                  exact ret () (0 : Int32) H locs ls _ rfl hW hS hv dX0_joined_138
                · replace hv := hv.2 c_8
                  refine lv_iconst (v := 1) hx hb dX0_joined_133 kic_1 ?_
                  refine lv_goto (tgt := 138) hx hb dX0_joined_134 (by decide) ?_
                  exact ret () (1 : Int32) H locs ls _ rfl hW hS hv dX0_joined_138
              · replace hv := hv.2 c_1_6
                by_cases c_1_7 : p1 = 61
                · replace hv := hv.1 c_1_7
                  refine lv_lookup (off := 149) (tgt := 150) hx hb dX0_joined_1 (by decide) (by rw [c_1_7] <;> rfl) (by decide) ?_
                  refine lv_iload_n hx hb dX0_joined_150 rfl (lv_at hl 1 rfl) ?_
                  refine lv_iload_n hx hb dX0_joined_151 rfl (lv_at hl 2 rfl) ?_
                  refine lv_icmp_ne (tgt := 159) hx hb dX0_joined_152 (by decide) (fun c_9 => ?_) (fun c_9 => ?_)
                  · replace hv := hv.1 c_9
                    refine lv_iconst (v := 0) hx hb dX0_joined_159 kic_0 ?_
                    exact ret () (0 : Int32) H locs ls _ rfl hW hS hv dX0_joined_160
                  · replace hv := hv.2 c_9
                    refine lv_iconst (v := 1) hx hb dX0_joined_155 kic_1 ?_
                    refine lv_goto (tgt := 160) hx hb dX0_joined_156 (by decide) ?_
                    exact ret () (1 : Int32) H locs ls _ rfl hW hS hv dX0_joined_160
                · replace hv := hv.2 c_1_7
                  by_cases c_1_8 : p1 = 62
                  · replace hv := hv.1 c_1_8
                    refine lv_lookup (off := 138) (tgt := 139) hx hb dX0_joined_1 (by decide) (by rw [c_1_8] <;> rfl) (by decide) ?_
                    refine lv_iload_n hx hb dX0_joined_139 rfl (lv_at hl 1 rfl) ?_
                    refine lv_iload_n hx hb dX0_joined_140 rfl (lv_at hl 2 rfl) ?_
                    refine lv_icmp_le (tgt := 148) hx hb dX0_joined_141 (by decide) (fun c_10 => ?_) (fun c_10 => ?_)
                    · replace hv := hv.1 c_10
                      refine lv_iconst (v := 0) hx hb dX0_joined_148 kic_0 ?_
                      exact ret () (0 : Int32) H locs ls _ rfl hW hS hv dX0_joined_149
                    · replace hv := hv.2 c_10
                      refine lv_iconst (v := 1) hx hb dX0_joined_144 kic_1 ?_
                      refine lv_goto (tgt := 149) hx hb dX0_joined_145 (by decide) ?_
                      exact ret () (1 : Int32) H locs ls _ rfl hW hS hv dX0_joined_149
                  · replace hv := hv.2 c_1_8
                    by_cases c_1_9 : p1 = 124
                    · replace hv := hv.1 c_1_9
                      refine lv_lookup (off := 174) (tgt := 175) hx hb dX0_joined_1 (by decide) (by rw [c_1_9] <;> rfl) (by decide) ?_
                      refine lv_iload_n hx hb dX0_joined_175 rfl (lv_at hl 1 rfl) ?_
                      refine lv_if_ne (tgt := 183) hx hb dX0_joined_176 (by decide) (fun c_11 => ?_) (fun c_11 => ?_)
                      · replace hv := hv.1 c_11
                        refine lv_iconst (v := 1) hx hb dX0_joined_183 kic_1 ?_
                        refine lv_goto (tgt := 188) hx hb dX0_joined_184 (by decide) ?_
                        exact ret () (1 : Int32) H locs ls _ rfl hW hS hv dX0_joined_188
                      · replace hv := hv.2 c_11
                        refine lv_iload_n hx hb dX0_joined_179 rfl (lv_at hl 2 rfl) ?_
                        refine lv_if_eq (tgt := 187) hx hb dX0_joined_180 (by decide) (fun c_12 => ?_) (fun c_12 => ?_)
                        · replace hv := hv.1 c_12
                          refine lv_iconst (v := 0) hx hb dX0_joined_187 kic_0 ?_
                          exact ret () (0 : Int32) H locs ls _ rfl hW hS hv dX0_joined_188
                        · replace hv := hv.2 c_12
                          refine lv_iconst (v := 1) hx hb dX0_joined_183 kic_1 ?_
                          refine lv_goto (tgt := 188) hx hb dX0_joined_184 (by decide) ?_
                          exact ret () (1 : Int32) H locs ls _ rfl hW hS hv dX0_joined_188
                    · replace hv := hv.2 c_1_9
                      refine lv_lookup (off := 188) (tgt := 189) hx hb dX0_joined_1 (by decide) ((lv_osw c_1_0 rfl).trans ((lv_osw c_1_1 rfl).trans ((lv_osw c_1_2 rfl).trans ((lv_osw c_1_3 rfl).trans ((lv_osw c_1_4 rfl).trans ((lv_osw c_1_5 rfl).trans ((lv_osw c_1_6 rfl).trans ((lv_osw c_1_7 rfl).trans ((lv_osw c_1_8 rfl).trans ((lv_osw c_1_9 rfl).trans rfl)))))))))) (by decide) ?_
                      refine lv_iconst (v := 0) hx hb dX0_joined_189 kic_0 ?_
                      exact ret () (0 : Int32) H locs ls _ rfl hW hS hv dX0_joined_190
set_option maxHeartbeats 4000000 in
set_option maxRecDepth 100000 in
theorem c_X0_gives (l : Launch) (G : Gt) (b : Nat → Nat) (most : Int32) (size : Int32) (steps : Nat → Int32) (stack : Nat → Int32) (p1 : Int32) (p2 : Int32) (p3 : Int32) (K : Int32 → (Nat → Int32) → Prop) (hv : v_X0_gives p1 p2 p3 most size steps stack K) : CI l G yX0_gives (.code yX0_gives cX0_gives 7 (some .int) :: wsG) (rmm 1 23) [.ref (b 0), .int p1, .int p2, .int p3] (wd_X0_1 G b most size steps stack) (S := (Nat → Int32)) (fun u => wd_X0_1 G b most size steps u) (fun r u => K r u) := by
  refine ci_intro (by decide) rfl (fun _ => rfl) (Nat.le_of_ble_eq_true rfl) ?_
  intro p e s m args below meth c A H ls Q C hW hS hl ret
  have hx := C.1.1
  have hb := C.1.2.1
  generalize hls : ([] : List Loc) = locs at hS ⊢
  have hl : lv_has ls 7 [(0, .ref (b 0)), (1, .int p1), (2, .int p2), (3, .int p3)] := hl
  have h_j_X0_gives_164 : ∀ (B13 : Int32 → Int32 → (Nat → Int32) → Prop) (hB13 : ∀ (x4 : Int32) (x5 : Int32) (stack : Nat → Int32) (H : Heap) (locs : List Loc) (ls : Array Slot), wo G A (wd_X0_1 G b most size steps stack) H → va_S A s.heap H locs → lv_has ls 7 [(0, .ref (b 0)), (1, .int p1), (2, .int p2), (3, .int p3), (4, .int x4), (5, .int x5)] → B13 x4 x5 stack → W p l e (rmm 1 23) s m args below meth c H locs 0 0 Q (F0 m 13 ls [])), ∀ (x4 : Int32) (x5 : Int32) (stack : Nat → Int32) (H : Heap) (locs : List Loc) (ls : Array Slot), wo G A (wd_X0_1 G b most size steps stack) H → va_S A s.heap H locs → lv_has ls 7 [(0, .ref (b 0)), (1, .int p1), (2, .int p2), (3, .int p3), (4, .int x4), (5, .int x5)] → j_X0_gives_164 p1 p2 p3 most size steps B13 K x4 x5 stack → W p l e (rmm 1 23) s m args below meth c H locs 0 0 Q (F0 m 164 ls []) := by
    intro B13 hB13 x4 x5 stack H locs ls hW hS hl hv
    refine lv_iinc (v := (x5 + 1)) (lv' := [(5, .int (x5 + 1)), (0, .ref (b 0)), (1, .int p1), (2, .int p2), (3, .int p3), (4, .int x4)]) hx hb dX0_gives_164 hl (k := 5) rfl rfl (by decide) rfl (fun ls hl => ?_)
    refine lv_goto (tgt := 13) hx hb dX0_gives_167 (by decide) ?_
    exact hB13 x4 (x5 + 1) stack H locs ls hW hS (lv_sub hl [1, 2, 3, 4, 5, 0] rfl) hv
  have h_j_X0_gives_118 : ∀ (B13 : Int32 → Int32 → (Nat → Int32) → Prop) (hB13 : ∀ (x4 : Int32) (x5 : Int32) (stack : Nat → Int32) (H : Heap) (locs : List Loc) (ls : Array Slot), wo G A (wd_X0_1 G b most size steps stack) H → va_S A s.heap H locs → lv_has ls 7 [(0, .ref (b 0)), (1, .int p1), (2, .int p2), (3, .int p3), (4, .int x4), (5, .int x5)] → B13 x4 x5 stack → W p l e (rmm 1 23) s m args below meth c H locs 0 0 Q (F0 m 13 ls [])), ∀ (x4 : Int32) (x5 : Int32) (t1 : Int32) (t2 : Int32) (stack : Nat → Int32) (H : Heap) (locs : List Loc) (ls : Array Slot), t2 = 0 ∨ t2 = 1 → wo G A (wd_X0_1 G b most size steps stack) H → va_S A s.heap H locs → lv_has ls 7 [(0, .ref (b 0)), (1, .int p1), (2, .int p2), (3, .int p3), (4, .int x4), (5, .int x5)] → j_X0_gives_118 p1 p2 p3 most size steps B13 K x4 x5 t1 t2 stack → W p l e (rmm 1 23) s m args below meth c H locs 0 0 Q (F0 m 118 ls [.int t2, .int t1, .ref (b 2)]) := by
    intro B13 hB13 x4 x5 t1 t2 stack H locs ls hz_t2 hW hS hl hv
    obtain ⟨h_16, hv⟩ := hv
    refine q_iast C hW hS 2 rfl h_16 dX0_gives_118 (fun H locs hW hS => ?_)
    have hW : wo G A (wd_X0_1 G b most size steps (upd stack t1.toNatClampNeg t2)) H := hW
    refine lv_goto (tgt := 164) hx hb dX0_gives_119 (by decide) ?_
    exact h_j_X0_gives_164 B13 hB13 x4 x5 (upd stack t1.toNatClampNeg t2) H locs ls hW hS (lv_sub hl [0, 1, 2, 3, 4, 5] rfl) hv
  have h_j_X0_gives_71 : ∀ (B13 : Int32 → Int32 → (Nat → Int32) → Prop) (hB13 : ∀ (x4 : Int32) (x5 : Int32) (stack : Nat → Int32) (H : Heap) (locs : List Loc) (ls : Array Slot), wo G A (wd_X0_1 G b most size steps stack) H → va_S A s.heap H locs → lv_has ls 7 [(0, .ref (b 0)), (1, .int p1), (2, .int p2), (3, .int p3), (4, .int x4), (5, .int x5)] → B13 x4 x5 stack → W p l e (rmm 1 23) s m args below meth c H locs 0 0 Q (F0 m 13 ls [])), ∀ (x4 : Int32) (x5 : Int32) (t1 : Int32) (t2 : Int32) (stack : Nat → Int32) (H : Heap) (locs : List Loc) (ls : Array Slot), wo G A (wd_X0_1 G b most size steps stack) H → va_S A s.heap H locs → lv_has ls 7 [(0, .ref (b 0)), (1, .int p1), (2, .int p2), (3, .int p3), (4, .int x4), (5, .int x5)] → j_X0_gives_71 p1 p2 p3 most size steps B13 K x4 x5 t1 t2 stack → W p l e (rmm 1 23) s m args below meth c H locs 0 0 Q (F0 m 71 ls [.int t2, .int t1, .ref (b 2)]) := by
    intro B13 hB13 x4 x5 t1 t2 stack H locs ls hW hS hl hv
    obtain ⟨h_21, hv⟩ := hv
    refine q_iast C hW hS 2 rfl h_21 dX0_gives_71 (fun H locs hW hS => ?_)
    have hW : wo G A (wd_X0_1 G b most size steps (upd stack t1.toNatClampNeg t2)) H := hW
    refine lv_iinc (v := (x4 + 1)) (lv' := [(4, .int (x4 + 1)), (0, .ref (b 0)), (1, .int p1), (2, .int p2), (3, .int p3), (5, .int x5)]) hx hb dX0_gives_72 hl (k := 4) rfl rfl (by decide) rfl (fun ls hl => ?_)
    refine lv_goto (tgt := 164) hx hb dX0_gives_75 (by decide) ?_
    exact h_j_X0_gives_164 B13 hB13 (x4 + 1) x5 (upd stack t1.toNatClampNeg t2) H locs ls hW hS (lv_sub hl [1, 2, 3, 4, 0, 5] rfl) hv
  have h_l_X0_gives_13 : ∀ (n : Nat), ∀ (x4 : Int32) (x5 : Int32) (stack : Nat → Int32) (H : Heap) (locs : List Loc) (ls : Array Slot), wo G A (wd_X0_1 G b most size steps stack) H → va_S A s.heap H locs → lv_has ls 7 [(0, .ref (b 0)), (1, .int p1), (2, .int p2), (3, .int p3), (4, .int x4), (5, .int x5)] → l_X0_gives_13 p1 p2 p3 most size steps K n x4 x5 stack → W p l e (rmm 1 23) s m args below meth c H locs 0 0 Q (F0 m 13 ls []) := by
    intro n
    induction n with
    | zero =>
      intro x4 x5 stack H locs ls hW hS hl hv
      exact False.elim hv
    | succ n ih =>
      intro x4 x5 stack H locs ls hW hS hl hv
      refine lv_iload hx hb dX0_gives_13 (lv_at hl 5 rfl) ?_
      refine lv_aload_n hx hb dX0_gives_15 rfl (lv_at hl 0 rfl) ?_
      refine q_get C kc0 hW 0 rfl 2 (by decide) fl_X0_31 rfl rfl dX0_gives_16 ?_
      refine lv_icmp_ge (tgt := 170) hx hb dX0_gives_19 (by decide) (fun c_2 => ?_) (fun c_2 => ?_)
      · replace hv := hv.1 c_2
        refine lv_iconst (v := 0) hx hb dX0_gives_170 kic_0 ?_
        refine lv_aload_n hx hb dX0_gives_171 rfl (lv_at hl 0 rfl) ?_
        refine q_get C kc0 hW 0 rfl 0 (by decide) fl_X0_18 rfl rfl dX0_gives_172 ?_
        refine lv_aload_n hx hb dX0_gives_175 rfl (lv_at hl 0 rfl) ?_
        refine q_get C kc0 hW 0 rfl 3 (by decide) fl_X0_15 rfl rfl dX0_gives_176 ?_
        refine lv_iconst (v := 0) hx hb dX0_gives_179 kic_0 ?_
        obtain ⟨h_3, hv⟩ := hv
        refine q_iald C hW 2 rfl h_3 dX0_gives_180 ?_
        refine va_mmin hx hb (C.1.2.2.1.trans hl.1.symm) C.1.2.2.2.1 (C.hts ml_X0_22) (C.hts st_mmin) (C.hts ini_javalangMath) (C.hts cd_mmin) (Nat.le_of_ble_eq_true rfl) (Nat.le_of_ble_eq_true rfl) (Nat.zero_le _) (Nat.zero_le _) dX0_gives_181 ?_
        refine va_mmax hx hb (C.1.2.2.1.trans hl.1.symm) C.1.2.2.2.1 (C.hts ml_X0_28) (C.hts st_mmax) (C.hts ini_javalangMath) (C.hts cd_mmax) (Nat.le_of_ble_eq_true rfl) (Nat.le_of_ble_eq_true rfl) (Nat.zero_le _) (Nat.zero_le _) dX0_gives_184 ?_
        exact ret (stack) (if (0 : Int32) < (if (stack (0 : Int32).toNatClampNeg) < most then (stack (0 : Int32).toNatClampNeg) else most) then (if (stack (0 : Int32).toNatClampNeg) < most then (stack (0 : Int32).toNatClampNeg) else most) else (0 : Int32)) H locs ls _ rfl hW hS hv dX0_gives_187
      · replace hv := hv.2 c_2
        refine lv_aload_n hx hb dX0_gives_22 rfl (lv_at hl 0 rfl) ?_
        refine q_get C kc0 hW 0 rfl 1 (by decide) fl_X0_9 rfl rfl dX0_gives_23 ?_
        refine lv_iload hx hb dX0_gives_26 (lv_at hl 5 rfl) ?_
        obtain ⟨h_4, hv⟩ := hv
        refine q_iald C hW 1 rfl h_4 dX0_gives_28 ?_
        refine lv_istore (lv' := [(6, .int (steps x5.toNatClampNeg)), (0, .ref (b 0)), (1, .int p1), (2, .int p2), (3, .int p3), (4, .int x4), (5, .int x5)]) hx hb dX0_gives_29 hl (by decide) rfl (fun ls hl => ?_)
        refine lv_iload hx hb dX0_gives_31 (lv_at hl 0 rfl) ?_
        refine lv_bipush (v := (-3)) hx hb dX0_gives_33 kbp_m3 ?_
        refine lv_icmp_lt (tgt := 78) hx hb dX0_gives_35 (by decide) (fun c_5 => ?_) (fun c_5 => ?_)
        · replace hv := hv.1 c_5
          refine lv_iload hx hb dX0_gives_78 (lv_at hl 0 rfl) ?_
          refine lv_bipush (v := (-33)) hx hb dX0_gives_80 kbp_m33 ?_
          refine lv_icmp_ne (tgt := 122) hx hb dX0_gives_82 (by decide) (fun c_6 => ?_) (fun c_6 => ?_)
          · replace hv := hv.1 c_6
            refine lv_iload hx hb dX0_gives_122 (lv_at hl 5 rfl) ?_
            refine lv_iconst (v := 2) hx hb dX0_gives_124 kic_2 ?_
            refine lv_icmp_ge (tgt := 130) hx hb dX0_gives_125 (by decide) (fun c_7 => ?_) (fun c_7 => ?_)
            · replace hv := hv.1 c_7
              refine lv_iinc (v := (x4 + (-1))) (lv' := [(4, .int (x4 + (-1))), (6, .int (steps x5.toNatClampNeg)), (0, .ref (b 0)), (1, .int p1), (2, .int p2), (3, .int p3), (5, .int x5)]) hx hb dX0_gives_130 hl (k := 5) rfl rfl (by decide) rfl (fun ls hl => ?_)
              refine lv_aload_n hx hb dX0_gives_133 rfl (lv_at hl 2 rfl) ?_
              refine q_get C kc0 hW 0 rfl 3 (by decide) fl_X0_15 rfl rfl dX0_gives_134 ?_
              refine lv_iload hx hb dX0_gives_137 (lv_at hl 0 rfl) ?_
              refine lv_iconst (v := 1) hx hb dX0_gives_139 kic_1 ?_
              refine lv_isub hx hb dX0_gives_140 ?_
              refine lv_iload hx hb dX0_gives_141 (lv_at hl 1 rfl) ?_
              refine lv_ineg hx hb dX0_gives_143 ?_
              refine lv_aload_n hx hb dX0_gives_144 rfl (lv_at hl 2 rfl) ?_
              refine q_get C kc0 hW 0 rfl 3 (by decide) fl_X0_15 rfl rfl dX0_gives_145 ?_
              refine lv_iload hx hb dX0_gives_148 (lv_at hl 0 rfl) ?_
              refine lv_iconst (v := 1) hx hb dX0_gives_150 kic_1 ?_
              refine lv_isub hx hb dX0_gives_151 ?_
              obtain ⟨h_8, hv⟩ := hv
              refine q_iald C hW 2 rfl h_8 dX0_gives_152 ?_
              refine lv_aload_n hx hb dX0_gives_153 rfl (lv_at hl 2 rfl) ?_
              refine q_get C kc0 hW 0 rfl 3 (by decide) fl_X0_15 rfl rfl dX0_gives_154 ?_
              refine lv_iload hx hb dX0_gives_157 (lv_at hl 0 rfl) ?_
              obtain ⟨h_9, hv⟩ := hv
              refine q_iald C hW 2 rfl h_9 dX0_gives_159 ?_
              refine q_callS (rest := [.int ((x4 + (-1)) - (1 : Int32)), .ref (b 2)]) (n := 3) C (c_X0_joined l G (-(steps x5.toNatClampNeg)) (stack ((x4 + (-1)) - (1 : Int32)).toNatClampNeg) (stack (x4 + (-1)).toNatClampNeg) _ hv) ml_X0_44 kb_X0_joined rfl ⟨⟨rfl, rfl⟩, (Nat.le_of_ble_eq_true rfl), (Nat.le_of_ble_eq_true rfl)⟩ hW hS hl.1 rfl (Nat.le_of_ble_eq_true rfl) dX0_gives_160 ⟨Nat.zero_le _, Nat.zero_le _⟩ (fun r_10 u_11 H locs hv hW hS => ?_)
              try dsimp only at hv
              obtain ⟨h_12, hv⟩ := hv
              refine q_iast C hW hS 2 rfl h_12 dX0_gives_163 (fun H locs hW hS => ?_)
              have hW : wo G A (wd_X0_1 G b most size steps (upd stack ((x4 + (-1)) - (1 : Int32)).toNatClampNeg r_10)) H := hW
              exact h_j_X0_gives_164 (fun x4' x5' stack' => l_X0_gives_13 p1 p2 p3 most size steps K n x4' x5' stack') ih (x4 + (-1)) x5 (upd stack ((x4 + (-1)) - (1 : Int32)).toNatClampNeg r_10) H locs ls hW hS (lv_sub hl [2, 3, 4, 5, 0, 6] rfl) hv
            · replace hv := hv.2 c_7
              refine lv_iconst (v := 0) hx hb dX0_gives_128 kic_0 ?_
              exact ret (stack) (0 : Int32) H locs ls _ rfl hW hS hv dX0_gives_129
          · replace hv := hv.2 c_6
            refine lv_iload hx hb dX0_gives_85 (lv_at hl 5 rfl) ?_
            refine lv_iconst (v := 1) hx hb dX0_gives_87 kic_1 ?_
            refine lv_icmp_ge (tgt := 93) hx hb dX0_gives_88 (by decide) (fun c_13 => ?_) (fun c_13 => ?_)
            · replace hv := hv.1 c_13
              refine lv_aload_n hx hb dX0_gives_93 rfl (lv_at hl 1 rfl) ?_
              refine q_get C kc0 hW 0 rfl 3 (by decide) fl_X0_15 rfl rfl dX0_gives_94 ?_
              refine lv_iload hx hb dX0_gives_97 (lv_at hl 5 rfl) ?_
              refine lv_iconst (v := 1) hx hb dX0_gives_99 kic_1 ?_
              refine lv_isub hx hb dX0_gives_100 ?_
              refine lv_aload_n hx hb dX0_gives_101 rfl (lv_at hl 1 rfl) ?_
              refine q_get C kc0 hW 0 rfl 3 (by decide) fl_X0_15 rfl rfl dX0_gives_102 ?_
              refine lv_iload hx hb dX0_gives_105 (lv_at hl 5 rfl) ?_
              refine lv_iconst (v := 1) hx hb dX0_gives_107 kic_1 ?_
              refine lv_isub hx hb dX0_gives_108 ?_
              obtain ⟨h_14, hv⟩ := hv
              refine q_iald C hW 2 rfl h_14 dX0_gives_109 ?_
              refine lv_if_ne (tgt := 117) hx hb dX0_gives_110 (by decide) (fun c_15 => ?_) (fun c_15 => ?_)
              · replace hv := hv.1 c_15
                refine lv_iconst (v := 0) hx hb dX0_gives_117 kic_0 ?_
                exact h_j_X0_gives_118 (fun x4' x5' stack' => l_X0_gives_13 p1 p2 p3 most size steps K n x4' x5' stack') ih x4 x5 (x4 - (1 : Int32)) (0 : Int32) stack H locs ls (Or.inl rfl) hW hS (lv_sub hl [1, 2, 3, 4, 5, 6] rfl) hv
              · replace hv := hv.2 c_15
                refine lv_iconst (v := 1) hx hb dX0_gives_113 kic_1 ?_
                refine lv_goto (tgt := 118) hx hb dX0_gives_114 (by decide) ?_
                exact h_j_X0_gives_118 (fun x4' x5' stack' => l_X0_gives_13 p1 p2 p3 most size steps K n x4' x5' stack') ih x4 x5 (x4 - (1 : Int32)) (1 : Int32) stack H locs ls (Or.inr rfl) hW hS (lv_sub hl [1, 2, 3, 4, 5, 6] rfl) hv
            · replace hv := hv.2 c_13
              refine lv_iconst (v := 0) hx hb dX0_gives_91 kic_0 ?_
              exact ret (stack) (0 : Int32) H locs ls _ rfl hW hS hv dX0_gives_92
        · replace hv := hv.2 c_5
          refine lv_iload hx hb dX0_gives_38 (lv_at hl 5 rfl) ?_
          refine lv_bipush (v := 60) hx hb dX0_gives_40 kbp_60 ?_
          refine lv_icmp_lt (tgt := 47) hx hb dX0_gives_42 (by decide) (fun c_17 => ?_) (fun c_17 => ?_)
          · replace hv := hv.1 c_17
            refine lv_aload_n hx hb dX0_gives_47 rfl (lv_at hl 1 rfl) ?_
            refine q_get C kc0 hW 0 rfl 3 (by decide) fl_X0_15 rfl rfl dX0_gives_48 ?_
            refine lv_iload hx hb dX0_gives_51 (lv_at hl 5 rfl) ?_
            refine lv_iload hx hb dX0_gives_53 (lv_at hl 0 rfl) ?_
            refine lv_if_lt (tgt := 63) hx hb dX0_gives_55 (by decide) (fun c_18 => ?_) (fun c_18 => ?_)
            · replace hv := hv.1 c_18
              refine lv_iload hx hb dX0_gives_63 (lv_at hl 0 rfl) ?_
              refine lv_iload_n hx hb dX0_gives_65 rfl (lv_at hl 2 rfl) ?_
              refine lv_iload_n hx hb dX0_gives_66 rfl (lv_at hl 3 rfl) ?_
              refine lv_iload_n hx hb dX0_gives_67 rfl (lv_at hl 4 rfl) ?_
              refine q_callS (rest := [.int x4, .ref (b 2)]) (n := 4) C (c_X0_named l G (steps x5.toNatClampNeg) p1 p2 p3 _ hv) ml_X0_40 kb_X0_named rfl ⟨⟨rfl, rfl⟩, (Nat.le_of_ble_eq_true rfl), (Nat.le_of_ble_eq_true rfl)⟩ hW hS hl.1 rfl (Nat.le_of_ble_eq_true rfl) dX0_gives_68 ⟨Nat.zero_le _, Nat.zero_le _⟩ (fun r_19 u_20 H locs hv hW hS => ?_)
              try dsimp only at hv
              exact h_j_X0_gives_71 (fun x4' x5' stack' => l_X0_gives_13 p1 p2 p3 most size steps K n x4' x5' stack') ih x4 x5 x4 r_19 stack H locs ls hW hS (lv_sub hl [1, 2, 3, 4, 5, 6] rfl) hv
            · replace hv := hv.2 c_18
              refine lv_iload hx hb dX0_gives_58 (lv_at hl 0 rfl) ?_
              refine lv_goto (tgt := 71) hx hb dX0_gives_60 (by decide) ?_
              exact h_j_X0_gives_71 (fun x4' x5' stack' => l_X0_gives_13 p1 p2 p3 most size steps K n x4' x5' stack') ih x4 x5 x4 (steps x5.toNatClampNeg) stack H locs ls hW hS (lv_sub hl [1, 2, 3, 4, 5, 6] rfl) hv
          · replace hv := hv.2 c_17
            refine lv_iconst (v := 0) hx hb dX0_gives_45 kic_0 ?_
            exact ret (stack) (0 : Int32) H locs ls _ rfl hW hS hv dX0_gives_46
  refine lv_iconst (v := 0) hx hb dX0_gives_0 kic_0 ?_
  refine lv_istore (lv' := [(4, .int (0 : Int32)), (0, .ref (b 0)), (1, .int p1), (2, .int p2), (3, .int p3)]) hx hb dX0_gives_1 hl (by decide) rfl (fun ls hl => ?_)
  refine lv_aload_n hx hb dX0_gives_3 rfl (lv_at hl 1 rfl) ?_
  refine q_get C kc0 hW 0 rfl 3 (by decide) fl_X0_15 rfl rfl dX0_gives_4 ?_
  refine lv_iconst (v := 0) hx hb dX0_gives_7 kic_0 ?_
  refine lv_iload_n hx hb dX0_gives_8 rfl (lv_at hl 2 rfl) ?_
  obtain ⟨h_1, hv⟩ := hv
  refine q_iast C hW hS 2 rfl h_1 dX0_gives_9 (fun H locs hW hS => ?_)
  have hW : wo G A (wd_X0_1 G b most size steps (upd stack (0 : Int32).toNatClampNeg p1)) H := hW
  refine lv_iconst (v := 0) hx hb dX0_gives_10 kic_0 ?_
  refine lv_istore (lv' := [(5, .int (0 : Int32)), (4, .int (0 : Int32)), (0, .ref (b 0)), (1, .int p1), (2, .int p2), (3, .int p3)]) hx hb dX0_gives_11 hl (by decide) rfl (fun ls hl => ?_)
  obtain ⟨n_22, hv⟩ := hv
  exact h_l_X0_gives_13 n_22 (0 : Int32) (0 : Int32) (upd stack (0 : Int32).toNatClampNeg p1) H locs ls hW hS (lv_sub hl [2, 3, 4, 5, 1, 0] rfl) hv
set_option maxHeartbeats 4000000 in
set_option maxRecDepth 100000 in
theorem c_X2_isMissing (l : Launch) (G : Gt) (b : Nat → Nat) (bits : Int32) (size : Int32) (K : Int32 → Prop) (hv : v_X2_isMissing bits K) : CI l G yX2_isMissing (.code yX2_isMissing cX2_isMissing 1 (some .boolean) :: wsG) (rmm 0 0) [.ref (b 0)] (wd_X2_0 G b bits size) (S := Unit) (fun u => wd_X2_0 G b bits size) (fun r u => (r = 0 ∨ r = 1) ∧ K r) := by
  refine ci_intro (by decide) rfl (fun _ => rfl) (Nat.le_of_ble_eq_true rfl) ?_
  intro p e s m args below meth c A H ls Q C hW hS hl ret
  have hx := C.1.1
  have hb := C.1.2.1
  generalize hls : ([] : List Loc) = locs at hS ⊢
  have hl : lv_has ls 1 [(0, .ref (b 0))] := hl
  refine lv_aload_n hx hb dX2_isMissing_0 rfl (lv_at hl 0 rfl) ?_
  refine q_get C kc2 hW 0 rfl 0 (by decide) fl_X2_15 rfl rfl dX2_isMissing_1 ?_
  refine lv_if_ne (tgt := 11) hx hb dX2_isMissing_4 (by decide) (fun c_1 => ?_) (fun c_1 => ?_)
  · replace hv := hv.1 c_1
    refine lv_iconst (v := 0) hx hb dX2_isMissing_11 kic_0 ?_
    exact ret () (0 : Int32) H locs ls _ (bl_narrow (Or.inl rfl)) hW hS ⟨(Or.inl rfl), hv⟩ dX2_isMissing_12
  · replace hv := hv.2 c_1
    refine lv_iconst (v := 1) hx hb dX2_isMissing_7 kic_1 ?_
    refine lv_goto (tgt := 12) hx hb dX2_isMissing_8 (by decide) ?_
    exact ret () (1 : Int32) H locs ls _ (bl_narrow (Or.inr rfl)) hW hS ⟨(Or.inr rfl), hv⟩ dX2_isMissing_12
set_option maxHeartbeats 4000000 in
set_option maxRecDepth 100000 in
theorem c_X2_lay (l : Launch) (G : Gt) (b : Nat → Nat) (bits : Int32) (size : Int32) (numbers : Nat → Int32) (p1 : Int32) (p2 : Int32) (K : Int32 → Int32 → (Nat → Int32) → Prop) (hv : v_X2_lay p1 p2 bits size numbers K) : CV l G yX2_lay (.code yX2_lay cX2_lay 4 none :: wsG) (rmm 1 21) [.ref (b 0), .int p1, .int p2] (wd_X2_1 G b bits size numbers) (S := Int32 × Int32 × (Nat → Int32)) (fun u => wd_X2_1 G b u.1 u.2.1 u.2.2) (fun u => K u.1 u.2.1 u.2.2) := by
  refine cv_intro (by decide) rfl (fun _ => rfl) (Nat.le_of_ble_eq_true rfl) ?_
  intro p e s m args below meth c A H ls Q C hW hS hl ret
  have hx := C.1.1
  have hb := C.1.2.1
  generalize hls : ([] : List Loc) = locs at hS ⊢
  have hl : lv_has ls 4 [(0, .ref (b 0)), (1, .int p1), (2, .int p2)] := hl
  have h_l_X2_lay_32 : ∀ (n : Nat), ∀ (x3 : Int32) (bits : Int32) (size : Int32) (numbers : Nat → Int32) (H : Heap) (locs : List Loc) (ls : Array Slot), wo G A (wd_X2_1 G b bits size numbers) H → va_S A s.heap H locs → lv_has ls 4 [(0, .ref (b 0)), (3, .int x3)] → l_X2_lay_32 p1 p2 K n x3 bits size numbers → W p l e (rmm 1 21) s m args below meth c H locs 0 0 Q (F0 m 32 ls []) := by
    intro n
    induction n with
    | zero =>
      intro x3 bits size numbers H locs ls hW hS hl hv
      exact False.elim hv
    | succ n ih =>
      intro x3 bits size numbers H locs ls hW hS hl hv
      refine lv_iload_n hx hb dX2_lay_32 rfl (lv_at hl 1 rfl) ?_
      refine lv_bipush (v := 24) hx hb dX2_lay_33 kbp_24 ?_
      refine lv_icmp_ge (tgt := 51) hx hb dX2_lay_35 (by decide) (fun c_2 => ?_) (fun c_2 => ?_)
      · replace hv := hv.1 c_2
        exact ret (bits, size, numbers) H locs ls _ hW hS hv dX2_lay_51
      · replace hv := hv.2 c_2
        refine lv_aload_n hx hb dX2_lay_38 rfl (lv_at hl 0 rfl) ?_
        refine q_get C kc2 hW 0 rfl 2 (by decide) fl_X2_9 rfl rfl dX2_lay_39 ?_
        refine lv_iload_n hx hb dX2_lay_42 rfl (lv_at hl 1 rfl) ?_
        refine lv_iconst (v := 0) hx hb dX2_lay_43 kic_0 ?_
        obtain ⟨h_3, hv⟩ := hv
        refine q_iast C hW hS 1 rfl h_3 dX2_lay_44 (fun H locs hW hS => ?_)
        have hW : wo G A (wd_X2_1 G b bits size (upd numbers x3.toNatClampNeg (0 : Int32))) H := hW
        refine lv_iinc (v := (x3 + 1)) (lv' := [(3, .int (x3 + 1)), (0, .ref (b 0))]) hx hb dX2_lay_45 hl (k := 1) rfl rfl (by decide) rfl (fun ls hl => ?_)
        refine lv_goto (tgt := 32) hx hb dX2_lay_48 (by decide) ?_
        exact ih (x3 + 1) bits size (upd numbers x3.toNatClampNeg (0 : Int32)) H locs ls hW hS (lv_sub hl [1, 0] rfl) hv
  have h_j_X2_lay_27 : ∀ (t1 : Int32) (bits : Int32) (size : Int32) (numbers : Nat → Int32) (H : Heap) (locs : List Loc) (ls : Array Slot), wo G A (wd_X2_1 G b bits size numbers) H → va_S A s.heap H locs → lv_has ls 4 [(0, .ref (b 0))] → j_X2_lay_27 p1 p2 K t1 bits size numbers → W p l e (rmm 1 21) s m args below meth c H locs 0 0 Q (F0 m 27 ls [.int t1, .ref (b 0)]) := by
    intro t1 bits size numbers H locs ls hW hS hl hv
    refine q_put C kc2 hW hS 0 rfl 1 (by decide) fl_X2_28 rfl rfl rfl rfl (Nat.le_of_ble_eq_true rfl) dX2_lay_27 (fun H locs hW hS => ?_)
    have hW : wo G A (wd_X2_1 G b bits t1 numbers) H := hW
    refine lv_iconst (v := 0) hx hb dX2_lay_30 kic_0 ?_
    refine lv_istore_n (lv' := [(3, .int (0 : Int32)), (0, .ref (b 0))]) hx hb dX2_lay_31 rfl hl (by decide) rfl (fun ls hl => ?_)
    obtain ⟨n_4, hv⟩ := hv
    exact h_l_X2_lay_32 n_4 (0 : Int32) bits t1 numbers H locs ls hW hS (lv_sub hl [1, 0] rfl) hv
  refine lv_aload_n hx hb dX2_lay_0 rfl (lv_at hl 0 rfl) ?_
  refine lv_iload_n hx hb dX2_lay_1 rfl (lv_at hl 1 rfl) ?_
  refine q_put C kc2 hW hS 0 rfl 0 (by decide) fl_X2_15 rfl rfl rfl rfl (Nat.le_of_ble_eq_true rfl) dX2_lay_2 (fun H locs hW hS => ?_)
  have hW : wo G A (wd_X2_1 G b p1 size numbers) H := hW
  refine lv_aload_n hx hb dX2_lay_5 rfl (lv_at hl 0 rfl) ?_
  refine lv_aload_n hx hb dX2_lay_6 rfl (lv_at hl 0 rfl) ?_
  refine q_get C kc2 hW 0 rfl 0 (by decide) fl_X2_15 rfl rfl dX2_lay_7 ?_
  refine lv_if_ne (tgt := 17) hx hb dX2_lay_10 (by decide) (fun c_1 => ?_) (fun c_1 => ?_)
  · replace hv := hv.1 c_1
    refine lv_iconst (v := 0) hx hb dX2_lay_17 kic_0 ?_
    refine lv_iload_n hx hb dX2_lay_18 rfl (lv_at hl 2 rfl) ?_
    refine lv_bipush (v := 24) hx hb dX2_lay_19 kbp_24 ?_
    refine va_mmin hx hb (C.1.2.2.1.trans hl.1.symm) C.1.2.2.2.1 (C.hts ml_X2_19) (C.hts st_mmin) (C.hts ini_javalangMath) (C.hts cd_mmin) (Nat.le_of_ble_eq_true rfl) (Nat.le_of_ble_eq_true rfl) (Nat.zero_le _) (Nat.zero_le _) dX2_lay_21 ?_
    refine va_mmax hx hb (C.1.2.2.1.trans hl.1.symm) C.1.2.2.2.1 (C.hts ml_X2_25) (C.hts st_mmax) (C.hts ini_javalangMath) (C.hts cd_mmax) (Nat.le_of_ble_eq_true rfl) (Nat.le_of_ble_eq_true rfl) (Nat.zero_le _) (Nat.zero_le _) dX2_lay_24 ?_
    exact h_j_X2_lay_27 (if (0 : Int32) < (if (24 : Int32) < p2 then (24 : Int32) else p2) then (if (24 : Int32) < p2 then (24 : Int32) else p2) else (0 : Int32)) p1 size numbers H locs ls hW hS (lv_sub hl [0] rfl) hv
  · replace hv := hv.2 c_1
    refine lv_iconst (v := 0) hx hb dX2_lay_13 kic_0 ?_
    refine lv_goto (tgt := 27) hx hb dX2_lay_14 (by decide) ?_
    exact h_j_X2_lay_27 (0 : Int32) p1 size numbers H locs ls hW hS (lv_sub hl [0] rfl) hv
set_option maxHeartbeats 4000000 in
set_option maxRecDepth 100000 in
theorem c_X2_write (l : Launch) (G : Gt) (b : Nat → Nat) (bits : Int32) (size : Int32) (numbers : Nat → Int32) (p1 : Int32) (p2 : Int32) (K : (Nat → Int32) → Prop) (hv : v_X2_write p1 p2 bits size numbers K) : CV l G yX2_write (.code yX2_write cX2_write 3 none :: wsG) (rmm 0 0) [.ref (b 0), .int p1, .int p2] (wd_X2_1 G b bits size numbers) (S := (Nat → Int32)) (fun u => wd_X2_1 G b bits size u) (fun u => K u) := by
  refine cv_intro (by decide) rfl (fun _ => rfl) (Nat.le_of_ble_eq_true rfl) ?_
  intro p e s m args below meth c A H ls Q C hW hS hl ret
  have hx := C.1.1
  have hb := C.1.2.1
  generalize hls : ([] : List Loc) = locs at hS ⊢
  have hl : lv_has ls 3 [(0, .ref (b 0)), (1, .int p1), (2, .int p2)] := hl
  have h_j_X2_write_40 : ∀ (t1 : Int32) (t2 : Int32) (numbers : Nat → Int32) (H : Heap) (locs : List Loc) (ls : Array Slot), wo G A (wd_X2_1 G b bits size numbers) H → va_S A s.heap H locs → lv_has ls 3 [] → j_X2_write_40 p1 p2 bits size K t1 t2 numbers → W p l e (rmm 0 0) s m args below meth c H locs 0 0 Q (F0 m 40 ls [.int t2, .int t1, .ref (b 1)]) := by
    intro t1 t2 numbers H locs ls hW hS hl hv
    obtain ⟨h_4, hv⟩ := hv
    refine q_iast C hW hS 1 rfl h_4 dX2_write_40 (fun H locs hW hS => ?_)
    have hW : wo G A (wd_X2_1 G b bits size (upd numbers t1.toNatClampNeg t2)) H := hW
    exact ret ((upd numbers t1.toNatClampNeg t2)) H locs ls _ hW hS hv dX2_write_41
  refine lv_iload_n hx hb dX2_write_0 rfl (lv_at hl 1 rfl) ?_
  refine lv_if_lt (tgt := 41) hx hb dX2_write_1 (by decide) (fun c_1 => ?_) (fun c_1 => ?_)
  · replace hv := hv.1 c_1
    exact ret (numbers) H locs ls _ hW hS hv dX2_write_41
  · replace hv := hv.2 c_1
    refine lv_iload_n hx hb dX2_write_4 rfl (lv_at hl 1 rfl) ?_
    refine lv_aload_n hx hb dX2_write_5 rfl (lv_at hl 0 rfl) ?_
    refine q_get C kc2 hW 0 rfl 1 (by decide) fl_X2_28 rfl rfl dX2_write_6 ?_
    refine lv_icmp_ge (tgt := 41) hx hb dX2_write_9 (by decide) (fun c_2 => ?_) (fun c_2 => ?_)
    · replace hv := hv.1 c_2
      exact ret (numbers) H locs ls _ hW hS hv dX2_write_41
    · replace hv := hv.2 c_2
      refine lv_aload_n hx hb dX2_write_12 rfl (lv_at hl 0 rfl) ?_
      refine q_get C kc2 hW 0 rfl 2 (by decide) fl_X2_9 rfl rfl dX2_write_13 ?_
      refine lv_iload_n hx hb dX2_write_16 rfl (lv_at hl 1 rfl) ?_
      refine lv_aload_n hx hb dX2_write_17 rfl (lv_at hl 0 rfl) ?_
      refine q_get C kc2 hW 0 rfl 0 (by decide) fl_X2_15 rfl rfl dX2_write_18 ?_
      refine lv_bipush (v := 32) hx hb dX2_write_21 kbp_32 ?_
      refine lv_icmp_ne (tgt := 30) hx hb dX2_write_23 (by decide) (fun c_3 => ?_) (fun c_3 => ?_)
      · replace hv := hv.1 c_3
        refine lv_iload_n hx hb dX2_write_30 rfl (lv_at hl 2 rfl) ?_
        refine lv_iconst (v := 1) hx hb dX2_write_31 kic_1 ?_
        refine lv_aload_n hx hb dX2_write_32 rfl (lv_at hl 0 rfl) ?_
        refine q_get C kc2 hW 0 rfl 0 (by decide) fl_X2_15 rfl rfl dX2_write_33 ?_
        refine lv_ishl hx hb dX2_write_36 ?_
        refine lv_iconst (v := 1) hx hb dX2_write_37 kic_1 ?_
        refine lv_isub hx hb dX2_write_38 ?_
        refine lv_iand hx hb dX2_write_39 ?_
        exact h_j_X2_write_40 p1 (p2 &&& (((1 : Int32) <<< (bits &&& 31)) - (1 : Int32))) numbers H locs ls hW hS (lv_sub hl [] rfl) hv
      · replace hv := hv.2 c_3
        refine lv_iload_n hx hb dX2_write_26 rfl (lv_at hl 2 rfl) ?_
        refine lv_goto (tgt := 40) hx hb dX2_write_27 (by decide) ?_
        exact h_j_X2_write_40 p1 p2 numbers H locs ls hW hS (lv_sub hl [] rfl) hv
set_option maxHeartbeats 4000000 in
set_option maxRecDepth 100000 in
theorem c_X2_holds (l : Launch) (G : Gt) (b : Nat → Nat) (bits : Int32) (size : Int32) (p1 : Int32) (p2 : Int32) (K : Int32 → Prop) (hv : v_X2_holds p1 p2 size K) : CI l G yX2_holds (.code yX2_holds cX2_holds 3 (some .boolean) :: wsG) (rmm 0 0) [.ref (b 0), .int p1, .int p2] (wd_X2_0 G b bits size) (S := Unit) (fun u => wd_X2_0 G b bits size) (fun r u => (r = 0 ∨ r = 1) ∧ K r) := by
  refine ci_intro (by decide) rfl (fun _ => rfl) (Nat.le_of_ble_eq_true rfl) ?_
  intro p e s m args below meth c A H ls Q C hW hS hl ret
  have hx := C.1.1
  have hb := C.1.2.1
  generalize hls : ([] : List Loc) = locs at hS ⊢
  have hl : lv_has ls 3 [(0, .ref (b 0)), (1, .int p1), (2, .int p2)] := hl
  refine lv_iload_n hx hb dX2_holds_0 rfl (lv_at hl 2 rfl) ?_
  refine lv_if_lt (tgt := 30) hx hb dX2_holds_1 (by decide) (fun c_1 => ?_) (fun c_1 => ?_)
  · replace hv := hv.1 c_1
    refine lv_iconst (v := 0) hx hb dX2_holds_30 kic_0 ?_
    exact ret () (0 : Int32) H locs ls _ (bl_narrow (Or.inl rfl)) hW hS ⟨(Or.inl rfl), hv⟩ dX2_holds_31
  · replace hv := hv.2 c_1
    refine lv_iload_n hx hb dX2_holds_4 rfl (lv_at hl 1 rfl) ?_
    refine lv_if_lt (tgt := 30) hx hb dX2_holds_5 (by decide) (fun c_2 => ?_) (fun c_2 => ?_)
    · replace hv := hv.1 c_2
      refine lv_iconst (v := 0) hx hb dX2_holds_30 kic_0 ?_
      exact ret () (0 : Int32) H locs ls _ (bl_narrow (Or.inl rfl)) hW hS ⟨(Or.inl rfl), hv⟩ dX2_holds_31
    · replace hv := hv.2 c_2
      refine lv_iload_n hx hb dX2_holds_8 rfl (lv_at hl 2 rfl) ?_
      refine lv_aload_n hx hb dX2_holds_9 rfl (lv_at hl 0 rfl) ?_
      refine q_get C kc2 hW 0 rfl 1 (by decide) fl_X2_28 rfl rfl dX2_holds_10 ?_
      refine lv_icmp_gt (tgt := 30) hx hb dX2_holds_13 (by decide) (fun c_3 => ?_) (fun c_3 => ?_)
      · replace hv := hv.1 c_3
        refine lv_iconst (v := 0) hx hb dX2_holds_30 kic_0 ?_
        exact ret () (0 : Int32) H locs ls _ (bl_narrow (Or.inl rfl)) hW hS ⟨(Or.inl rfl), hv⟩ dX2_holds_31
      · replace hv := hv.2 c_3
        refine lv_iload_n hx hb dX2_holds_16 rfl (lv_at hl 1 rfl) ?_
        refine lv_aload_n hx hb dX2_holds_17 rfl (lv_at hl 0 rfl) ?_
        refine q_get C kc2 hW 0 rfl 1 (by decide) fl_X2_28 rfl rfl dX2_holds_18 ?_
        refine lv_iload_n hx hb dX2_holds_21 rfl (lv_at hl 2 rfl) ?_
        refine lv_isub hx hb dX2_holds_22 ?_
        refine lv_icmp_gt (tgt := 30) hx hb dX2_holds_23 (by decide) (fun c_4 => ?_) (fun c_4 => ?_)
        · replace hv := hv.1 c_4
          refine lv_iconst (v := 0) hx hb dX2_holds_30 kic_0 ?_
          exact ret () (0 : Int32) H locs ls _ (bl_narrow (Or.inl rfl)) hW hS ⟨(Or.inl rfl), hv⟩ dX2_holds_31
        · replace hv := hv.2 c_4
          refine lv_iconst (v := 1) hx hb dX2_holds_26 kic_1 ?_
          refine lv_goto (tgt := 31) hx hb dX2_holds_27 (by decide) ?_
          exact ret () (1 : Int32) H locs ls _ (bl_narrow (Or.inr rfl)) hW hS ⟨(Or.inr rfl), hv⟩ dX2_holds_31
set_option maxHeartbeats 4000000 in
set_option maxRecDepth 100000 in
theorem c_X3_copy (l : Launch) (G : Gt) (b : Nat → Nat) (bc : Nat → Nat) (day : Int32) (near : Nat → Int32) (shows : Nat → Int32) (c_day : Int32) (c_near : Nat → Int32) (c_shows : Nat → Int32) (K : Int32 → (Nat → Int32) → (Nat → Int32) → Prop) (hv : v_X3_copy day near shows c_day c_near c_shows K) : CV l G yX3_copy (.code yX3_copy cX3_copy 2 none :: wsG) (rmm 1 60) [.ref (b 0), .ref (bc 0)] (wd_X3_0 G b bc day near shows c_day c_near c_shows) (S := Int32 × (Nat → Int32) × (Nat → Int32)) (fun u => wd_X3_0 G b bc u.1 u.2.1 u.2.2 c_day c_near c_shows) (fun u => K u.1 u.2.1 u.2.2) := by
  refine cv_intro (by decide) rfl (fun _ => rfl) (Nat.le_of_ble_eq_true rfl) ?_
  intro p e s m args below meth c A H ls Q C hW hS hl ret
  have hx := C.1.1
  have hb := C.1.2.1
  generalize hls : ([] : List Loc) = locs at hS ⊢
  have hl : lv_has ls 2 [(0, .ref (b 0)), (1, .ref (bc 0))] := hl
  refine lv_aload_n hx hb dX3_copy_0 rfl (lv_at hl 1 rfl) ?_
  refine q_get C kc3 hW 3 rfl 0 (by decide) fl_X3_9 rfl rfl dX3_copy_1 ?_
  refine lv_iconst (v := 0) hx hb dX3_copy_4 kic_0 ?_
  refine lv_aload_n hx hb dX3_copy_5 rfl (lv_at hl 0 rfl) ?_
  refine q_get C kc3 hW 0 rfl 0 (by decide) fl_X3_9 rfl rfl dX3_copy_6 ?_
  refine lv_iconst (v := 0) hx hb dX3_copy_9 kic_0 ?_
  refine lv_bipush (v := 8) hx hb dX3_copy_10 kbp_8 ?_
  obtain ⟨h_1, hv⟩ := hv
  obtain ⟨h_2, hv⟩ := hv
  obtain ⟨h_3, hv⟩ := hv
  obtain ⟨h_4, hv⟩ := hv
  obtain ⟨h_5, hv⟩ := hv
  refine va_copyi (D := G.1) (cl := GB_cl) (tys := tyG G) hx hb (C.1.2.2.1.trans hl.1.symm) C.1.2.2.2.1 (C.hts ml_X3_18) (C.hts nat_copy) (C.hts st_copy) (C.hts ini_javalangSystem) C.2.1 hW.1 hW.2 hS 4 1 0 0 rfl rfl rfl rfl rfl h_1 h_2 h_3 h_4 h_5 (fun _ _ => rfl) (Nat.le_of_ble_eq_true rfl) (Nat.le_of_ble_eq_true rfl) dX3_copy_12 (fun H locs hP hD hS => ?_)
  have hW : wo G A (wd_X3_0 G b bc day (va_cpy c_near near (0 : Int32).toNatClampNeg (0 : Int32).toNatClampNeg (8 : Int32).toNatClampNeg) shows c_day c_near c_shows) H := ⟨hP, hD⟩
  refine lv_aload_n hx hb dX3_copy_15 rfl (lv_at hl 1 rfl) ?_
  refine q_get C kc3 hW 3 rfl 1 (by decide) fl_X3_15 rfl rfl dX3_copy_16 ?_
  refine lv_iconst (v := 0) hx hb dX3_copy_19 kic_0 ?_
  refine lv_aload_n hx hb dX3_copy_20 rfl (lv_at hl 0 rfl) ?_
  refine q_get C kc3 hW 0 rfl 1 (by decide) fl_X3_15 rfl rfl dX3_copy_21 ?_
  refine lv_iconst (v := 0) hx hb dX3_copy_24 kic_0 ?_
  refine lv_bipush (v := 8) hx hb dX3_copy_25 kbp_8 ?_
  obtain ⟨h_6, hv⟩ := hv
  obtain ⟨h_7, hv⟩ := hv
  obtain ⟨h_8, hv⟩ := hv
  obtain ⟨h_9, hv⟩ := hv
  obtain ⟨h_10, hv⟩ := hv
  refine va_copyi (D := G.1) (cl := GB_cl) (tys := tyG G) hx hb (C.1.2.2.1.trans hl.1.symm) C.1.2.2.2.1 (C.hts ml_X3_18) (C.hts nat_copy) (C.hts st_copy) (C.hts ini_javalangSystem) C.2.1 hW.1 hW.2 hS 5 2 0 0 rfl rfl rfl rfl rfl h_6 h_7 h_8 h_9 h_10 (fun _ _ => rfl) (Nat.le_of_ble_eq_true rfl) (Nat.le_of_ble_eq_true rfl) dX3_copy_27 (fun H locs hP hD hS => ?_)
  have hW : wo G A (wd_X3_0 G b bc day (va_cpy c_near near (0 : Int32).toNatClampNeg (0 : Int32).toNatClampNeg (8 : Int32).toNatClampNeg) (va_cpy c_shows shows (0 : Int32).toNatClampNeg (0 : Int32).toNatClampNeg (8 : Int32).toNatClampNeg) c_day c_near c_shows) H := ⟨hP, hD⟩
  refine lv_aload_n hx hb dX3_copy_30 rfl (lv_at hl 0 rfl) ?_
  refine lv_aload_n hx hb dX3_copy_31 rfl (lv_at hl 1 rfl) ?_
  refine q_get C kc3 hW 3 rfl 2 (by decide) fl_X3_24 rfl rfl dX3_copy_32 ?_
  refine q_put C kc3 hW hS 0 rfl 2 (by decide) fl_X3_24 rfl rfl rfl rfl (Nat.le_of_ble_eq_true rfl) dX3_copy_35 (fun H locs hW hS => ?_)
  have hW : wo G A (wd_X3_0 G b bc c_day (va_cpy c_near near (0 : Int32).toNatClampNeg (0 : Int32).toNatClampNeg (8 : Int32).toNatClampNeg) (va_cpy c_shows shows (0 : Int32).toNatClampNeg (0 : Int32).toNatClampNeg (8 : Int32).toNatClampNeg) c_day c_near c_shows) H := hW
  exact ret (c_day, (va_cpy c_near near (0 : Int32).toNatClampNeg (0 : Int32).toNatClampNeg (8 : Int32).toNatClampNeg), (va_cpy c_shows shows (0 : Int32).toNatClampNeg (0 : Int32).toNatClampNeg (8 : Int32).toNatClampNeg)) H locs ls _ hW hS hv dX3_copy_38
set_option maxHeartbeats 4000000 in
set_option maxRecDepth 100000 in
theorem c_X4_copy (l : Launch) (G : Gt) (b : Nat → Nat) (bc : Nat → Nat) (people : Int32) (taped : Int32) (waiting : Int32) (z : Int32) (kind : Nat → Int32) (em : Nat → Int32) (called : Nat → Int32) (day : Int32) (near : Nat → Int32) (shows : Nat → Int32) (tmost : Int32) (tsize : Int32) (tsteps : Nat → Int32) (gmost : Int32) (gsize : Int32) (gsteps : Nat → Int32) (tape : Nat → Int32) (waits : Nat → Int32) (c_people : Int32) (c_taped : Int32) (c_waiting : Int32) (c_z : Int32) (c_kind : Nat → Int32) (c_em : Nat → Int32) (c_called : Nat → Int32) (c_day : Int32) (c_near : Nat → Int32) (c_shows : Nat → Int32) (c_tmost : Int32) (c_tsize : Int32) (c_tsteps : Nat → Int32) (c_gmost : Int32) (c_gsize : Int32) (c_gsteps : Nat → Int32) (c_tape : Nat → Int32) (c_waits : Nat → Int32) (K : Int32 → Int32 → Int32 → Int32 → (Nat → Int32) → (Nat → Int32) → (Nat → Int32) → Int32 → (Nat → Int32) → (Nat → Int32) → Int32 → (Nat → Int32) → Int32 → (Nat → Int32) → (Nat → Int32) → (Nat → Int32) → Prop) (hv : v_X4_copy people taped waiting z kind em called day near shows tsize tsteps gsize gsteps tape waits c_people c_taped c_waiting c_z c_kind c_em c_called c_day c_near c_shows c_tsize c_tsteps c_gsize c_gsteps c_tape c_waits K) : CV l G yX4_copy (.code yX4_copy cX4_copy 2 none :: wsG) (rmm 2 82) [.ref (b 0), .ref (bc 0)] (wd_X4_0 G b bc people taped waiting z kind em called day near shows tmost tsize tsteps gmost gsize gsteps tape waits c_people c_taped c_waiting c_z c_kind c_em c_called c_day c_near c_shows c_tmost c_tsize c_tsteps c_gmost c_gsize c_gsteps c_tape c_waits) (S := Int32 × Int32 × Int32 × Int32 × (Nat → Int32) × (Nat → Int32) × (Nat → Int32) × Int32 × (Nat → Int32) × (Nat → Int32) × Int32 × (Nat → Int32) × Int32 × (Nat → Int32) × (Nat → Int32) × (Nat → Int32)) (fun u => wd_X4_0 G b bc u.1 u.2.1 u.2.2.1 u.2.2.2.1 u.2.2.2.2.1 u.2.2.2.2.2.1 u.2.2.2.2.2.2.1 u.2.2.2.2.2.2.2.1 u.2.2.2.2.2.2.2.2.1 u.2.2.2.2.2.2.2.2.2.1 tmost u.2.2.2.2.2.2.2.2.2.2.1 u.2.2.2.2.2.2.2.2.2.2.2.1 gmost u.2.2.2.2.2.2.2.2.2.2.2.2.1 u.2.2.2.2.2.2.2.2.2.2.2.2.2.1 u.2.2.2.2.2.2.2.2.2.2.2.2.2.2.1 u.2.2.2.2.2.2.2.2.2.2.2.2.2.2.2 c_people c_taped c_waiting c_z c_kind c_em c_called c_day c_near c_shows c_tmost c_tsize c_tsteps c_gmost c_gsize c_gsteps c_tape c_waits) (fun u => K u.1 u.2.1 u.2.2.1 u.2.2.2.1 u.2.2.2.2.1 u.2.2.2.2.2.1 u.2.2.2.2.2.2.1 u.2.2.2.2.2.2.2.1 u.2.2.2.2.2.2.2.2.1 u.2.2.2.2.2.2.2.2.2.1 u.2.2.2.2.2.2.2.2.2.2.1 u.2.2.2.2.2.2.2.2.2.2.2.1 u.2.2.2.2.2.2.2.2.2.2.2.2.1 u.2.2.2.2.2.2.2.2.2.2.2.2.2.1 u.2.2.2.2.2.2.2.2.2.2.2.2.2.2.1 u.2.2.2.2.2.2.2.2.2.2.2.2.2.2.2) := by
  refine cv_intro (by decide) rfl (fun _ => rfl) (Nat.le_of_ble_eq_true rfl) ?_
  intro p e s m args below meth c A H ls Q C hW hS hl ret
  have hx := C.1.1
  have hb := C.1.2.1
  generalize hls : ([] : List Loc) = locs at hS ⊢
  have hl : lv_has ls 2 [(0, .ref (b 0)), (1, .ref (bc 0))] := hl
  refine lv_aload_n hx hb dX4_copy_0 rfl (lv_at hl 0 rfl) ?_
  refine lv_aload_n hx hb dX4_copy_1 rfl (lv_at hl 1 rfl) ?_
  refine q_get C kc4 hW 13 rfl 0 (by decide) fl_X4_51 rfl rfl dX4_copy_2 ?_
  refine q_put C kc4 hW hS 0 rfl 0 (by decide) fl_X4_51 rfl rfl rfl rfl (Nat.le_of_ble_eq_true rfl) dX4_copy_5 (fun H locs hW hS => ?_)
  have hW : wo G A (wd_X4_0 G b bc c_people taped waiting z kind em called day near shows tmost tsize tsteps gmost gsize gsteps tape waits c_people c_taped c_waiting c_z c_kind c_em c_called c_day c_near c_shows c_tmost c_tsize c_tsteps c_gmost c_gsize c_gsteps c_tape c_waits) H := hW
  refine lv_aload_n hx hb dX4_copy_8 rfl (lv_at hl 1 rfl) ?_
  refine q_get C kc4 hW 13 rfl 1 (by decide) fl_X4_9 rfl rfl dX4_copy_9 ?_
  refine lv_iconst (v := 0) hx hb dX4_copy_12 kic_0 ?_
  refine lv_aload_n hx hb dX4_copy_13 rfl (lv_at hl 0 rfl) ?_
  refine q_get C kc4 hW 0 rfl 1 (by decide) fl_X4_9 rfl rfl dX4_copy_14 ?_
  refine lv_iconst (v := 0) hx hb dX4_copy_17 kic_0 ?_
  refine lv_bipush (v := 8) hx hb dX4_copy_18 kbp_8 ?_
  obtain ⟨h_1, hv⟩ := hv
  obtain ⟨h_2, hv⟩ := hv
  obtain ⟨h_3, hv⟩ := hv
  obtain ⟨h_4, hv⟩ := hv
  obtain ⟨h_5, hv⟩ := hv
  refine va_copyi (D := G.1) (cl := GB_cl) (tys := tyG G) hx hb (C.1.2.2.1.trans hl.1.symm) C.1.2.2.2.1 (C.hts ml_X4_54) (C.hts nat_copy) (C.hts st_copy) (C.hts ini_javalangSystem) C.2.1 hW.1 hW.2 hS 14 1 0 0 rfl rfl rfl rfl rfl h_1 h_2 h_3 h_4 h_5 (fun _ _ => rfl) (Nat.le_of_ble_eq_true rfl) (Nat.le_of_ble_eq_true rfl) dX4_copy_20 (fun H locs hP hD hS => ?_)
  have hW : wo G A (wd_X4_0 G b bc c_people taped waiting z (va_cpy c_kind kind (0 : Int32).toNatClampNeg (0 : Int32).toNatClampNeg (8 : Int32).toNatClampNeg) em called day near shows tmost tsize tsteps gmost gsize gsteps tape waits c_people c_taped c_waiting c_z c_kind c_em c_called c_day c_near c_shows c_tmost c_tsize c_tsteps c_gmost c_gsize c_gsteps c_tape c_waits) H := ⟨hP, hD⟩
  refine lv_aload_n hx hb dX4_copy_23 rfl (lv_at hl 1 rfl) ?_
  refine q_get C kc4 hW 13 rfl 2 (by decide) fl_X4_15 rfl rfl dX4_copy_24 ?_
  refine lv_iconst (v := 0) hx hb dX4_copy_27 kic_0 ?_
  refine lv_aload_n hx hb dX4_copy_28 rfl (lv_at hl 0 rfl) ?_
  refine q_get C kc4 hW 0 rfl 2 (by decide) fl_X4_15 rfl rfl dX4_copy_29 ?_
  refine lv_iconst (v := 0) hx hb dX4_copy_32 kic_0 ?_
  refine lv_bipush (v := 8) hx hb dX4_copy_33 kbp_8 ?_
  obtain ⟨h_6, hv⟩ := hv
  obtain ⟨h_7, hv⟩ := hv
  obtain ⟨h_8, hv⟩ := hv
  obtain ⟨h_9, hv⟩ := hv
  obtain ⟨h_10, hv⟩ := hv
  refine va_copyi (D := G.1) (cl := GB_cl) (tys := tyG G) hx hb (C.1.2.2.1.trans hl.1.symm) C.1.2.2.2.1 (C.hts ml_X4_54) (C.hts nat_copy) (C.hts st_copy) (C.hts ini_javalangSystem) C.2.1 hW.1 hW.2 hS 15 2 0 0 rfl rfl rfl rfl rfl h_6 h_7 h_8 h_9 h_10 (fun _ _ => rfl) (Nat.le_of_ble_eq_true rfl) (Nat.le_of_ble_eq_true rfl) dX4_copy_35 (fun H locs hP hD hS => ?_)
  have hW : wo G A (wd_X4_0 G b bc c_people taped waiting z (va_cpy c_kind kind (0 : Int32).toNatClampNeg (0 : Int32).toNatClampNeg (8 : Int32).toNatClampNeg) (va_cpy c_em em (0 : Int32).toNatClampNeg (0 : Int32).toNatClampNeg (8 : Int32).toNatClampNeg) called day near shows tmost tsize tsteps gmost gsize gsteps tape waits c_people c_taped c_waiting c_z c_kind c_em c_called c_day c_near c_shows c_tmost c_tsize c_tsteps c_gmost c_gsize c_gsteps c_tape c_waits) H := ⟨hP, hD⟩
  refine lv_aload_n hx hb dX4_copy_38 rfl (lv_at hl 1 rfl) ?_
  refine q_get C kc4 hW 13 rfl 3 (by decide) fl_X4_18 rfl rfl dX4_copy_39 ?_
  refine lv_iconst (v := 0) hx hb dX4_copy_42 kic_0 ?_
  refine lv_aload_n hx hb dX4_copy_43 rfl (lv_at hl 0 rfl) ?_
  refine q_get C kc4 hW 0 rfl 3 (by decide) fl_X4_18 rfl rfl dX4_copy_44 ?_
  refine lv_iconst (v := 0) hx hb dX4_copy_47 kic_0 ?_
  refine lv_bipush (v := 8) hx hb dX4_copy_48 kbp_8 ?_
  obtain ⟨h_11, hv⟩ := hv
  obtain ⟨h_12, hv⟩ := hv
  obtain ⟨h_13, hv⟩ := hv
  obtain ⟨h_14, hv⟩ := hv
  obtain ⟨h_15, hv⟩ := hv
  refine va_copyi (D := G.1) (cl := GB_cl) (tys := tyG G) hx hb (C.1.2.2.1.trans hl.1.symm) C.1.2.2.2.1 (C.hts ml_X4_54) (C.hts nat_copy) (C.hts st_copy) (C.hts ini_javalangSystem) C.2.1 hW.1 hW.2 hS 16 3 0 0 rfl rfl rfl rfl rfl h_11 h_12 h_13 h_14 h_15 (fun _ _ => rfl) (Nat.le_of_ble_eq_true rfl) (Nat.le_of_ble_eq_true rfl) dX4_copy_50 (fun H locs hP hD hS => ?_)
  have hW : wo G A (wd_X4_0 G b bc c_people taped waiting z (va_cpy c_kind kind (0 : Int32).toNatClampNeg (0 : Int32).toNatClampNeg (8 : Int32).toNatClampNeg) (va_cpy c_em em (0 : Int32).toNatClampNeg (0 : Int32).toNatClampNeg (8 : Int32).toNatClampNeg) (va_cpy c_called called (0 : Int32).toNatClampNeg (0 : Int32).toNatClampNeg (8 : Int32).toNatClampNeg) day near shows tmost tsize tsteps gmost gsize gsteps tape waits c_people c_taped c_waiting c_z c_kind c_em c_called c_day c_near c_shows c_tmost c_tsize c_tsteps c_gmost c_gsize c_gsteps c_tape c_waits) H := ⟨hP, hD⟩
  refine lv_aload_n hx hb dX4_copy_53 rfl (lv_at hl 0 rfl) ?_
  refine q_get C kc4 hW 0 rfl 4 (by decide) fl_X4_24 rfl rfl dX4_copy_54 ?_
  refine lv_aload_n hx hb dX4_copy_57 rfl (lv_at hl 1 rfl) ?_
  refine q_get C kc4 hW 13 rfl 4 (by decide) fl_X4_24 rfl rfl dX4_copy_58 ?_
  refine q_callNv (rest := []) (n := 1) C (c_X3_copy l G (fun k => b (k + 4)) (fun k => bc (k + 4)) day near shows c_day c_near c_shows _ hv) nm_X4_60 kb_X3_copy rfl ⟨⟨rfl, rfl⟩, (Nat.le_of_ble_eq_true rfl), (Nat.le_of_ble_eq_true rfl)⟩ hW hS [4, 5, 6, 17, 18, 19] rfl rfl kc3 (q0 := 4) rfl hl.1 rfl (Nat.le_of_ble_eq_true rfl) dX4_copy_61 ⟨Nat.zero_le _, Nat.zero_le _⟩ (fun u_17 H locs hv hW hS => ?_)
  obtain ⟨day_16, near_16, shows_16⟩ := u_17
  try dsimp only at hv
  have hW : wo G A (wd_X4_0 G b bc c_people taped waiting z (va_cpy c_kind kind (0 : Int32).toNatClampNeg (0 : Int32).toNatClampNeg (8 : Int32).toNatClampNeg) (va_cpy c_em em (0 : Int32).toNatClampNeg (0 : Int32).toNatClampNeg (8 : Int32).toNatClampNeg) (va_cpy c_called called (0 : Int32).toNatClampNeg (0 : Int32).toNatClampNeg (8 : Int32).toNatClampNeg) day_16 near_16 shows_16 tmost tsize tsteps gmost gsize gsteps tape waits c_people c_taped c_waiting c_z c_kind c_em c_called c_day c_near c_shows c_tmost c_tsize c_tsteps c_gmost c_gsize c_gsteps c_tape c_waits) H := hW
  refine lv_aload_n hx hb dX4_copy_64 rfl (lv_at hl 0 rfl) ?_
  refine q_get C kc4 hW 0 rfl 5 (by decide) fl_X4_33 rfl rfl dX4_copy_65 ?_
  refine lv_aload_n hx hb dX4_copy_68 rfl (lv_at hl 1 rfl) ?_
  refine q_get C kc4 hW 13 rfl 5 (by decide) fl_X4_33 rfl rfl dX4_copy_69 ?_
  refine q_getN C kc0 hW 20 rfl 1 (by decide) nf_X4_64 rfl rfl dX4_copy_72 ?_
  refine lv_aload_n hx hb dX4_copy_75 rfl (lv_at hl 1 rfl) ?_
  refine q_get C kc4 hW 13 rfl 5 (by decide) fl_X4_33 rfl rfl dX4_copy_76 ?_
  refine q_getN C kc0 hW 20 rfl 2 (by decide) nf_X4_67 rfl rfl dX4_copy_79 ?_
  refine q_callNv (rest := []) (n := 2) C (c_X0_copy l G (fun k => b (k + 7)) (bc 8) tmost tsize tsteps c_tsteps c_tsize _ hv) nm_X4_70 kb_X0_copy rfl ⟨⟨rfl, rfl⟩, (Nat.le_of_ble_eq_true rfl), (Nat.le_of_ble_eq_true rfl)⟩ hW hS [7, 8, 21] rfl rfl kc0 (q0 := 7) rfl hl.1 rfl (Nat.le_of_ble_eq_true rfl) dX4_copy_82 ⟨Nat.zero_le _, Nat.zero_le _⟩ (fun u_19 H locs hv hW hS => ?_)
  obtain ⟨tsize_18, tsteps_18⟩ := u_19
  try dsimp only at hv
  have hW : wo G A (wd_X4_0 G b bc c_people taped waiting z (va_cpy c_kind kind (0 : Int32).toNatClampNeg (0 : Int32).toNatClampNeg (8 : Int32).toNatClampNeg) (va_cpy c_em em (0 : Int32).toNatClampNeg (0 : Int32).toNatClampNeg (8 : Int32).toNatClampNeg) (va_cpy c_called called (0 : Int32).toNatClampNeg (0 : Int32).toNatClampNeg (8 : Int32).toNatClampNeg) day_16 near_16 shows_16 tmost tsize_18 tsteps_18 gmost gsize gsteps tape waits c_people c_taped c_waiting c_z c_kind c_em c_called c_day c_near c_shows c_tmost c_tsize c_tsteps c_gmost c_gsize c_gsteps c_tape c_waits) H := hW
  refine lv_aload_n hx hb dX4_copy_85 rfl (lv_at hl 0 rfl) ?_
  refine q_get C kc4 hW 0 rfl 6 (by decide) fl_X4_37 rfl rfl dX4_copy_86 ?_
  refine lv_aload_n hx hb dX4_copy_89 rfl (lv_at hl 1 rfl) ?_
  refine q_get C kc4 hW 13 rfl 6 (by decide) fl_X4_37 rfl rfl dX4_copy_90 ?_
  refine q_getN C kc0 hW 22 rfl 1 (by decide) nf_X4_64 rfl rfl dX4_copy_93 ?_
  refine lv_aload_n hx hb dX4_copy_96 rfl (lv_at hl 1 rfl) ?_
  refine q_get C kc4 hW 13 rfl 6 (by decide) fl_X4_37 rfl rfl dX4_copy_97 ?_
  refine q_getN C kc0 hW 22 rfl 2 (by decide) nf_X4_67 rfl rfl dX4_copy_100 ?_
  refine q_callNv (rest := []) (n := 2) C (c_X0_copy l G (fun k => b (k + 10)) (bc 11) gmost gsize gsteps c_gsteps c_gsize _ hv) nm_X4_70 kb_X0_copy rfl ⟨⟨rfl, rfl⟩, (Nat.le_of_ble_eq_true rfl), (Nat.le_of_ble_eq_true rfl)⟩ hW hS [9, 10, 23] rfl rfl kc0 (q0 := 9) rfl hl.1 rfl (Nat.le_of_ble_eq_true rfl) dX4_copy_103 ⟨Nat.zero_le _, Nat.zero_le _⟩ (fun u_21 H locs hv hW hS => ?_)
  obtain ⟨gsize_20, gsteps_20⟩ := u_21
  try dsimp only at hv
  have hW : wo G A (wd_X4_0 G b bc c_people taped waiting z (va_cpy c_kind kind (0 : Int32).toNatClampNeg (0 : Int32).toNatClampNeg (8 : Int32).toNatClampNeg) (va_cpy c_em em (0 : Int32).toNatClampNeg (0 : Int32).toNatClampNeg (8 : Int32).toNatClampNeg) (va_cpy c_called called (0 : Int32).toNatClampNeg (0 : Int32).toNatClampNeg (8 : Int32).toNatClampNeg) day_16 near_16 shows_16 tmost tsize_18 tsteps_18 gmost gsize_20 gsteps_20 tape waits c_people c_taped c_waiting c_z c_kind c_em c_called c_day c_near c_shows c_tmost c_tsize c_tsteps c_gmost c_gsize c_gsteps c_tape c_waits) H := hW
  refine lv_aload_n hx hb dX4_copy_106 rfl (lv_at hl 1 rfl) ?_
  refine q_get C kc4 hW 13 rfl 7 (by decide) fl_X4_40 rfl rfl dX4_copy_107 ?_
  refine lv_iconst (v := 0) hx hb dX4_copy_110 kic_0 ?_
  refine lv_aload_n hx hb dX4_copy_111 rfl (lv_at hl 0 rfl) ?_
  refine q_get C kc4 hW 0 rfl 7 (by decide) fl_X4_40 rfl rfl dX4_copy_112 ?_
  refine lv_iconst (v := 0) hx hb dX4_copy_115 kic_0 ?_
  refine lv_bipush (v := 60) hx hb dX4_copy_116 kbp_60 ?_
  obtain ⟨h_22, hv⟩ := hv
  obtain ⟨h_23, hv⟩ := hv
  obtain ⟨h_24, hv⟩ := hv
  obtain ⟨h_25, hv⟩ := hv
  obtain ⟨h_26, hv⟩ := hv
  obtain ⟨h_27, hv⟩ := hv
  refine va_copyi (D := G.1) (cl := GB_cl) (tys := tyG G) hx hb (C.1.2.2.1.trans hl.1.symm) C.1.2.2.2.1 (C.hts ml_X4_54) (C.hts nat_copy) (C.hts st_copy) (C.hts ini_javalangSystem) C.2.1 hW.1 hW.2 hS 24 11 1 1 rfl rfl rfl rfl rfl h_22 h_23 h_24 h_25 h_26 h_27 (Nat.le_of_ble_eq_true rfl) (Nat.le_of_ble_eq_true rfl) dX4_copy_118 (fun H locs hP hD hS => ?_)
  have hW : wo G A (wd_X4_0 G b bc c_people taped waiting z (va_cpy c_kind kind (0 : Int32).toNatClampNeg (0 : Int32).toNatClampNeg (8 : Int32).toNatClampNeg) (va_cpy c_em em (0 : Int32).toNatClampNeg (0 : Int32).toNatClampNeg (8 : Int32).toNatClampNeg) (va_cpy c_called called (0 : Int32).toNatClampNeg (0 : Int32).toNatClampNeg (8 : Int32).toNatClampNeg) day_16 near_16 shows_16 tmost tsize_18 tsteps_18 gmost gsize_20 gsteps_20 (va_cpy c_tape tape (0 : Int32).toNatClampNeg (0 : Int32).toNatClampNeg (60 : Int32).toNatClampNeg) waits c_people c_taped c_waiting c_z c_kind c_em c_called c_day c_near c_shows c_tmost c_tsize c_tsteps c_gmost c_gsize c_gsteps c_tape c_waits) H := ⟨hP, hD⟩
  refine lv_aload_n hx hb dX4_copy_121 rfl (lv_at hl 0 rfl) ?_
  refine lv_aload_n hx hb dX4_copy_122 rfl (lv_at hl 1 rfl) ?_
  refine q_get C kc4 hW 13 rfl 8 (by decide) fl_X4_73 rfl rfl dX4_copy_123 ?_
  refine q_put C kc4 hW hS 0 rfl 8 (by decide) fl_X4_73 rfl rfl rfl rfl (Nat.le_of_ble_eq_true rfl) dX4_copy_126 (fun H locs hW hS => ?_)
  have hW : wo G A (wd_X4_0 G b bc c_people c_taped waiting z (va_cpy c_kind kind (0 : Int32).toNatClampNeg (0 : Int32).toNatClampNeg (8 : Int32).toNatClampNeg) (va_cpy c_em em (0 : Int32).toNatClampNeg (0 : Int32).toNatClampNeg (8 : Int32).toNatClampNeg) (va_cpy c_called called (0 : Int32).toNatClampNeg (0 : Int32).toNatClampNeg (8 : Int32).toNatClampNeg) day_16 near_16 shows_16 tmost tsize_18 tsteps_18 gmost gsize_20 gsteps_20 (va_cpy c_tape tape (0 : Int32).toNatClampNeg (0 : Int32).toNatClampNeg (60 : Int32).toNatClampNeg) waits c_people c_taped c_waiting c_z c_kind c_em c_called c_day c_near c_shows c_tmost c_tsize c_tsteps c_gmost c_gsize c_gsteps c_tape c_waits) H := hW
  refine lv_aload_n hx hb dX4_copy_129 rfl (lv_at hl 1 rfl) ?_
  refine q_get C kc4 hW 13 rfl 9 (by decide) fl_X4_44 rfl rfl dX4_copy_130 ?_
  refine lv_iconst (v := 0) hx hb dX4_copy_133 kic_0 ?_
  refine lv_aload_n hx hb dX4_copy_134 rfl (lv_at hl 0 rfl) ?_
  refine q_get C kc4 hW 0 rfl 9 (by decide) fl_X4_44 rfl rfl dX4_copy_135 ?_
  refine lv_iconst (v := 0) hx hb dX4_copy_138 kic_0 ?_
  refine lv_bipush (v := 24) hx hb dX4_copy_139 kbp_24 ?_
  obtain ⟨h_28, hv⟩ := hv
  obtain ⟨h_29, hv⟩ := hv
  obtain ⟨h_30, hv⟩ := hv
  obtain ⟨h_31, hv⟩ := hv
  obtain ⟨h_32, hv⟩ := hv
  refine va_copyi (D := G.1) (cl := GB_cl) (tys := tyG G) hx hb (C.1.2.2.1.trans hl.1.symm) C.1.2.2.2.1 (C.hts ml_X4_54) (C.hts nat_copy) (C.hts st_copy) (C.hts ini_javalangSystem) C.2.1 hW.1 hW.2 hS 25 12 0 0 rfl rfl rfl rfl rfl h_28 h_29 h_30 h_31 h_32 (fun _ _ => rfl) (Nat.le_of_ble_eq_true rfl) (Nat.le_of_ble_eq_true rfl) dX4_copy_141 (fun H locs hP hD hS => ?_)
  have hW : wo G A (wd_X4_0 G b bc c_people c_taped waiting z (va_cpy c_kind kind (0 : Int32).toNatClampNeg (0 : Int32).toNatClampNeg (8 : Int32).toNatClampNeg) (va_cpy c_em em (0 : Int32).toNatClampNeg (0 : Int32).toNatClampNeg (8 : Int32).toNatClampNeg) (va_cpy c_called called (0 : Int32).toNatClampNeg (0 : Int32).toNatClampNeg (8 : Int32).toNatClampNeg) day_16 near_16 shows_16 tmost tsize_18 tsteps_18 gmost gsize_20 gsteps_20 (va_cpy c_tape tape (0 : Int32).toNatClampNeg (0 : Int32).toNatClampNeg (60 : Int32).toNatClampNeg) (va_cpy c_waits waits (0 : Int32).toNatClampNeg (0 : Int32).toNatClampNeg (24 : Int32).toNatClampNeg) c_people c_taped c_waiting c_z c_kind c_em c_called c_day c_near c_shows c_tmost c_tsize c_tsteps c_gmost c_gsize c_gsteps c_tape c_waits) H := ⟨hP, hD⟩
  refine lv_aload_n hx hb dX4_copy_144 rfl (lv_at hl 0 rfl) ?_
  refine lv_aload_n hx hb dX4_copy_145 rfl (lv_at hl 1 rfl) ?_
  refine q_get C kc4 hW 13 rfl 10 (by decide) fl_X4_76 rfl rfl dX4_copy_146 ?_
  refine q_put C kc4 hW hS 0 rfl 10 (by decide) fl_X4_76 rfl rfl rfl rfl (Nat.le_of_ble_eq_true rfl) dX4_copy_149 (fun H locs hW hS => ?_)
  have hW : wo G A (wd_X4_0 G b bc c_people c_taped c_waiting z (va_cpy c_kind kind (0 : Int32).toNatClampNeg (0 : Int32).toNatClampNeg (8 : Int32).toNatClampNeg) (va_cpy c_em em (0 : Int32).toNatClampNeg (0 : Int32).toNatClampNeg (8 : Int32).toNatClampNeg) (va_cpy c_called called (0 : Int32).toNatClampNeg (0 : Int32).toNatClampNeg (8 : Int32).toNatClampNeg) day_16 near_16 shows_16 tmost tsize_18 tsteps_18 gmost gsize_20 gsteps_20 (va_cpy c_tape tape (0 : Int32).toNatClampNeg (0 : Int32).toNatClampNeg (60 : Int32).toNatClampNeg) (va_cpy c_waits waits (0 : Int32).toNatClampNeg (0 : Int32).toNatClampNeg (24 : Int32).toNatClampNeg) c_people c_taped c_waiting c_z c_kind c_em c_called c_day c_near c_shows c_tmost c_tsize c_tsteps c_gmost c_gsize c_gsteps c_tape c_waits) H := hW
  refine lv_aload_n hx hb dX4_copy_152 rfl (lv_at hl 0 rfl) ?_
  refine lv_aload_n hx hb dX4_copy_153 rfl (lv_at hl 1 rfl) ?_
  refine q_get C kc4 hW 13 rfl 11 (by decide) fl_X4_47 rfl rfl dX4_copy_154 ?_
  refine q_put C kc4 hW hS 0 rfl 11 (by decide) fl_X4_47 rfl rfl rfl rfl (Nat.le_of_ble_eq_true rfl) dX4_copy_157 (fun H locs hW hS => ?_)
  have hW : wo G A (wd_X4_0 G b bc c_people c_taped c_waiting c_z (va_cpy c_kind kind (0 : Int32).toNatClampNeg (0 : Int32).toNatClampNeg (8 : Int32).toNatClampNeg) (va_cpy c_em em (0 : Int32).toNatClampNeg (0 : Int32).toNatClampNeg (8 : Int32).toNatClampNeg) (va_cpy c_called called (0 : Int32).toNatClampNeg (0 : Int32).toNatClampNeg (8 : Int32).toNatClampNeg) day_16 near_16 shows_16 tmost tsize_18 tsteps_18 gmost gsize_20 gsteps_20 (va_cpy c_tape tape (0 : Int32).toNatClampNeg (0 : Int32).toNatClampNeg (60 : Int32).toNatClampNeg) (va_cpy c_waits waits (0 : Int32).toNatClampNeg (0 : Int32).toNatClampNeg (24 : Int32).toNatClampNeg) c_people c_taped c_waiting c_z c_kind c_em c_called c_day c_near c_shows c_tmost c_tsize c_tsteps c_gmost c_gsize c_gsteps c_tape c_waits) H := hW
  exact ret (c_people, c_taped, c_waiting, c_z, (va_cpy c_kind kind (0 : Int32).toNatClampNeg (0 : Int32).toNatClampNeg (8 : Int32).toNatClampNeg), (va_cpy c_em em (0 : Int32).toNatClampNeg (0 : Int32).toNatClampNeg (8 : Int32).toNatClampNeg), (va_cpy c_called called (0 : Int32).toNatClampNeg (0 : Int32).toNatClampNeg (8 : Int32).toNatClampNeg), day_16, near_16, shows_16, tsize_18, tsteps_18, gsize_20, gsteps_20, (va_cpy c_tape tape (0 : Int32).toNatClampNeg (0 : Int32).toNatClampNeg (60 : Int32).toNatClampNeg), (va_cpy c_waits waits (0 : Int32).toNatClampNeg (0 : Int32).toNatClampNeg (24 : Int32).toNatClampNeg)) H locs ls _ hW hS hv dX4_copy_160
set_option maxHeartbeats 4000000 in
set_option maxRecDepth 100000 in
theorem c_X4_has (l : Launch) (G : Gt) (b : Nat → Nat) (people : Int32) (taped : Int32) (waiting : Int32) (z : Int32) (p1 : Int32) (K : Int32 → Prop) (hv : v_X4_has p1 people K) : CI l G yX4_has (.code yX4_has cX4_has 2 (some .boolean) :: wsG) (rmm 0 0) [.ref (b 0), .int p1] (wd_X4_1 G b people taped waiting z) (S := Unit) (fun u => wd_X4_1 G b people taped waiting z) (fun r u => (r = 0 ∨ r = 1) ∧ K r) := by
  refine ci_intro (by decide) rfl (fun _ => rfl) (Nat.le_of_ble_eq_true rfl) ?_
  intro p e s m args below meth c A H ls Q C hW hS hl ret
  have hx := C.1.1
  have hb := C.1.2.1
  generalize hls : ([] : List Loc) = locs at hS ⊢
  have hl : lv_has ls 2 [(0, .ref (b 0)), (1, .int p1)] := hl
  refine lv_iload_n hx hb dX4_has_0 rfl (lv_at hl 1 rfl) ?_
  refine lv_if_lt (tgt := 16) hx hb dX4_has_1 (by decide) (fun c_1 => ?_) (fun c_1 => ?_)
  · replace hv := hv.1 c_1
    refine lv_iconst (v := 0) hx hb dX4_has_16 kic_0 ?_
    exact ret () (0 : Int32) H locs ls _ (bl_narrow (Or.inl rfl)) hW hS ⟨(Or.inl rfl), hv⟩ dX4_has_17
  · replace hv := hv.2 c_1
    refine lv_iload_n hx hb dX4_has_4 rfl (lv_at hl 1 rfl) ?_
    refine lv_aload_n hx hb dX4_has_5 rfl (lv_at hl 0 rfl) ?_
    refine q_get C kc4 hW 0 rfl 0 (by decide) fl_X4_51 rfl rfl dX4_has_6 ?_
    refine lv_icmp_ge (tgt := 16) hx hb dX4_has_9 (by decide) (fun c_2 => ?_) (fun c_2 => ?_)
    · replace hv := hv.1 c_2
      refine lv_iconst (v := 0) hx hb dX4_has_16 kic_0 ?_
      exact ret () (0 : Int32) H locs ls _ (bl_narrow (Or.inl rfl)) hW hS ⟨(Or.inl rfl), hv⟩ dX4_has_17
    · replace hv := hv.2 c_2
      refine lv_iconst (v := 1) hx hb dX4_has_12 kic_1 ?_
      refine lv_goto (tgt := 17) hx hb dX4_has_13 (by decide) ?_
      exact ret () (1 : Int32) H locs ls _ (bl_narrow (Or.inr rfl)) hW hS ⟨(Or.inr rfl), hv⟩ dX4_has_17
set_option maxHeartbeats 4000000 in
set_option maxRecDepth 100000 in
theorem c_X4_join (l : Launch) (G : Gt) (b : Nat → Nat) (people : Int32) (taped : Int32) (waiting : Int32) (z : Int32) (kind : Nat → Int32) (em : Nat → Int32) (called : Nat → Int32) (day : Int32) (near : Nat → Int32) (shows : Nat → Int32) (p1 : Int32) (p2 : Int32) (p3 : Int32) (K : Int32 → Int32 → (Nat → Int32) → (Nat → Int32) → (Nat → Int32) → (Nat → Int32) → (Nat → Int32) → Prop) (hv : v_X4_join p1 p2 p3 people kind em called near shows K) : CI l G yX4_join (.code yX4_join cX4_join 5 (some .int) :: wsG) (rmm 0 0) [.ref (b 0), .int p1, .int p2, .int p3] (wd_X4_2 G b people taped waiting z kind em called day near shows) (S := Int32 × (Nat → Int32) × (Nat → Int32) × (Nat → Int32) × (Nat → Int32) × (Nat → Int32)) (fun u => wd_X4_2 G b u.1 taped waiting z u.2.1 u.2.2.1 u.2.2.2.1 day u.2.2.2.2.1 u.2.2.2.2.2) (fun r u => K r u.1 u.2.1 u.2.2.1 u.2.2.2.1 u.2.2.2.2.1 u.2.2.2.2.2) := by
  refine ci_intro (by decide) rfl (fun _ => rfl) (Nat.le_of_ble_eq_true rfl) ?_
  intro p e s m args below meth c A H ls Q C hW hS hl ret
  have hx := C.1.1
  have hb := C.1.2.1
  generalize hls : ([] : List Loc) = locs at hS ⊢
  have hl : lv_has ls 5 [(0, .ref (b 0)), (1, .int p1), (2, .int p2), (3, .int p3)] := hl
  refine lv_aload_n hx hb dX4_join_0 rfl (lv_at hl 0 rfl) ?_
  refine q_get C kc4 hW 0 rfl 0 (by decide) fl_X4_51 rfl rfl dX4_join_1 ?_
  refine lv_istore (lv' := [(4, .int people), (0, .ref (b 0)), (1, .int p1), (2, .int p2), (3, .int p3)]) hx hb dX4_join_4 hl (by decide) rfl (fun ls hl => ?_)
  refine lv_iload hx hb dX4_join_6 (lv_at hl 0 rfl) ?_
  refine lv_bipush (v := 8) hx hb dX4_join_8 kbp_8 ?_
  refine lv_icmp_lt (tgt := 16) hx hb dX4_join_10 (by decide) (fun c_1 => ?_) (fun c_1 => ?_)
  · replace hv := hv.1 c_1
    refine lv_aload_n hx hb dX4_join_16 rfl (lv_at hl 1 rfl) ?_
    refine q_get C kc4 hW 0 rfl 1 (by decide) fl_X4_9 rfl rfl dX4_join_17 ?_
    refine lv_iload hx hb dX4_join_20 (lv_at hl 0 rfl) ?_
    refine lv_iload_n hx hb dX4_join_22 rfl (lv_at hl 2 rfl) ?_
    refine lv_bipush (v := 10) hx hb dX4_join_23 kbp_10 ?_
    obtain ⟨h_2, hv⟩ := hv
    refine lv_idiv hx hb dX4_join_25 h_2 ?_
    obtain ⟨h_3, hv⟩ := hv
    refine q_iast C hW hS 1 rfl h_3 dX4_join_26 (fun H locs hW hS => ?_)
    have hW : wo G A (wd_X4_2 G b people taped waiting z (upd kind people.toNatClampNeg (p1 / (10 : Int32))) em called day near shows) H := hW
    refine lv_aload_n hx hb dX4_join_27 rfl (lv_at hl 1 rfl) ?_
    refine q_get C kc4 hW 0 rfl 2 (by decide) fl_X4_15 rfl rfl dX4_join_28 ?_
    refine lv_iload hx hb dX4_join_31 (lv_at hl 0 rfl) ?_
    refine lv_iload_n hx hb dX4_join_33 rfl (lv_at hl 2 rfl) ?_
    refine lv_bipush (v := 10) hx hb dX4_join_34 kbp_10 ?_
    obtain ⟨h_4, hv⟩ := hv
    refine lv_irem hx hb dX4_join_36 h_4 ?_
    obtain ⟨h_5, hv⟩ := hv
    refine q_iast C hW hS 2 rfl h_5 dX4_join_37 (fun H locs hW hS => ?_)
    have hW : wo G A (wd_X4_2 G b people taped waiting z (upd kind people.toNatClampNeg (p1 / (10 : Int32))) (upd em people.toNatClampNeg (p1 - p1 / (10 : Int32) * (10 : Int32))) called day near shows) H := hW
    refine lv_aload_n hx hb dX4_join_38 rfl (lv_at hl 1 rfl) ?_
    refine q_get C kc4 hW 0 rfl 3 (by decide) fl_X4_18 rfl rfl dX4_join_39 ?_
    refine lv_iload hx hb dX4_join_42 (lv_at hl 0 rfl) ?_
    refine lv_iconst (v := 0) hx hb dX4_join_44 kic_0 ?_
    obtain ⟨h_6, hv⟩ := hv
    refine q_iast C hW hS 3 rfl h_6 dX4_join_45 (fun H locs hW hS => ?_)
    have hW : wo G A (wd_X4_2 G b people taped waiting z (upd kind people.toNatClampNeg (p1 / (10 : Int32))) (upd em people.toNatClampNeg (p1 - p1 / (10 : Int32) * (10 : Int32))) (upd called people.toNatClampNeg (0 : Int32)) day near shows) H := hW
    refine lv_aload_n hx hb dX4_join_46 rfl (lv_at hl 1 rfl) ?_
    refine q_get C kc4 hW 0 rfl 4 (by decide) fl_X4_24 rfl rfl dX4_join_47 ?_
    refine q_getN C kc3 hW 4 rfl 0 (by decide) nf_X4_79 rfl rfl dX4_join_50 ?_
    refine lv_iload hx hb dX4_join_53 (lv_at hl 0 rfl) ?_
    refine lv_iload_n hx hb dX4_join_55 rfl (lv_at hl 3 rfl) ?_
    obtain ⟨h_7, hv⟩ := hv
    refine q_iast C hW hS 5 rfl h_7 dX4_join_56 (fun H locs hW hS => ?_)
    have hW : wo G A (wd_X4_2 G b people taped waiting z (upd kind people.toNatClampNeg (p1 / (10 : Int32))) (upd em people.toNatClampNeg (p1 - p1 / (10 : Int32) * (10 : Int32))) (upd called people.toNatClampNeg (0 : Int32)) day (upd near people.toNatClampNeg p2) shows) H := hW
    refine lv_aload_n hx hb dX4_join_57 rfl (lv_at hl 1 rfl) ?_
    refine q_get C kc4 hW 0 rfl 4 (by decide) fl_X4_24 rfl rfl dX4_join_58 ?_
    refine q_getN C kc3 hW 4 rfl 1 (by decide) nf_X4_82 rfl rfl dX4_join_61 ?_
    refine lv_iload hx hb dX4_join_64 (lv_at hl 0 rfl) ?_
    refine lv_iload_n hx hb dX4_join_66 rfl (lv_at hl 4 rfl) ?_
    obtain ⟨h_8, hv⟩ := hv
    refine q_iast C hW hS 6 rfl h_8 dX4_join_67 (fun H locs hW hS => ?_)
    have hW : wo G A (wd_X4_2 G b people taped waiting z (upd kind people.toNatClampNeg (p1 / (10 : Int32))) (upd em people.toNatClampNeg (p1 - p1 / (10 : Int32) * (10 : Int32))) (upd called people.toNatClampNeg (0 : Int32)) day (upd near people.toNatClampNeg p2) (upd shows people.toNatClampNeg p3)) H := hW
    refine lv_aload_n hx hb dX4_join_68 rfl (lv_at hl 1 rfl) ?_
    refine lv_dup hx hb dX4_join_69 rfl ?_
    refine q_get C kc4 hW 0 rfl 0 (by decide) fl_X4_51 rfl rfl dX4_join_70 ?_
    refine lv_iconst (v := 1) hx hb dX4_join_73 kic_1 ?_
    refine lv_iadd hx hb dX4_join_74 ?_
    refine q_put C kc4 hW hS 0 rfl 0 (by decide) fl_X4_51 rfl rfl rfl rfl (Nat.le_of_ble_eq_true rfl) dX4_join_75 (fun H locs hW hS => ?_)
    have hW : wo G A (wd_X4_2 G b (people + (1 : Int32)) taped waiting z (upd kind people.toNatClampNeg (p1 / (10 : Int32))) (upd em people.toNatClampNeg (p1 - p1 / (10 : Int32) * (10 : Int32))) (upd called people.toNatClampNeg (0 : Int32)) day (upd near people.toNatClampNeg p2) (upd shows people.toNatClampNeg p3)) H := hW
    refine lv_iload hx hb dX4_join_78 (lv_at hl 0 rfl) ?_
    exact ret ((people + (1 : Int32)), (upd kind people.toNatClampNeg (p1 / (10 : Int32))), (upd em people.toNatClampNeg (p1 - p1 / (10 : Int32) * (10 : Int32))), (upd called people.toNatClampNeg (0 : Int32)), (upd near people.toNatClampNeg p2), (upd shows people.toNatClampNeg p3)) people H locs ls _ rfl hW hS hv dX4_join_80
  · replace hv := hv.2 c_1
    refine lv_iload hx hb dX4_join_13 (lv_at hl 0 rfl) ?_
    exact ret (people, kind, em, called, near, shows) people H locs ls _ rfl hW hS hv dX4_join_15
set_option maxHeartbeats 4000000 in
set_option maxRecDepth 100000 in
theorem c_X4_meet (l : Launch) (G : Gt) (b : Nat → Nat) (people : Int32) (taped : Int32) (waiting : Int32) (z : Int32) (called : Nat → Int32) (day : Int32) (near : Nat → Int32) (p1 : Int32) (p2 : Int32) (K : Int32 → (Nat → Int32) → (Nat → Int32) → Prop) (hv : v_X4_meet p1 p2 called near K) : CI l G yX4_meet (.code yX4_meet cX4_meet 4 (some .int) :: wsG) (rmm 1 21) [.ref (b 0), .int p1, .int p2] (wd_X4_3 G b people taped waiting z called day near) (S := (Nat → Int32) × (Nat → Int32)) (fun u => wd_X4_3 G b people taped waiting z u.1 day u.2) (fun r u => K r u.1 u.2) := by
  refine ci_intro (by decide) rfl (fun _ => rfl) (Nat.le_of_ble_eq_true rfl) ?_
  intro p e s m args below meth c A H ls Q C hW hS hl ret
  have hx := C.1.1
  have hb := C.1.2.1
  generalize hls : ([] : List Loc) = locs at hS ⊢
  have hl : lv_has ls 4 [(0, .ref (b 0)), (1, .int p1), (2, .int p2)] := hl
  refine lv_aload_n hx hb dX4_meet_0 rfl (lv_at hl 0 rfl) ?_
  refine q_get C kc4 hW 0 rfl 4 (by decide) fl_X4_24 rfl rfl dX4_meet_1 ?_
  refine q_getN C kc3 hW 2 rfl 0 (by decide) nf_X4_79 rfl rfl dX4_meet_4 ?_
  refine lv_iload_n hx hb dX4_meet_7 rfl (lv_at hl 1 rfl) ?_
  obtain ⟨h_1, hv⟩ := hv
  refine q_iald C hW 3 rfl h_1 dX4_meet_8 ?_
  refine lv_aload_n hx hb dX4_meet_9 rfl (lv_at hl 0 rfl) ?_
  refine q_get C kc4 hW 0 rfl 4 (by decide) fl_X4_24 rfl rfl dX4_meet_10 ?_
  refine q_getN C kc3 hW 2 rfl 0 (by decide) nf_X4_79 rfl rfl dX4_meet_13 ?_
  refine lv_iload_n hx hb dX4_meet_16 rfl (lv_at hl 2 rfl) ?_
  obtain ⟨h_2, hv⟩ := hv
  refine q_iald C hW 3 rfl h_2 dX4_meet_17 ?_
  refine va_mmax hx hb (C.1.2.2.1.trans hl.1.symm) C.1.2.2.2.1 (C.hts ml_X4_85) (C.hts st_mmax) (C.hts ini_javalangMath) (C.hts cd_mmax) (Nat.le_of_ble_eq_true rfl) (Nat.le_of_ble_eq_true rfl) (Nat.zero_le _) (Nat.zero_le _) dX4_meet_18 ?_
  refine lv_istore_n (lv' := [(3, .int (if (near p1.toNatClampNeg) < (near p2.toNatClampNeg) then (near p2.toNatClampNeg) else (near p1.toNatClampNeg))), (0, .ref (b 0)), (1, .int p1), (2, .int p2)]) hx hb dX4_meet_21 rfl hl (by decide) rfl (fun ls hl => ?_)
  refine lv_aload_n hx hb dX4_meet_22 rfl (lv_at hl 1 rfl) ?_
  refine q_get C kc4 hW 0 rfl 4 (by decide) fl_X4_24 rfl rfl dX4_meet_23 ?_
  refine q_getN C kc3 hW 2 rfl 0 (by decide) nf_X4_79 rfl rfl dX4_meet_26 ?_
  refine lv_iload_n hx hb dX4_meet_29 rfl (lv_at hl 2 rfl) ?_
  refine lv_iload_n hx hb dX4_meet_30 rfl (lv_at hl 0 rfl) ?_
  obtain ⟨h_3, hv⟩ := hv
  refine q_iast C hW hS 3 rfl h_3 dX4_meet_31 (fun H locs hW hS => ?_)
  have hW : wo G A (wd_X4_3 G b people taped waiting z called day (upd near p1.toNatClampNeg (if (near p1.toNatClampNeg) < (near p2.toNatClampNeg) then (near p2.toNatClampNeg) else (near p1.toNatClampNeg)))) H := hW
  refine lv_aload_n hx hb dX4_meet_32 rfl (lv_at hl 1 rfl) ?_
  refine q_get C kc4 hW 0 rfl 4 (by decide) fl_X4_24 rfl rfl dX4_meet_33 ?_
  refine q_getN C kc3 hW 2 rfl 0 (by decide) nf_X4_79 rfl rfl dX4_meet_36 ?_
  refine lv_iload_n hx hb dX4_meet_39 rfl (lv_at hl 3 rfl) ?_
  refine lv_iload_n hx hb dX4_meet_40 rfl (lv_at hl 0 rfl) ?_
  obtain ⟨h_4, hv⟩ := hv
  refine q_iast C hW hS 3 rfl h_4 dX4_meet_41 (fun H locs hW hS => ?_)
  have hW : wo G A (wd_X4_3 G b people taped waiting z called day (upd (upd near p1.toNatClampNeg (if (near p1.toNatClampNeg) < (near p2.toNatClampNeg) then (near p2.toNatClampNeg) else (near p1.toNatClampNeg))) p2.toNatClampNeg (if (near p1.toNatClampNeg) < (near p2.toNatClampNeg) then (near p2.toNatClampNeg) else (near p1.toNatClampNeg)))) H := hW
  refine lv_aload_n hx hb dX4_meet_42 rfl (lv_at hl 1 rfl) ?_
  refine q_get C kc4 hW 0 rfl 3 (by decide) fl_X4_18 rfl rfl dX4_meet_43 ?_
  refine lv_iload_n hx hb dX4_meet_46 rfl (lv_at hl 2 rfl) ?_
  refine lv_dup2_11 hx hb dX4_meet_47 rfl rfl ?_
  obtain ⟨h_5, hv⟩ := hv
  refine q_iald C hW 1 rfl h_5 dX4_meet_48 ?_
  refine lv_iconst (v := 1) hx hb dX4_meet_49 kic_1 ?_
  refine lv_iload_n hx hb dX4_meet_50 rfl (lv_at hl 3 rfl) ?_
  refine lv_ishl hx hb dX4_meet_51 ?_
  refine lv_ior hx hb dX4_meet_52 ?_
  obtain ⟨h_6, hv⟩ := hv
  refine q_iast C hW hS 1 rfl h_6 dX4_meet_53 (fun H locs hW hS => ?_)
  have hW : wo G A (wd_X4_3 G b people taped waiting z (upd called p1.toNatClampNeg ((called p1.toNatClampNeg) ||| ((1 : Int32) <<< (p2 &&& 31)))) day (upd (upd near p1.toNatClampNeg (if (near p1.toNatClampNeg) < (near p2.toNatClampNeg) then (near p2.toNatClampNeg) else (near p1.toNatClampNeg))) p2.toNatClampNeg (if (near p1.toNatClampNeg) < (near p2.toNatClampNeg) then (near p2.toNatClampNeg) else (near p1.toNatClampNeg)))) H := hW
  refine lv_iload_n hx hb dX4_meet_54 rfl (lv_at hl 0 rfl) ?_
  exact ret ((upd called p1.toNatClampNeg ((called p1.toNatClampNeg) ||| ((1 : Int32) <<< (p2 &&& 31)))), (upd (upd near p1.toNatClampNeg (if (near p1.toNatClampNeg) < (near p2.toNatClampNeg) then (near p2.toNatClampNeg) else (near p1.toNatClampNeg))) p2.toNatClampNeg (if (near p1.toNatClampNeg) < (near p2.toNatClampNeg) then (near p2.toNatClampNeg) else (near p1.toNatClampNeg)))) (if (near p1.toNatClampNeg) < (near p2.toNatClampNeg) then (near p2.toNatClampNeg) else (near p1.toNatClampNeg)) H locs ls _ rfl hW hS hv dX4_meet_55
set_option maxHeartbeats 4000000 in
set_option maxRecDepth 100000 in
theorem c_X4_record (l : Launch) (G : Gt) (b : Nat → Nat) (people : Int32) (taped : Int32) (waiting : Int32) (z : Int32) (tape : Nat → Int32) (p1 : Int64) (p2 : Int32) (K : Int32 → Int32 → (Nat → Int32) → Prop) (hv : v_X4_record p1 p2 taped tape K) : CI l G yX4_record (.code yX4_record cX4_record 5 (some .int) :: wsG) (rmm 0 0) [.ref (b 0), .long p1, .int p2] (wd_X4_4 G b people taped waiting z tape) (S := Int32 × (Nat → Int32)) (fun u => wd_X4_4 G b people u.1 waiting z u.2) (fun r u => K r u.1 u.2) := by
  refine ci_intro (by decide) rfl (fun _ => rfl) (Nat.le_of_ble_eq_true rfl) ?_
  intro p e s m args below meth c A H ls Q C hW hS hl ret
  have hx := C.1.1
  have hb := C.1.2.1
  generalize hls : ([] : List Loc) = locs at hS ⊢
  have hl : lv_has ls 5 [(0, .ref (b 0)), (1, .long p1), (3, .int p2)] := hl
  have h_l_X4_record_3 : ∀ (n : Nat), ∀ (x4 : Int32) (taped : Int32) (tape : Nat → Int32) (H : Heap) (locs : List Loc) (ls : Array Slot), wo G A (wd_X4_4 G b people taped waiting z tape) H → va_S A s.heap H locs → lv_has ls 5 [(0, .ref (b 0)), (1, .long p1), (3, .int p2), (4, .int x4)] → l_X4_record_3 p1 p2 K n x4 taped tape → W p l e (rmm 0 0) s m args below meth c H locs 0 0 Q (F0 m 3 ls []) := by
    intro n
    induction n with
    | zero =>
      intro x4 taped tape H locs ls hW hS hl hv
      exact False.elim hv
    | succ n ih =>
      intro x4 taped tape H locs ls hW hS hl hv
      refine lv_iload hx hb dX4_record_3 (lv_at hl 3 rfl) ?_
      refine lv_iload_n hx hb dX4_record_5 rfl (lv_at hl 2 rfl) ?_
      refine lv_icmp_ge (tgt := 52) hx hb dX4_record_6 (by decide) (fun c_1 => ?_) (fun c_1 => ?_)
      · replace hv := hv.1 c_1
        refine lv_aload_n hx hb dX4_record_52 rfl (lv_at hl 0 rfl) ?_
        refine q_get C kc4 hW 0 rfl 8 (by decide) fl_X4_73 rfl rfl dX4_record_53 ?_
        exact ret (taped, tape) taped H locs ls _ rfl hW hS hv dX4_record_56
      · replace hv := hv.2 c_1
        refine lv_aload_n hx hb dX4_record_9 rfl (lv_at hl 0 rfl) ?_
        refine q_get C kc4 hW 0 rfl 8 (by decide) fl_X4_73 rfl rfl dX4_record_10 ?_
        refine lv_bipush (v := 60) hx hb dX4_record_13 kbp_60 ?_
        refine lv_icmp_ge (tgt := 52) hx hb dX4_record_15 (by decide) (fun c_2 => ?_) (fun c_2 => ?_)
        · replace hv := hv.1 c_2
          refine lv_aload_n hx hb dX4_record_52 rfl (lv_at hl 0 rfl) ?_
          refine q_get C kc4 hW 0 rfl 8 (by decide) fl_X4_73 rfl rfl dX4_record_53 ?_
          exact ret (taped, tape) taped H locs ls _ rfl hW hS hv dX4_record_56
        · replace hv := hv.2 c_2
          refine lv_aload_n hx hb dX4_record_18 rfl (lv_at hl 0 rfl) ?_
          refine q_get C kc4 hW 0 rfl 7 (by decide) fl_X4_40 rfl rfl dX4_record_19 ?_
          refine lv_aload_n hx hb dX4_record_22 rfl (lv_at hl 0 rfl) ?_
          refine q_get C kc4 hW 0 rfl 8 (by decide) fl_X4_73 rfl rfl dX4_record_23 ?_
          refine lv_lload_n hx hb dX4_record_26 rfl (lv_at hl 1 rfl) ?_
          refine lv_bipush (v := 8) hx hb dX4_record_27 kbp_8 ?_
          refine lv_iload hx hb dX4_record_29 (lv_at hl 3 rfl) ?_
          refine lv_imul hx hb dX4_record_31 ?_
          refine lv_lushr hx hb dX4_record_32 rfl ?_
          refine lv_l2i hx hb dX4_record_33 rfl ?_
          refine lv_i2b hx hb dX4_record_34 rfl ?_
          obtain ⟨h_3, hv⟩ := hv
          refine q_bast C hW hS 1 rfl h_3 dX4_record_35 (fun H locs hW hS => ?_)
          have hW : wo G A (wd_X4_4 G b people taped waiting z (upd tape taped.toNatClampNeg (vp_nar .byte ((((p1.toUInt64 >>> (((8 : Int32) * x4).toInt64.toUInt64 &&& Int64.toUInt64 63)).toInt64).toInt32).toInt8.toInt32)))) H := hW
          refine lv_aload_n hx hb dX4_record_36 rfl (lv_at hl 0 rfl) ?_
          refine lv_dup hx hb dX4_record_37 rfl ?_
          refine q_get C kc4 hW 0 rfl 8 (by decide) fl_X4_73 rfl rfl dX4_record_38 ?_
          refine lv_iconst (v := 1) hx hb dX4_record_41 kic_1 ?_
          refine lv_iadd hx hb dX4_record_42 ?_
          refine q_put C kc4 hW hS 0 rfl 8 (by decide) fl_X4_73 rfl rfl rfl rfl (Nat.le_of_ble_eq_true rfl) dX4_record_43 (fun H locs hW hS => ?_)
          have hW : wo G A (wd_X4_4 G b people (taped + (1 : Int32)) waiting z (upd tape taped.toNatClampNeg (vp_nar .byte ((((p1.toUInt64 >>> (((8 : Int32) * x4).toInt64.toUInt64 &&& Int64.toUInt64 63)).toInt64).toInt32).toInt8.toInt32)))) H := hW
          refine lv_iinc (v := (x4 + 1)) (lv' := [(4, .int (x4 + 1)), (0, .ref (b 0)), (1, .long p1), (3, .int p2)]) hx hb dX4_record_46 hl (k := 3) rfl rfl (by decide) rfl (fun ls hl => ?_)
          refine lv_goto (tgt := 3) hx hb dX4_record_49 (by decide) ?_
          exact ih (x4 + 1) (taped + (1 : Int32)) (upd tape taped.toNatClampNeg (vp_nar .byte ((((p1.toUInt64 >>> (((8 : Int32) * x4).toInt64.toUInt64 &&& Int64.toUInt64 63)).toInt64).toInt32).toInt8.toInt32))) H locs ls hW hS (lv_sub hl [1, 2, 3, 0] rfl) hv
  refine lv_iconst (v := 0) hx hb dX4_record_0 kic_0 ?_
  refine lv_istore (lv' := [(4, .int (0 : Int32)), (0, .ref (b 0)), (1, .long p1), (3, .int p2)]) hx hb dX4_record_1 hl (by decide) rfl (fun ls hl => ?_)
  obtain ⟨n_4, hv⟩ := hv
  exact h_l_X4_record_3 n_4 (0 : Int32) taped tape H locs ls hW hS (lv_sub hl [1, 2, 3, 0] rfl) hv
set_option maxHeartbeats 4000000 in
set_option maxRecDepth 100000 in
theorem c_X4_draw (l : Launch) (G : Gt) (b : Nat → Nat) (people : Int32) (taped : Int32) (waiting : Int32) (z : Int32) (K : Int32 → Int32 → Prop) (hv : v_X4_draw z K) : CI l G yX4_draw (.code yX4_draw cX4_draw 1 (some .int) :: wsG) (rmm 0 0) [.ref (b 0)] (wd_X4_1 G b people taped waiting z) (S := Int32) (fun u => wd_X4_1 G b people taped waiting u) (fun r u => K r u) := by
  refine ci_intro (by decide) rfl (fun _ => rfl) (Nat.le_of_ble_eq_true rfl) ?_
  intro p e s m args below meth c A H ls Q C hW hS hl ret
  have hx := C.1.1
  have hb := C.1.2.1
  generalize hls : ([] : List Loc) = locs at hS ⊢
  have hl : lv_has ls 1 [(0, .ref (b 0))] := hl
  refine lv_aload_n hx hb dX4_draw_0 rfl (lv_at hl 0 rfl) ?_
  refine lv_aload_n hx hb dX4_draw_1 rfl (lv_at hl 0 rfl) ?_
  refine q_get C kc4 hW 0 rfl 11 (by decide) fl_X4_47 rfl rfl dX4_draw_2 ?_
  refine lv_ldc (v := 1103515245) hx hb C.1.2.2.2.1 (C.hts kc_X4_91) dX4_draw_5 ?_
  refine lv_imul hx hb dX4_draw_7 ?_
  refine lv_sipush (v := 12345) hx hb dX4_draw_8 ksp_12345 ?_
  refine lv_iadd hx hb dX4_draw_11 ?_
  refine q_put C kc4 hW hS 0 rfl 11 (by decide) fl_X4_47 rfl rfl rfl rfl (Nat.le_of_ble_eq_true rfl) dX4_draw_12 (fun H locs hW hS => ?_)
  have hW : wo G A (wd_X4_1 G b people taped waiting ((z * (1103515245 : Int32)) + (12345 : Int32))) H := hW
  refine lv_aload_n hx hb dX4_draw_15 rfl (lv_at hl 0 rfl) ?_
  refine q_get C kc4 hW 0 rfl 11 (by decide) fl_X4_47 rfl rfl dX4_draw_16 ?_
  refine lv_bipush (v := 8) hx hb dX4_draw_19 kbp_8 ?_
  refine lv_iushr hx hb dX4_draw_21 rfl ?_
  exact ret (((z * (1103515245 : Int32)) + (12345 : Int32))) ((((z * (1103515245 : Int32)) + (12345 : Int32)).toUInt32 >>> ((8 : Int32).toUInt32 &&& Int32.toUInt32 31)).toInt32) H locs ls _ rfl hW hS hv dX4_draw_22
set_option maxHeartbeats 4000000 in
set_option maxRecDepth 100000 in
theorem c_X4_drawMoves (l : Launch) (G : Gt) (b : Nat → Nat) (people : Int32) (taped : Int32) (waiting : Int32) (z : Int32) (called : Nat → Int32) (day : Int32) (near : Nat → Int32) (shows : Nat → Int32) (K : Int32 → (Nat → Int32) → (Nat → Int32) → (Nat → Int32) → Prop) (hv : v_X4_drawMoves people z called near shows K) : CV l G yX4_drawMoves (.code yX4_drawMoves cX4_drawMoves 4 none :: wsG) (rmm 2 44) [.ref (b 0)] (wd_X4_5 G b people taped waiting z called day near shows) (S := Int32 × (Nat → Int32) × (Nat → Int32) × (Nat → Int32)) (fun u => wd_X4_5 G b people taped waiting u.1 u.2.1 day u.2.2.1 u.2.2.2) (fun u => K u.1 u.2.1 u.2.2.1 u.2.2.2) := by
  refine cv_intro (by decide) rfl (fun _ => rfl) (Nat.le_of_ble_eq_true rfl) ?_
  intro p e s m args below meth c A H ls Q C hW hS hl ret
  have hx := C.1.1
  have hb := C.1.2.1
  generalize hls : ([] : List Loc) = locs at hS ⊢
  have hl : lv_has ls 4 [(0, .ref (b 0))] := hl
  refine lv_aload_n hx hb dX4_drawMoves_0 rfl (lv_at hl 0 rfl) ?_
  refine q_get C kc4 hW 0 rfl 0 (by decide) fl_X4_51 rfl rfl dX4_drawMoves_1 ?_
  refine lv_iconst (v := 2) hx hb dX4_drawMoves_4 kic_2 ?_
  refine lv_icmp_ge (tgt := 9) hx hb dX4_drawMoves_5 (by decide) (fun c_1 => ?_) (fun c_1 => ?_)
  · replace hv := hv.1 c_1
    refine lv_aload_n hx hb dX4_drawMoves_9 rfl (lv_at hl 0 rfl) ?_
    refine q_callV (rest := []) (n := 0) C (c_X4_draw l G b people taped waiting z _ hv) ml_X4_92 kb_X4_draw rfl ⟨⟨rfl, rfl⟩, (Nat.le_of_ble_eq_true rfl), (Nat.le_of_ble_eq_true rfl)⟩ hW hS [0] rfl rfl kc4 (q0 := 0) rfl hl.1 rfl (Nat.le_of_ble_eq_true rfl) dX4_drawMoves_10 ⟨Nat.zero_le _, Nat.zero_le _⟩ (fun r_2 u_3 H locs hv hW hS => ?_)
    obtain ⟨z_2, rfl⟩ : ∃ z, z = u_3 := ⟨_, rfl⟩
    try dsimp only at hv
    have hW : wo G A (wd_X4_5 G b people taped waiting z_2 called day near shows) H := hW
    refine lv_aload_n hx hb dX4_drawMoves_13 rfl (lv_at hl 0 rfl) ?_
    refine q_get C kc4 hW 0 rfl 0 (by decide) fl_X4_51 rfl rfl dX4_drawMoves_14 ?_
    obtain ⟨h_4, hv⟩ := hv
    refine lv_irem hx hb dX4_drawMoves_17 h_4 ?_
    refine lv_istore_n (lv' := [(1, .int (r_2 - r_2 / people * people)), (0, .ref (b 0))]) hx hb dX4_drawMoves_18 rfl hl (by decide) rfl (fun ls hl => ?_)
    refine lv_aload_n hx hb dX4_drawMoves_19 rfl (lv_at hl 1 rfl) ?_
    refine q_get C kc4 hW 0 rfl 4 (by decide) fl_X4_24 rfl rfl dX4_drawMoves_20 ?_
    refine q_getN C kc3 hW 2 rfl 1 (by decide) nf_X4_82 rfl rfl dX4_drawMoves_23 ?_
    refine lv_iload_n hx hb dX4_drawMoves_26 rfl (lv_at hl 0 rfl) ?_
    refine lv_aload_n hx hb dX4_drawMoves_27 rfl (lv_at hl 1 rfl) ?_
    refine q_callV (rest := [.int (r_2 - r_2 / people * people), .ref (b 6)]) (n := 0) C (c_X4_draw l G b people taped waiting z_2 _ hv) ml_X4_92 kb_X4_draw rfl ⟨⟨rfl, rfl⟩, (Nat.le_of_ble_eq_true rfl), (Nat.le_of_ble_eq_true rfl)⟩ hW hS [0] rfl rfl kc4 (q0 := 0) rfl hl.1 rfl (Nat.le_of_ble_eq_true rfl) dX4_drawMoves_28 ⟨Nat.zero_le _, Nat.zero_le _⟩ (fun r_5 u_6 H locs hv hW hS => ?_)
    obtain ⟨z_5, rfl⟩ : ∃ z, z = u_6 := ⟨_, rfl⟩
    try dsimp only at hv
    have hW : wo G A (wd_X4_5 G b people taped waiting z_5 called day near shows) H := hW
    refine lv_bipush (v := 10) hx hb dX4_drawMoves_31 kbp_10 ?_
    obtain ⟨h_7, hv⟩ := hv
    refine lv_irem hx hb dX4_drawMoves_33 h_7 ?_
    obtain ⟨h_8, hv⟩ := hv
    refine q_iast C hW hS 4 rfl h_8 dX4_drawMoves_34 (fun H locs hW hS => ?_)
    have hW : wo G A (wd_X4_5 G b people taped waiting z_5 called day near (upd shows (r_2 - r_2 / people * people).toNatClampNeg (r_5 - r_5 / (10 : Int32) * (10 : Int32)))) H := hW
    refine lv_aload_n hx hb dX4_drawMoves_35 rfl (lv_at hl 1 rfl) ?_
    refine q_callV (rest := []) (n := 0) C (c_X4_draw l G b people taped waiting z_5 _ hv) ml_X4_92 kb_X4_draw rfl ⟨⟨rfl, rfl⟩, (Nat.le_of_ble_eq_true rfl), (Nat.le_of_ble_eq_true rfl)⟩ hW hS [0] rfl rfl kc4 (q0 := 0) rfl hl.1 rfl (Nat.le_of_ble_eq_true rfl) dX4_drawMoves_36 ⟨Nat.zero_le _, Nat.zero_le _⟩ (fun r_9 u_10 H locs hv hW hS => ?_)
    obtain ⟨z_9, rfl⟩ : ∃ z, z = u_10 := ⟨_, rfl⟩
    try dsimp only at hv
    have hW : wo G A (wd_X4_5 G b people taped waiting z_9 called day near (upd shows (r_2 - r_2 / people * people).toNatClampNeg (r_5 - r_5 / (10 : Int32) * (10 : Int32)))) H := hW
    refine lv_aload_n hx hb dX4_drawMoves_39 rfl (lv_at hl 1 rfl) ?_
    refine q_get C kc4 hW 0 rfl 0 (by decide) fl_X4_51 rfl rfl dX4_drawMoves_40 ?_
    obtain ⟨h_11, hv⟩ := hv
    refine lv_irem hx hb dX4_drawMoves_43 h_11 ?_
    refine lv_istore_n (lv' := [(2, .int (r_9 - r_9 / people * people)), (1, .int (r_2 - r_2 / people * people)), (0, .ref (b 0))]) hx hb dX4_drawMoves_44 rfl hl (by decide) rfl (fun ls hl => ?_)
    refine lv_aload_n hx hb dX4_drawMoves_45 rfl (lv_at hl 2 rfl) ?_
    refine q_callV (rest := []) (n := 0) C (c_X4_draw l G b people taped waiting z_9 _ hv) ml_X4_92 kb_X4_draw rfl ⟨⟨rfl, rfl⟩, (Nat.le_of_ble_eq_true rfl), (Nat.le_of_ble_eq_true rfl)⟩ hW hS [0] rfl rfl kc4 (q0 := 0) rfl hl.1 rfl (Nat.le_of_ble_eq_true rfl) dX4_drawMoves_46 ⟨Nat.zero_le _, Nat.zero_le _⟩ (fun r_12 u_13 H locs hv hW hS => ?_)
    obtain ⟨z_12, rfl⟩ : ∃ z, z = u_13 := ⟨_, rfl⟩
    try dsimp only at hv
    have hW : wo G A (wd_X4_5 G b people taped waiting z_12 called day near (upd shows (r_2 - r_2 / people * people).toNatClampNeg (r_5 - r_5 / (10 : Int32) * (10 : Int32)))) H := hW
    refine lv_aload_n hx hb dX4_drawMoves_49 rfl (lv_at hl 2 rfl) ?_
    refine q_get C kc4 hW 0 rfl 0 (by decide) fl_X4_51 rfl rfl dX4_drawMoves_50 ?_
    obtain ⟨h_14, hv⟩ := hv
    refine lv_irem hx hb dX4_drawMoves_53 h_14 ?_
    refine lv_istore_n (lv' := [(3, .int (r_12 - r_12 / people * people)), (2, .int (r_9 - r_9 / people * people)), (1, .int (r_2 - r_2 / people * people)), (0, .ref (b 0))]) hx hb dX4_drawMoves_54 rfl hl (by decide) rfl (fun ls hl => ?_)
    refine lv_iload_n hx hb dX4_drawMoves_55 rfl (lv_at hl 1 rfl) ?_
    refine lv_iload_n hx hb dX4_drawMoves_56 rfl (lv_at hl 0 rfl) ?_
    refine lv_icmp_eq (tgt := 67) hx hb dX4_drawMoves_57 (by decide) (fun c_15 => ?_) (fun c_15 => ?_)
    · replace hv := hv.1 c_15
      exact ret (z_12, called, near, (upd shows (r_2 - r_2 / people * people).toNatClampNeg (r_5 - r_5 / (10 : Int32) * (10 : Int32)))) H locs ls _ hW hS hv dX4_drawMoves_67
    · replace hv := hv.2 c_15
      refine lv_aload_n hx hb dX4_drawMoves_60 rfl (lv_at hl 3 rfl) ?_
      refine lv_iload_n hx hb dX4_drawMoves_61 rfl (lv_at hl 1 rfl) ?_
      refine lv_iload_n hx hb dX4_drawMoves_62 rfl (lv_at hl 0 rfl) ?_
      refine q_callV (rest := []) (n := 2) C (c_X4_meet l G b people taped waiting z_12 called day near (r_9 - r_9 / people * people) (r_12 - r_12 / people * people) _ hv) ml_X4_96 kb_X4_meet rfl ⟨⟨rfl, rfl⟩, (Nat.le_of_ble_eq_true rfl), (Nat.le_of_ble_eq_true rfl)⟩ hW hS [0, 1, 2, 3] rfl rfl kc4 (q0 := 0) rfl hl.1 rfl (Nat.le_of_ble_eq_true rfl) dX4_drawMoves_63 ⟨Nat.zero_le _, Nat.zero_le _⟩ (fun r_16 u_17 H locs hv hW hS => ?_)
      obtain ⟨called_16, near_16⟩ := u_17
      try dsimp only at hv
      have hW : wo G A (wd_X4_5 G b people taped waiting z_12 called_16 day near_16 (upd shows (r_2 - r_2 / people * people).toNatClampNeg (r_5 - r_5 / (10 : Int32) * (10 : Int32)))) H := hW
      refine lv_pop hx hb dX4_drawMoves_66 rfl ?_
      exact ret (z_12, called_16, near_16, (upd shows (r_2 - r_2 / people * people).toNatClampNeg (r_5 - r_5 / (10 : Int32) * (10 : Int32)))) H locs ls _ hW hS hv dX4_drawMoves_67
  · replace hv := hv.2 c_1
    exact ret (z, called, near, shows) H locs ls _ hW hS hv dX4_drawMoves_8
set_option maxHeartbeats 4000000 in
set_option maxRecDepth 100000 in
theorem c_X4_readsOf (l : Launch) (G : Gt) (p1 : Int32) (p2 : Int32) (p3 : Int32) (p4 : Int32) (p5 : Int32) (K : Int32 → Prop) (hv : v_X4_readsOf p1 p2 p3 p4 p5 K) : CI l G yX4_readsOf (.code yX4_readsOf cX4_readsOf 6 (some .int) :: wsG) (rmm 0 0) [.int p1, .int p2, .int p3, .int p4, .int p5] [] (S := Unit) (fun _ => []) (fun r u => K r) := by
  refine ci_intro (by decide) rfl (fun _ => rfl) (Nat.le_of_ble_eq_true rfl) ?_
  intro p e s m args below meth c A H ls Q C hW hS hl ret
  have hx := C.1.1
  have hb := C.1.2.1
  generalize hls : ([] : List Loc) = locs at hS ⊢
  have hl : lv_has ls 6 [(0, .int p1), (1, .int p2), (2, .int p3), (3, .int p4), (4, .int p5)] := hl
  refine lv_bipush (v := 10) hx hb dX4_readsOf_0 kbp_10 ?_
  refine lv_iload_n hx hb dX4_readsOf_2 rfl (lv_at hl 3 rfl) ?_
  refine lv_imul hx hb dX4_readsOf_3 ?_
  refine lv_istore (lv' := [(5, .int ((10 : Int32) * p4)), (0, .int p1), (1, .int p2), (2, .int p3), (3, .int p4), (4, .int p5)]) hx hb dX4_readsOf_4 hl (by decide) rfl (fun ls hl => ?_)
  refine lv_iload_n hx hb dX4_readsOf_6 rfl (lv_at hl 1 rfl) ?_
  by_cases c_1_0 : p1 = 1
  · replace hv := hv.1 c_1_0
    refine lv_tableIn (tgt := 44) hx hb dX4_readsOf_7 (by rw [c_1_0]; decide) (by rw [c_1_0]; decide) (by rw [c_1_0]; rfl) (by decide) ?_
    refine lv_iload hx hb dX4_readsOf_44 (lv_at hl 0 rfl) ?_
    refine lv_iconst (v := 5) hx hb dX4_readsOf_46 kic_5 ?_
    refine lv_iadd hx hb dX4_readsOf_47 ?_
    refine lv_iload_n hx hb dX4_readsOf_48 rfl (lv_at hl 2 rfl) ?_
    refine lv_iadd hx hb dX4_readsOf_49 ?_
    exact ret () ((((10 : Int32) * p4) + (5 : Int32)) + p2) H locs ls _ rfl hW hS hv dX4_readsOf_50
  · replace hv := hv.2 c_1_0
    by_cases c_1_1 : p1 = 2
    · replace hv := hv.1 c_1_1
      refine lv_tableIn (tgt := 51) hx hb dX4_readsOf_7 (by rw [c_1_1]; decide) (by rw [c_1_1]; decide) (by rw [c_1_1]; rfl) (by decide) ?_
      refine lv_iload hx hb dX4_readsOf_51 (lv_at hl 0 rfl) ?_
      refine lv_iload_n hx hb dX4_readsOf_53 rfl (lv_at hl 3 rfl) ?_
      refine lv_iadd hx hb dX4_readsOf_54 ?_
      refine lv_iconst (v := 2) hx hb dX4_readsOf_55 kic_2 ?_
      obtain ⟨h_2, hv⟩ := hv
      refine lv_idiv hx hb dX4_readsOf_56 h_2 ?_
      exact ret () ((((10 : Int32) * p4) + p3) / (2 : Int32)) H locs ls _ rfl hW hS hv dX4_readsOf_57
    · replace hv := hv.2 c_1_1
      by_cases c_1_2 : p1 = 3
      · replace hv := hv.1 c_1_2
        refine lv_tableIn (tgt := 58) hx hb dX4_readsOf_7 (by rw [c_1_2]; decide) (by rw [c_1_2]; decide) (by rw [c_1_2]; rfl) (by decide) ?_
        refine lv_bipush (v := 99) hx hb dX4_readsOf_58 kbp_99 ?_
        refine lv_iload hx hb dX4_readsOf_60 (lv_at hl 0 rfl) ?_
        refine lv_isub hx hb dX4_readsOf_62 ?_
        exact ret () ((99 : Int32) - ((10 : Int32) * p4)) H locs ls _ rfl hW hS hv dX4_readsOf_63
      · replace hv := hv.2 c_1_2
        by_cases c_1_3 : p1 = 4
        · replace hv := hv.1 c_1_3
          refine lv_tableIn (tgt := 64) hx hb dX4_readsOf_7 (by rw [c_1_3]; decide) (by rw [c_1_3]; decide) (by rw [c_1_3]; rfl) (by decide) ?_
          refine lv_iload hx hb dX4_readsOf_64 (lv_at hl 0 rfl) ?_
          refine lv_iconst (v := 5) hx hb dX4_readsOf_66 kic_5 ?_
          refine lv_iadd hx hb dX4_readsOf_67 ?_
          refine lv_iload_n hx hb dX4_readsOf_68 rfl (lv_at hl 2 rfl) ?_
          refine lv_iadd hx hb dX4_readsOf_69 ?_
          refine lv_iload hx hb dX4_readsOf_70 (lv_at hl 5 rfl) ?_
          refine lv_bipush (v := 7) hx hb dX4_readsOf_72 kbp_7 ?_
          obtain ⟨h_3, hv⟩ := hv
          refine lv_irem hx hb dX4_readsOf_74 h_3 ?_
          refine lv_iadd hx hb dX4_readsOf_75 ?_
          exact ret () (((((10 : Int32) * p4) + (5 : Int32)) + p2) + (p5 - p5 / (7 : Int32) * (7 : Int32))) H locs ls _ rfl hW hS hv dX4_readsOf_76
        · replace hv := hv.2 c_1_3
          by_cases c_1_4 : p1 = 5
          · replace hv := hv.1 c_1_4
            refine lv_tableIn (tgt := 77) hx hb dX4_readsOf_7 (by rw [c_1_4]; decide) (by rw [c_1_4]; decide) (by rw [c_1_4]; rfl) (by decide) ?_
            refine lv_bipush (v := 11) hx hb dX4_readsOf_77 kbp_11 ?_
            refine lv_iload_n hx hb dX4_readsOf_79 rfl (lv_at hl 2 rfl) ?_
            refine lv_imul hx hb dX4_readsOf_80 ?_
            exact ret () ((11 : Int32) * p2) H locs ls _ rfl hW hS hv dX4_readsOf_81
          · replace hv := hv.2 c_1_4
            by_cases c_1_5 : p1 = 6
            · replace hv := hv.1 c_1_5
              refine lv_tableIn (tgt := 82) hx hb dX4_readsOf_7 (by rw [c_1_5]; decide) (by rw [c_1_5]; decide) (by rw [c_1_5]; rfl) (by decide) ?_
              refine lv_iload_n hx hb dX4_readsOf_82 rfl (lv_at hl 4 rfl) ?_
              refine lv_if_ne (tgt := 93) hx hb dX4_readsOf_83 (by decide) (fun c_4 => ?_) (fun c_4 => ?_)
              · replace hv := hv.1 c_4
                refine lv_iload hx hb dX4_readsOf_93 (lv_at hl 0 rfl) ?_
                exact ret () ((10 : Int32) * p4) H locs ls _ rfl hW hS hv dX4_readsOf_95
              · replace hv := hv.2 c_4
                refine lv_bipush (v := 90) hx hb dX4_readsOf_86 kbp_90 ?_
                refine lv_iload_n hx hb dX4_readsOf_88 rfl (lv_at hl 2 rfl) ?_
                refine lv_isub hx hb dX4_readsOf_89 ?_
                refine lv_goto (tgt := 95) hx hb dX4_readsOf_90 (by decide) ?_
                exact ret () ((90 : Int32) - p2) H locs ls _ rfl hW hS hv dX4_readsOf_95
            · replace hv := hv.2 c_1_5
              refine sw_row (tgt := 96) hx hb dX4_readsOf_7 rfl (lt_s (lt_s (lt_s (lt_s (lt_s (lt_s lt_0 (Or.inr (lv_neT c_1_0 rfl))) (Or.inr (lv_neT c_1_1 rfl))) (Or.inr (lv_neT c_1_2 rfl))) (Or.inr (lv_neT c_1_3 rfl))) (Or.inr (lv_neT c_1_4 rfl))) (Or.inr (lv_neT c_1_5 rfl))) (by decide) ?_
              refine lv_iload hx hb dX4_readsOf_96 (lv_at hl 0 rfl) ?_
              exact ret () ((10 : Int32) * p4) H locs ls _ rfl hW hS hv dX4_readsOf_98
