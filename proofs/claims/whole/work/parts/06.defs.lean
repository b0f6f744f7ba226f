def wd_J1_0 (G : Gt) : va_W := []
def v_J0_coder_7d493k0 (K : Int32 → Prop) : Prop := K (0 : Int32)
def v_J0_isLatin1_aae02k0 (K : Int32 → Prop) : Prop := K (1 : Int32)
def v_J0_length_8abf5k0 (K : Int32 → Prop) : Prop := K ((3 : Int32) >>> ((0 : Int32) &&& 31))
def v_J1_canEncode_9a6ad (p1 : Int32) (K : Int32 → Prop) : Prop := ((p1 < 0 → K (0 : Int32)) ∧ (¬ p1 < 0 → (((255 : Int32) < p1 → K (0 : Int32)) ∧ (¬ (255 : Int32) < p1 → K (1 : Int32)))))
def l_J1_indexOfChar_4cfefk0_7 (p2 : Int32) (p3 : Int32) (p4 : Int32) (K : Int32 → Prop) : Nat → Int32 → Int32 → Prop
  | 0, _, _ => False
  | n + 1, x4, x5 => ((p4 ≤ x5 → K (-1 : Int32)) ∧ (¬ p4 ≤ x5 → (vp_in x5 3 ∧ ((¬ (f_str 0 x5.toNatClampNeg) = x4 → l_J1_indexOfChar_4cfefk0_7 p2 p3 p4 K n x4 (x5 + 1)) ∧ ((f_str 0 x5.toNatClampNeg) = x4 → K x5)))))
def v_J1_indexOfChar_4cfefk0 (p2 : Int32) (p3 : Int32) (p4 : Int32) (K : Int32 → Prop) : Prop := (∃ n_4, l_J1_indexOfChar_4cfefk0_7 p2 p3 p4 K n_4 p2.toInt8.toInt32 p3)
def v_J1_indexOf_4cfefk0 (p2 : Int32) (p3 : Int32) (p4 : Int32) (K : Int32 → Prop) : Prop := v_J1_canEncode_9a6ad p2 (fun r_1 => ((¬ r_1 = 0 → (((if p3 < (0 : Int32) then (0 : Int32) else p3) < (if (3 : Int32) < p4 then (3 : Int32) else p4) → v_J1_indexOfChar_4cfefk0 p2 (if p3 < (0 : Int32) then (0 : Int32) else p3) (if (3 : Int32) < p4 then (3 : Int32) else p4) (fun r_5 => K r_5)) ∧ (¬ (if p3 < (0 : Int32) then (0 : Int32) else p3) < (if (3 : Int32) < p4 then (3 : Int32) else p4) → K (-1 : Int32)))) ∧ (r_1 = 0 → K (-1 : Int32))))
def v_J0_indexOf_7cf53k0 (p1 : Int32) (p2 : Int32) (K : Int32 → Prop) : Prop := v_J1_indexOf_4cfefk0 p1 p2 (3 : Int32) (fun r_6 => K r_6)
def v_J0_indexOf_0f7a4k0 (p1 : Int32) (K : Int32 → Prop) : Prop := v_J0_indexOf_7cf53k0 p1 (0 : Int32) (fun r_1 => K r_1)
def v_J0_coder_7d493k1 (K : Int32 → Prop) : Prop := K (0 : Int32)
def v_J0_isLatin1_aae02k1 (K : Int32 → Prop) : Prop := K (1 : Int32)
def v_J0_length_8abf5k1 (K : Int32 → Prop) : Prop := K ((3 : Int32) >>> ((0 : Int32) &&& 31))
def l_J1_indexOfChar_4cfefk1_7 (p2 : Int32) (p3 : Int32) (p4 : Int32) (K : Int32 → Prop) : Nat → Int32 → Int32 → Prop
  | 0, _, _ => False
  | n + 1, x4, x5 => ((p4 ≤ x5 → K (-1 : Int32)) ∧ (¬ p4 ≤ x5 → (vp_in x5 3 ∧ ((¬ (f_str 1 x5.toNatClampNeg) = x4 → l_J1_indexOfChar_4cfefk1_7 p2 p3 p4 K n x4 (x5 + 1)) ∧ ((f_str 1 x5.toNatClampNeg) = x4 → K x5)))))
def v_J1_indexOfChar_4cfefk1 (p2 : Int32) (p3 : Int32) (p4 : Int32) (K : Int32 → Prop) : Prop := (∃ n_4, l_J1_indexOfChar_4cfefk1_7 p2 p3 p4 K n_4 p2.toInt8.toInt32 p3)
def v_J1_indexOf_4cfefk1 (p2 : Int32) (p3 : Int32) (p4 : Int32) (K : Int32 → Prop) : Prop := v_J1_canEncode_9a6ad p2 (fun r_1 => ((¬ r_1 = 0 → (((if p3 < (0 : Int32) then (0 : Int32) else p3) < (if (3 : Int32) < p4 then (3 : Int32) else p4) → v_J1_indexOfChar_4cfefk1 p2 (if p3 < (0 : Int32) then (0 : Int32) else p3) (if (3 : Int32) < p4 then (3 : Int32) else p4) (fun r_5 => K r_5)) ∧ (¬ (if p3 < (0 : Int32) then (0 : Int32) else p3) < (if (3 : Int32) < p4 then (3 : Int32) else p4) → K (-1 : Int32)))) ∧ (r_1 = 0 → K (-1 : Int32))))
def v_J0_indexOf_7cf53k1 (p1 : Int32) (p2 : Int32) (K : Int32 → Prop) : Prop := v_J1_indexOf_4cfefk1 p1 p2 (3 : Int32) (fun r_6 => K r_6)
def v_J0_indexOf_0f7a4k1 (p1 : Int32) (K : Int32 → Prop) : Prop := v_J0_indexOf_7cf53k1 p1 (0 : Int32) (fun r_1 => K r_1)
def v_X0_named (p1 : Int32) (p2 : Int32) (p3 : Int32) (p4 : Int32) (K : Int32 → Prop) : Prop := ((¬ p1 = (-1 : Int32) → ((¬ p1 = (-2 : Int32) → K p4) ∧ (p1 = (-2 : Int32) → K p3))) ∧ (p1 = (-1 : Int32) → K p2))
