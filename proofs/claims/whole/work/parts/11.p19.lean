/-! text: a number, a name, ! or ( -/
theorem rg_k : ∀ k, k < 128 → (0 : Int32) ≤ ((nI k).toUInt32 % 65536).toInt32 ∧ ((nI k).toUInt32 % 65536).toInt32 < 65536 := by decide +kernel
theorem ri_6 {OL : Int32 → Int32 → Int32 → Int32 → Nat → Int32 → (Nat → Int32) → (Nat → Int32) → (Int32 → Int32 → Int32 → (Nat → Int32) → Prop) → Prop} {OI : Int32 → Int32 → Int32 → Nat → Int32 → (Nat → Int32) → (Nat → Int32) → (Int32 → Int32 → Int32 → (Nat → Int32) → Prop) → Prop} {L u o q z : Nat} {by_ st : Nat → Int32} {c : Int32} (hL : L ≤ 60) (hu : u < 2) (ho : o ≤ 5) (hq : q < L) (ht : tb (by_ q) c) {K : Int32 → Int32 → Int32 → (Nat → Int32) → Prop}
    (h0 : cd c = 0 → j_X1_readInner_57 OL OI (nI o) (nI L) u by_ K (by_ q) (nx u (by_ q)) (nI q) (nI z) st) (h1 : cd c = 1 → v_X1_readNumber (nI L) (nI q) (nI z) by_ st K) : b_X1_readInner OL OI (nI o) (nI L) (nI q) u (nI z) by_ st K := by
  have cq : (nI q).toNatClampNeg = q := nI_clamp (by omega)
  unfold b_X1_readInner
  rw [br_n (nI_ge hq (by omega)), br_y (show nI o ≤ (5 : Int32) from nI_le (b := 5) ho (by decide)), vi_60 (by omega), true_and, cq]
  refine cd_6 ?_
  rw [tb_cd ht]
  refine ⟨fun e => ?_, fun e => h1 ((cd_01 c).elim (fun w => absurd w e) id)⟩
  have h := h0 e
  unfold nx at h
  refine ⟨fun w => ?_, fun w => ⟨hu, ?_, ?_⟩⟩
  · rw [if_pos w] at h; exact h
  · rcases ht with ⟨k, hk, hb, _⟩ | ⟨hn, _⟩
    · rw [hb]; exact rg_k k hk
    · exact absurd (by rw [fa_lt] at hn; rw [fa_le]; omega) w
  · rw [if_neg w] at h; exact h
theorem rc_6 {L q : Nat} {by_ m : Nat → Int32} (hL : L ≤ 60) (hq : q ≤ L) (hb : ∀ i, i < L → tb (by_ i) (m (298 + i))) {K : Int32 → Int32 → Prop} (h : (ch L m q = 41 → q < L → K 1 (nI (q + 1))) ∧ (¬ ch L m q = 41 → K 0 (nI q))) : v_X1_readClosing (nI L) (nI q) by_ K := by
  unfold v_X1_readClosing
  by_cases c : q < L
  · have cq : (nI q).toNatClampNeg = q := nI_clamp (by omega)
    have hc : ch L m q = m (298 + q) := if_pos c
    have ht := tb_is (hb q c) 41 (by decide)
    rw [hc] at h
    rw [br_n (nI_ge c (by omega)), vi_60 (by omega), true_and, cq, nI_1]
    exact ⟨fun w => h.1 (ht.mp w) c, fun w => h.2 (fun y => w (ht.mpr y))⟩
  · have hc : ch L m q = -1 := if_neg c
    rw [hc] at h
    rw [br_y (nI_le (by omega) (by omega))]
    exact h.2 (by decide)
theorem in_1 {L u o a b : Nat} {by_ m : Nat → Int32} (hL : L ≤ 60) (hm : m 2 = nI L) (hb : ∀ i, i < L → tb (by_ i) (m (298 + i))) (hu : u < 2) (ho : o ≤ 5)
    (hi : o < 5 → SMf L u (o + 1) (fun p z st K => v_X1_readInner a (nI (o + 1)) (nI L) p u z by_ st K) (fun a z stp K => v_X7_one b a (nI (o + 1)) z (nI u) m stp K))
    (hw : o < 5 → SMf L u (o + 1) (fun p z st K => v_X1_readLevel a (nI 0) (nI (o + 1)) (nI L) p u z by_ st K) (fun a z stp K => v_X7_whole (v_X7_one b) a (nI (o + 1)) z (nI u) m stp K)) :
    SMf L u o (fun p z st K => v_X1_readInner (a + 1) (nI o) (nI L) p u z by_ st K) (fun a z stp K => v_X7_one (b + 1) a (nI o) z (nI u) m stp K) := by
  intro d q g z st stp ⟨hq, hz, hs, hd⟩
  show Sm L u d q g o (fun K => b_X1_readInner (v_X1_readLevel a) (v_X1_readInner a) (nI o) (nI L) (nI q) u (nI z) by_ st K) (fun K => b_X7_one (v_X7_one b) (nI q) (nI o) (nI z) (nI u) m stp K)
  have fl : (∀ K, K 0 (nI q) (nI z) st → b_X1_readInner (v_X1_readLevel a) (v_X1_readInner a) (nI o) (nI L) (nI q) u (nI z) by_ st K) → (∀ K, K 0 (nI q) (nI o) (nI z) stp → b_X7_one (v_X7_one b) (nI q) (nI o) (nI z) (nI u) m stp K) → Sm L u d q g o (fun K => b_X1_readInner (v_X1_readLevel a) (v_X1_readInner a) (nI o) (nI L) (nI q) u (nI z) by_ st K) (fun K => b_X7_one (v_X7_one b) (nI q) (nI o) (nI z) (nI u) m stp K) :=
    fun h1 h2 => Or.inr ⟨q, z, st, nI o, nI z, stp, hq, by omega, h1, h2⟩
  by_cases c : q < L
  · have hc : ch L m q = m (298 + q) := if_pos c
    have ht : tb (by_ q) (ch L m q) := by rw [hc]; exact hb q c
    have z60 : z < 60 := by omega
    rcases cd_01 (ch L m q) with e0 | e1
    · rcases tb_nm hu ht with ⟨n0, n1⟩ | ⟨n0, _, hn⟩
      · have cx : ∀ K, ((by_ q = 33 → j_X1_readInner_93 (v_X1_readLevel a) (v_X1_readInner a) (nI o) (nI L) u by_ K (by_ q) (nI q) (nI z) st) ∧ (¬ by_ q = 33 → ((¬ by_ q = 40 → K 0 (nI q) (nI z) st) ∧ (by_ q = 40 → j_X1_readInner_93 (v_X1_readLevel a) (v_X1_readInner a) (nI o) (nI L) u by_ K (by_ q) (nI q) (nI z) st)))) → b_X1_readInner (v_X1_readLevel a) (v_X1_readInner a) (nI o) (nI L) (nI q) u (nI z) by_ st K := by
          intro K h
          refine ri_6 hL hu ho c ht (fun _ => ?_) (fun e => absurd (e0.symm.trans e) (by decide))
          rw [n1]
          unfold j_X1_readInner_57
          rw [br_y (show (-1 : Int32) < 0 by decide)]
          exact h
        by_cases w33 : ch L m q = 33
        · have b33 : by_ q = 33 := (tb_is ht 33 (by decide)).mpr w33
          have b40 : ¬ by_ q = 40 := by rw [b33]; decide
          by_cases o5 : o = 5
          · refine fl (fun K hK => cx K ⟨fun _ => ?_, fun w => absurd b33 w⟩) (fun K hK => ?_)
            · unfold j_X1_readInner_93
              rw [br_v (show nI o = (5 : Int32) by rw [o5]; rfl)]
              exact hK
            · unfold b_X7_one
              refine lk_7 hL hm hq (iN_7 hu ?_)
              rw [n0, rb_0]
              refine cd_7 ?_
              rw [e0, rb_0, br_v w33]
              unfold v_X7_opens
              refine ⟨fun w => absurd (show nI o = (5 : Int32) by rw [o5]; rfl) w, fun _ => ?_⟩
              exact ⟨fun _ => hK, fun w => absurd rfl w⟩
          · have n5 : ¬ nI o = (5 : Int32) := fun w => o5 ((nI_eq (b := 5) (by omega) (by decide)).mp w)
            have cg : ∀ K, v_X1_readInner a (nI (o + 1)) (nI L) (nI (q + 1)) u (nI z) by_ st (fun r p z' s' => v_X1_step (-33) z' s' (fun z2 s2 => K r p z2 s2)) → b_X1_readInner (v_X1_readLevel a) (v_X1_readInner a) (nI o) (nI L) (nI q) u (nI z) by_ st K := by
              intro K h
              refine cx K ⟨fun _ => ?_, fun w => absurd b33 w⟩
              unfold j_X1_readInner_93
              rw [br_u n5, br_u b40, nI_1, nI_1]
              exact h
            have tg_ : ∀ K : Int32 → Int32 → Int32 → Int32 → (Nat → Int32) → Prop, v_X7_one b (nI (q + 1)) (nI (o + 1)) (nI z) (nI u) m stp (fun r p o' z' s' => (¬ r = 0 → v_X7_step1 2 0 z' s' (fun z2 s2 => K 1 p (o' - 1) z2 s2)) ∧ (r = 0 → K 0 p o' z' s')) → b_X7_one (v_X7_one b) (nI q) (nI o) (nI z) (nI u) m stp K := by
              intro K h
              unfold b_X7_one
              refine lk_7 hL hm hq (iN_7 hu ?_)
              rw [n0, rb_0]
              refine cd_7 ?_
              rw [e0, rb_0, br_v w33]
              unfold v_X7_opens
              refine ⟨fun _ => ⟨fun w => absurd w (by decide), fun _ => ?_⟩, fun w => absurd w n5⟩
              rw [nI_1, nI_1]
              exact h
            rcases hi (by omega) (d + 1) (q + 1) g z st stp ⟨by omega, by omega, hs, hd⟩ with ⟨q1, z1, st1, stp1, a1, a2, a3, a4, a5, hC, hT⟩ | ⟨q1, z1, st1, o1, z2, stp1, a1, a2, hC, hT⟩
            · have y60 : z1 < 60 := by omega
              refine Or.inl ⟨q1, z1 + 1, upd st1 z1 (-33), upd (upd stp1 (2 * z1) 2) (2 * z1 + 1) 0, by omega, a2, by omega, ST_p a4 (Or.inr (Or.inr (Or.inr (Or.inr (Or.inl ⟨rfl, rfl⟩))))) (fun _ => by omega) (fun _ w => absurd rfl w), ?_, fun K hK => ?_, fun K hK => ?_⟩
              · rw [dp_s, if_neg (by decide), if_pos rfl, a5]
              · exact cg K (hC _ (sp_6 y60 hK))
              · refine tg_ K (hT _ ⟨fun _ => sp_7 y60 ?_, fun w => absurd w (by decide)⟩)
                have e9 : nI (o + 1) - 1 = nI o := pk_sub (a := o + 1) (b := 1) (by omega)
                rw [e9]; exact hK
            · obtain ⟨z', st', s1, s2⟩ := sp_x a2 (-33) st1
              refine Or.inr ⟨q1, z', st', o1, z2, stp1, a1, s1, fun K hK => ?_, fun K hK => ?_⟩
              · exact cg K (hC _ (s2 _ hK))
              · exact tg_ K (hT _ ⟨fun w => absurd rfl w, fun _ => hK⟩)
        · have b33 : ¬ by_ q = 33 := fun w => w33 ((tb_is ht 33 (by decide)).mp w)
          by_cases w40 : ch L m q = 40
          · have b40 : by_ q = 40 := (tb_is ht 40 (by decide)).mpr w40
            by_cases o5 : o = 5
            · refine fl (fun K hK => cx K ⟨fun w => absurd w b33, fun _ => ⟨fun w => absurd b40 w, fun _ => ?_⟩⟩) (fun K hK => ?_)
              · unfold j_X1_readInner_93
                rw [br_v (show nI o = (5 : Int32) by rw [o5]; rfl)]
                exact hK
              · unfold b_X7_one
                refine lk_7 hL hm hq (iN_7 hu ?_)
                rw [n0, rb_0]
                refine cd_7 ?_
                rw [e0, rb_0, br_u w33, br_v w40]
                unfold v_X7_opens
                refine ⟨fun w => absurd (show nI o = (5 : Int32) by rw [o5]; rfl) w, fun _ => ?_⟩
                exact ⟨fun _ => hK, fun w => absurd rfl w⟩
            · have n5 : ¬ nI o = (5 : Int32) := fun w => o5 ((nI_eq (b := 5) (by omega) (by decide)).mp w)
              have cg : ∀ K, v_X1_readLevel a (nI 0) (nI (o + 1)) (nI L) (nI (q + 1)) u (nI z) by_ st (fun r p z' s' => (r = 0 → K 0 p z' s') ∧ (¬ r = 0 → v_X1_readClosing (nI L) p by_ (fun r2 p2 => (r2 = 0 → K 0 p2 z' s') ∧ (¬ r2 = 0 → K 1 p2 z' s')))) → b_X1_readInner (v_X1_readLevel a) (v_X1_readInner a) (nI o) (nI L) (nI q) u (nI z) by_ st K := by
                intro K h
                refine cx K ⟨fun w => absurd w b33, fun _ => ⟨fun w => absurd b40 w, fun _ => ?_⟩⟩
                unfold j_X1_readInner_93
                rw [br_u n5, br_v b40, nI_1, nI_1]
                exact h
              have tg_ : ∀ K : Int32 → Int32 → Int32 → Int32 → (Nat → Int32) → Prop, v_X7_whole (v_X7_one b) (nI (q + 1)) (nI (o + 1)) (nI z) (nI u) m stp (fun r p o' z' s' => (r = 0 → K 0 p o' z' s') ∧ (¬ r = 0 → v_X7_look p m (fun r2 => (r2 = 41 → K 1 (p + 1) (o' - 1) z' s') ∧ (¬ r2 = 41 → K 0 p o' z' s')))) → b_X7_one (v_X7_one b) (nI q) (nI o) (nI z) (nI u) m stp K := by
                intro K h
                unfold b_X7_one
                refine lk_7 hL hm hq (iN_7 hu ?_)
                rw [n0, rb_0]
                refine cd_7 ?_
                rw [e0, rb_0, br_u w33, br_v w40]
                unfold v_X7_opens
                refine ⟨fun _ => ⟨fun w => absurd w (by decide), fun _ => ?_⟩, fun w => absurd w n5⟩
                rw [nI_1, nI_1]
                exact h
              rcases hw (by omega) d (q + 1) g z st stp ⟨by omega, by omega, hs, hd⟩ with ⟨q1, z1, st1, stp1, a1, a2, a3, a4, a5, hC, hT⟩ | ⟨q1, z1, st1, o1, z2, stp1, a1, a2, hC, hT⟩
              · by_cases w41 : ch L m q1 = 41
                · have c1 : q1 < L := by
                    rcases Nat.lt_or_ge q1 L with c1 | c1
                    · exact c1
                    · have hc1 : ch L m q1 = -1 := if_neg (by omega)
                      rw [hc1] at w41
                      exact absurd w41 (by decide)
                  refine Or.inl ⟨q1 + 1, z1, st1, stp1, by omega, by omega, by omega, a4, a5, fun K hK => ?_, fun K hK => ?_⟩
                  · exact cg K (hC _ ⟨fun w => absurd w (by decide), fun _ => rc_6 hL a2 hb ⟨fun _ _ => ⟨fun w => absurd w (by decide), fun _ => hK⟩, fun w => absurd w41 w⟩⟩)
                  · refine tg_ K (hT _ ⟨fun w => absurd w (by decide), fun _ => lk_7 hL hm a2 ⟨fun _ => ?_, fun w => absurd w41 w⟩⟩)
                    have e9 : nI (o + 1) - 1 = nI o := pk_sub (a := o + 1) (b := 1) (by omega)
                    rw [e9, nI_1]; exact hK
                · refine Or.inr ⟨q1, z1, st1, nI (o + 1), nI z1, stp1, a2, by omega, fun K hK => ?_, fun K hK => ?_⟩
                  · exact cg K (hC _ ⟨fun w => absurd w (by decide), fun _ => rc_6 hL a2 hb ⟨fun w => absurd w w41, fun _ => ⟨fun _ => hK, fun w => absurd rfl w⟩⟩⟩)
                  · exact tg_ K (hT _ ⟨fun w => absurd w (by decide), fun _ => lk_7 hL hm a2 ⟨fun w => absurd w w41, fun _ => hK⟩⟩)
              · refine Or.inr ⟨q1, z1, st1, o1, z2, stp1, a1, a2, fun K hK => ?_, fun K hK => ?_⟩
                · exact cg K (hC _ ⟨fun _ => hK, fun w => absurd rfl w⟩)
                · exact tg_ K (hT _ ⟨fun _ => hK, fun w => absurd rfl w⟩)
          · have b40 : ¬ by_ q = 40 := fun w => w40 ((tb_is ht 40 (by decide)).mp w)
            refine fl (fun K hK => cx K ⟨fun w => absurd w b33, fun _ => ⟨fun _ => hK, fun w => absurd w b40⟩⟩) (fun K hK => ?_)
            unfold b_X7_one
            refine lk_7 hL hm hq (iN_7 hu ?_)
            rw [n0, rb_0]
            refine cd_7 ?_
            rw [e0, rb_0, br_u w33, br_u w40]
            exact hK
      · have fin : ∀ i : Nat, i < 3 → nx u (by_ q) = nI i → ch L m q = nI (na u i) → tkn u (-1 - nI i) 1 (nI (na u i)) → Sm L u d q g o (fun K => b_X1_readInner (v_X1_readLevel a) (v_X1_readInner a) (nI o) (nI L) (nI q) u (nI z) by_ st K) (fun K => b_X7_one (v_X7_one b) (nI q) (nI o) (nI z) (nI u) m stp K) := by
          intro i hi3 h1 h2 h3
          have f3 : ∀ i, i < 3 → (-3 : Int32) ≤ -1 - nI i ∧ ¬ (-1 : Int32) - nI i = -33 := by decide
          have f4 := f3 i hi3
          refine Or.inl ⟨q + 1, z + 1, upd st z (-1 - nI i), upd (upd stp (2 * z) 1) (2 * z + 1) (nI (na u i)), by omega, by omega, by omega, ST_p hs h3 (fun w => absurd w f4.2) (fun w => absurd f4.1 w), ?_, fun K hK => ?_, fun K hK => ?_⟩
          · rw [dp_s, if_pos f4.1, hd]
          · refine ri_6 hL hu ho c ht (fun _ => ?_) (fun e => absurd (e0.symm.trans e) (by decide))
            rw [h1]
            unfold j_X1_readInner_57
            rw [br_n (nI_pos (by omega)), nI_1]
            exact sp_6 z60 hK
          · unfold b_X7_one
            refine lk_7 hL hm hq (iN_7 hu ?_)
            rw [n0, rb_1, h2, nI_1]
            exact sp_7 z60 hK
        rcases hn with ⟨h1, h2⟩ | ⟨h1, h2⟩ | ⟨h1, h2⟩
        · exact fin 0 (by decide) h1 h2 (Or.inr (Or.inl ⟨by decide, rfl, rfl⟩))
        · exact fin 1 (by decide) h1 h2 (Or.inr (Or.inr (Or.inl ⟨by decide, rfl, rfl⟩)))
        · exact fin 2 (by decide) h1 h2 (Or.inr (Or.inr (Or.inr (Or.inl ⟨by decide, rfl, rfl⟩))))
    · obtain ⟨d', q', r1, r2, r3, r4, r5, r6⟩ := nu_t hL hm hb (nI u) (v_X7_one b) 4 0 0 q rfl (by decide) hq
      have r4 := r4 (by decide) e1
      have n0 : iN u (ch L m q) = 0 := by
        rcases tb_nm hu ht with ⟨n0, _⟩ | ⟨_, n1, _⟩
        · exact n0
        · rw [tb_cd ht, e1] at n1
          exact absurd n1 (by decide)
      have f4 : (-3 : Int32) ≤ nI d' := by
        rw [fa_le, nI_toInt (by omega), show (-3 : Int32).toInt = -3 by decide]; omega
      have f5 : ¬ nI d' = -33 := fun w => by
        rw [w] at f4; exact absurd f4 (by decide)
      refine Or.inl ⟨q', z + 1, upd st z (nI d'), upd (upd stp (2 * z) 0) (2 * z + 1) (nI d'), r2, r3, by omega, ST_p hs (Or.inl ⟨d', r1, rfl, rfl, rfl⟩) (fun w => absurd w f5) (fun w => absurd f4 w), ?_, fun K hK => ?_, fun K hK => ?_⟩
      · rw [dp_s, if_pos f4, hd]
      · refine ri_6 hL hu ho c ht (fun e => absurd (e1.symm.trans e) (by decide)) (fun _ => ?_)
        exact ⟨5, r5 K _ _ (sp_6 z60 hK)⟩
      · unfold b_X7_one
        refine lk_7 hL hm hq (iN_7 hu ?_)
        rw [n0, rb_0]
        refine cd_7 ?_
        rw [e1, rb_1]
        exact ⟨5, r6 K _ _ _ (sp_7 z60 hK)⟩
  · have hc : ch L m q = -1 := if_neg c
    refine fl (fun K hK => ?_) (fun K hK => ?_)
    · unfold b_X1_readInner
      rw [br_y (nI_le (by omega) (by omega))]; exact hK
    · unfold b_X7_one
      refine lk_7 hL hm hq (iN_7 hu ?_)
      rw [hc, iN_e u hu, rb_0]
      refine cd_7 ?_
      rw [cd_e, rb_0, br_u (by decide), br_u (by decide)]
      exact hK
theorem in_s {L u : Nat} {by_ m : Nat → Int32} (hL : L ≤ 60) (hm : m 2 = nI L) (hb : ∀ i, i < L → tb (by_ i) (m (298 + i))) (hu : u < 2) : ∀ r o a b, o + r = 5 → SMf L u o (fun p z st K => v_X1_readInner (7 * r + 1 + a) (nI o) (nI L) p u z by_ st K) (fun x z stp K => v_X7_one (r + 1 + b) x (nI o) z (nI u) m stp K) := by
  intro r
  induction r with
  | zero =>
    intro o a b h
    rw [show 7 * 0 + 1 + a = a + 1 by omega, show 0 + 1 + b = b + 1 by omega]
    exact in_1 hL hm hb hu (by omega) (fun w => absurd w (by omega)) (fun w => absurd w (by omega))
  | succ r ih =>
    intro o a b h
    rw [show 7 * (r + 1) + 1 + a = (7 * r + 1 + (a + 6)) + 1 by omega, show r + 1 + 1 + b = (r + 1 + b) + 1 by omega]
    refine in_1 hL hm hb hu (by omega) (fun w => ih (o + 1) (a + 6) b (by omega)) (fun w => ?_)
    have := all_s hL hm hb (by omega) (ih (o + 1) a b (by omega))
    rw [show 7 * r + 1 + a + 6 = 7 * r + 1 + (a + 6) by omega] at this
    exact this
theorem tx_s {L u : Nat} {by_ m : Nat → Int32} (hL : L ≤ 60) (hm : m 2 = nI L) (hb : ∀ i, i < L → tb (by_ i) (m (298 + i))) (hu : u < 2) : SMf L u 0 (fun p z st K => v_X1_readLevel 45 (nI 0) (nI 0) (nI L) p u z by_ st K) (fun x z stp K => v_X7_whole (v_X7_one 8) x (nI 0) z (nI u) m stp K) :=
  all_s hL hm hb (by decide) (in_s hL hm hb hu 5 0 3 2 rfl)
