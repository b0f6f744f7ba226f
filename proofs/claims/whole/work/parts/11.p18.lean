/-! text: the levels, and what stands between -/
theorem lo_4 {c : Int32} (h : lo c = nI 4) : c = 42 ∨ c = 47 ∨ c = 37 := by
  unfold lo at h
  repeat' split at h
  all_goals first | exact absurd h (by decide) | simp [*]
theorem lo_3 {c : Int32} (h : lo c = nI 3) : c = 43 ∨ c = 45 := by
  unfold lo at h
  repeat' split at h
  all_goals first | exact absurd h (by decide) | simp [*]
theorem lo_2 {c : Int32} (h : lo c = nI 2) : c = 60 ∨ c = 61 ∨ c = 62 := by
  unfold lo at h
  repeat' split at h
  all_goals first | exact absurd h (by decide) | simp [*]
theorem lo_1 {c : Int32} (h : lo c = nI 1) : c = 38 := by
  unfold lo at h
  repeat' split at h
  all_goals first | exact absurd h (by decide) | simp [*]
theorem lo_0 {c : Int32} (h : lo c = nI 0) : c = 124 := by
  unfold lo at h
  repeat' split at h
  all_goals first | exact absurd h (by decide) | simp [*]
theorem pr_s {L u o d dT : Nat} {by_ m : Nat → Int32} (hL : L ≤ 60) (hm : m 2 = nI L) (hb : ∀ i, i < L → tb (by_ i) (m (298 + i))) (ho : o ≤ 5)
    (hop : SMf L u o (fun p z st K => v_X1_readLevel d (nI 5) (nI o) (nI L) p u z by_ st K) (fun a z stp K => v_X7_one dT a (nI o) z (nI u) m stp K)) :
    SMf L u o (fun p z st K => v_X1_readLevel (d + 1) (nI 4) (nI o) (nI L) p u z by_ st K) (fun a z stp K => v_X7_product (v_X7_one dT) a (nI o) z (nI u) m stp K) := by
  refine lv_s (OC := (vv_X1_readLevel d).1) (OI := (vv_X1_readLevel d).2) (l := 4) (LT := fun K n a o z s => l_X7_product_9 (v_X7_one dT) (nI u) m K n a o z s) hL hb (by decide) ho (by decide) hop (fun K n q z stp hq w h => ?_) (fun K n q z stp c w h => ?_) (fun K a z stp h => h)
  · show l_X7_product_9 (v_X7_one dT) (nI u) m K (n + 1) (nI q) (nI o) (nI z) stp
    rw [l_X7_product_9]
    refine lk_7 hL hm hq ?_
    rw [br_n (fun e => w (by rw [e]; decide))]
    refine lk_7 hL hm hq ?_
    rw [br_n (fun e => w (by rw [e]; decide))]
    refine lk_7 hL hm hq ?_
    rw [br_u (fun e => w (by rw [e]; decide))]
    exact h
  · show l_X7_product_9 (v_X7_one dT) (nI u) m K (n + 1) (nI q) (nI o) (nI z) stp
    have j : j_X7_product_36 (v_X7_one dT) (nI u) m (fun a o z s => l_X7_product_9 (v_X7_one dT) (nI u) m K n a o z s) K (nI q) (nI o) (nI z) stp := by
      unfold j_X7_product_36
      refine lk_7 hL hm (by omega) ?_
      rw [nI_1]; exact h
    rw [l_X7_product_9]
    refine lk_7 hL hm (by omega) ⟨fun _ => j, fun a1 => lk_7 hL hm (by omega) ⟨fun _ => j, fun a2 => lk_7 hL hm (by omega) ⟨fun a3 => ?_, fun _ => j⟩⟩⟩
    rcases lo_4 w with e | e | e
    · exact absurd e a1
    · exact absurd e a2
    · exact absurd e a3
theorem su_s {L u o d dT : Nat} {by_ m : Nat → Int32} (hL : L ≤ 60) (hm : m 2 = nI L) (hb : ∀ i, i < L → tb (by_ i) (m (298 + i))) (ho : o ≤ 5)
    (hop : SMf L u o (fun p z st K => v_X1_readLevel d (nI 4) (nI o) (nI L) p u z by_ st K) (fun a z stp K => v_X7_product (v_X7_one dT) a (nI o) z (nI u) m stp K)) :
    SMf L u o (fun p z st K => v_X1_readLevel (d + 1) (nI 3) (nI o) (nI L) p u z by_ st K) (fun a z stp K => v_X7_sum (v_X7_one dT) a (nI o) z (nI u) m stp K) := by
  refine lv_s (OC := (vv_X1_readLevel d).1) (OI := (vv_X1_readLevel d).2) (l := 3) (LT := fun K n a o z s => l_X7_sum_9 (v_X7_one dT) (nI u) m K n a o z s) hL hb (by decide) ho (by decide) hop (fun K n q z stp hq w h => ?_) (fun K n q z stp c w h => ?_) (fun K a z stp h => h)
  · show l_X7_sum_9 (v_X7_one dT) (nI u) m K (n + 1) (nI q) (nI o) (nI z) stp
    rw [l_X7_sum_9]
    refine lk_7 hL hm hq ?_
    rw [br_n (fun e => w (by rw [e]; decide))]
    refine lk_7 hL hm hq ?_
    rw [br_u (fun e => w (by rw [e]; decide))]
    exact h
  · show l_X7_sum_9 (v_X7_one dT) (nI u) m K (n + 1) (nI q) (nI o) (nI z) stp
    have j : j_X7_sum_27 (v_X7_one dT) (nI u) m (fun a o z s => l_X7_sum_9 (v_X7_one dT) (nI u) m K n a o z s) K (nI q) (nI o) (nI z) stp := by
      unfold j_X7_sum_27
      refine lk_7 hL hm (by omega) ?_
      rw [nI_1]; exact h
    rw [l_X7_sum_9]
    refine lk_7 hL hm (by omega) ⟨fun _ => j, fun a1 => lk_7 hL hm (by omega) ⟨fun a3 => ?_, fun _ => j⟩⟩
    rcases lo_3 w with e | e
    · exact absurd e a1
    · exact absurd e a3
theorem bo_s {L u o d dT : Nat} {by_ m : Nat → Int32} (hL : L ≤ 60) (hm : m 2 = nI L) (hb : ∀ i, i < L → tb (by_ i) (m (298 + i))) (ho : o ≤ 5)
    (hop : SMf L u o (fun p z st K => v_X1_readLevel d (nI 2) (nI o) (nI L) p u z by_ st K) (fun a z stp K => v_X7_compared (v_X7_one dT) a (nI o) z (nI u) m stp K)) :
    SMf L u o (fun p z st K => v_X1_readLevel (d + 1) (nI 1) (nI o) (nI L) p u z by_ st K) (fun a z stp K => v_X7_both (v_X7_one dT) a (nI o) z (nI u) m stp K) := by
  refine lv_s (OC := (vv_X1_readLevel d).1) (OI := (vv_X1_readLevel d).2) (l := 1) (LT := fun K n a o z s => l_X7_both_9 (v_X7_one dT) (nI u) m K n a o z s) hL hb (by decide) ho (by decide) hop (fun K n q z stp hq w h => ?_) (fun K n q z stp c w h => ?_) (fun K a z stp h => h)
  · show l_X7_both_9 (v_X7_one dT) (nI u) m K (n + 1) (nI q) (nI o) (nI z) stp
    rw [l_X7_both_9]
    refine lk_7 hL hm hq ?_
    rw [br_u (fun e => w (by rw [e]; decide))]
    exact h
  · show l_X7_both_9 (v_X7_one dT) (nI u) m K (n + 1) (nI q) (nI o) (nI z) stp
    rw [l_X7_both_9]
    refine lk_7 hL hm (by omega) ?_
    rw [lo_1 w] at h ⊢
    rw [br_v rfl, nI_1]
    exact h
theorem wh_s {L u o d dT : Nat} {by_ m : Nat → Int32} (hL : L ≤ 60) (hm : m 2 = nI L) (hb : ∀ i, i < L → tb (by_ i) (m (298 + i))) (ho : o ≤ 5)
    (hop : SMf L u o (fun p z st K => v_X1_readLevel d (nI 1) (nI o) (nI L) p u z by_ st K) (fun a z stp K => v_X7_both (v_X7_one dT) a (nI o) z (nI u) m stp K)) :
    SMf L u o (fun p z st K => v_X1_readLevel (d + 1) (nI 0) (nI o) (nI L) p u z by_ st K) (fun a z stp K => v_X7_whole (v_X7_one dT) a (nI o) z (nI u) m stp K) := by
  refine lv_s (OC := (vv_X1_readLevel d).1) (OI := (vv_X1_readLevel d).2) (l := 0) (LT := fun K n a o z s => l_X7_whole_9 (v_X7_one dT) (nI u) m K n a o z s) hL hb (by decide) ho (by decide) hop (fun K n q z stp hq w h => ?_) (fun K n q z stp c w h => ?_) (fun K a z stp h => h)
  · show l_X7_whole_9 (v_X7_one dT) (nI u) m K (n + 1) (nI q) (nI o) (nI z) stp
    rw [l_X7_whole_9]
    refine lk_7 hL hm hq ?_
    rw [br_u (fun e => w (by rw [e]; decide))]
    exact h
  · show l_X7_whole_9 (v_X7_one dT) (nI u) m K (n + 1) (nI q) (nI o) (nI z) stp
    rw [l_X7_whole_9]
    refine lk_7 hL hm (by omega) ?_
    rw [lo_0 w] at h ⊢
    rw [br_v rfl, nI_1]
    exact h
theorem cm_s {L u o d dT : Nat} {by_ m : Nat → Int32} (hL : L ≤ 60) (hm : m 2 = nI L) (hb : ∀ i, i < L → tb (by_ i) (m (298 + i))) (ho : o ≤ 5)
    (hop : SMf L u o (fun p z st K => v_X1_readLevel d (nI 3) (nI o) (nI L) p u z by_ st K) (fun a z stp K => v_X7_sum (v_X7_one dT) a (nI o) z (nI u) m stp K)) :
    SMf L u o (fun p z st K => v_X1_readLevel (d + 1) (nI 2) (nI o) (nI L) p u z by_ st K) (fun a z stp K => v_X7_compared (v_X7_one dT) a (nI o) z (nI u) m stp K) := by
  intro dd q g z st stp en
  have c1 : ¬ (5 : Int32) ≤ nI 2 := by decide
  have c2 : nI o ≤ (5 : Int32) := nI_le (b := 5) ho (by decide)
  have cc : ∀ {K : Int32 → Int32 → Int32 → (Nat → Int32) → Prop}, v_X1_readLevel d (nI 3) (nI o) (nI L) (nI q) u (nI z) by_ st (fun r p z' s' => (¬ r = 0 → ∃ n, l_X1_readLevel_31 (vv_X1_readLevel d).1 (vv_X1_readLevel d).2 (nI 2) (nI o) (nI L) u by_ K n 1 p z' s') ∧ (r = 0 → K 0 p z' s')) → v_X1_readLevel (d + 1) (nI 2) (nI o) (nI L) (nI q) u (nI z) by_ st K := by
    intro K h
    show b_X1_readLevel (vv_X1_readLevel d).1 (vv_X1_readLevel d).2 (nI 2) (nI o) (nI L) (nI q) u (nI z) by_ st K
    unfold b_X1_readLevel
    rw [br_n c1, br_y c2, nI_1]
    exact h
  rcases hop dd q g z st stp en with ⟨q1, z1, st1, stp1, a1, a2, a3, a4, a5, hC, hT⟩ | ⟨q1, z1, st1, o1, z2, stp1, a1, a2, hC, hT⟩
  · by_cases w : lo (ch L m q1) = nI 2
    · have hne : ¬ lo (ch L m q1) = -1 := by rw [w]; decide
      have c : q1 < L := by
        rcases Nat.lt_or_ge q1 L with c | c
        · exact c
        · refine absurd ?_ hne
          have hc : ch L m q1 = -1 := if_neg (by omega)
          rw [hc]; exact lo_e
      have hsg : sg (ch L m q1) := by
        have hc : ch L m q1 = m (298 + q1) := if_pos c
        rw [hc] at hne ⊢
        exact (tb_sg (hb q1 c) hne).2
      have tw : ∀ K : Int32 → Int32 → Int32 → Int32 → (Nat → Int32) → Prop, v_X7_sum (v_X7_one dT) (nI (q1 + 1)) (nI o) (nI z1) (nI u) m stp1 (fun r a o' z' s' => (¬ r = 0 → v_X7_step1 3 (ch L m q1) z' s' (fun z2 s2 => K 1 a o' z2 s2)) ∧ (r = 0 → K 0 a o' z' s')) → v_X7_compared (v_X7_one dT) (nI q) (nI o) (nI z) (nI u) m stp K := by
        intro K h
        have j : j_X7_compared_34 (v_X7_one dT) (nI u) m K (ch L m q1) (nI q1) (nI o) (nI z1) stp1 := by
          unfold j_X7_compared_34
          rw [nI_1]; exact h
        unfold v_X7_compared
        refine hT _ ⟨fun _ => lk_7 hL hm (by omega) ⟨fun _ => j, fun b1 => ⟨fun _ => j, fun b2 => ⟨fun _ => j, fun b3 => ?_⟩⟩⟩, fun y => absurd y (by decide)⟩
        rcases lo_2 w with e | e | e
        · exact absurd e b1
        · exact absurd e b2
        · exact absurd e b3
      rcases hop (dd + 1) (q1 + 1) (g + 1) z1 st1 stp1 ⟨by omega, by omega, a4, a5⟩ with ⟨q2, z2, st2, stp2, b1, b2, b3, b4, b5, hC2, hT2⟩ | ⟨q2, z2, st2, o2, z3, stp2, b1, b2, hC2, hT2⟩
      · have fs := sg_f hsg
        have z60 : z2 < 60 := by omega
        refine Or.inl ⟨q2, z2 + 1, upd st2 z2 (-(ch L m q1)), upd (upd stp2 (2 * z2) 3) (2 * z2 + 1) (ch L m q1), by omega, b2, by omega, ST_p b4 (Or.inr (Or.inr (Or.inr (Or.inr (Or.inr ⟨_, hsg, rfl, rfl, rfl⟩))))) (fun e => absurd e fs.2.1) (fun _ _ => by omega), ?_, fun K hK => ?_, fun K hK => ?_⟩
        · rw [dp_s, if_neg fs.2.2.2, if_neg fs.2.1, b5]; rfl
        · refine cc (hC _ ⟨fun _ => ⟨2, cl_go (n := 1) (l := 2) (by decide) hL c hb w (hC2 _ ⟨fun _ => sp_6 z60 ?_, fun y => absurd y (by decide)⟩)⟩, fun y => absurd y (by decide)⟩)
          rw [if_pos rfl, l_X1_readLevel_31, br_y rfl]
          exact hK
        · exact tw K (hT2 _ ⟨fun _ => sp_7 z60 hK, fun y => absurd y (by decide)⟩)
      · refine Or.inr ⟨q2, z2, st2, o2, z3, stp2, b1, b2, fun K hK => ?_, fun K hK => ?_⟩
        · exact cc (hC _ ⟨fun _ => ⟨2, cl_go (n := 1) (l := 2) (by decide) hL c hb w (hC2 _ ⟨fun y => absurd rfl y, fun _ => hK⟩)⟩, fun y => absurd y (by decide)⟩)
        · exact tw K (hT2 _ ⟨fun y => absurd rfl y, fun _ => hK⟩)
    · refine Or.inl ⟨q1, z1, st1, stp1, a1, a2, a3, a4, a5, fun K hK => ?_, fun K hK => ?_⟩
      · exact cc (hC _ ⟨fun _ => ⟨1, cl_stop (n := 0) hL a2 hb w hK⟩, fun y => absurd y (by decide)⟩)
      · show v_X7_compared (v_X7_one dT) (nI q) (nI o) (nI z) (nI u) m stp K
        unfold v_X7_compared
        refine hT _ ⟨fun _ => lk_7 hL hm a2 ?_, fun y => absurd y (by decide)⟩
        rw [br_n (fun e => w (by rw [e]; decide)), br_n (fun e => w (by rw [e]; decide)), br_n (fun e => w (by rw [e]; decide))]
        exact hK
  · refine Or.inr ⟨q1, z1, st1, o1, z2, stp1, a1, a2, fun K hK => ?_, fun K hK => ?_⟩
    · exact cc (hC _ ⟨fun y => absurd rfl y, fun _ => hK⟩)
    · show v_X7_compared (v_X7_one dT) (nI q) (nI o) (nI z) (nI u) m stp K
      unfold v_X7_compared
      exact hT _ ⟨fun y => absurd rfl y, fun _ => hK⟩
theorem l5_s {L u o d dT : Nat} {by_ m : Nat → Int32}
    (hin : SMf L u o (fun p z st K => v_X1_readInner d (nI o) (nI L) p u z by_ st K) (fun a z stp K => v_X7_one dT a (nI o) z (nI u) m stp K)) :
    SMf L u o (fun p z st K => v_X1_readLevel (d + 1) (nI 5) (nI o) (nI L) p u z by_ st K) (fun a z stp K => v_X7_one dT a (nI o) z (nI u) m stp K) := by
  intro dd q g z st stp en
  have cc : ∀ {K : Int32 → Int32 → Int32 → (Nat → Int32) → Prop}, v_X1_readInner d (nI o) (nI L) (nI q) u (nI z) by_ st K → v_X1_readLevel (d + 1) (nI 5) (nI o) (nI L) (nI q) u (nI z) by_ st K := by
    intro K h
    show b_X1_readLevel (vv_X1_readLevel d).1 (vv_X1_readLevel d).2 (nI 5) (nI o) (nI L) (nI q) u (nI z) by_ st K
    unfold b_X1_readLevel
    rw [br_y (show (5 : Int32) ≤ nI 5 by decide)]
    exact h
  rcases hin dd q g z st stp en with ⟨q1, z1, st1, stp1, a1, a2, a3, a4, a5, hC, hT⟩ | ⟨q1, z1, st1, o1, z2, stp1, a1, a2, hC, hT⟩
  · exact Or.inl ⟨q1, z1, st1, stp1, a1, a2, a3, a4, a5, fun K hK => cc (hC K hK), hT⟩
  · exact Or.inr ⟨q1, z1, st1, o1, z2, stp1, a1, a2, fun K hK => cc (hC K hK), hT⟩
theorem all_s {L u o d dT : Nat} {by_ m : Nat → Int32} (hL : L ≤ 60) (hm : m 2 = nI L) (hb : ∀ i, i < L → tb (by_ i) (m (298 + i))) (ho : o ≤ 5)
    (hin : SMf L u o (fun p z st K => v_X1_readInner d (nI o) (nI L) p u z by_ st K) (fun a z stp K => v_X7_one dT a (nI o) z (nI u) m stp K)) :
    SMf L u o (fun p z st K => v_X1_readLevel (d + 6) (nI 0) (nI o) (nI L) p u z by_ st K) (fun a z stp K => v_X7_whole (v_X7_one dT) a (nI o) z (nI u) m stp K) :=
  wh_s hL hm hb ho (bo_s hL hm hb ho (cm_s hL hm hb ho (su_s hL hm hb ho (pr_s hL hm hb ho (l5_s hin)))))
