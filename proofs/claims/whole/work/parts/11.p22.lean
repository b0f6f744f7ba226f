/-! voice -/
def TR (t : Nat) (c d : Nat → Int32) : Prop := t ≤ 30 ∧ ∀ i, i < 30 → d i = c i
theorem vi_30 {j : Nat} (h : j < 30) : vp_in (nI j) 30 = True := eq_true (vp_in_nI h (by decide))
theorem st_t {t : Nat} {c d : Nat → Int32} (h : TR t c d) (b : Int32) : ∃ t' c' d', TR t' c' d' ∧ (∀ K : Int32 → (Nat → Int32) → Prop, K (nI t') c' → v_X7_starts b (nI t) c K) ∧ (∀ K : Int32 → (Nat → Int32) → Prop, K (nI t') d' → v_X7_starts b (nI t) d K) := by
  by_cases w : t < 30
  · have a : ¬ (30 : Int32) ≤ nI t := nI_ge (b := 30) w (by decide)
    have ct : (nI t).toNatClampNeg = t := nI_clamp (by omega)
    have e : ∀ (f : Nat → Int32) (K : Int32 → (Nat → Int32) → Prop), K (nI (t + 1)) (upd f t b) → v_X7_starts b (nI t) f K := by
      intro f K h
      unfold v_X7_starts
      rw [br_n a, vi_30 w, true_and, ct, nI_1]
      exact h
    refine ⟨t + 1, upd c t b, upd d t b, ⟨by omega, fun i hi => ?_⟩, fun K h => e c K h, fun K h => e d K h⟩
    rw [up_at, up_at, h.2 i hi]
  · have a : (30 : Int32) ≤ nI t := nI_le (a := 30) (by omega) (by have := h.1; omega)
    have e : ∀ (f : Nat → Int32) (K : Int32 → (Nat → Int32) → Prop), K (nI t) f → v_X7_starts b (nI t) f K := by
      intro f K h
      unfold v_X7_starts
      rw [br_y a]
      exact h
    exact ⟨t, c, d, h, fun K h => e c K h, fun K h => e d K h⟩
def atf (k v : Nat) : Nat := ([0, 0, 0, 0, 1, 0, 0, 1, 0, 2, 0, 0, 0, 0, 3, 0, 4, 0, 4, 1, 0, 5, 0, 0, 6, 6, 0, 0] : List Nat).getD (4 * k + v) 0
def abf (k : Nat) : Nat := ([0, 0, 0, 0, 1, 2, 0] : List Nat).getD k 0
def bdf (k v : Nat) : Int32 := f_bodies (atf k v * 4 + v)
def stp_ (k v : Nat) : Prop := k = 0 ∨ ¬ f_bodies (k * 4 + v) = 0
def gon_ (k v : Nat) : Prop := ¬ k = 0 ∧ f_bodies (k * 4 + v) = 0 ∧ f_above k = nI (abf k)
def stpB (k v : Nat) : Bool := k == 0 || !(f_bodies (k * 4 + v) == 0)
def gonB (k v : Nat) : Bool := !(k == 0) && (f_bodies (k * 4 + v) == 0) && (f_above k == nI (abf k))
theorem stpB_e {k v : Nat} (h : stpB k v = true) : stp_ k v := by
  unfold stpB at h
  unfold stp_
  simpa using h
theorem gonB_e {k v : Nat} (h : gonB k v = true) : gon_ k v := by
  unfold gonB at h
  unfold gon_
  simp only [Bool.and_eq_true, Bool.not_eq_true', beq_eq_false_iff_ne, beq_iff_eq] at h
  exact ⟨h.1.1, h.1.2, h.2⟩
theorem at_kB : ∀ k, k < 7 → ∀ v, v < 4 → ((stpB k v && atf k v == k) || (gonB k v && stpB (abf k) v && atf k v == abf k) || (gonB k v && gonB (abf k) v && stpB (abf (abf k)) v && atf k v == abf (abf k))) = true := by decide +kernel
theorem at_k (k : Nat) (hk : k < 7) (v : Nat) (hv : v < 4) : (stp_ k v ∧ atf k v = k) ∨ (gon_ k v ∧ stp_ (abf k) v ∧ atf k v = abf k) ∨ (gon_ k v ∧ gon_ (abf k) v ∧ stp_ (abf (abf k)) v ∧ atf k v = abf (abf k)) := by
  have h := at_kB k hk v hv
  simp only [Bool.or_eq_true, Bool.and_eq_true, beq_iff_eq] at h
  rcases h with (⟨a, b⟩ | ⟨⟨a, b⟩, c⟩) | ⟨⟨⟨a, b⟩, c⟩, d⟩
  · exact Or.inl ⟨stpB_e a, b⟩
  · exact Or.inr (Or.inl ⟨gonB_e a, stpB_e b, c⟩)
  · exact Or.inr (Or.inr ⟨gonB_e a, gonB_e b, stpB_e c, d⟩)
theorem abf_7 : ∀ k, k < 7 → abf k < 7 := by decide
theorem at_7 : ∀ k, k < 7 → ∀ v, v < 4 → atf k v < 7 := by decide
theorem sk_ {f dd k v : Nat} {x pt yk ykind ym t b a : Int32} {tr : Nat → Int32} {K : Int32 → Int32 → Int32 → (Nat → Int32) → Prop} (hk : k < 7) (hv : v < 4) (hd : dd ≤ 20) (hb : bdf k v = b) (ha : f_above (atf k v) = a)
    (h : v_X7_starts b t tr (fun t' tr' => v_X5_workOut (v_X5_speak f) b a x (nI (dd + 1)) t' pt yk ykind ym tr' K)) : v_X5_speak (f + 1) (nI k) (nI v) x (nI dd) t pt yk ykind ym tr K := by
  show b_X5_speak (v_X5_speak f) (nI k) (nI v) x (nI dd) t pt yk ykind ym tr K
  unfold b_X5_speak
  rw [br_n (nI_pos (by omega)), br_n (show ¬ (7 : Int32) ≤ nI k from nI_ge (b := 7) hk (by decide)), show v_X6_isWithin (nI v) 3 = fun K => K 1 from funext (w_yes 3 (by decide) hv)]
  show ((1 : Int32) = 0 → _) ∧ (¬ (1 : Int32) = 0 → _)
  rw [rb_1, br_y (show nI dd ≤ (20 : Int32) from nI_le (b := 20) hd (by decide))]
  have ix : ∀ j, j < 7 → nI j * 4 + nI v = nI (j * 4 + v) := fun j _ => by rw [show (4 : Int32) = nI 4 from rfl, pk_mul, nI_add]
  have v28 : ∀ j, j < 7 → vp_in (nI (j * 4 + v)) 28 = True := fun j hj => eq_true (vp_in_nI (by omega) (by decide))
  have c28 : ∀ j, j < 7 → (nI (j * 4 + v)).toNatClampNeg = j * 4 + v := fun j hj => nI_clamp (by omega)
  have fin : j_X5_speak_74 (v_X5_speak f) (nI k) (nI v) x (nI dd) yk ykind ym K (nI (atf k v)) t pt tr := by
    have a7 := at_7 k hk v hv
    unfold j_X5_speak_74
    rw [ix _ a7, v28 _ a7, true_and, c28 _ a7]
    have e : ∀ t' tr', v_X5_workOut (v_X5_speak f) b a x (nI (dd + 1)) t' pt yk ykind ym tr' K → j_X5_speak_116 (v_X5_speak f) (nI k) (nI v) x (nI dd) yk ykind ym K (nI (atf k v)) (f_bodies (atf k v * 4 + v)) t' pt tr' := by
      intro t' tr' h
      unfold j_X5_speak_116
      rw [vi_7 a7, true_and, nI_clamp (by omega), ha, nI_1]
      have e2 : f_bodies (atf k v * 4 + v) = b := hb
      rw [e2]
      exact h
    unfold v_X7_starts at h
    refine ⟨fun w => e _ _ (h.1 w), fun w => ⟨(h.2 w).1, ?_⟩⟩
    have e2 : f_bodies (atf k v * 4 + v) = b := hb
    have h2 := e _ _ (h.2 w).2
    rw [e2] at h2 ⊢
    exact h2
  have s_ : ∀ j u, j < 7 → u < 7 → stp_ j v → j_X5_speak_74 (v_X5_speak f) (nI k) (nI v) x (nI dd) yk ykind ym K (nI j) t pt tr → l_X5_speak_35 (v_X5_speak f) (nI k) (nI v) x (nI dd) yk ykind ym K 1 (nI j) (nI u) t pt tr := by
    intro j u hj hu hs h
    rw [l_X5_speak_35, br_n (show ¬ (7 : Int32) ≤ nI u from nI_ge (b := 7) hu (by decide))]
    rcases hs with e | e
    · subst e
      exact ⟨fun _ => h, fun w => absurd (by decide) w⟩
    · refine ⟨fun _ => h, fun _ => ?_⟩
      rw [ix j hj, v28 j hj, true_and, c28 j hj]
      exact ⟨fun _ => h, fun w => absurd w e⟩
  have g_ : ∀ n j u, j < 7 → u < 7 → gon_ j v → l_X5_speak_35 (v_X5_speak f) (nI k) (nI v) x (nI dd) yk ykind ym K n (nI (abf j)) (nI (u + 1)) t pt tr → l_X5_speak_35 (v_X5_speak f) (nI k) (nI v) x (nI dd) yk ykind ym K (n + 1) (nI j) (nI u) t pt tr := by
    intro n j u hj hu hs h
    obtain ⟨g1, g2, g3⟩ := hs
    rw [l_X5_speak_35, br_n (show ¬ (7 : Int32) ≤ nI u from nI_ge (b := 7) hu (by decide)), br_n (nI_nle (by omega) (by omega)), ix j hj, v28 j hj, true_and, c28 j hj]
    refine ⟨fun w => absurd g2 w, fun _ => ?_⟩
    rw [vi_7 hj, true_and, nI_clamp (by omega), g3, nI_1]
    exact h
  rcases at_k k hk v hv with ⟨q1, q2⟩ | ⟨q1, q2, q3⟩ | ⟨q1, q2, q3, q4⟩
  · rw [q2] at fin
    exact ⟨1, s_ k 0 hk (by decide) q1 fin⟩
  · rw [q3] at fin
    exact ⟨2, g_ 1 k 0 hk (by decide) q1 (s_ _ 1 (abf_7 k hk) (by decide) q2 fin)⟩
  · rw [q4] at fin
    exact ⟨3, g_ 2 k 0 hk (by decide) q1 (g_ 1 _ 1 (abf_7 k hk) (by decide) q2 (s_ _ 2 (abf_7 _ (abf_7 k hk)) (by decide) q3 fin))⟩
theorem wo_10 {O : Int32 → Int32 → Int32 → Int32 → Int32 → Int32 → Int32 → Int32 → Int32 → (Nat → Int32) → (Int32 → Int32 → Int32 → (Nat → Int32) → Prop) → Prop} {ab x d t pt yk ykind ym : Int32} {tr : Nat → Int32} {K : Int32 → Int32 → Int32 → (Nat → Int32) → Prop} (h : K (x + yk) t pt tr) : v_X5_workOut O 10 ab x d t pt yk ykind ym tr K := by
  unfold v_X5_workOut
  rw [br_y rfl]
  exact h
theorem wo_11 {O : Int32 → Int32 → Int32 → Int32 → Int32 → Int32 → Int32 → Int32 → Int32 → (Nat → Int32) → (Int32 → Int32 → Int32 → (Nat → Int32) → Prop) → Prop} {ab x d t pt yk ykind ym : Int32} {tr : Nat → Int32} {K : Int32 → Int32 → Int32 → (Nat → Int32) → Prop} (h : O ykind 0 x d t pt yk ykind ym tr (fun r t2 p2 tr2 => K (r * 2) t2 p2 tr2)) : v_X5_workOut O 11 ab x d t pt yk ykind ym tr K := by
  unfold v_X5_workOut
  rw [br_n (by decide), br_y rfl]
  exact h
theorem wo_12 {O : Int32 → Int32 → Int32 → Int32 → Int32 → Int32 → Int32 → Int32 → Int32 → (Nat → Int32) → (Int32 → Int32 → Int32 → (Nat → Int32) → Prop) → Prop} {ab x d t pt yk ykind ym : Int32} {tr : Nat → Int32} {K : Int32 → Int32 → Int32 → (Nat → Int32) → Prop} (h : O ykind 1 x d t pt yk ykind ym tr (fun r t2 p2 tr2 => K (r - ym) t2 p2 tr2)) : v_X5_workOut O 12 ab x d t pt yk ykind ym tr K := by
  unfold v_X5_workOut
  rw [br_n (by decide), br_n (by decide), br_y rfl]
  exact h
theorem wo_13 {O : Int32 → Int32 → Int32 → Int32 → Int32 → Int32 → Int32 → Int32 → Int32 → (Nat → Int32) → (Int32 → Int32 → Int32 → (Nat → Int32) → Prop) → Prop} {ab x d t pt yk ykind ym : Int32} {tr : Nat → Int32} {K : Int32 → Int32 → Int32 → (Nat → Int32) → Prop} (h : v_X5_part x pt yk ym (fun r p2 => K r t p2 tr)) : v_X5_workOut O 13 ab x d t pt yk ykind ym tr K := by
  unfold v_X5_workOut
  rw [br_n (by decide), br_n (by decide), br_n (by decide), br_y rfl]
  exact h
theorem wo_20 {O : Int32 → Int32 → Int32 → Int32 → Int32 → Int32 → Int32 → Int32 → Int32 → (Nat → Int32) → (Int32 → Int32 → Int32 → (Nat → Int32) → Prop) → Prop} {ab x d t pt yk ykind ym : Int32} {tr : Nat → Int32} {K : Int32 → Int32 → Int32 → (Nat → Int32) → Prop} (h : O ab 0 x d t pt yk ykind ym tr (fun r t2 p2 tr2 => K (r - 4) t2 p2 tr2)) : v_X5_workOut O 20 ab x d t pt yk ykind ym tr K := by
  unfold v_X5_workOut
  rw [br_n (by decide), br_n (by decide), br_n (by decide), br_n (by decide), br_y rfl]
  exact h
theorem wo_21 {O : Int32 → Int32 → Int32 → Int32 → Int32 → Int32 → Int32 → Int32 → Int32 → (Nat → Int32) → (Int32 → Int32 → Int32 → (Nat → Int32) → Prop) → Prop} {ab x d t pt yk ykind ym : Int32} {tr : Nat → Int32} {K : Int32 → Int32 → Int32 → (Nat → Int32) → Prop} (h : v_X5_partAndStir O ab x d t pt yk ykind ym tr (fun r t2 p2 tr2 => K r t2 p2 tr2)) : v_X5_workOut O 21 ab x d t pt yk ykind ym tr K := by
  unfold v_X5_workOut
  rw [br_n (by decide), br_n (by decide), br_n (by decide), br_n (by decide), br_n (by decide), br_y rfl]
  exact h
theorem wo_30 {O : Int32 → Int32 → Int32 → Int32 → Int32 → Int32 → Int32 → Int32 → Int32 → (Nat → Int32) → (Int32 → Int32 → Int32 → (Nat → Int32) → Prop) → Prop} {ab x d t pt yk ykind ym : Int32} {tr : Nat → Int32} {K : Int32 → Int32 → Int32 → (Nat → Int32) → Prop} (h : O ab 1 x d t pt yk ykind ym tr (fun r t2 p2 tr2 => K (0 - r) t2 p2 tr2)) : v_X5_workOut O 30 ab x d t pt yk ykind ym tr K := by
  unfold v_X5_workOut
  rw [br_n (by decide), br_n (by decide), br_n (by decide), br_n (by decide), br_n (by decide), br_n (by decide), br_y rfl]
  exact h
theorem wo_40 {O : Int32 → Int32 → Int32 → Int32 → Int32 → Int32 → Int32 → Int32 → Int32 → (Nat → Int32) → (Int32 → Int32 → Int32 → (Nat → Int32) → Prop) → Prop} {ab x d t pt yk ykind ym : Int32} {tr : Nat → Int32} {K : Int32 → Int32 → Int32 → (Nat → Int32) → Prop} (h : O ab 2 (x / 2) d t pt yk ykind ym tr (fun r t2 p2 tr2 => K r t2 p2 tr2)) : v_X5_workOut O 40 ab x d t pt yk ykind ym tr K := by
  unfold v_X5_workOut
  rw [br_n (by decide), br_n (by decide), br_n (by decide), br_n (by decide), br_n (by decide), br_n (by decide), br_n (by decide), br_y rfl]
  exact ⟨by decide, h⟩
theorem wo_50 {O : Int32 → Int32 → Int32 → Int32 → Int32 → Int32 → Int32 → Int32 → Int32 → (Nat → Int32) → (Int32 → Int32 → Int32 → (Nat → Int32) → Prop) → Prop} {ab x d t pt yk ykind ym : Int32} {tr : Nat → Int32} {K : Int32 → Int32 → Int32 → (Nat → Int32) → Prop} (h : O ab 0 x d t pt yk ykind ym tr (fun r t2 p2 tr2 => K (r * 3) t2 p2 tr2)) : v_X5_workOut O 50 ab x d t pt yk ykind ym tr K := by
  unfold v_X5_workOut
  rw [br_n (by decide), br_n (by decide), br_n (by decide), br_n (by decide), br_n (by decide), br_n (by decide), br_n (by decide), br_n (by decide), br_y rfl]
  exact h
theorem wo_51 {O : Int32 → Int32 → Int32 → Int32 → Int32 → Int32 → Int32 → Int32 → Int32 → (Nat → Int32) → (Int32 → Int32 → Int32 → (Nat → Int32) → Prop) → Prop} {ab x d t pt yk ykind ym : Int32} {tr : Nat → Int32} {K : Int32 → Int32 → Int32 → (Nat → Int32) → Prop} (h : O ab 2 x d t pt yk ykind ym tr (fun r t2 p2 tr2 => K (r ^^^ yk) t2 p2 tr2)) : v_X5_workOut O 51 ab x d t pt yk ykind ym tr K := by
  unfold v_X5_workOut
  rw [br_n (by decide), br_n (by decide), br_n (by decide), br_n (by decide), br_n (by decide), br_n (by decide), br_n (by decide), br_n (by decide), br_n (by decide), br_y rfl]
  exact h
theorem wo_60 {O : Int32 → Int32 → Int32 → Int32 → Int32 → Int32 → Int32 → Int32 → Int32 → (Nat → Int32) → (Int32 → Int32 → Int32 → (Nat → Int32) → Prop) → Prop} {ab x d t pt yk ykind ym : Int32} {tr : Nat → Int32} {K : Int32 → Int32 → Int32 → (Nat → Int32) → Prop} (h : O ab 1 (x + 1) d t pt yk ykind ym tr (fun r t2 p2 tr2 => K r t2 p2 tr2)) : v_X5_workOut O 60 ab x d t pt yk ykind ym tr K := by
  unfold v_X5_workOut
  rw [br_n (by decide), br_n (by decide), br_n (by decide), br_n (by decide), br_n (by decide), br_n (by decide), br_n (by decide), br_n (by decide), br_n (by decide), br_n (by decide), br_y rfl]
  exact h
theorem wo_70 {O : Int32 → Int32 → Int32 → Int32 → Int32 → Int32 → Int32 → Int32 → Int32 → (Nat → Int32) → (Int32 → Int32 → Int32 → (Nat → Int32) → Prop) → Prop} {ab x d t pt yk ykind ym : Int32} {tr : Nat → Int32} {K : Int32 → Int32 → Int32 → (Nat → Int32) → Prop} (h : K 9 t pt tr) : v_X5_workOut O 70 ab x d t pt yk ykind ym tr K := by
  unfold v_X5_workOut
  rw [br_n (by decide), br_n (by decide), br_n (by decide), br_n (by decide), br_n (by decide), br_n (by decide), br_n (by decide), br_n (by decide), br_n (by decide), br_n (by decide), br_n (by decide), br_y rfl]
  exact h
theorem wo_71 {O : Int32 → Int32 → Int32 → Int32 → Int32 → Int32 → Int32 → Int32 → Int32 → (Nat → Int32) → (Int32 → Int32 → Int32 → (Nat → Int32) → Prop) → Prop} {ab x d t pt yk ykind ym : Int32} {tr : Nat → Int32} {K : Int32 → Int32 → Int32 → (Nat → Int32) → Prop} (h : O ab 1 x d t pt yk ykind ym tr (fun r t2 p2 tr2 => K (r + ym) t2 p2 tr2)) : v_X5_workOut O 71 ab x d t pt yk ykind ym tr K := by
  unfold v_X5_workOut
  rw [br_n (by decide), br_n (by decide), br_n (by decide), br_n (by decide), br_n (by decide), br_n (by decide), br_n (by decide), br_n (by decide), br_n (by decide), br_n (by decide), br_n (by decide), br_n (by decide), br_y rfl]
  exact h
theorem abE_1 : v_X7_above 1 = fun K => K 0 := by
  funext K
  unfold v_X7_above
  rw [br_u (by decide), br_u (by decide)]
theorem abE_2 : v_X7_above 2 = fun K => K 0 := by
  funext K
  unfold v_X7_above
  rw [br_u (by decide), br_u (by decide)]
theorem abE_3 : v_X7_above 3 = fun K => K 0 := by
  funext K
  unfold v_X7_above
  rw [br_u (by decide), br_u (by decide)]
theorem abE_6 : v_X7_above 6 = fun K => K 0 := by
  funext K
  unfold v_X7_above
  rw [br_u (by decide), br_u (by decide)]
theorem abE_4 : v_X7_above 4 = fun K => K 1 := by
  funext K
  unfold v_X7_above
  rw [br_v rfl]
theorem abE_5 : v_X7_above 5 = fun K => K 2 := by
  funext K
  unfold v_X7_above
  rw [br_u (by decide), br_v rfl]
/-- both sides give one number and one trace -/
def VQ (C : Int32 → (Nat → Int32) → Int32 → (Int32 → Int32 → Int32 → (Nat → Int32) → Prop) → Prop) (T : Int32 → (Nat → Int32) → (Int32 → Int32 → (Nat → Int32) → Prop) → Prop) : Prop := ∀ t c d, TR t c d → ∃ r t' c' d', TR t' c' d' ∧ (∀ pt K, K r (nI t') pt c' → C (nI t) c pt K) ∧ (∀ K, K r (nI t') d' → T (nI t) d K)
theorem vq_0 {C : Int32 → (Nat → Int32) → Int32 → (Int32 → Int32 → Int32 → (Nat → Int32) → Prop) → Prop} {T : Int32 → (Nat → Int32) → (Int32 → Int32 → (Nat → Int32) → Prop) → Prop} (b r : Int32) (hC : ∀ t c pt K, v_X7_starts b t c (fun t' c' => K r t' pt c') → C t c pt K) (hT : ∀ t d K, v_X7_starts b t d (fun t' d' => K r t' d') → T t d K) : VQ C T := by
  intro t c d h
  obtain ⟨t', c', d', h1, h2, h3⟩ := st_t h b
  exact ⟨r, t', c', d', h1, fun pt K hK => hC _ _ _ _ (h2 _ hK), fun K hK => hT _ _ _ (h3 _ hK)⟩
theorem vq_b {C C0 : Int32 → (Nat → Int32) → Int32 → (Int32 → Int32 → Int32 → (Nat → Int32) → Prop) → Prop} {T T0 : Int32 → (Nat → Int32) → (Int32 → Int32 → (Nat → Int32) → Prop) → Prop} (b : Int32) (φ : Int32 → Int32) (h0 : VQ C0 T0) (hC : ∀ t c pt K, v_X7_starts b t c (fun t' c' => C0 t' c' pt (fun r t2 p2 c2 => K (φ r) t2 p2 c2)) → C t c pt K) (hT : ∀ t d K, v_X7_starts b t d (fun t' d' => T0 t' d' (fun r t2 d2 => K (φ r) t2 d2)) → T t d K) : VQ C T := by
  intro t c d h
  obtain ⟨t', c', d', h1, h2, h3⟩ := st_t h b
  obtain ⟨r, t2, c2, d2, g1, g2, g3⟩ := h0 t' c' d' h1
  exact ⟨φ r, t2, c2, d2, g1, fun pt K hK => hC _ _ _ _ (h2 _ (g2 pt _ hK)), fun K hK => hT _ _ _ (h3 _ (g3 _ hK))⟩
-- the twin's bodies
theorem ws_0 {g : Nat} {x t sp : Int32} {d : Nat → Int32} {K : Int32 → Int32 → (Nat → Int32) → Prop} (h : v_X7_starts 10 t d (fun t' d' => K (x + sp) t' d')) : v_X7_sighsAs (g + 1) 0 x t sp d K := by
  show b_X7_sighsAs (v_X7_sighsAs g) 0 x t sp d K
  unfold b_X7_sighsAs
  rw [br_y rfl]
  exact h
theorem ws_1 {g : Nat} {x t sp : Int32} {d : Nat → Int32} {K : Int32 → Int32 → (Nat → Int32) → Prop} (h : v_X7_starts 20 t d (fun t' d' => v_X7_sighsAs g 0 x t' sp d' (fun r t2 d2 => K (r - 4) t2 d2))) : v_X7_sighsAs (g + 1) 1 x t sp d K := by
  show b_X7_sighsAs (v_X7_sighsAs g) 1 x t sp d K
  unfold b_X7_sighsAs
  rw [br_n (by decide), br_y rfl, abE_1]
  exact h
theorem ws_4 {g : Nat} {x t sp : Int32} {d : Nat → Int32} {K : Int32 → Int32 → (Nat → Int32) → Prop} (h : v_X7_starts 50 t d (fun t' d' => v_X7_sighsAs g 1 x t' sp d' (fun r t2 d2 => K (r * 3) t2 d2))) : v_X7_sighsAs (g + 1) 4 x t sp d K := by
  show b_X7_sighsAs (v_X7_sighsAs g) 4 x t sp d K
  unfold b_X7_sighsAs
  rw [br_n (by decide), br_n (by decide), br_y rfl, abE_4]
  exact h
theorem ws_6 {g : Nat} {x t sp : Int32} {d : Nat → Int32} {K : Int32 → Int32 → (Nat → Int32) → Prop} (h : v_X7_starts 70 t d (fun t' d' => K 9 t' d')) : v_X7_sighsAs (g + 1) 6 x t sp d K := by
  show b_X7_sighsAs (v_X7_sighsAs g) 6 x t sp d K
  unfold b_X7_sighsAs
  rw [br_n (by decide), br_n (by decide), br_n (by decide), br_y rfl]
  exact h
theorem ws_2 {g : Nat} {x t sp : Int32} {d : Nat → Int32} {K : Int32 → Int32 → (Nat → Int32) → Prop} (h : v_X7_sighsAs g 0 x t sp d K) : v_X7_sighsAs (g + 1) 2 x t sp d K := by
  show b_X7_sighsAs (v_X7_sighsAs g) 2 x t sp d K
  unfold b_X7_sighsAs
  rw [br_n (by decide), br_n (by decide), br_n (by decide), br_n (by decide), abE_2]
  exact h
theorem ws_3 {g : Nat} {x t sp : Int32} {d : Nat → Int32} {K : Int32 → Int32 → (Nat → Int32) → Prop} (h : v_X7_sighsAs g 0 x t sp d K) : v_X7_sighsAs (g + 1) 3 x t sp d K := by
  show b_X7_sighsAs (v_X7_sighsAs g) 3 x t sp d K
  unfold b_X7_sighsAs
  rw [br_n (by decide), br_n (by decide), br_n (by decide), br_n (by decide), abE_3]
  exact h
theorem ws_5 {g : Nat} {x t sp : Int32} {d : Nat → Int32} {K : Int32 → Int32 → (Nat → Int32) → Prop} (h : v_X7_sighsAs g 2 x t sp d K) : v_X7_sighsAs (g + 1) 5 x t sp d K := by
  show b_X7_sighsAs (v_X7_sighsAs g) 5 x t sp d K
  unfold b_X7_sighsAs
  rw [br_n (by decide), br_n (by decide), br_n (by decide), br_n (by decide), abE_5]
  exact h
theorem kn_e {sp kn : Int32} {m : Nat → Int32} (hk : ∀ K, v_X7_its sp 0 m K = K kn) : v_X7_kindNow sp m = fun K => K kn := by
  funext K
  unfold v_X7_kindNow
  rw [hk]
theorem mn_e {sp ym : Int32} {m : Nat → Int32} (hm : ∀ K, v_X7_its sp 1 m K = K ym) : v_X7_mNow sp m = fun K => K ym := by
  funext K
  unfold v_X7_mNow
  rw [hm]
theorem wt_0 {g : Nat} {x t sp kn ym : Int32} {m d : Nat → Int32} {K : Int32 → Int32 → (Nat → Int32) → Prop} (hk : ∀ K, v_X7_its sp 0 m K = K kn) (hm : ∀ K, v_X7_its sp 1 m K = K ym) (h : v_X7_starts 11 t d (fun t' d' => v_X7_sighsAs 4 kn x t' sp d' (fun r t2 d2 => K (r * 2) t2 d2))) : v_X7_stirsAs (g + 1) 0 x t sp m d K := by
  show b_X7_stirsAs (v_X7_stirsAs g) 0 x t sp m d K
  unfold b_X7_stirsAs
  rw [br_y rfl, kn_e hk]
  exact h
theorem wt_2 {g : Nat} {x t sp kn ym : Int32} {m d : Nat → Int32} {K : Int32 → Int32 → (Nat → Int32) → Prop} (hk : ∀ K, v_X7_its sp 0 m K = K kn) (hm : ∀ K, v_X7_its sp 1 m K = K ym) (h : v_X7_starts 30 t d (fun t' d' => v_X7_stirsAs g 0 x t' sp m d' (fun r t2 d2 => K (0 - r) t2 d2))) : v_X7_stirsAs (g + 1) 2 x t sp m d K := by
  show b_X7_stirsAs (v_X7_stirsAs g) 2 x t sp m d K
  unfold b_X7_stirsAs
  rw [br_n (by decide), br_y rfl, abE_2]
  exact h
theorem wt_5 {g : Nat} {x t sp kn ym : Int32} {m d : Nat → Int32} {K : Int32 → Int32 → (Nat → Int32) → Prop} (hk : ∀ K, v_X7_its sp 0 m K = K kn) (hm : ∀ K, v_X7_its sp 1 m K = K ym) (h : v_X7_starts 60 t d (fun t' d' => v_X7_stirsAs g 2 (x + 1) t' sp m d' (fun r t2 d2 => K r t2 d2))) : v_X7_stirsAs (g + 1) 5 x t sp m d K := by
  show b_X7_stirsAs (v_X7_stirsAs g) 5 x t sp m d K
  unfold b_X7_stirsAs
  rw [br_n (by decide), br_n (by decide), br_y rfl, abE_5]
  exact h
theorem wt_6 {g : Nat} {x t sp kn ym : Int32} {m d : Nat → Int32} {K : Int32 → Int32 → (Nat → Int32) → Prop} (hk : ∀ K, v_X7_its sp 0 m K = K kn) (hm : ∀ K, v_X7_its sp 1 m K = K ym) (h : v_X7_starts 71 t d (fun t' d' => v_X7_stirsAs g 0 x t' sp m d' (fun r t2 d2 => K (r + ym) t2 d2))) : v_X7_stirsAs (g + 1) 6 x t sp m d K := by
  show b_X7_stirsAs (v_X7_stirsAs g) 6 x t sp m d K
  unfold b_X7_stirsAs
  rw [br_n (by decide), br_n (by decide), br_n (by decide), br_y rfl, abE_6, mn_e hm]
  exact h
theorem wt_1 {g : Nat} {x t sp kn ym : Int32} {m d : Nat → Int32} {K : Int32 → Int32 → (Nat → Int32) → Prop} (hk : ∀ K, v_X7_its sp 0 m K = K kn) (hm : ∀ K, v_X7_its sp 1 m K = K ym) (h : v_X7_stirsAs g 0 x t sp m d K) : v_X7_stirsAs (g + 1) 1 x t sp m d K := by
  show b_X7_stirsAs (v_X7_stirsAs g) 1 x t sp m d K
  unfold b_X7_stirsAs
  rw [br_n (by decide), br_n (by decide), br_n (by decide), br_n (by decide), abE_1]
  exact h
theorem wt_3 {g : Nat} {x t sp kn ym : Int32} {m d : Nat → Int32} {K : Int32 → Int32 → (Nat → Int32) → Prop} (hk : ∀ K, v_X7_its sp 0 m K = K kn) (hm : ∀ K, v_X7_its sp 1 m K = K ym) (h : v_X7_stirsAs g 0 x t sp m d K) : v_X7_stirsAs (g + 1) 3 x t sp m d K := by
  show b_X7_stirsAs (v_X7_stirsAs g) 3 x t sp m d K
  unfold b_X7_stirsAs
  rw [br_n (by decide), br_n (by decide), br_n (by decide), br_n (by decide), abE_3]
  exact h
theorem wt_4 {g : Nat} {x t sp kn ym : Int32} {m d : Nat → Int32} {K : Int32 → Int32 → (Nat → Int32) → Prop} (hk : ∀ K, v_X7_its sp 0 m K = K kn) (hm : ∀ K, v_X7_its sp 1 m K = K ym) (h : v_X7_stirsAs g 1 x t sp m d K) : v_X7_stirsAs (g + 1) 4 x t sp m d K := by
  show b_X7_stirsAs (v_X7_stirsAs g) 4 x t sp m d K
  unfold b_X7_stirsAs
  rw [br_n (by decide), br_n (by decide), br_n (by decide), br_n (by decide), abE_4]
  exact h
theorem wc_0 {g : Nat} {x t sp kn ym : Int32} {m d : Nat → Int32} {K : Int32 → Int32 → (Nat → Int32) → Prop} (hk : ∀ K, v_X7_its sp 0 m K = K kn) (hm : ∀ K, v_X7_its sp 1 m K = K ym) (h : v_X7_starts 12 t d (fun t' d' => v_X7_stirsAs 4 kn x t' sp m d' (fun r t2 d2 => K (r - ym) t2 d2))) : v_X7_callsAs (g + 1) 0 x t sp m d K := by
  show b_X7_callsAs (v_X7_callsAs g) 0 x t sp m d K
  unfold b_X7_callsAs
  rw [br_y rfl, kn_e hk, mn_e hm]
  exact h
theorem wc_3 {g : Nat} {x t sp kn ym : Int32} {m d : Nat → Int32} {K : Int32 → Int32 → (Nat → Int32) → Prop} (hk : ∀ K, v_X7_its sp 0 m K = K kn) (hm : ∀ K, v_X7_its sp 1 m K = K ym) (h : v_X7_starts 40 t d (fun t' d' => v_X7_callsAs g 0 (x / 2) t' sp m d' (fun r t2 d2 => K r t2 d2))) : v_X7_callsAs (g + 1) 3 x t sp m d K := by
  show b_X7_callsAs (v_X7_callsAs g) 3 x t sp m d K
  unfold b_X7_callsAs
  rw [br_n (by decide), br_y rfl, abE_3]
  exact by simpa only [show (¬ (2 : Int32) = 0) = True by decide, true_and] using h
theorem wc_4 {g : Nat} {x t sp kn ym : Int32} {m d : Nat → Int32} {K : Int32 → Int32 → (Nat → Int32) → Prop} (hk : ∀ K, v_X7_its sp 0 m K = K kn) (hm : ∀ K, v_X7_its sp 1 m K = K ym) (h : v_X7_starts 51 t d (fun t' d' => v_X7_callsAs g 1 x t' sp m d' (fun r t2 d2 => K (r ^^^ sp) t2 d2))) : v_X7_callsAs (g + 1) 4 x t sp m d K := by
  show b_X7_callsAs (v_X7_callsAs g) 4 x t sp m d K
  unfold b_X7_callsAs
  rw [br_n (by decide), br_n (by decide), br_y rfl, abE_4]
  exact h
theorem wc_1 {g : Nat} {x t sp kn ym : Int32} {m d : Nat → Int32} {K : Int32 → Int32 → (Nat → Int32) → Prop} (hk : ∀ K, v_X7_its sp 0 m K = K kn) (hm : ∀ K, v_X7_its sp 1 m K = K ym) (h : v_X7_callsAs g 0 x t sp m d K) : v_X7_callsAs (g + 1) 1 x t sp m d K := by
  show b_X7_callsAs (v_X7_callsAs g) 1 x t sp m d K
  unfold b_X7_callsAs
  rw [br_n (by decide), br_n (by decide), br_n (by decide), abE_1]
  exact h
theorem wc_2 {g : Nat} {x t sp kn ym : Int32} {m d : Nat → Int32} {K : Int32 → Int32 → (Nat → Int32) → Prop} (hk : ∀ K, v_X7_its sp 0 m K = K kn) (hm : ∀ K, v_X7_its sp 1 m K = K ym) (h : v_X7_callsAs g 0 x t sp m d K) : v_X7_callsAs (g + 1) 2 x t sp m d K := by
  show b_X7_callsAs (v_X7_callsAs g) 2 x t sp m d K
  unfold b_X7_callsAs
  rw [br_n (by decide), br_n (by decide), br_n (by decide), abE_2]
  exact h
theorem wc_6 {g : Nat} {x t sp kn ym : Int32} {m d : Nat → Int32} {K : Int32 → Int32 → (Nat → Int32) → Prop} (hk : ∀ K, v_X7_its sp 0 m K = K kn) (hm : ∀ K, v_X7_its sp 1 m K = K ym) (h : v_X7_callsAs g 0 x t sp m d K) : v_X7_callsAs (g + 1) 6 x t sp m d K := by
  show b_X7_callsAs (v_X7_callsAs g) 6 x t sp m d K
  unfold b_X7_callsAs
  rw [br_n (by decide), br_n (by decide), br_n (by decide), abE_6]
  exact h
theorem wc_5 {g : Nat} {x t sp kn ym : Int32} {m d : Nat → Int32} {K : Int32 → Int32 → (Nat → Int32) → Prop} (hk : ∀ K, v_X7_its sp 0 m K = K kn) (hm : ∀ K, v_X7_its sp 1 m K = K ym) (h : v_X7_callsAs g 2 x t sp m d K) : v_X7_callsAs (g + 1) 5 x t sp m d K := by
  show b_X7_callsAs (v_X7_callsAs g) 5 x t sp m d K
  unfold b_X7_callsAs
  rw [br_n (by decide), br_n (by decide), br_n (by decide), abE_5]
  exact h
