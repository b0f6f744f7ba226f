/-! a day, on both sides -/
def smr (kd em ts : Nat → Int32) (tn p : Nat) (a b d : Int32) : Nat → Int32
  | 0 => 0
  | k + 1 => if k = p then smr kd em ts tn p a b d k else smr kd em ts tn p a b d k + tk kd em ts tn k a b d
def nf (N : Nat) (kd em ts : Nat → Int32) (tn p : Nat) (a b d : Int32) : Int32 := if N < 2 then a else smr kd em ts tn p a b d N / nI (N - 1)
def dN (N : Nat) (kd em ts : Nat → Int32) (tn : Nat) (near sh : Nat → Int32) (d : Int32) : Nat → Int32 := fun p => if p < N then nf N kd em ts tn p (near p) (sh p) d else near p
def dS (N : Nat) (kd gs : Nat → Int32) (gn : Nat) (near sh : Nat → Int32) (d : Int32) : Nat → Int32 := fun p => if p < N then sn kd gs gn p (near p) (sh p) d else sh p
theorem TX_fr {u n : Nat} {st m m' : Nat → Int32} (h : TX u n st m) (f : ∀ i, 48 ≤ i → m' i = m i) : TX u n st m' := by
  obtain ⟨h1, h2, h3, h4⟩ := h
  refine ⟨h1, by rw [f _ (by omega)]; exact h2, fun k hk => ?_, h4⟩
  rw [f _ (by omega), f _ (by omega)]
  exact h3 k hk
theorem cp_in (M : Nat) (hM : M < 1000) (v : Int32) : ∃ k : Nat, k ≤ M ∧ cp (nI M) v = nI k := by
  unfold cp
  by_cases a : v < 0
  · exact ⟨0, by omega, by rw [if_pos a]; rfl⟩
  · rw [if_neg a]
    by_cases b : nI M < v
    · exact ⟨M, by omega, by rw [if_pos b]⟩
    · obtain ⟨k, hk, rfl⟩ := nI_of a
      refine ⟨k, ?_, by rw [if_neg b]⟩
      by_cases c : k ≤ M
      · exact c
      · exact absurd (nI_lt (by omega) hk) b
theorem tk_in (kd em ts : Nat → Int32) (tn i : Nat) (a b d : Int32) : ∃ k : Nat, k ≤ 99 ∧ tk kd em ts tn i a b d = nI k := cp_in 99 (by decide) _
theorem sn_in (kd gs : Nat → Int32) (gn i : Nat) (a b d : Int32) : ∃ k : Nat, k ≤ 9 ∧ sn kd gs gn i a b d = nI k := cp_in 9 (by decide) _
theorem smr_in (kd em ts : Nat → Int32) (tn p : Nat) (a b d : Int32) : ∀ k, ∃ s : Nat, s ≤ 99 * (if p < k then k - 1 else k) ∧ smr kd em ts tn p a b d k = nI s := by
  intro k
  induction k with
  | zero => exact ⟨0, by omega, rfl⟩
  | succ k ih =>
    obtain ⟨s, hs, e⟩ := ih
    by_cases q : k = p
    · refine ⟨s, ?_, by rw [smr, if_pos q]; exact e⟩
      rw [if_neg (by omega)] at hs
      rw [if_pos (by omega)]; omega
    · obtain ⟨t, ht, e2⟩ := tk_in kd em ts tn k a b d
      refine ⟨s + t, ?_, by rw [smr, if_neg q, e, e2, nI_add]⟩
      by_cases c : p < k
      · rw [if_pos c] at hs
        rw [if_pos (by omega)]; omega
      · rw [if_neg c] at hs
        rw [if_neg (by omega)]; omega
theorem nf_in {N : Nat} (hN : N ≤ 8) (kd em ts : Nat → Int32) (tn : Nat) {p : Nat} (hp : p < N) {a : Int32} (b d : Int32) (ha : ∃ k : Nat, k < 100 ∧ a = nI k) : ∃ k : Nat, k < 100 ∧ nf N kd em ts tn p a b d = nI k := by
  unfold nf
  by_cases c : N < 2
  · rw [if_pos c]; exact ha
  · rw [if_neg c]
    obtain ⟨s, hs, e⟩ := smr_in kd em ts tn p a b d N
    rw [if_pos hp] at hs
    rw [e, pk_div (by omega) (by omega) (by omega)]
    refine ⟨s / (N - 1), ?_, rfl⟩
    have : s / (N - 1) ≤ 99 := Nat.div_le_of_le_mul (by rw [Nat.mul_comm]; exact hs)
    omega
theorem dN_B {N : Nat} (hN : N ≤ 8) {kd ca near : Nat → Int32} (em ts : Nat → Int32) (tn : Nat) (sh : Nat → Int32) (d : Int32) (h : BP kd ca near) : BP kd ca (dN N kd em ts tn near sh d) := by
  intro j hj
  obtain ⟨a, b, c⟩ := h j hj
  refine ⟨a, b, ?_⟩
  unfold dN
  by_cases q : j < N
  · rw [if_pos q]; exact nf_in hN kd em ts tn q _ _ c
  · rw [if_neg q]; exact c
-- the class's side
theorem nf_6 {N p tn : Nat} {kd em ts m near sh : Nat → Int32} {d : Int32} {K : Int32 → (Nat → Int32) → Prop} (hN : N ≤ 8) (hp : p < N) (hT : TX 0 tn ts m) (hK : ∀ st', K (nf N kd em ts tn p (near p) (sh p) d) st') (stk : Nat → Int32) : v_X4_nearAfter (nI p) (nI N) kd em 99 (nI tn) ts stk d near sh K := by
  unfold v_X4_nearAfter
  have hp8 : p < 8 := by omega
  by_cases c : N < 2
  · have a : ¬ (2 : Int32) ≤ nI N := nI_ge (b := 2) c (by decide)
    rw [br_n a, vi_8 hp8, true_and, cl_8 hp8]
    have := hK stk
    unfold nf at this
    rw [if_pos c] at this
    exact this
  · have a : (2 : Int32) ≤ nI N := nI_le (a := 2) (by omega) (by omega)
    rw [br_y a]
    have lo : ∀ e k stk, k + e = N → l_X4_nearAfter_20 (nI p) (nI N) kd em 99 (nI tn) ts d near sh K (e + 1) (smr kd em ts tn p (near p) (sh p) d k) (nI k) stk := by
      intro e
      induction e with
      | zero =>
        intro k stk hk
        have e : k = N := by omega
        subst e
        rw [l_X4_nearAfter_20, br_y (nI_le (Nat.le_refl _) (by omega)), show nI k - 1 = nI (k - 1) from pk_sub (b := 1) (by omega)]
        refine ⟨nI_ne0 (by omega) (by omega), ?_⟩
        have := hK stk
        unfold nf at this
        rw [if_neg c] at this
        exact this
      | succ e ih =>
        intro k stk hk
        have a0 : ¬ nI N ≤ nI k := nI_ge (by omega) (by omega)
        have hk8 : k < 8 := by omega
        rw [l_X4_nearAfter_20, br_n a0]
        refine ⟨fun q => ?_, fun q => ?_⟩
        · have q2 : k = p := (nI_eq (by omega) (by omega)).mp q
          unfold j_X4_nearAfter_60
          rw [nI_1]
          have := ih (k + 1) stk (by omega)
          rw [smr, if_pos q2] at this
          exact this
        · have q2 : ¬ k = p := fun z => q (by rw [z])
          rw [vi_8 hp8, true_and, true_and, cl_8 hp8]
          refine tk_6 hk8 hT (fun st' => ?_)
          unfold j_X4_nearAfter_60
          rw [nI_1]
          have := ih (k + 1) st' (by omega)
          rw [smr, if_neg q2] at this
          exact this
    exact ⟨N + 1, lo N 0 stk (by omega)⟩
def same (N : Nat) (kd em ts gs : Nat → Int32) (tn gn : Nat) (near sh : Nat → Int32) (d : Int32) (k : Nat) : Prop := ∀ p, p < k → nf N kd em ts tn p (near p) (sh p) d = near p ∧ sn kd gs gn p (near p) (sh p) d = sh p
theorem pa_6 {N tn gn : Nat} {kd em ts gs m near sh : Nat → Int32} {d : Int32} {K : Int32 → (Nat → Int32) → (Nat → Int32) → Int32 → (Nat → Int32) → (Nat → Int32) → Prop} (hN : N ≤ 8) (hT : TX 0 tn ts m) (hG : TX 1 gn gs m)
    (hK : ∀ r tst' gst', (r = 0 ↔ same N kd em ts gs tn gn near sh d N) → K r tst' gst' (d + 1) (dN N kd em ts tn near sh d) (dS N kd gs gn near sh d)) (tst gst : Nat → Int32) : v_X4_pass (nI N) kd em 99 (nI tn) ts tst 9 (nI gn) gs gst d near sh K := by
  unfold v_X4_pass
  have lo : ∀ e k r tst gst n1 s1, k + e = N → ((r = 0 ∨ r = 1) ∧ (r = 0 ↔ same N kd em ts gs tn gn near sh d k)) → (n1 = fun p => if p < k then nf N kd em ts tn p (near p) (sh p) d else near p) → (s1 = fun p => if p < k then sn kd gs gn p (near p) (sh p) d else sh p) → l_X4_pass_4 (nI N) kd em 99 (nI tn) ts 9 (nI gn) gs K (e + 1) r (nI k) tst gst d n1 s1 := by
    intro e
    induction e with
    | zero =>
      intro k r tst gst n1 s1 hk hr h1 h2
      have e : k = N := by omega
      subst e
      rw [l_X4_pass_4, br_y (nI_le (Nat.le_refl _) (by omega)), h1, h2]
      exact hK r tst gst hr.2
    | succ e ih =>
      intro k r tst gst n1 s1 hk hr h1 h2
      have hkN : k < N := by omega
      have hk8 : k < 8 := by omega
      have a0 : ¬ nI N ≤ nI k := nI_ge hkN (by omega)
      rw [l_X4_pass_4, br_n a0]
      have v1 : n1 k = near k := by rw [h1]; exact if_neg (by omega)
      have v2 : s1 k = sh k := by rw [h2]; exact if_neg (by omega)
      refine nf_6 hN hkN hT (fun tst' => ?_) _
      refine sn_6 hk8 hG (fun gst' => ?_)
      rw [vi_8 hk8, true_and, cl_8 hk8, true_and, v1, v2]
      have fin : ∀ t : Int32, (t = 0 ∨ t = 1) → (t = 0 ↔ (nf N kd em ts tn k (near k) (sh k) d = near k ∧ sn kd gs gn k (near k) (sh k) d = sh k)) → j_X4_pass_56 (nI N) kd em 99 (nI tn) ts 9 (nI gn) gs (fun x2' x3' tstack' gstack' c_day' c_near' c_shows' => l_X4_pass_4 (nI N) kd em 99 (nI tn) ts 9 (nI gn) gs K (e + 1) x2' x3' tstack' gstack' c_day' c_near' c_shows') K (nI k) (nf N kd em ts tn k (near k) (sh k) d) (sn kd gs gn k (near k) (sh k) d) r t tst' gst' d n1 s1 := by
        intro t ht hq
        unfold j_X4_pass_56
        rw [vi_8 hk8, true_and, true_and, cl_8 hk8, nI_1]
        refine ih (k + 1) _ _ _ _ _ (by omega) ⟨?_, ?_⟩ ?_ ?_
        · rcases hr.1 with z | z <;> rcases ht with w | w <;> rw [z, w] <;> decide
        · have o : (r ||| t = 0) ↔ (r = 0 ∧ t = 0) := by
            rcases hr.1 with z | z <;> rcases ht with w | w <;> rw [z, w] <;> decide
          rw [o, hr.2, hq]
          constructor
          · rintro ⟨z, w⟩ p hp
            by_cases y : p = k
            · subst y; exact w
            · exact z p (by omega)
          · intro z
            exact ⟨fun p hp => z p (by omega), z k (by omega)⟩
        · rw [h1]; funext p; rw [up_at]
          by_cases y : p = k
          · subst y; rw [if_pos rfl, if_pos (by omega)]
          · rw [if_neg y]
            by_cases w : p < k
            · rw [if_pos w, if_pos (by omega)]
            · rw [if_neg w, if_neg (by omega)]
        · rw [h2]; funext p; rw [up_at]
          by_cases y : p = k
          · subst y; rw [if_pos rfl, if_pos (by omega)]
          · rw [if_neg y]
            by_cases w : p < k
            · rw [if_pos w, if_pos (by omega)]
            · rw [if_neg w, if_neg (by omega)]
      refine ⟨fun q => ?_, fun q => ⟨fun q2 => ?_, fun q2 => ?_⟩⟩
      · exact fin 1 (Or.inr rfl) ⟨fun z => absurd z (by decide), fun z => absurd z.1 q⟩
      · exact fin 0 (Or.inl rfl) ⟨fun _ => ⟨q, q2⟩, fun _ => rfl⟩
      · exact fin 1 (Or.inr rfl) ⟨fun z => absurd z (by decide), fun z => absurd z.2 q2⟩
  refine ⟨N + 1, lo N 0 0 tst gst near sh (by omega) ⟨Or.inl rfl, fun _ p hp => absurd hp (Nat.not_lt_zero p), fun _ => rfl⟩ ?_ ?_⟩
  · funext p; rw [if_neg (Nat.not_lt_zero p)]
  · funext p; rw [if_neg (Nat.not_lt_zero p)]
-- the twin's side
theorem az (x : Int32) : x + 0 = x := by simp
theorem ft_7 {N tn gn : Nat} {kd em ca near sh ts gs m : Nat → Int32} {d : Int32} {K : (Nat → Int32) → (Nat → Int32) → (Nat → Int32) → (Nat → Int32) → Prop} (hN : N ≤ 8) (h : RP N kd em ca near sh m) (hd : m 0 = d) (hT : TX 0 tn ts m) (hG : TX 1 gn gs m)
    (hK : ∀ nm' pile' nt' st', (∀ p, p < N → nt' p = nf N kd em ts tn p (near p) (sh p) d) → (∀ p, p < N → st' p = sn kd gs gn p (near p) (sh p) d) → K nm' pile' nt' st') (nm pile nt st : Nat → Int32) : v_X7_findThen m nm pile nt st K := by
  unfold v_X7_findThen
  have lo : ∀ e p nm pile nt st, p + e = N → (∀ i, i < p → nt i = nf N kd em ts tn i (near i) (sh i) d) → (∀ i, i < p → st i = sn kd gs gn i (near i) (sh i) d) → l_X7_findThen_2 m K (e + 1) (nI p) nm pile nt st := by
    intro e
    induction e with
    | zero =>
      intro p nm pile nt st hp h1 h2
      have e : p = N := by omega
      subst e
      rw [l_X7_findThen_2, v4_, true_and, c4, h.1, br_y (nI_le (Nat.le_refl _) (by omega))]
      exact hK _ _ _ _ h1 h2
    | succ e ih =>
      intro p nm pile nt st hp h1 h2
      have hpN : p < N := by omega
      have hp8 : p < 8 := by omega
      have a0 : ¬ nI N ≤ nI p := nI_ge hpN (by omega)
      rw [l_X7_findThen_2, v4_, true_and, c4, h.1, br_n a0]
      have fin : ∀ v nm pile, v = nf N kd em ts tn p (near p) (sh p) d → j_X7_findThen_84 m (fun x1' m_named' m_pile' m_nearThen' m_shownThen' => l_X7_findThen_2 m K (e + 1) x1' m_named' m_pile' m_nearThen' m_shownThen') K (nI p) (nI p) v nm pile nt st := by
        intro v nm pile hv
        unfold j_X7_findThen_84
        rw [vi_8 hp8, true_and, cl_8 hp8]
        refine sn_7 h hp8 hd hG (fun nm' pile' => ?_)
        rw [true_and, nI_1]
        refine ih (p + 1) _ _ _ _ (by omega) (fun i hi => ?_) (fun i hi => ?_)
        · rw [up_at]
          by_cases z : i = p
          · subst z; rw [if_pos rfl]; exact hv
          · rw [if_neg z]; exact h1 i (by omega)
        · rw [up_at]
          by_cases z : i = p
          · subst z; rw [if_pos rfl]
          · rw [if_neg z]; exact h2 i (by omega)
      have lo2 : ∀ f o nm pile, o + f = N → l_X7_findThen_16 m (fun x1' m_named' m_pile' m_nearThen' m_shownThen' => l_X7_findThen_2 m K (e + 1) x1' m_named' m_pile' m_nearThen' m_shownThen') K (f + 1) (nI p) (smr kd em ts tn p (near p) (sh p) d o) (nI o) nm pile nt st := by
        intro f
        induction f with
        | zero =>
          intro o nm pile ho
          have e2 : o = N := by omega
          subst e2
          rw [l_X7_findThen_16, v4_, true_and, c4, h.1, br_y (nI_le (Nat.le_refl _) (by omega)), true_and, true_and]
          obtain ⟨-, -, pN, -, -⟩ := h.2 p hp8
          refine ⟨fun q => ?_, fun q => ?_⟩
          · have q1 : ¬ o = 1 := fun z => q (by rw [z]; rfl)
            rw [show nI o - 1 = nI (o - 1) from pk_sub (b := 1) (by omega)]
            refine ⟨nI_ne0 (by omega) (by omega), fin _ _ _ ?_⟩
            unfold nf
            rw [if_neg (by omega)]
          · have q1 : o = 1 := (nI_eq (b := 1) (by omega) (by decide)).mp q
            rw [it_2 hp8, pN]
            refine fin _ _ _ ?_
            unfold nf
            rw [if_pos (by omega)]
        | succ f ih2 =>
          intro o nm pile ho
          have ho8 : o < 8 := by omega
          have a1 : ¬ nI N ≤ nI o := nI_ge (by omega) (by omega)
          rw [l_X7_findThen_16, v4_, true_and, c4, h.1, br_n a1]
          refine ⟨fun q => ?_, fun q => ?_⟩
          · have q2 : ¬ o = p := fun z => q (by rw [z])
            refine tk_7 h ho8 hp8 hd hT (fun nm' pile' => ?_)
            unfold j_X7_findThen_42
            rw [nI_1]
            have := ih2 (o + 1) nm' pile' (by omega)
            rw [smr, if_neg q2] at this
            exact this
          · have q2 : o = p := (nI_eq (by omega) (by omega)).mp q
            unfold j_X7_findThen_42
            rw [nI_1, az]
            have := ih2 (o + 1) nm pile (by omega)
            rw [smr, if_pos q2] at this
            exact this
      exact ⟨N + 1, lo2 N 0 nm pile (by omega)⟩
  exact ⟨N + 1, lo N 0 nm pile nt st (by omega) (fun i hi => absurd hi (Nat.not_lt_zero i)) (fun i hi => absurd hi (Nat.not_lt_zero i))⟩
/-- what a day leaves as it was -/
def FD (m m' : Nat → Int32) : Prop := ∀ i, (i = 1 ∨ i = 2 ∨ i = 3 ∨ (4 < i ∧ i < 8) ∨ 48 ≤ i) → m' i = m i
theorem ad_7 {N tn gn : Nat} {kd em ca near sh ts gs m : Nat → Int32} {d : Int32} {K : (Nat → Int32) → (Nat → Int32) → (Nat → Int32) → (Nat → Int32) → (Nat → Int32) → Prop} (hN : N ≤ 8) (h : RP N kd em ca near sh m) (hd : m 0 = d) (hT : TX 0 tn ts m) (hG : TX 1 gn gs m)
    (hK : ∀ m' nm' pile' nt' st', RP N kd em ca (dN N kd em ts tn near sh d) (dS N kd gs gn near sh d) m' → m' 0 = d + 1 → FD m m' → K m' nm' pile' nt' st') (nm pile nt st : Nat → Int32) : v_X7_aDay m nm pile nt st K := by
  unfold v_X7_aDay
  refine ft_7 hN h hd hT hG (fun nm' pile' nt' st' h1 h2 => ?_) nm pile nt st
  have lo : ∀ e k m1, k + e = N → RP N kd em ca (fun p => if p < k then nf N kd em ts tn p (near p) (sh p) d else near p) (fun p => if p < k then sn kd gs gn p (near p) (sh p) d else sh p) m1 → m1 0 = d → FD m m1 → l_X7_aDay_6 K (e + 1) (nI k) m1 nm' pile' nt' st' := by
    intro e
    induction e with
    | zero =>
      intro k m1 hk r r0 f
      have e : k = N := by omega
      subst e
      rw [l_X7_aDay_6, v4_, true_and, c4, r.1, br_y (nI_le (Nat.le_refl _) (by omega)), v0_, true_and, true_and, c0, r0]
      refine hK _ _ _ _ _ ?_ pk_us (fun i hi => ?_)
      · refine ⟨by rw [pk_un (by decide)]; exact r.1, fun j hj => ?_⟩
        rw [pk_un (by omega), pk_un (by omega), pk_un (by omega), pk_un (by omega), pk_un (by omega)]
        exact r.2 j hj
      · rw [pk_un (by omega)]; exact f i hi
    | succ e ih =>
      intro k m1 hk r r0 f
      have hkN : k < N := by omega
      have hk8 : k < 8 := by omega
      have a0 : ¬ nI N ≤ nI k := nI_ge hkN (by omega)
      rw [l_X7_aDay_6, v4_, true_and, c4, r.1, br_n a0, vi_8 hk8, true_and, cl_8 hk8, ly_2 hk8, true_and, ly_3 hk8, nI_1, h1 k hkN, h2 k hkN]
      refine ih (k + 1) _ (by omega) ?_ ?_ ?_
      · have q := RP_sh (RP_nr r hk8 (nf N kd em ts tn k (near k) (sh k) d)) hk8 (sn kd gs gn k (near k) (sh k) d)
        have e1 : upd (fun p => if p < k then nf N kd em ts tn p (near p) (sh p) d else near p) k (nf N kd em ts tn k (near k) (sh k) d) = (fun p => if p < k + 1 then nf N kd em ts tn p (near p) (sh p) d else near p) := by
          funext p; rw [up_at]
          by_cases y : p = k
          · subst y; rw [if_pos rfl, if_pos (by omega)]
          · rw [if_neg y]
            by_cases w : p < k
            · rw [if_pos w, if_pos (by omega)]
            · rw [if_neg w, if_neg (by omega)]
        have e2 : upd (fun p => if p < k then sn kd gs gn p (near p) (sh p) d else sh p) k (sn kd gs gn k (near k) (sh k) d) = (fun p => if p < k + 1 then sn kd gs gn p (near p) (sh p) d else sh p) := by
          funext p; rw [up_at]
          by_cases y : p = k
          · subst y; rw [if_pos rfl, if_pos (by omega)]
          · rw [if_neg y]
            by_cases w : p < k
            · rw [if_pos w, if_pos (by omega)]
            · rw [if_neg w, if_neg (by omega)]
        rw [e1, e2] at q
        exact q
      · rw [pk_un (by omega), pk_un (by omega)]; exact r0
      · intro i hi
        rw [pk_un (by omega), pk_un (by omega)]; exact f i hi
  refine ⟨N + 1, lo N 0 m (by omega) ?_ hd (fun _ _ => rfl)⟩
  have e1 : (fun p => if p < 0 then nf N kd em ts tn p (near p) (sh p) d else near p) = near := by
    funext p; rw [if_neg (Nat.not_lt_zero p)]
  have e2 : (fun p => if p < 0 then sn kd gs gn p (near p) (sh p) d else sh p) = sh := by
    funext p; rw [if_neg (Nat.not_lt_zero p)]
  rw [e1, e2]; exact h
