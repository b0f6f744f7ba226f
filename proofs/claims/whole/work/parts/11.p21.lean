/-! began -/
def fB (b : Nat → Bool) (k : Nat) : Nat := if b k = true then 1 else 0
/-- for a sign: how many of the first people -/
def cA (b : Nat → Bool) (s : Nat) : Nat → Nat
  | 0 => 0
  | w + 1 => cA b s w + fB b (10 * w + s)
def cS (N : Nat) (b : Nat → Bool) : Nat → Nat
  | 0 => 0
  | s + 1 => cS N b s + cA b s N
def cT (b : Nat → Bool) : Nat → Nat
  | 0 => 0
  | k + 1 => cT b k + fB b k
theorem cs_10 (b : Nat → Bool) : ∀ N, cS N b 10 = cT b (10 * N)
  | 0 => rfl
  | N + 1 => by
    have ih := cs_10 b N
    have e : 10 * (N + 1) = 10 * N + 9 + 1 := by omega
    rw [e]
    simp only [cS, cA, cT, Nat.add_zero] at ih ⊢
    omega
theorem fB_le (b : Nat → Bool) (k : Nat) : fB b k ≤ 1 := by
  unfold fB
  split <;> omega
theorem cA_le (b : Nat → Bool) (s : Nat) : ∀ w, cA b s w ≤ w
  | 0 => Nat.le_refl _
  | w + 1 => by have := cA_le b s w; have := fB_le b (10 * w + s); rw [cA]; omega
theorem cS_le {N : Nat} (hN : N ≤ 8) (b : Nat → Bool) : ∀ s, cS N b s ≤ 8 * s
  | 0 => Nat.le_refl _
  | s + 1 => by have := cS_le hN b s; have := cA_le b s N; rw [cS]; omega
theorem cA_0 {b : Nat → Bool} (h : ∀ k, b k = true → 0 < k % 10) : ∀ w, cA b 0 w = 0
  | 0 => rfl
  | w + 1 => by
    rw [cA, cA_0 h w]
    unfold fB
    rw [if_neg (fun z => absurd (h _ z) (by omega))]
/-- what is known behind so many signs and people -/
def pcd (N s w k : Nat) : Prop := k / 10 < N ∧ (k % 10 < s ∨ (k % 10 = s ∧ k / 10 < w))
def inv_ (N : Nat) (b : Nat → Bool) (s w W M : Nat) : Prop := W = cS N b s + cA b s w ∧ M < 100 ∧ (W = 0 → ∀ k, pcd N s w k → ¬ b k = true) ∧ (0 < W → b M = true ∧ ∀ k, pcd N s w k → b k = true → M ≤ k)
theorem inv_no {N : Nat} {b : Nat → Bool} {s w W M : Nat} (hs : s < 10) (h : inv_ N b s w W M) (hb : ¬ b (10 * w + s) = true) : inv_ N b s (w + 1) W M := by
  obtain ⟨h1, h2, h3, h4⟩ := h
  have e : ∀ k, pcd N s (w + 1) k → b k = true → pcd N s w k := fun k ⟨a, c⟩ hk => ⟨a, by
    rcases c with c | ⟨c, d⟩
    · exact Or.inl c
    · refine Or.inr ⟨c, ?_⟩
      by_cases y : k / 10 = w
      · have : k = 10 * w + s := by omega
        rw [this] at hk
        exact absurd hk hb
      · omega⟩
  refine ⟨?_, h2, fun g k hk hb2 => h3 g k (e k hk hb2) hb2, fun g => ⟨(h4 g).1, fun k hk hb2 => (h4 g).2 k (e k hk hb2) hb2⟩⟩
  rw [cA]
  unfold fB
  rw [if_neg hb]; omega
theorem inv_ye {N : Nat} {b : Nat → Bool} {s w W M : Nat} (hs : s < 10) (hw : w < 8) (h : inv_ N b s w W M) (hb : b (10 * w + s) = true) (M' : Nat) (hM : M' = if W = 0 then 10 * w + s else if 10 * w + s < M then 10 * w + s else M) : inv_ N b s (w + 1) (W + 1) M' := by
  obtain ⟨h1, h2, h3, h4⟩ := h
  have e : ∀ k, pcd N s (w + 1) k → k = 10 * w + s ∨ pcd N s w k := fun k ⟨a, c⟩ => by
    rcases c with c | ⟨c, d⟩
    · exact Or.inr ⟨a, Or.inl c⟩
    · by_cases y : k / 10 = w
      · exact Or.inl (by omega)
      · exact Or.inr ⟨a, Or.inr ⟨c, by omega⟩⟩
  have hM1 : M' < 100 := by
    rw [hM]
    split
    · omega
    · split <;> omega
  refine ⟨?_, hM1, fun g => absurd g (by omega), fun _ => ?_⟩
  · rw [cA]
    unfold fB
    rw [if_pos hb]; omega
  · by_cases g : W = 0
    · rw [if_pos g] at hM
      rw [hM]
      refine ⟨hb, fun k hk hb2 => ?_⟩
      rcases e k hk with y | y
      · omega
      · exact absurd hb2 (h3 g k y)
    · rw [if_neg g] at hM
      obtain ⟨q1, q2⟩ := h4 (by omega)
      by_cases c : 10 * w + s < M
      · rw [if_pos c] at hM
        rw [hM]
        refine ⟨hb, fun k hk hb2 => ?_⟩
        rcases e k hk with y | y
        · omega
        · have := q2 k y hb2; omega
      · rw [if_neg c] at hM
        rw [hM]
        refine ⟨q1, fun k hk hb2 => ?_⟩
        rcases e k hk with y | y
        · omega
        · exact q2 k y hb2
theorem inv_s {N : Nat} {b : Nat → Bool} {s W M : Nat} (h : inv_ N b s N W M) : inv_ N b (s + 1) 0 W M := by
  obtain ⟨h1, h2, h3, h4⟩ := h
  have e : ∀ k, pcd N (s + 1) 0 k → pcd N s N k := fun k ⟨a, c⟩ => ⟨a, by
    rcases c with c | ⟨_, d⟩
    · by_cases y : k % 10 < s
      · exact Or.inl y
      · exact Or.inr ⟨by omega, a⟩
    · exact absurd d (Nat.not_lt_zero _)⟩
  refine ⟨?_, h2, fun g k hk => h3 g k (e k hk), fun g => ⟨(h4 g).1, fun k hk => (h4 g).2 k (e k hk)⟩⟩
  rw [cS, cA]; omega
-- the class's
theorem bi_6 {N s S q : Nat} (hN : N ≤ 8) (hs : s < 10) (hS : S ≤ 24) (hq : q < 4) {b : Nat → Bool} {y n : Int32} {kd em near sh ts gs shb shs tnr tsh gnr gsh errs : Nat → Int32} {tn gn D td gd : Int32} {shn : Nat → Nat → Int32} (e1 : shs q = nI S) (hb : ∀ w, w < N → (b (10 * w + s) = true ↔ tls N S (shn q) (mx tnr gnr (2 ^ w))))
    {B : Int32 → Int32 → Int32 → (Nat → Int32) → (Nat → Int32) → Int32 → (Nat → Int32) → (Nat → Int32) → Int32 → (Nat → Int32) → (Nat → Int32) → (Nat → Int32) → Prop} {K : Int32 → (Nat → Int32) → (Nat → Int32) → Int32 → (Nat → Int32) → (Nat → Int32) → Int32 → (Nat → Int32) → (Nat → Int32) → (Nat → Int32) → Prop} {tst gst : Nat → Int32}
    (hK : ∀ W M, inv_ N b s N W M → B (nI W) (nI M) (nI (s + 1)) tst gst td tnr tsh gd gnr gsh errs) :
    ∀ e w W M, w + e = N → inv_ N b s w W M → l_X6_began_79 (nI q) n y (nI N) kd em D near sh 99 tn ts 9 gn gs shb shs shn B K (e + 1) (nI W) (nI M) (nI s) (nI w) tst gst td tnr tsh gd gnr gsh errs := by
  intro e
  induction e with
  | zero =>
    intro w W M hw h
    have e : w = N := by omega
    subst e
    rw [l_X6_began_79, br_y (nI_le (Nat.le_refl _) (by omega)), nI_1]
    exact hK W M h
  | succ e ih =>
    intro w W M hw h
    have a0 : ¬ nI N ≤ nI w := nI_ge (by omega) (by omega)
    have hw8 : w < 8 := by omega
    have h2p : 2 ^ w < 256 := Nat.pow_lt_pow_right (a := 2) (m := w) (n := 8) (by decide) (by omega)
    have hW : W < 1000 := by
      have := cS_le hN b s; have := cA_le b s w; have := h.1; omega
    have way : (10 : Int32) * nI w + nI s = nI (10 * w + s) := by rw [show (10 : Int32) = nI 10 from rfl, pk_mul, nI_add]
    rw [l_X6_began_79, br_n a0, vi_4 hq, true_and, cl_4 hq, e1, sh_1 w hw8]
    refine tm_6 hN hS h2p (fun g => ?_) (fun g => ?_)
    · have bt : b (10 * w + s) = true := (hb w (by omega)).mpr g
      have fin : ∀ M', M' = (if W = 0 then 10 * w + s else if 10 * w + s < M then 10 * w + s else M) → l_X6_began_79 (nI q) n y (nI N) kd em D near sh 99 tn ts 9 gn gs shb shs shn B K (e + 1) (nI (W + 1)) (nI M') (nI s) (nI (w + 1)) tst gst td tnr tsh gd gnr gsh errs := fun M' hM => ih (w + 1) (W + 1) M' (by omega) (inv_ye hs hw8 h bt M' hM)
      rw [rb_1]
      refine ⟨fun z => ?_, fun z => ?_⟩
      · have z2 : ¬ W = 0 := fun v => z (by rw [v]; rfl)
        unfold j_X6_began_135 j_X6_began_140
        rw [way, nI_1, nI_1]
        by_cases c : 10 * w + s < M
        · rw [if_pos (nI_lt c (by have := h.2.1; omega))]
          exact fin _ (by rw [if_neg z2, if_pos c])
        · rw [if_neg (nI_nlt (by omega) (by omega))]
          exact fin _ (by rw [if_neg z2, if_neg c])
      · have z2 : W = 0 := (nI_eq (b := 0) (by omega) (by decide)).mp z
        unfold j_X6_began_135 j_X6_began_140
        rw [way, nI_1, nI_1]
        exact fin _ (by rw [if_pos z2])
    · have bt : ¬ b (10 * w + s) = true := fun z => g ((hb w (by omega)).mp z)
      rw [rb_0]
      unfold j_X6_began_140
      rw [nI_1]
      exact ih (w + 1) W M (by omega) (inv_no hs h bt)
theorem p2_q : ∀ w, w < 8 → ∀ q, q < 8 → 2 ^ w / 2 ^ q % 2 = if q = w then 1 else 0 := by decide
/-- so it is, by one who SHOWS a sign -/
def so_ (N S tn gn D n : Nat) (kd em ts gs near sh c : Nat → Int32) (w s : Nat) : Prop := tls N S c (di N kd em ts gs tn gn D near (upd sh w (nI s)) n).1
theorem so_6 {N S tn gn D n w s : Nat} (kd em ts gs near sh c tnr tsh gnr gsh : Nat → Int32) (hN : N ≤ 8) (hw : w < N) : so_ N S tn gn D n kd em ts gs near sh c w s ↔ tls N S c (mx (di N kd em ts gs tn gn D (t0 near tnr) (t0 sh tsh) n).1 (di N kd em ts gs tn gn D (t0 near gnr) (sgd N (t0 sh gsh) (nI s)) n).1 (2 ^ w)) := by
  have e : ∀ q, q < N → (di N kd em ts gs tn gn D near (upd sh w (nI s)) n).1 q = mx (di N kd em ts gs tn gn D (t0 near tnr) (t0 sh tsh) n).1 (di N kd em ts gs tn gn D (t0 near gnr) (sgd N (t0 sh gsh) (nI s)) n).1 (2 ^ w) q := by
    intro q hq
    unfold mx
    rw [p2_q w (by omega) q (by omega)]
    by_cases y : q = w
    · rw [if_pos y, if_neg (by decide)]
      refine (di_loc kd em ts gs tn gn D hq (t0_j _ _ (by omega)).symm ?_ n).1
      unfold sgd
      rw [if_pos hq, y, pk_us]
    · rw [if_neg y, if_pos rfl]
      refine (di_loc kd em ts gs tn gn D hq (t0_j _ _ (by omega)).symm ?_ n).1
      rw [t0_j _ _ (by omega), pk_un y]
  unfold so_ tls
  refine ⟨fun ⟨a, b⟩ => ⟨a, fun q hq => ?_⟩, fun ⟨a, b⟩ => ⟨a, fun q hq => ?_⟩⟩
  · rw [← e q (by omega)]; exact b q hq
  · rw [e q (by omega)]; exact b q hq
theorem bo_6 {N S tn gn D n q : Nat} (hN : N ≤ 8) (hn : n < 200) (hS : S ≤ 24) (hq : q < 4) {b : Nat → Bool} {y : Int32} {kd em near sh ts gs m shb shs tnr tsh errs : Nat → Int32} {shn : Nat → Nat → Int32} {td : Int32} (hT : TX 0 tn ts m) (hG : TX 1 gn gs m) (e1 : shs q = nI S) (hb : ∀ w s, w < N → 0 < s → s < 10 → (b (10 * w + s) = true ↔ so_ N S tn gn D n kd em ts gs near sh (shn q) w s))
    {K : Int32 → (Nat → Int32) → (Nat → Int32) → Int32 → (Nat → Int32) → (Nat → Int32) → Int32 → (Nat → Int32) → (Nat → Int32) → (Nat → Int32) → Prop}
    (hK : ∀ W M, inv_ N b 10 0 W M → ∀ a1 a2 a3 a4 a5, (¬ y = 0 → ((¬ nI W = 0 → K (nI M) a1 a2 td (di N kd em ts gs tn gn D (t0 near tnr) (t0 sh tsh) n).1 (di N kd em ts gs tn gn D (t0 near tnr) (t0 sh tsh) n).2 a3 a4 a5 errs) ∧ (nI W = 0 → v_X6_error 2 errs (fun r e' => K r a1 a2 td (di N kd em ts gs tn gn D (t0 near tnr) (t0 sh tsh) n).1 (di N kd em ts gs tn gn D (t0 near tnr) (t0 sh tsh) n).2 a3 a4 a5 e')))) ∧ (y = 0 → K (nI W) a1 a2 td (di N kd em ts gs tn gn D (t0 near tnr) (t0 sh tsh) n).1 (di N kd em ts gs tn gn D (t0 near tnr) (t0 sh tsh) n).2 a3 a4 a5 errs)) :
    ∀ e s W M tst gst gd gnr gsh, s + e = 10 → 0 < s → inv_ N b s 0 W M → l_X6_began_62 (nI q) (nI n) y (nI N) kd em (nI D) near sh 99 (nI tn) ts 9 (nI gn) gs shb shs shn K (e + 1) (nI W) (nI M) (nI s) tst gst td (di N kd em ts gs tn gn D (t0 near tnr) (t0 sh tsh) n).1 (di N kd em ts gs tn gn D (t0 near tnr) (t0 sh tsh) n).2 gd gnr gsh errs := by
  intro e
  induction e with
  | zero =>
    intro s W M tst gst gd gnr gsh hs _ h
    have e : s = 10 := by omega
    subst e
    rw [l_X6_began_62, br_y (show (9 : Int32) < nI 10 by decide)]
    exact hK W M h _ _ _ _ _
  | succ e ih =>
    intro s W M tst gst gd gnr gsh hs h0 h
    rw [l_X6_began_62, br_n (show ¬ (9 : Int32) < nI s from nI_nlt (a := 9) (by omega) (by decide))]
    refine ts_6 hN hn hT hG (fun tst' gst' => ⟨N + 1, ?_⟩) tst gst
    refine bi_6 hN (by omega) hS hq e1 (fun w hw => (hb w s hw h0 (by omega)).trans (so_6 kd em ts gs near sh (shn q) tnr tsh gnr gsh hN hw)) (fun W' M' h' => ?_) N 0 W M (by omega) h
    exact ih (s + 1) W' M' _ _ _ _ _ (by omega) (by omega) (inv_s h')
-- the twin's
theorem so_7 {N S tn gn D n w s q : Nat} {kd em ca near sh ts gs m ms mn c : Nat → Int32} (hN : N ≤ 8) (hn : n < 200) (hw : w < N) (h : RP N kd em ca near sh m) (hB : BP kd ca near) (hd : m 0 = nI D) (hT : TX 0 tn ts m) (hG : TX 1 gn gs m) (hq : q < 4) (hS : S ≤ 24) (e2 : ms q = nI S) (hr : ∀ i, i < 24 → sr (c i) (mn (24 * q + i)))
    {K : Int32 → (Nat → Int32) → (Nat → Int32) → (Nat → Int32) → (Nat → Int32) → (Nat → Int32) → (Nat → Int32) → Prop} (hK : ∀ r laid' nm' pile' nt' st', (¬ r = 0 ↔ so_ N S tn gn D n kd em ts gs near sh c w s) → K r m laid' nm' pile' nt' st') (laid nm pile nt st : Nat → Int32) : v_X7_isSoBy (nI q) (nI n) (nI w) (nI s) m laid nm pile nt st ms mn K := by
  have hw8 : w < 8 := by omega
  unfold v_X7_isSoBy
  refine ld_7 (fun laid' hl => ?_)
  rw [ly_3 hw8]
  refine go_7 hN hn (RP_sh h hw8 (nI s)) (by rw [pk_un (by omega)]; exact hd) (TX_fr2 hT (fun i h1 h2 => pk_un (by omega))) (TX_fr2 hG (fun i h1 h2 => pk_un (by omega))) (fun m2 nm2 pile2 nt2 st2 g1 g2 g3 => ?_) nm pile nt st
  refine an_7 hN g1 (di_B hN em ts gs tn gn D _ hB n) hq hS e2 hr (fun r hr2 => ?_)
  exact lb_7 hl (fun i hi => by rw [g3 i (by omega), pk_un (by omega)]) (hK r _ _ _ _ _ hr2)
theorem ten_k {k : Nat} (hk : k < 100) : nI k / 10 = nI (k / 10) ∧ nI k - nI k / 10 * 10 = nI (k % 10) :=
  ⟨pk_div (by omega) (by decide) (by decide), pk_rem (d := 10) (by omega) (by decide) (by decide)⟩
theorem bt_7 {N S tn gn D n q : Nat} {y : Int32} {kd em ca near sh ts gs m mb ms mn c : Nat → Int32} {b : Nat → Bool} (hN : N ≤ 8) (hn : n < 200) (h : RP N kd em ca near sh m) (hB : BP kd ca near) (hd : m 0 = nI D) (hT : TX 0 tn ts m) (hG : TX 1 gn gs m) (hq : q < 4) (hS : S ≤ 24) (e2 : ms q = nI S) (hr : ∀ i, i < 24 → sr (c i) (mn (24 * q + i)))
    (hb0 : ∀ k, b k = true → 0 < k % 10) (hb : ∀ w s, w < N → 0 < s → s < 10 → (b (10 * w + s) = true ↔ so_ N S tn gn D n kd em ts gs near sh c w s))
    {K : Int32 → (Nat → Int32) → (Nat → Int32) → (Nat → Int32) → (Nat → Int32) → (Nat → Int32) → (Nat → Int32) → (Nat → Int32) → Prop} {me : Nat → Int32}
    (hK : ∀ (x6 : Int32), (x6 = -1 ∧ (∀ j, j < 10 * N → ¬ b j = true)) ∨ (∃ M : Nat, x6 = nI M ∧ M < 10 * N ∧ b M = true ∧ ∀ j, j < M → ¬ b j = true) → ∀ laid nm pile nt st, (¬ y = 0 → ((¬ x6 = -1 → K x6 m laid me nm pile nt st) ∧ (x6 = -1 → v_X7_error 2 me (fun r e' => K r m laid e' nm pile nt st)))) ∧ (y = 0 → K (nI (cT b (10 * N))) m laid me nm pile nt st)) :
    ∀ k W (x6 : Int32) laid nm pile nt st, k < 10 * N → W + cT b (k + 1) = cT b (10 * N) → ((x6 = -1 ∧ (∀ j, k < j → j < 10 * N → ¬ b j = true)) ∨ (∃ M : Nat, x6 = nI M ∧ M < 10 * N ∧ b M = true ∧ k < M ∧ ∀ j, k < j → j < M → ¬ b j = true)) → l_X7_began_61 (nI q) (nI n) y mb ms mn K (k + 1) (nI W) x6 (nI k) m laid me nm pile nt st := by
  have cTle : ∀ k, cT b k ≤ k := by
    intro k
    induction k with
    | zero => exact Nat.le_refl _
    | succ k ih => have := fB_le b k; rw [cT]; omega
  intro k
  induction k with
  | zero =>
    intro W x6 laid nm pile nt st hk hW hx
    rw [l_X7_began_61, br_y (show nI 0 ≤ 0 by decide)]
    have b0 : ¬ b 0 = true := fun z => absurd (hb0 0 z) (by decide)
    have c1 : cT b (0 + 1) = 0 := by
      show 0 + fB b 0 = 0
      unfold fB
      rw [if_neg b0]
    have eW : W = cT b (10 * N) := by omega
    rw [eW]
    refine hK x6 ?_ laid nm pile nt st
    rcases hx with ⟨e, hx⟩ | ⟨M, e, h1, h2, h3, h4⟩
    · refine Or.inl ⟨e, fun j hj => ?_⟩
      by_cases z : j = 0
      · rw [z]; exact b0
      · exact hx j (by omega) hj
    · refine Or.inr ⟨M, e, h1, h2, fun j hj => ?_⟩
      by_cases z : j = 0
      · rw [z]; exact b0
      · exact h4 j (by omega) hj
  | succ k ih =>
    intro W x6 laid nm pile nt st hk hW hx
    have hk100 : k + 1 < 100 := by omega
    obtain ⟨t1, t2⟩ := ten_k hk100
    have dec : nI (k + 1) + -1 = nI k := by
      have e : nI (k + 1) - 1 = nI k := pk_sub (a := k + 1) (b := 1) (by omega)
      rw [← e, Int32.sub_eq_add_neg]
    have no : ¬ b (k + 1) = true → ∀ laid nm pile nt st, j_X7_began_97 (nI q) (nI n) y mb ms mn (fun a1 a2 a3 a4 a5 a6 a7 a8 a9 a10 => l_X7_began_61 (nI q) (nI n) y mb ms mn K (k + 1) a1 a2 a3 a4 a5 a6 a7 a8 a9 a10) K (nI W) x6 (nI (k + 1)) m laid me nm pile nt st := by
      intro hbk laid nm pile nt st
      unfold j_X7_began_97 j_X7_began_98
      rw [rb_0]
      unfold j_X7_began_112
      rw [rb_0]
      unfold j_X7_began_127
      rw [dec, az]
      refine ih W x6 laid nm pile nt st (by omega) ?_ ?_
      · have : cT b (k + 1 + 1) = cT b (k + 1) + fB b (k + 1) := rfl
        unfold fB at this
        rw [if_neg hbk] at this
        omega
      · rcases hx with ⟨e, hx⟩ | ⟨M, e, h1, h2, h3, h4⟩
        · refine Or.inl ⟨e, fun j hj hj2 => ?_⟩
          by_cases z : j = k + 1
          · rw [z]; exact hbk
          · exact hx j (by omega) hj2
        · refine Or.inr ⟨M, e, h1, h2, by omega, fun j hj hj2 => ?_⟩
          by_cases z : j = k + 1
          · rw [z]; exact hbk
          · exact h4 j (by omega) hj2
    rw [l_X7_began_61, br_n (nI_nle (by omega) (by omega)), d10, true_and, t2, t1]
    refine ⟨fun g => no (fun z => ?_) _ _ _ _ _, fun g => ?_⟩
    · have h1 := hb0 _ z
      exact absurd g (nI_nle h1 (by omega))
    · have hp : 0 < (k + 1) % 10 := by
        rcases Nat.eq_zero_or_pos ((k + 1) % 10) with z | z
        · rw [z] at g; exact absurd (by decide) g
        · exact z
      rw [true_and, true_and]
      have e10 : 10 * ((k + 1) / 10) + (k + 1) % 10 = k + 1 := by omega
      have hbk := hb ((k + 1) / 10) ((k + 1) % 10) (by omega) hp (by omega)
      rw [e10] at hbk
      refine so_7 hN hn (w := (k + 1) / 10) (s := (k + 1) % 10) (by omega) h hB hd hT hG hq hS e2 hr (fun r laid' nm' pile' nt' st' hr2 => ⟨fun z => ?_, fun z => ?_⟩) laid nm pile nt st
      · exact no (fun v => (hr2.mpr (hbk.mp v)) z) _ _ _ _ _
      · have bk : b (k + 1) = true := hbk.mpr (hr2.mp z)
        unfold j_X7_began_98
        rw [rb_1]
        unfold j_X7_began_112
        rw [rb_1]
        unfold j_X7_began_127
        rw [dec, nI_1]
        refine ih (W + 1) (nI (k + 1)) laid' nm' pile' nt' st' (by omega) ?_ (Or.inr ⟨k + 1, rfl, hk, bk, by omega, fun j h1 h2 => absurd h2 (by omega)⟩)
        have : cT b (k + 1 + 1) = cT b (k + 1) + fB b (k + 1) := rfl
        unfold fB at this
        rw [if_pos bk] at this
        omega
theorem p_began {N tn gn D : Nat} {x y z td gd : Int32} {kd em ca near sh ts gs m errs me tst gst tnr tsh gnr gsh laid nm pile nt st shb shs mb ms mn : Nat → Int32} {shn : Nat → Nat → Int32} {P : Int32 → (Nat → Int32) → (Nat → Int32) → Int32 → (Nat → Int32) → (Nat → Int32) → Int32 → (Nat → Int32) → (Nat → Int32) → (Nat → Int32) → Int32 → (Nat → Int32) → (Nat → Int32) → (Nat → Int32) → (Nat → Int32) → (Nat → Int32) → (Nat → Int32) → (Nat → Int32) → Prop} (hN : N ≤ 8) (h : RP N kd em ca near sh m) (hB : BP kd ca near) (hd : m 0 = nI D) (hT : TX 0 tn ts m) (hG : TX 1 gn gs m) (hS : RS shb shs shn mb ms mn) (hE : RE errs me)
    (hP : ∀ r tst' gst' td' tnr' tsh' gd' gnr' gsh' errs' laid' me' nm' pile' nt' st', RE errs' me' → P r tst' gst' td' tnr' tsh' gd' gnr' gsh' errs' r m laid' me' nm' pile' nt' st') :
    v_X6_began x y z (nI N) kd em (nI D) near sh 99 (nI tn) ts tst 9 (nI gn) gs gst td tnr tsh gd gnr gsh shb shs shn errs (fun r tst' gst' td' tnr' tsh' gd' gnr' gsh' errs' => v_X7_began x y z m laid me nm pile nt st mb ms mn (fun r' m' laid' me' nm' pile' nt' st' => P r tst' gst' td' tnr' tsh' gd' gnr' gsh' errs' r' m' laid' me' nm' pile' nt' st')) := by
  have herr := hP (-1000000001) tst gst td tnr tsh gd gnr gsh (upd errs 1 (errs 1 + 1)) laid (upd me 1 (me 1 + 1)) nm pile nt st (RE_up hE 1)
  unfold v_X6_began v_X7_began
  rcases ou_or y (n := 21) (by decide) with hy | ⟨n, hn, rfl⟩
  · have i1 : ∀ K, v_X7_in y 0 20 K = K 0 := i_no 20 (by decide) hy
    have i2 : ∀ K, v_X6_isWithin y 20 K = K 0 := w_no 20 (by decide) hy
    rcases ou_or x (n := 4) (by decide) with hx | ⟨q, hq, rfl⟩
    · simp only [st_no hx, i1, j_X6_began_24, j_X7_began_27, j_X7_began_28, b1_0, er61, er71, b1_0, true_implies, false_implies, not_true_eq_false, not_false_eq_true, and_true, true_and, implies_true]; exact herr
    · simp only [st_yes hq, i1, i2, j_X6_began_24, j_X7_began_27, j_X7_began_28, b1_0, er61, er71, b1_0, true_implies, false_implies, not_true_eq_false, not_false_eq_true, and_true, true_and, implies_true]; exact herr
  have i1 : ∀ K, v_X7_in (nI n) 0 20 K = K 1 := i_yes 20 (by decide) hn
  have i2 : ∀ K, v_X6_isWithin (nI n) 20 K = K 1 := w_yes 20 (by decide) hn
  rcases ou_or z (n := 2) (by decide) with hz | ⟨u, hu, rfl⟩
  · have i3 : ∀ K, v_X7_in z 0 1 K = K 0 := i_no 1 (by decide) hz
    have i4 : ∀ K, v_X6_isWithin z 1 K = K 0 := w_no 1 (by decide) hz
    rcases ou_or x (n := 4) (by decide) with hx | ⟨q, hq, rfl⟩
    · simp only [st_no hx, i1, i3, j_X6_began_24, j_X7_began_27, j_X7_began_28, b1_0, er61, er71, b1_0, true_implies, false_implies, not_true_eq_false, not_false_eq_true, and_true, true_and, implies_true]; exact herr
    · simp only [st_yes hq, i1, i2, i3, i4, j_X6_began_24, j_X7_began_27, j_X7_began_28, b1_0, er61, er71, b1_0, true_implies, false_implies, not_true_eq_false, not_false_eq_true, and_true, true_and, implies_true]; exact herr
  have i3 : ∀ K, v_X7_in (nI u) 0 1 K = K 1 := i_yes 1 (by decide) hu
  have i4 : ∀ K, v_X6_isWithin (nI u) 1 K = K 1 := w_yes 1 (by decide) hu
  rcases ou_or x (n := 4) (by decide) with hx | ⟨q, hq, rfl⟩
  · simp only [st_no hx, i1, i3, la_no hx, j_X6_began_24, j_X7_began_28, b1_0, er61, er71, b1_0, true_implies, false_implies, not_true_eq_false, not_false_eq_true, and_true, true_and, implies_true]; exact herr
  obtain ⟨a1, a2, ⟨S, hS24, a3⟩, a4, a5⟩ := hS q hq
  by_cases b0 : shb q = 0
  · simp only [st_yes hq, i1, i2, i3, i4, vi_4 hq, cl_4 hq, b0, mi_0, la_mi hq (a1.trans b0), t2_0, j_X7_began_28, er62, er72, b1_0, true_implies, false_implies, not_true_eq_false, not_false_eq_true, and_true, true_and, implies_true]
    exact hP _ _ _ _ _ _ _ _ _ _ _ _ _ _ _ _ (RE_up hE 2)
  have b1 : ¬ mb q = 0 := by rw [a1]; exact b0
  simp only [st_yes hq, i1, i2, i3, i4, vi_4 hq, cl_4 hq, mi_no b0, la_ok hq b1, j_X7_began_28, v4_, c4, h.1, b1_0, true_implies, false_implies, not_true_eq_false, not_false_eq_true, and_true, true_and, implies_true]
  refine th_6 hN (by omega) hT hG (fun tst1 gst1 => ⟨10, ?_⟩) tst gst
  obtain ⟨b, hbt⟩ : ∃ b : Nat → Bool, ∀ k, b k = true ↔ (0 < k % 10 ∧ so_ N S tn gn D n kd em ts gs near sh (shn q) (k / 10) (k % 10)) :=
    ⟨fun k => @decide _ (Classical.propDecidable (0 < k % 10 ∧ so_ N S tn gn D n kd em ts gs near sh (shn q) (k / 10) (k % 10))), fun k => @decide_eq_true_iff _ (Classical.propDecidable _)⟩
  have hb0 : ∀ k, b k = true → 0 < k % 10 := fun k hk => ((hbt k).mp hk).1
  have hb : ∀ w s, w < N → 0 < s → s < 10 → (b (10 * w + s) = true ↔ so_ N S tn gn D n kd em ts gs near sh (shn q) w s) := fun w s _ h1 h2 => by
    have e1 : (10 * w + s) % 10 = s := by omega
    have e2 : (10 * w + s) / 10 = w := by omega
    have := hbt (10 * w + s)
    rw [e1, e2] at this
    exact this.trans ⟨fun v => v.2, fun v => ⟨h1, v⟩⟩
  have i0 : inv_ N b 1 0 0 0 := by
    refine ⟨?_, by decide, fun _ k ⟨_, hk⟩ hk2 => ?_, fun g => absurd g (Nat.lt_irrefl 0)⟩
    · rw [cS, cS, cA, cA_0 hb0 N]
    · have := hb0 k hk2
      rcases hk with hk | ⟨_, hk⟩
      · omega
      · exact absurd hk (Nat.not_lt_zero _)
  refine bo_6 hN (by omega) hS24 hq hT hG a3 hb (fun W M hi c1 c2 c3 c4 c5 => ?_) 9 1 0 0 tst1 gst1 gd gnr gsh rfl (by decide) i0
  obtain ⟨w1, w2, w3, w4⟩ := hi
  rw [cA, Nat.add_zero, cs_10] at w1
  have hW80 : W < 1000 := by have := cS_le hN b 10; rw [cs_10] at this; omega
  have pall : ∀ k, k < 10 * N → pcd N 10 0 k := fun k hk => ⟨by omega, Or.inl (by omega)⟩
  have tw : ∀ (K : Int32 → (Nat → Int32) → (Nat → Int32) → (Nat → Int32) → (Nat → Int32) → (Nat → Int32) → (Nat → Int32) → (Nat → Int32) → Prop) me, (∀ (x6 : Int32), (x6 = -1 ∧ W = 0) ∨ (x6 = nI M ∧ 0 < W) → ∀ laid nm pile nt st, (¬ nI u = 0 → ((¬ x6 = -1 → K x6 m laid me nm pile nt st) ∧ (x6 = -1 → v_X7_error 2 me (fun r e' => K r m laid e' nm pile nt st)))) ∧ (nI u = 0 → K (nI W) m laid me nm pile nt st)) → ∃ f, l_X7_began_61 (nI q) (nI n) (nI u) mb ms mn K f 0 (-1) ((10 : Int32) * nI N - 1) m laid me nm pile nt st := by
    intro K me hK
    by_cases n0 : N = 0
    · subst n0
      have eW : W = 0 := w1
      refine ⟨1, ?_⟩
      rw [l_X7_began_61, br_y (show (10 : Int32) * nI 0 - 1 ≤ 0 by decide)]
      have := hK (-1) (Or.inl ⟨rfl, eW⟩) laid nm pile nt st
      rw [eW] at this
      exact this
    · have e9 : (10 : Int32) * nI N - 1 = nI (10 * N - 1) := by
        rw [show (10 : Int32) = nI 10 from rfl, pk_mul]
        exact pk_sub (b := 1) (by omega)
      rw [e9]
      refine ⟨10 * N - 1 + 1, ?_⟩
      refine bt_7 hN (by omega) h hB hd hT hG hq hS24 (a2.trans a3) a5 hb0 hb (fun x6 hx l1 l2 l3 l4 l5 => ?_) (10 * N - 1) 0 (-1) laid nm pile nt st (by omega) ?_ (Or.inl ⟨rfl, fun j h1 h2 => absurd h1 (by omega)⟩)
      · rw [← w1]
        refine hK x6 ?_ l1 l2 l3 l4 l5
        rcases hx with ⟨e, hx⟩ | ⟨M2, e, h1, h2, h3⟩
        · refine Or.inl ⟨e, ?_⟩
          rcases Nat.eq_zero_or_pos W with g | g
          · exact g
          · have hM := (w4 g).1
            by_cases c : M < 10 * N
            · exact absurd hM (hx M c)
            · exfalso
              have z : ∀ k, k ≤ 10 * N → cT b k = 0 := by
                intro k
                induction k with
                | zero => intro _; rfl
                | succ k ih =>
                  intro hk
                  rw [cT, ih (by omega)]
                  unfold fB
                  rw [if_neg (hx k (by omega))]
              have := z (10 * N) (Nat.le_refl _)
              omega
        · have g : 0 < W := by
            rcases Nat.eq_zero_or_pos W with g | g
            · exact absurd h2 (w3 g M2 (pall M2 h1))
            · exact g
          refine Or.inr ⟨?_, g⟩
          obtain ⟨v1, v2⟩ := w4 g
          have g1 := v2 M2 (pall M2 h1) h2
          have g2 : ¬ M < M2 := fun c => h3 M c v1
          rw [e, show M2 = M by omega]
      · rw [show 10 * N - 1 + 1 = 10 * N by omega]; omega
  have nn : ∀ k : Nat, k < 1000 → ¬ nI k = -1 := fun k hk w => by
    have := (fa_eq _ _).mp w
    rw [nI_toInt (by omega), show (-1 : Int32).toInt = -1 by decide] at this
    omega
  refine ⟨fun g => ⟨fun g2 => ?_, fun g2 => ?_⟩, fun g => ?_⟩
  · have g3 : 0 < W := Nat.pos_of_ne_zero (fun v => g2 (by rw [v]; rfl))
    refine tw _ me (fun x6 hx l1 l2 l3 l4 l5 => ⟨fun _ => ?_, fun v => absurd v g⟩)
    rcases hx with ⟨_, e⟩ | ⟨e, _⟩
    · exact absurd e (by omega)
    · rw [e]
      exact ⟨fun _ => hP _ _ _ _ _ _ _ _ _ _ _ _ _ _ _ _ hE, fun v => absurd v (nn M (by omega))⟩
  · have g3 : W = 0 := (nI_eq (b := 0) (by omega) (by decide)).mp g2
    rw [er62]
    refine tw _ me (fun x6 hx l1 l2 l3 l4 l5 => ⟨fun _ => ?_, fun v => absurd v g⟩)
    rcases hx with ⟨e, _⟩ | ⟨_, e⟩
    · rw [e, er72]
      exact ⟨fun v => absurd rfl v, fun _ => hP _ _ _ _ _ _ _ _ _ _ _ _ _ _ _ _ (RE_up hE 2)⟩
    · exact absurd e (by omega)
  · refine tw _ me (fun x6 hx l1 l2 l3 l4 l5 => ⟨fun v => absurd g v, fun _ => hP _ _ _ _ _ _ _ _ _ _ _ _ _ _ _ _ hE⟩)
