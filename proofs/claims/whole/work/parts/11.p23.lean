/-! voice: both sides -/
theorem vs_m {b t : Int32} {c : Nat → Int32} {A B : Int32 → (Nat → Int32) → Prop} (h : ∀ t c, A t c → B t c) (q : v_X7_starts b t c A) : v_X7_starts b t c B := by
  unfold v_X7_starts at q ⊢
  exact ⟨fun w => h _ _ (q.1 w), fun w => ⟨(q.2 w).1, h _ _ (q.2 w).2⟩⟩

theorem sgv_0 (yk ykind ym : Int32) (f g : Nat) (x : Int32) (dd : Nat) (hd : dd ≤ 20) : VQ (fun t c pt K => v_X5_speak (f + 1) (nI 0) (nI 0) x (nI dd) t pt yk ykind ym c K) (fun t d K => v_X7_sighsAs (g + 1) (nI 0) x t yk d K) :=
  vq_0 10 (x + yk) (fun t c pt K h => sk_ (k := 0) (v := 0) (b := 10) (a := -1) (by decide) (by decide) (by omega) rfl rfl (vs_m (fun t' c' q => wo_10 q) h)) (fun t d K h => ws_0 h)
theorem sgv_1 (yk ykind ym : Int32) (f g : Nat) (x : Int32) (dd : Nat) (hd : dd ≤ 19) : VQ (fun t c pt K => v_X5_speak (f + 2) (nI 1) (nI 0) x (nI dd) t pt yk ykind ym c K) (fun t d K => v_X7_sighsAs (g + 2) (nI 1) x t yk d K) :=
  vq_b 20 (fun r => r - 4) (sgv_0 yk ykind ym f g x (dd + 1) (by omega)) (fun t c pt K h => sk_ (k := 1) (v := 0) (b := 20) (a := 0) (by decide) (by decide) (by omega) rfl rfl (vs_m (fun t' c' q => wo_20 q) h)) (fun t d K h => ws_1 h)
theorem sgv_4 (yk ykind ym : Int32) (f g : Nat) (x : Int32) (dd : Nat) (hd : dd ≤ 18) : VQ (fun t c pt K => v_X5_speak (f + 3) (nI 4) (nI 0) x (nI dd) t pt yk ykind ym c K) (fun t d K => v_X7_sighsAs (g + 3) (nI 4) x t yk d K) :=
  vq_b 50 (fun r => r * 3) (sgv_1 yk ykind ym f g x (dd + 1) (by omega)) (fun t c pt K h => sk_ (k := 4) (v := 0) (b := 50) (a := 1) (by decide) (by decide) (by omega) rfl rfl (vs_m (fun t' c' q => wo_50 q) h)) (fun t d K h => ws_4 h)
theorem sgv_6 (yk ykind ym : Int32) (f g : Nat) (x : Int32) (dd : Nat) (hd : dd ≤ 20) : VQ (fun t c pt K => v_X5_speak (f + 1) (nI 6) (nI 0) x (nI dd) t pt yk ykind ym c K) (fun t d K => v_X7_sighsAs (g + 1) (nI 6) x t yk d K) :=
  vq_0 70 (9) (fun t c pt K h => sk_ (k := 6) (v := 0) (b := 70) (a := 0) (by decide) (by decide) (by omega) rfl rfl (vs_m (fun t' c' q => wo_70 q) h)) (fun t d K h => ws_6 h)
theorem sgv_2 (yk ykind ym : Int32) (f g : Nat) (x : Int32) (dd : Nat) (hd : dd ≤ 20) : VQ (fun t c pt K => v_X5_speak (f + 2) (nI 2) (nI 0) x (nI dd) t pt yk ykind ym c K) (fun t d K => v_X7_sighsAs (g + 2) (nI 2) x t yk d K) :=
  vq_0 10 (x + yk) (fun t c pt K h => sk_ (k := 2) (v := 0) (b := 10) (a := -1) (by decide) (by decide) (by omega) rfl rfl (vs_m (fun t' c' q => wo_10 q) h)) (fun t d K h => ws_2 (ws_0 h))
theorem sgv_3 (yk ykind ym : Int32) (f g : Nat) (x : Int32) (dd : Nat) (hd : dd ≤ 20) : VQ (fun t c pt K => v_X5_speak (f + 2) (nI 3) (nI 0) x (nI dd) t pt yk ykind ym c K) (fun t d K => v_X7_sighsAs (g + 2) (nI 3) x t yk d K) :=
  vq_0 10 (x + yk) (fun t c pt K h => sk_ (k := 3) (v := 0) (b := 10) (a := -1) (by decide) (by decide) (by omega) rfl rfl (vs_m (fun t' c' q => wo_10 q) h)) (fun t d K h => ws_3 (ws_0 h))
theorem sgv_5 (yk ykind ym : Int32) (f g : Nat) (x : Int32) (dd : Nat) (hd : dd ≤ 20) : VQ (fun t c pt K => v_X5_speak (f + 3) (nI 5) (nI 0) x (nI dd) t pt yk ykind ym c K) (fun t d K => v_X7_sighsAs (g + 3) (nI 5) x t yk d K) :=
  vq_0 10 (x + yk) (fun t c pt K h => sk_ (k := 5) (v := 0) (b := 10) (a := -1) (by decide) (by decide) (by omega) rfl rfl (vs_m (fun t' c' q => wo_10 q) h)) (fun t d K h => ws_5 (ws_2 (ws_0 h)))
theorem k7_ {k : Nat} (h : k < 7) : k = 0 ∨ k = 1 ∨ k = 2 ∨ k = 3 ∨ k = 4 ∨ k = 5 ∨ k = 6 := by omega
theorem sgv_ {k : Nat} (hk : k < 7) (yk ykind ym : Int32) (f g : Nat) (x : Int32) (dd : Nat) (hd : dd ≤ 18) : VQ (fun t c pt K => v_X5_speak (f + 3) (nI k) (nI 0) x (nI dd) t pt yk ykind ym c K) (fun t d K => v_X7_sighsAs (g + 3) (nI k) x t yk d K) := by
  rcases k7_ hk with rfl | rfl | rfl | rfl | rfl | rfl | rfl
  · exact sgv_0 yk ykind ym (f + 2) (g + 2) x dd (by omega)
  · exact sgv_1 yk ykind ym (f + 1) (g + 1) x dd (by omega)
  · exact sgv_2 yk ykind ym (f + 1) (g + 1) x dd (by omega)
  · exact sgv_3 yk ykind ym (f + 1) (g + 1) x dd (by omega)
  · exact sgv_4 yk ykind ym f g x dd hd
  · exact sgv_5 yk ykind ym f g x dd (by omega)
  · exact sgv_6 yk ykind ym (f + 2) (g + 2) x dd (by omega)
theorem stv_0 {k0 : Nat} (hk0 : k0 < 7) {yk ym : Int32} {m : Nat → Int32} (hk : ∀ K, v_X7_its yk 0 m K = K (nI k0)) (hm : ∀ K, v_X7_its yk 1 m K = K ym) (f g : Nat) (x : Int32) (dd : Nat) (hd : dd ≤ 17) : VQ (fun t c pt K => v_X5_speak (f + 3 + 1) (nI 0) (nI 1) x (nI dd) t pt yk (nI k0) ym c K) (fun t d K => v_X7_stirsAs (g + 1) (nI 0) x t yk m d K) :=
  vq_b 11 (fun r => r * 2) (sgv_ hk0 yk (nI k0) ym (f + 0) 1 x (dd + 1) (by omega)) (fun t c pt K h => sk_ (k := 0) (v := 1) (b := 11) (a := -1) (by decide) (by decide) (by omega) rfl rfl (vs_m (fun t' c' q => wo_11 q) h)) (fun t d K h => wt_0 hk hm h)
theorem stv_2 {k0 : Nat} (hk0 : k0 < 7) {yk ym : Int32} {m : Nat → Int32} (hk : ∀ K, v_X7_its yk 0 m K = K (nI k0)) (hm : ∀ K, v_X7_its yk 1 m K = K ym) (f g : Nat) (x : Int32) (dd : Nat) (hd : dd ≤ 16) : VQ (fun t c pt K => v_X5_speak (f + 3 + 2) (nI 2) (nI 1) x (nI dd) t pt yk (nI k0) ym c K) (fun t d K => v_X7_stirsAs (g + 2) (nI 2) x t yk m d K) :=
  vq_b 30 (fun r => 0 - r) (stv_0 hk0 hk hm f g x (dd + 1) (by omega)) (fun t c pt K h => sk_ (k := 2) (v := 1) (b := 30) (a := 0) (by decide) (by decide) (by omega) rfl rfl (vs_m (fun t' c' q => wo_30 q) h)) (fun t d K h => wt_2 hk hm h)
theorem stv_5 {k0 : Nat} (hk0 : k0 < 7) {yk ym : Int32} {m : Nat → Int32} (hk : ∀ K, v_X7_its yk 0 m K = K (nI k0)) (hm : ∀ K, v_X7_its yk 1 m K = K ym) (f g : Nat) (x : Int32) (dd : Nat) (hd : dd ≤ 15) : VQ (fun t c pt K => v_X5_speak (f + 3 + 3) (nI 5) (nI 1) x (nI dd) t pt yk (nI k0) ym c K) (fun t d K => v_X7_stirsAs (g + 3) (nI 5) x t yk m d K) :=
  vq_b 60 (fun r => r) (stv_2 hk0 hk hm f g (x + 1) (dd + 1) (by omega)) (fun t c pt K h => sk_ (k := 5) (v := 1) (b := 60) (a := 2) (by decide) (by decide) (by omega) rfl rfl (vs_m (fun t' c' q => wo_60 q) h)) (fun t d K h => wt_5 hk hm h)
theorem stv_6 {k0 : Nat} (hk0 : k0 < 7) {yk ym : Int32} {m : Nat → Int32} (hk : ∀ K, v_X7_its yk 0 m K = K (nI k0)) (hm : ∀ K, v_X7_its yk 1 m K = K ym) (f g : Nat) (x : Int32) (dd : Nat) (hd : dd ≤ 16) : VQ (fun t c pt K => v_X5_speak (f + 3 + 2) (nI 6) (nI 1) x (nI dd) t pt yk (nI k0) ym c K) (fun t d K => v_X7_stirsAs (g + 2) (nI 6) x t yk m d K) :=
  vq_b 71 (fun r => r + ym) (stv_0 hk0 hk hm f g x (dd + 1) (by omega)) (fun t c pt K h => sk_ (k := 6) (v := 1) (b := 71) (a := 0) (by decide) (by decide) (by omega) rfl rfl (vs_m (fun t' c' q => wo_71 q) h)) (fun t d K h => wt_6 hk hm h)
theorem stv_1 {k0 : Nat} (hk0 : k0 < 7) {yk ym : Int32} {m : Nat → Int32} (hk : ∀ K, v_X7_its yk 0 m K = K (nI k0)) (hm : ∀ K, v_X7_its yk 1 m K = K ym) (f g : Nat) (x : Int32) (dd : Nat) (hd : dd ≤ 17) : VQ (fun t c pt K => v_X5_speak (f + 3 + 2) (nI 1) (nI 1) x (nI dd) t pt yk (nI k0) ym c K) (fun t d K => v_X7_stirsAs (g + 2) (nI 1) x t yk m d K) :=
  vq_b 11 (fun r => r * 2) (sgv_ hk0 yk (nI k0) ym (f + 1) 1 x (dd + 1) (by omega)) (fun t c pt K h => sk_ (k := 1) (v := 1) (b := 11) (a := -1) (by decide) (by decide) (by omega) rfl rfl (vs_m (fun t' c' q => wo_11 q) h)) (fun t d K h => wt_1 hk hm (wt_0 hk hm h))
theorem stv_3 {k0 : Nat} (hk0 : k0 < 7) {yk ym : Int32} {m : Nat → Int32} (hk : ∀ K, v_X7_its yk 0 m K = K (nI k0)) (hm : ∀ K, v_X7_its yk 1 m K = K ym) (f g : Nat) (x : Int32) (dd : Nat) (hd : dd ≤ 17) : VQ (fun t c pt K => v_X5_speak (f + 3 + 2) (nI 3) (nI 1) x (nI dd) t pt yk (nI k0) ym c K) (fun t d K => v_X7_stirsAs (g + 2) (nI 3) x t yk m d K) :=
  vq_b 11 (fun r => r * 2) (sgv_ hk0 yk (nI k0) ym (f + 1) 1 x (dd + 1) (by omega)) (fun t c pt K h => sk_ (k := 3) (v := 1) (b := 11) (a := -1) (by decide) (by decide) (by omega) rfl rfl (vs_m (fun t' c' q => wo_11 q) h)) (fun t d K h => wt_3 hk hm (wt_0 hk hm h))
theorem stv_4 {k0 : Nat} (hk0 : k0 < 7) {yk ym : Int32} {m : Nat → Int32} (hk : ∀ K, v_X7_its yk 0 m K = K (nI k0)) (hm : ∀ K, v_X7_its yk 1 m K = K ym) (f g : Nat) (x : Int32) (dd : Nat) (hd : dd ≤ 17) : VQ (fun t c pt K => v_X5_speak (f + 3 + 3) (nI 4) (nI 1) x (nI dd) t pt yk (nI k0) ym c K) (fun t d K => v_X7_stirsAs (g + 3) (nI 4) x t yk m d K) :=
  vq_b 11 (fun r => r * 2) (sgv_ hk0 yk (nI k0) ym (f + 2) 1 x (dd + 1) (by omega)) (fun t c pt K h => sk_ (k := 4) (v := 1) (b := 11) (a := -1) (by decide) (by decide) (by omega) rfl rfl (vs_m (fun t' c' q => wo_11 q) h)) (fun t d K h => wt_4 hk hm (wt_1 hk hm (wt_0 hk hm h)))
theorem stv_ {k : Nat} (hkk : k < 7) {k0 : Nat} (hk0 : k0 < 7) {yk ym : Int32} {m : Nat → Int32} (hk : ∀ K, v_X7_its yk 0 m K = K (nI k0)) (hm : ∀ K, v_X7_its yk 1 m K = K ym) (f g : Nat) (x : Int32) (dd : Nat) (hd : dd ≤ 15) : VQ (fun t c pt K => v_X5_speak (f + 6) (nI k) (nI 1) x (nI dd) t pt yk (nI k0) ym c K) (fun t d K => v_X7_stirsAs (g + 3) (nI k) x t yk m d K) := by
  rcases k7_ hkk with rfl | rfl | rfl | rfl | rfl | rfl | rfl
  · exact stv_0 hk0 hk hm (f + 2) (g + 2) x dd (by omega)
  · exact stv_1 hk0 hk hm (f + 1) (g + 1) x dd (by omega)
  · exact stv_2 hk0 hk hm (f + 1) (g + 1) x dd (by omega)
  · exact stv_3 hk0 hk hm (f + 1) (g + 1) x dd (by omega)
  · exact stv_4 hk0 hk hm (f + 0) (g + 0) x dd (by omega)
  · exact stv_5 hk0 hk hm (f + 0) (g + 0) x dd (by omega)
  · exact stv_6 hk0 hk hm (f + 1) (g + 1) x dd (by omega)
theorem clv_0 {k0 : Nat} (hk0 : k0 < 7) {yk ym : Int32} {m : Nat → Int32} (hk : ∀ K, v_X7_its yk 0 m K = K (nI k0)) (hm : ∀ K, v_X7_its yk 1 m K = K ym) (f g : Nat) (x : Int32) (dd : Nat) (hd : dd ≤ 14) : VQ (fun t c pt K => v_X5_speak (f + 6 + 1) (nI 0) (nI 2) x (nI dd) t pt yk (nI k0) ym c K) (fun t d K => v_X7_callsAs (g + 1) (nI 0) x t yk m d K) :=
  vq_b 12 (fun r => r - ym) (stv_ hk0 hk0 hk hm (f + 0) 1 x (dd + 1) (by omega)) (fun t c pt K h => sk_ (k := 0) (v := 2) (b := 12) (a := -1) (by decide) (by decide) (by omega) rfl rfl (vs_m (fun t' c' q => wo_12 q) h)) (fun t d K h => wc_0 hk hm h)
theorem clv_1 {k0 : Nat} (hk0 : k0 < 7) {yk ym : Int32} {m : Nat → Int32} (hk : ∀ K, v_X7_its yk 0 m K = K (nI k0)) (hm : ∀ K, v_X7_its yk 1 m K = K ym) (f g : Nat) (x : Int32) (dd : Nat) (hd : dd ≤ 14) : VQ (fun t c pt K => v_X5_speak (f + 6 + 2) (nI 1) (nI 2) x (nI dd) t pt yk (nI k0) ym c K) (fun t d K => v_X7_callsAs (g + 2) (nI 1) x t yk m d K) :=
  vq_b 12 (fun r => r - ym) (stv_ hk0 hk0 hk hm (f + 1) 1 x (dd + 1) (by omega)) (fun t c pt K h => sk_ (k := 1) (v := 2) (b := 12) (a := -1) (by decide) (by decide) (by omega) rfl rfl (vs_m (fun t' c' q => wo_12 q) h)) (fun t d K h => wc_1 hk hm (wc_0 hk hm h))
theorem clv_2 {k0 : Nat} (hk0 : k0 < 7) {yk ym : Int32} {m : Nat → Int32} (hk : ∀ K, v_X7_its yk 0 m K = K (nI k0)) (hm : ∀ K, v_X7_its yk 1 m K = K ym) (f g : Nat) (x : Int32) (dd : Nat) (hd : dd ≤ 14) : VQ (fun t c pt K => v_X5_speak (f + 6 + 2) (nI 2) (nI 2) x (nI dd) t pt yk (nI k0) ym c K) (fun t d K => v_X7_callsAs (g + 2) (nI 2) x t yk m d K) :=
  vq_b 12 (fun r => r - ym) (stv_ hk0 hk0 hk hm (f + 1) 1 x (dd + 1) (by omega)) (fun t c pt K h => sk_ (k := 2) (v := 2) (b := 12) (a := -1) (by decide) (by decide) (by omega) rfl rfl (vs_m (fun t' c' q => wo_12 q) h)) (fun t d K h => wc_2 hk hm (wc_0 hk hm h))
theorem clv_6 {k0 : Nat} (hk0 : k0 < 7) {yk ym : Int32} {m : Nat → Int32} (hk : ∀ K, v_X7_its yk 0 m K = K (nI k0)) (hm : ∀ K, v_X7_its yk 1 m K = K ym) (f g : Nat) (x : Int32) (dd : Nat) (hd : dd ≤ 14) : VQ (fun t c pt K => v_X5_speak (f + 6 + 2) (nI 6) (nI 2) x (nI dd) t pt yk (nI k0) ym c K) (fun t d K => v_X7_callsAs (g + 2) (nI 6) x t yk m d K) :=
  vq_b 12 (fun r => r - ym) (stv_ hk0 hk0 hk hm (f + 1) 1 x (dd + 1) (by omega)) (fun t c pt K h => sk_ (k := 6) (v := 2) (b := 12) (a := -1) (by decide) (by decide) (by omega) rfl rfl (vs_m (fun t' c' q => wo_12 q) h)) (fun t d K h => wc_6 hk hm (wc_0 hk hm h))
theorem clv_5 {k0 : Nat} (hk0 : k0 < 7) {yk ym : Int32} {m : Nat → Int32} (hk : ∀ K, v_X7_its yk 0 m K = K (nI k0)) (hm : ∀ K, v_X7_its yk 1 m K = K ym) (f g : Nat) (x : Int32) (dd : Nat) (hd : dd ≤ 14) : VQ (fun t c pt K => v_X5_speak (f + 6 + 3) (nI 5) (nI 2) x (nI dd) t pt yk (nI k0) ym c K) (fun t d K => v_X7_callsAs (g + 3) (nI 5) x t yk m d K) :=
  vq_b 12 (fun r => r - ym) (stv_ hk0 hk0 hk hm (f + 2) 1 x (dd + 1) (by omega)) (fun t c pt K h => sk_ (k := 5) (v := 2) (b := 12) (a := -1) (by decide) (by decide) (by omega) rfl rfl (vs_m (fun t' c' q => wo_12 q) h)) (fun t d K h => wc_5 hk hm (wc_2 hk hm (wc_0 hk hm h)))
theorem clv_3 {k0 : Nat} (hk0 : k0 < 7) {yk ym : Int32} {m : Nat → Int32} (hk : ∀ K, v_X7_its yk 0 m K = K (nI k0)) (hm : ∀ K, v_X7_its yk 1 m K = K ym) (f g : Nat) (x : Int32) (dd : Nat) (hd : dd ≤ 13) : VQ (fun t c pt K => v_X5_speak (f + 6 + 2) (nI 3) (nI 2) x (nI dd) t pt yk (nI k0) ym c K) (fun t d K => v_X7_callsAs (g + 2) (nI 3) x t yk m d K) :=
  vq_b 40 (fun r => r) (clv_0 hk0 hk hm f g (x / 2) (dd + 1) (by omega)) (fun t c pt K h => sk_ (k := 3) (v := 2) (b := 40) (a := 0) (by decide) (by decide) (by omega) rfl rfl (vs_m (fun t' c' q => wo_40 q) h)) (fun t d K h => wc_3 hk hm h)
theorem clv_4 {k0 : Nat} (hk0 : k0 < 7) {yk ym : Int32} {m : Nat → Int32} (hk : ∀ K, v_X7_its yk 0 m K = K (nI k0)) (hm : ∀ K, v_X7_its yk 1 m K = K ym) (f g : Nat) (x : Int32) (dd : Nat) (hd : dd ≤ 13) : VQ (fun t c pt K => v_X5_speak (f + 6 + 3) (nI 4) (nI 2) x (nI dd) t pt yk (nI k0) ym c K) (fun t d K => v_X7_callsAs (g + 3) (nI 4) x t yk m d K) :=
  vq_b 51 (fun r => r ^^^ yk) (clv_1 hk0 hk hm f g x (dd + 1) (by omega)) (fun t c pt K h => sk_ (k := 4) (v := 2) (b := 51) (a := 1) (by decide) (by decide) (by omega) rfl rfl (vs_m (fun t' c' q => wo_51 q) h)) (fun t d K h => wc_4 hk hm h)
theorem clv_ {k : Nat} (hkk : k < 7) {k0 : Nat} (hk0 : k0 < 7) {yk ym : Int32} {m : Nat → Int32} (hk : ∀ K, v_X7_its yk 0 m K = K (nI k0)) (hm : ∀ K, v_X7_its yk 1 m K = K ym) (f g : Nat) (x : Int32) (dd : Nat) (hd : dd ≤ 13) : VQ (fun t c pt K => v_X5_speak (f + 9) (nI k) (nI 2) x (nI dd) t pt yk (nI k0) ym c K) (fun t d K => v_X7_callsAs (g + 3) (nI k) x t yk m d K) := by
  rcases k7_ hkk with rfl | rfl | rfl | rfl | rfl | rfl | rfl
  · exact clv_0 hk0 hk hm (f + 2) (g + 2) x dd (by omega)
  · exact clv_1 hk0 hk hm (f + 1) (g + 1) x dd (by omega)
  · exact clv_2 hk0 hk hm (f + 1) (g + 1) x dd (by omega)
  · exact clv_3 hk0 hk hm (f + 1) (g + 1) x dd (by omega)
  · exact clv_4 hk0 hk hm (f + 0) (g + 0) x dd (by omega)
  · exact clv_5 hk0 hk hm (f + 0) (g + 0) x dd (by omega)
  · exact clv_6 hk0 hk hm (f + 1) (g + 1) x dd (by omega)
-- parts
def VP (C T : Int32 → (Nat → Int32) → (Int32 → Int32 → Int32 → (Nat → Int32) → Prop) → Prop) : Prop := ∀ t c d, TR t c d → ∃ r p' t' c' d', TR t' c' d' ∧ (∀ K, K r (nI t') p' c' → C (nI t) c K) ∧ (∀ K, K r (nI t') p' d' → T (nI t) d K)
theorem vp_0 {C T : Int32 → (Nat → Int32) → (Int32 → Int32 → Int32 → (Nat → Int32) → Prop) → Prop} (b r p' : Int32) (hC : ∀ t c K, v_X7_starts b t c (fun t' c' => K r t' p' c') → C t c K) (hT : ∀ t d K, v_X7_starts b t d (fun t' d' => K r t' p' d') → T t d K) : VP C T := by
  intro t c d h
  obtain ⟨t', c', d', h1, h2, h3⟩ := st_t h b
  exact ⟨r, p', t', c', d', h1, fun K hK => hC _ _ _ (h2 _ hK), fun K hK => hT _ _ _ (h3 _ hK)⟩
theorem vp_1 {C T C0 T0 : Int32 → (Nat → Int32) → (Int32 → Int32 → Int32 → (Nat → Int32) → Prop) → Prop} {C1 : Int32 → (Nat → Int32) → Int32 → (Int32 → Int32 → Int32 → (Nat → Int32) → Prop) → Prop} {T1 : Int32 → (Nat → Int32) → (Int32 → Int32 → (Nat → Int32) → Prop) → Prop} (b : Int32) (h0 : VP C0 T0) (h1 : VQ C1 T1)
    (hC : ∀ t c K, v_X7_starts b t c (fun t' c' => C0 t' c' (fun r t2 p2 c2 => (p2 = 0 → C1 t2 c2 p2 (fun r2 t3 p3 c3 => K (r + r2) t3 p3 c3)) ∧ (¬ p2 = 0 → K 0 t2 p2 c2))) → C t c K)
    (hT : ∀ t d K, v_X7_starts b t d (fun t' d' => T0 t' d' (fun r t2 p2 d2 => (p2 = 0 → T1 t2 d2 (fun r2 t3 d3 => K (r + r2) t3 p2 d3)) ∧ (¬ p2 = 0 → K 0 t2 p2 d2))) → T t d K) : VP C T := by
  intro t c d h
  obtain ⟨t', c', d', g1, g2, g3⟩ := st_t h b
  obtain ⟨r, p2, t2, c2, d2, k1, k2, k3⟩ := h0 t' c' d' g1
  by_cases w : p2 = 0
  · obtain ⟨r2, t3, c3, d3, l1, l2, l3⟩ := h1 t2 c2 d2 k1
    exact ⟨r + r2, p2, t3, c3, d3, l1, fun K hK => hC _ _ _ (g2 _ (k2 _ ⟨fun _ => l2 p2 _ hK, fun y => absurd w y⟩)), fun K hK => hT _ _ _ (g3 _ (k3 _ ⟨fun _ => l3 _ hK, fun y => absurd w y⟩))⟩
  · exact ⟨0, p2, t2, c2, d2, k1, fun K hK => hC _ _ _ (g2 _ (k2 _ ⟨fun y => absurd y w, fun _ => hK⟩)), fun K hK => hT _ _ _ (g3 _ (k3 _ ⟨fun y => absurd y w, fun _ => hK⟩))⟩
def pr_ (x by_ : Int32) : Int32 := if by_ = 0 then 0 else x / by_
def pp_ (by_ : Int32) : Int32 := if by_ = 0 then 1 else 0
theorem pa_c {x yk ym : Int32} {K : Int32 → Int32 → Prop} (h : K (pr_ x (ym - yk)) (pp_ (ym - yk))) : v_X5_part x 0 yk ym K := by
  unfold v_X5_part
  unfold pr_ pp_ at h
  refine ⟨fun w => ⟨w, ?_⟩, fun w => ?_⟩
  · rw [if_neg w, if_neg w] at h; exact h
  · rw [if_pos w, if_pos w] at h; exact h
theorem wp_0 {g : Nat} {x t sp ym pt : Int32} {m d : Nat → Int32} {K : Int32 → Int32 → Int32 → (Nat → Int32) → Prop} (hm : ∀ K, v_X7_its sp 1 m K = K ym) (h : v_X7_starts 13 t d (fun t' d' => K (pr_ x (ym - sp)) t' (pp_ (ym - sp)) d')) : v_X7_partsAs (g + 1) 0 x t sp pt m d K := by
  show b_X7_partsAs (v_X7_partsAs g) 0 x t sp pt m d K
  unfold b_X7_partsAs
  rw [br_y rfl, mn_e hm]
  refine vs_m (fun t' d' q => ?_) h
  unfold pr_ pp_ at q
  show (¬ (ym - sp) = 0 → _) ∧ ((ym - sp) = 0 → _)
  refine ⟨fun w => ?_, fun w => ?_⟩
  · rw [if_neg w, if_neg w] at q
    unfold j_X7_partsAs_54
    refine ⟨fun _ => ⟨fun w2 => ⟨w, q⟩, fun w2 => ?_⟩, fun y => absurd y w⟩
    rw [w2, dv_m1] at q; exact q
  · rw [if_pos w, if_pos w] at q
    unfold j_X7_partsAs_54
    exact ⟨fun y => absurd w y, fun _ => q⟩
theorem wp_1 {g : Nat} {x t sp kn pt : Int32} {m d : Nat → Int32} {K : Int32 → Int32 → Int32 → (Nat → Int32) → Prop} (hk : ∀ K, v_X7_its sp 0 m K = K kn) (h : v_X7_starts 21 t d (fun t' d' => v_X7_partsAs g 0 x t' sp pt m d' (fun r t2 p2 d2 => (p2 = 0 → v_X7_stirsAs 4 kn 1 t2 sp m d2 (fun r2 t3 d3 => K (r + r2) t3 p2 d3)) ∧ (¬ p2 = 0 → K 0 t2 p2 d2)))) : v_X7_partsAs (g + 1) 1 x t sp pt m d K := by
  show b_X7_partsAs (v_X7_partsAs g) 1 x t sp pt m d K
  unfold b_X7_partsAs
  rw [br_n (by decide), br_y rfl, abE_1, kn_e hk]
  exact h
theorem wp_2 {g : Nat} {x t sp pt : Int32} {m d : Nat → Int32} {K : Int32 → Int32 → Int32 → (Nat → Int32) → Prop} (h : v_X7_partsAs g 0 x t sp pt m d K) : v_X7_partsAs (g + 1) 2 x t sp pt m d K := by
  show b_X7_partsAs (v_X7_partsAs g) 2 x t sp pt m d K
  unfold b_X7_partsAs
  rw [br_n (by decide), br_n (by decide), abE_2]
  exact h
theorem wp_3 {g : Nat} {x t sp pt : Int32} {m d : Nat → Int32} {K : Int32 → Int32 → Int32 → (Nat → Int32) → Prop} (h : v_X7_partsAs g 0 x t sp pt m d K) : v_X7_partsAs (g + 1) 3 x t sp pt m d K := by
  show b_X7_partsAs (v_X7_partsAs g) 3 x t sp pt m d K
  unfold b_X7_partsAs
  rw [br_n (by decide), br_n (by decide), abE_3]
  exact h
theorem wp_6 {g : Nat} {x t sp pt : Int32} {m d : Nat → Int32} {K : Int32 → Int32 → Int32 → (Nat → Int32) → Prop} (h : v_X7_partsAs g 0 x t sp pt m d K) : v_X7_partsAs (g + 1) 6 x t sp pt m d K := by
  show b_X7_partsAs (v_X7_partsAs g) 6 x t sp pt m d K
  unfold b_X7_partsAs
  rw [br_n (by decide), br_n (by decide), abE_6]
  exact h
theorem wp_4 {g : Nat} {x t sp pt : Int32} {m d : Nat → Int32} {K : Int32 → Int32 → Int32 → (Nat → Int32) → Prop} (h : v_X7_partsAs g 1 x t sp pt m d K) : v_X7_partsAs (g + 1) 4 x t sp pt m d K := by
  show b_X7_partsAs (v_X7_partsAs g) 4 x t sp pt m d K
  unfold b_X7_partsAs
  rw [br_n (by decide), br_n (by decide), abE_4]
  exact h
theorem wp_5 {g : Nat} {x t sp pt : Int32} {m d : Nat → Int32} {K : Int32 → Int32 → Int32 → (Nat → Int32) → Prop} (h : v_X7_partsAs g 2 x t sp pt m d K) : v_X7_partsAs (g + 1) 5 x t sp pt m d K := by
  show b_X7_partsAs (v_X7_partsAs g) 5 x t sp pt m d K
  unfold b_X7_partsAs
  rw [br_n (by decide), br_n (by decide), abE_5]
  exact h
theorem ptv_0 {k0 : Nat} (hk0 : k0 < 7) {yk ym : Int32} {m : Nat → Int32} (hk : ∀ K, v_X7_its yk 0 m K = K (nI k0)) (hm : ∀ K, v_X7_its yk 1 m K = K ym) (f g : Nat) (x : Int32) (dd : Nat) (hd : dd ≤ 14) : VP (fun t c K => v_X5_speak (f + 6 + 1) (nI 0) (nI 3) x (nI dd) t 0 yk (nI k0) ym c K) (fun t d K => v_X7_partsAs (g + 1) (nI 0) x t yk 0 m d K) :=
  vp_0 13 (pr_ x (ym - yk)) (pp_ (ym - yk)) (fun t c K h => sk_ (k := 0) (v := 3) (b := 13) (a := -1) (by decide) (by decide) (by omega) rfl rfl (vs_m (fun t' c' q => wo_13 (pa_c q)) h)) (fun t d K h => wp_0 hm h)
theorem ptv_2 {k0 : Nat} (hk0 : k0 < 7) {yk ym : Int32} {m : Nat → Int32} (hk : ∀ K, v_X7_its yk 0 m K = K (nI k0)) (hm : ∀ K, v_X7_its yk 1 m K = K ym) (f g : Nat) (x : Int32) (dd : Nat) (hd : dd ≤ 13) : VP (fun t c K => v_X5_speak (f + 6 + 2) (nI 2) (nI 3) x (nI dd) t 0 yk (nI k0) ym c K) (fun t d K => v_X7_partsAs (g + 2) (nI 2) x t yk 0 m d K) :=
  vp_0 13 (pr_ x (ym - yk)) (pp_ (ym - yk)) (fun t c K h => sk_ (k := 2) (v := 3) (b := 13) (a := -1) (by decide) (by decide) (by omega) rfl rfl (vs_m (fun t' c' q => wo_13 (pa_c q)) h)) (fun t d K h => wp_2 (wp_0 hm h))
theorem ptv_3 {k0 : Nat} (hk0 : k0 < 7) {yk ym : Int32} {m : Nat → Int32} (hk : ∀ K, v_X7_its yk 0 m K = K (nI k0)) (hm : ∀ K, v_X7_its yk 1 m K = K ym) (f g : Nat) (x : Int32) (dd : Nat) (hd : dd ≤ 13) : VP (fun t c K => v_X5_speak (f + 6 + 2) (nI 3) (nI 3) x (nI dd) t 0 yk (nI k0) ym c K) (fun t d K => v_X7_partsAs (g + 2) (nI 3) x t yk 0 m d K) :=
  vp_0 13 (pr_ x (ym - yk)) (pp_ (ym - yk)) (fun t c K h => sk_ (k := 3) (v := 3) (b := 13) (a := -1) (by decide) (by decide) (by omega) rfl rfl (vs_m (fun t' c' q => wo_13 (pa_c q)) h)) (fun t d K h => wp_3 (wp_0 hm h))
theorem ptv_6 {k0 : Nat} (hk0 : k0 < 7) {yk ym : Int32} {m : Nat → Int32} (hk : ∀ K, v_X7_its yk 0 m K = K (nI k0)) (hm : ∀ K, v_X7_its yk 1 m K = K ym) (f g : Nat) (x : Int32) (dd : Nat) (hd : dd ≤ 13) : VP (fun t c K => v_X5_speak (f + 6 + 2) (nI 6) (nI 3) x (nI dd) t 0 yk (nI k0) ym c K) (fun t d K => v_X7_partsAs (g + 2) (nI 6) x t yk 0 m d K) :=
  vp_0 13 (pr_ x (ym - yk)) (pp_ (ym - yk)) (fun t c K h => sk_ (k := 6) (v := 3) (b := 13) (a := -1) (by decide) (by decide) (by omega) rfl rfl (vs_m (fun t' c' q => wo_13 (pa_c q)) h)) (fun t d K h => wp_6 (wp_0 hm h))
theorem ptv_5 {k0 : Nat} (hk0 : k0 < 7) {yk ym : Int32} {m : Nat → Int32} (hk : ∀ K, v_X7_its yk 0 m K = K (nI k0)) (hm : ∀ K, v_X7_its yk 1 m K = K ym) (f g : Nat) (x : Int32) (dd : Nat) (hd : dd ≤ 13) : VP (fun t c K => v_X5_speak (f + 6 + 3) (nI 5) (nI 3) x (nI dd) t 0 yk (nI k0) ym c K) (fun t d K => v_X7_partsAs (g + 3) (nI 5) x t yk 0 m d K) :=
  vp_0 13 (pr_ x (ym - yk)) (pp_ (ym - yk)) (fun t c K h => sk_ (k := 5) (v := 3) (b := 13) (a := -1) (by decide) (by decide) (by omega) rfl rfl (vs_m (fun t' c' q => wo_13 (pa_c q)) h)) (fun t d K h => wp_5 (wp_2 (wp_0 hm h)))
theorem ptv_1 {k0 : Nat} (hk0 : k0 < 7) {yk ym : Int32} {m : Nat → Int32} (hk : ∀ K, v_X7_its yk 0 m K = K (nI k0)) (hm : ∀ K, v_X7_its yk 1 m K = K ym) (f g : Nat) (x : Int32) (dd : Nat) (hd : dd ≤ 13) : VP (fun t c K => v_X5_speak (f + 6 + 2) (nI 1) (nI 3) x (nI dd) t 0 yk (nI k0) ym c K) (fun t d K => v_X7_partsAs (g + 2) (nI 1) x t yk 0 m d K) :=
  vp_1 21 (ptv_0 hk0 hk hm (f + 0) g x (dd + 1) (by omega)) (stv_ hk0 hk0 hk hm (f + 1) 1 1 (dd + 1) (by omega)) (fun t c K h => sk_ (k := 1) (v := 3) (b := 21) (a := 0) (by decide) (by decide) (by omega) rfl rfl (vs_m (fun t' c' q => wo_21 q) h)) (fun t d K h => wp_1 hk h)
theorem ptv_4 {k0 : Nat} (hk0 : k0 < 7) {yk ym : Int32} {m : Nat → Int32} (hk : ∀ K, v_X7_its yk 0 m K = K (nI k0)) (hm : ∀ K, v_X7_its yk 1 m K = K ym) (f g : Nat) (x : Int32) (dd : Nat) (hd : dd ≤ 13) : VP (fun t c K => v_X5_speak (f + 6 + 3) (nI 4) (nI 3) x (nI dd) t 0 yk (nI k0) ym c K) (fun t d K => v_X7_partsAs (g + 3) (nI 4) x t yk 0 m d K) :=
  vp_1 21 (ptv_0 hk0 hk hm (f + 1) g x (dd + 1) (by omega)) (stv_ hk0 hk0 hk hm (f + 2) 1 1 (dd + 1) (by omega)) (fun t c K h => sk_ (k := 4) (v := 3) (b := 21) (a := 0) (by decide) (by decide) (by omega) rfl rfl (vs_m (fun t' c' q => wo_21 q) h)) (fun t d K h => wp_4 (wp_1 hk h))
theorem ptv_ {k : Nat} (hkk : k < 7) {k0 : Nat} (hk0 : k0 < 7) {yk ym : Int32} {m : Nat → Int32} (hk : ∀ K, v_X7_its yk 0 m K = K (nI k0)) (hm : ∀ K, v_X7_its yk 1 m K = K ym) (f g : Nat) (x : Int32) (dd : Nat) (hd : dd ≤ 13) : VP (fun t c K => v_X5_speak (f + 9) (nI k) (nI 3) x (nI dd) t 0 yk (nI k0) ym c K) (fun t d K => v_X7_partsAs (g + 3) (nI k) x t yk 0 m d K) := by
  rcases k7_ hkk with rfl | rfl | rfl | rfl | rfl | rfl | rfl
  · exact ptv_0 hk0 hk hm (f + 2) (g + 2) x dd (by omega)
  · exact ptv_1 hk0 hk hm (f + 1) (g + 1) x dd (by omega)
  · exact ptv_2 hk0 hk hm (f + 1) (g + 1) x dd (by omega)
  · exact ptv_3 hk0 hk hm (f + 1) (g + 1) x dd (by omega)
  · exact ptv_4 hk0 hk hm (f + 0) (g + 0) x dd (by omega)
  · exact ptv_5 hk0 hk hm (f + 0) (g + 0) x dd (by omega)
  · exact ptv_6 hk0 hk hm (f + 1) (g + 1) x dd (by omega)
theorem p_voice {N T : Nat} {x y z par yk0 yi0 ym0 sp0 ip0 : Int32} {kd em ca near sh tr mt errs m me : Nat → Int32} {P : Int32 → Int32 → Int32 → Int32 → Int32 → Int32 → (Nat → Int32) → (Nat → Int32) → Int32 → Int32 → Int32 → Int32 → (Nat → Int32) → (Nat → Int32) → Prop} (hN : N ≤ 8) (h : RP N kd em ca near sh m) (hB : BP kd ca near) (hT : T ≤ 30) (hV : RV T tr mt) (hE : RE errs me)
    (hP : ∀ r T' a1 a2 a3 a4 tr' errs' b1 b2 me' mt', T' ≤ 30 → RV T' tr' mt' → RE errs' me' → P r (nI T') a1 a2 a3 a4 tr' errs' r (nI T') b1 b2 me' mt') :
    v_X6_voice x y z (nI N) kd em (nI T) par yk0 yi0 ym0 tr errs (fun r a0 a1 a2 a3 a4 tr' errs' => v_X7_voice x y z (nI T) sp0 ip0 m me mt (fun r' b0 b1 b2 me' mt' => P r a0 a1 a2 a3 a4 tr' errs' r' b0 b1 b2 me' mt')) := by
  have herr := fun a1 a2 a3 a4 b1 b2 => hP (-1000000001) T a1 a2 a3 a4 tr (upd errs 1 (errs 1 + 1)) b1 b2 (upd me 1 (me 1 + 1)) mt hT hV (RE_up hE 1)
  unfold v_X6_voice v_X7_voice
  rcases ou_or x (n := N) (by omega) with hx | ⟨p, hp, rfl⟩
  · simp only [ha_no hN hx, ip_no hN h.1 hx, j_X6_voice_19, j_X7_voice_17, er61, er71, b1_0, true_implies, false_implies, not_true_eq_false, not_false_eq_true, and_true, true_and, implies_true]; exact herr _ _ _ _ _ _
  rcases ou_or y (n := 4) (by decide) with hy | ⟨v, hv, rfl⟩
  · have i1 : ∀ K, v_X7_in y 0 3 K = K 0 := i_no 3 (by decide) hy
    have i2 : ∀ K, v_X6_isWithin y 3 K = K 0 := w_no 3 (by decide) hy
    simp only [ha_yes hN hp, ip_yes hN h.1 hp, i1, i2, j_X6_voice_19, j_X7_voice_17, er61, er71, b1_0, true_implies, false_implies, not_true_eq_false, not_false_eq_true, and_true, true_and, implies_true]; exact herr _ _ _ _ _ _
  have i1 : ∀ K, v_X7_in (nI v) 0 3 K = K 1 := i_yes 3 (by decide) hv
  have i2 : ∀ K, v_X6_isWithin (nI v) 3 K = K 1 := w_yes 3 (by decide) hv
  have hp8 : p < 8 := by omega
  obtain ⟨k0, hk0, ek⟩ := (hB p hp8).1
  have hk : ∀ K, v_X7_its (nI p) 0 m K = K (nI k0) := fun K => by rw [it_0 hp8, (h.2 p hp8).1, ek]
  have hm : ∀ K, v_X7_its (nI p) 1 m K = K (em p) := fun K => by rw [it_1 hp8, (h.2 p hp8).2.1]
  simp only [ha_yes hN hp, ip_yes hN h.1 hp, i1, i2, vi_8 hp8, cl_8 hp8, kn_e hk, v_X5_hear, ek, er66, b1_0, true_implies, false_implies, not_true_eq_false, not_false_eq_true, and_true, true_and, implies_true]
  have tr0 : TR 0 tr mt := ⟨by decide, hV⟩
  have one : ∀ t' c' d' r, TR t' c' d' → ∀ p', ((p' = 0 → j_X7_voice_95 (nI p) (nI v) z m (fun r' b0 b1 b2 me' mt' => P r (nI t') p' (nI p) (nI k0) (em p) c' errs r' b0 b1 b2 me' mt') r (nI t') (nI p) p' me d') ∧ (¬ p' = 0 → j_X7_voice_95 (nI p) (nI v) z m (fun r' b0 b1 b2 me' mt' => P (-1000000006) (nI t') p' (nI p) (nI k0) (em p) c' (upd errs 6 (errs 6 + 1)) r' b0 b1 b2 me' mt') r (nI t') (nI p) p' me d')) := by
    intro t' c' d' r hr p'
    refine ⟨fun w => ?_, fun w => ?_⟩
    · unfold j_X7_voice_95
      exact ⟨fun _ => hP _ _ _ _ _ _ _ _ _ _ _ _ hr.1 hr.2 hE, fun y => absurd w y⟩
    · unfold j_X7_voice_95
      refine ⟨fun y => absurd y w, fun _ => ?_⟩
      rw [er76]
      exact hP _ _ _ _ _ _ _ _ _ _ _ _ hr.1 hr.2 (RE_up hE 6)
  have hv4 : v = 0 ∨ v = 1 ∨ v = 2 ∨ v = 3 := by omega
  rcases hv4 with rfl | rfl | rfl | rfl
  · obtain ⟨r, t', c', d', g1, g2, g3⟩ := sgv_ hk0 (nI p) (nI k0) (em p) 9 1 z 0 (by decide) 0 tr mt tr0
    refine g2 0 _ ⟨fun _ => ?_, fun w => absurd rfl w⟩
    refine ⟨fun w => absurd (show nI 0 = 0 from rfl) w, fun _ => g3 _ ((one t' c' d' r g1 0).1 rfl)⟩
  · obtain ⟨r, t', c', d', g1, g2, g3⟩ := stv_ hk0 hk0 hk hm 6 1 z 0 (by decide) 0 tr mt tr0
    refine g2 0 _ ⟨fun _ => ?_, fun w => absurd rfl w⟩
    refine ⟨fun _ => ⟨fun w => absurd (show nI 1 = 1 from rfl) w, fun _ => g3 _ ((one t' c' d' r g1 0).1 rfl)⟩, fun w => absurd w (by decide)⟩
  · obtain ⟨r, t', c', d', g1, g2, g3⟩ := clv_ hk0 hk0 hk hm 3 1 z 0 (by decide) 0 tr mt tr0
    refine g2 0 _ ⟨fun _ => ?_, fun w => absurd rfl w⟩
    refine ⟨fun _ => ⟨fun _ => ⟨fun w => absurd (show nI 2 = 2 from rfl) w, fun _ => g3 _ ((one t' c' d' r g1 0).1 rfl)⟩, fun w => absurd w (by decide)⟩, fun w => absurd w (by decide)⟩
  · obtain ⟨r, p', t', c', d', g1, g2, g3⟩ := ptv_ hk0 hk0 hk hm 3 1 z 0 (by decide) 0 tr mt tr0
    refine g2 _ ⟨fun w => ?_, fun w => ?_⟩
    · exact ⟨fun _ => ⟨fun _ => ⟨fun _ => g3 _ ((one t' c' d' r g1 p').1 w), fun w => absurd w (by decide)⟩, fun w => absurd w (by decide)⟩, fun w => absurd w (by decide)⟩
    · exact ⟨fun _ => ⟨fun _ => ⟨fun _ => g3 _ ((one t' c' d' r g1 p').2 w), fun w => absurd w (by decide)⟩, fun w => absurd w (by decide)⟩, fun w => absurd w (by decide)⟩
