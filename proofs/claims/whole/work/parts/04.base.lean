/-! the worlds of the class and of its twin: contracts by continuation -/
def GB_cl : List vw_C := [(RX0, TX0, 4), (RX1, TX1, 6), (RX2, TX2, 3), (RX3, TX3, 3), (RX4, TX4, 12), (RX5, TX5, 6), (RX6, TX6, 9), (RX7, TX7, 22)]
abbrev Gt : Type := va_G × ClassId × ClassId × ClassId × (Nat → Nat) × (Nat → Nat)
def tyG (G : Gt) : List (ClassId × FieldType) := [(G.2.1, .int), (G.2.2.1, .byte), (G.2.2.2.1, .object RX2)]
def nsL : List Cond := [
  Cond.fieldLinkNest "GoingAbout" 88 "GoingAbout$Standing" "near" "[I" "GoingAbout",
  Cond.fieldLinkNest "GoingAbout$Suburb" 79 "GoingAbout$Standing" "near" "[I" "GoingAbout",
  Cond.fieldLinkNest "GoingAbout" 91 "GoingAbout$Standing" "shows" "[I" "GoingAbout",
  Cond.fieldLinkNest "GoingAbout$Suburb" 82 "GoingAbout$Standing" "shows" "[I" "GoingAbout",
  Cond.fieldLinkNest "GoingAbout" 104 "GoingAbout$Standing" "day" "I" "GoingAbout",
  Cond.fieldLinkNest "GoingAbout$Suburb" 107 "GoingAbout$Standing" "day" "I" "GoingAbout",
  Cond.fieldLinkNest "GoingAbout$Suburb" 64 "GoingAbout$Law" "steps" "[I" "GoingAbout",
  Cond.fieldLinkNest "GoingAbout$Suburb" 67 "GoingAbout$Law" "size" "I" "GoingAbout",
  Cond.fieldLinkNest "GoingAbout" 137 "GoingAbout$Law" "size" "I" "GoingAbout",
  Cond.fieldLinkNest "GoingAbout" 68 "GoingAbout$Suburb" "people" "I" "GoingAbout",
  Cond.fieldLinkNest "GoingAbout" 79 "GoingAbout$Suburb" "kind" "[I" "GoingAbout",
  Cond.fieldLinkNest "GoingAbout" 82 "GoingAbout$Suburb" "m" "[I" "GoingAbout",
  Cond.fieldLinkNest "GoingAbout" 94 "GoingAbout$Suburb" "called" "[I" "GoingAbout",
  Cond.fieldLinkNest "GoingAbout" 85 "GoingAbout$Suburb" "standing" "LGoingAbout$Standing;" "GoingAbout",
  Cond.fieldLinkNest "GoingAbout" 125 "GoingAbout$Suburb" "tape" "[B" "GoingAbout",
  Cond.fieldLinkNest "GoingAbout" 115 "GoingAbout$Suburb" "taped" "I" "GoingAbout",
  Cond.fieldLinkNest "GoingAbout" 253 "GoingAbout$Suburb" "waits" "[I" "GoingAbout",
  Cond.fieldLinkNest "GoingAbout" 250 "GoingAbout$Suburb" "waiting" "I" "GoingAbout",
  Cond.fieldLinkNest "GoingAbout" 156 "GoingAbout$Suburb" "z" "I" "GoingAbout",
  Cond.fieldLinkNest "GoingAbout" 214 "GoingAbout$Voices" "trace" "[I" "GoingAbout",
  Cond.fieldLinkNest "GoingAbout" 211 "GoingAbout$Voices" "traced" "I" "GoingAbout",
  Cond.fieldLinkNest "GoingAbout" 207 "GoingAbout$Voices" "parted" "Z" "GoingAbout",
  Cond.fieldLinkNest "GoingAbout" 224 "GoingAbout$Sheet" "bits" "I" "GoingAbout",
  Cond.fieldLinkNest "GoingAbout" 220 "GoingAbout$Sheet" "size" "I" "GoingAbout",
  Cond.fieldLinkNest "GoingAbout" 230 "GoingAbout$Sheet" "numbers" "[I" "GoingAbout",
  Cond.fieldLinkNest "GoingAbout$Voices" 43 "GoingAbout" "ABOVE" "[I" "GoingAbout",
  Cond.methodLinkNest "GoingAbout$Suburb" 30 ⟨"GoingAbout$Law", "<init>", "(I)V"⟩ "GoingAbout",
  Cond.methodLinkNest "GoingAbout" 72 ⟨"GoingAbout$Suburb", "join", "(III)I"⟩ "GoingAbout",
  Cond.methodLinkNest "GoingAbout" 76 ⟨"GoingAbout$Suburb", "has", "(I)Z"⟩ "GoingAbout",
  Cond.methodLinkNest "GoingAbout" 107 ⟨"GoingAbout$Suburb", "takenBy", "(IIII)I"⟩ "GoingAbout",
  Cond.methodLinkNest "GoingAbout$Suburb" 103 ⟨"GoingAbout$Law", "gives", "(III)I"⟩ "GoingAbout",
  Cond.methodLinkNest "GoingAbout" 111 ⟨"GoingAbout$Suburb", "meet", "(II)I"⟩ "GoingAbout",
  Cond.methodLinkNest "GoingAbout" 118 ⟨"GoingAbout$Suburb", "record", "(JI)I"⟩ "GoingAbout",
  Cond.methodLinkNest "GoingAbout" 129 ⟨"GoingAbout$Suburb", "lawOf", "(I)LGoingAbout$Law;"⟩ "GoingAbout",
  Cond.methodLinkNest "GoingAbout" 133 ⟨"GoingAbout$Reading", "read", "([BIILGoingAbout$Law;)I"⟩ "GoingAbout",
  Cond.methodLinkNest "GoingAbout$Reading" 56 ⟨"GoingAbout$Law", "copy", "([II)V"⟩ "GoingAbout",
  Cond.methodLinkNest "GoingAbout" 142 ⟨"GoingAbout$Law", "gives", "(III)I"⟩ "GoingAbout",
  Cond.methodLinkNest "GoingAbout" 145 ⟨"GoingAbout$Suburb", "pass", "(LGoingAbout$Standing;)Z"⟩ "GoingAbout",
  Cond.methodLinkNest "GoingAbout" 149 ⟨"GoingAbout$Suburb", "drawMoves", "()V"⟩ "GoingAbout",
  Cond.methodLinkNest "GoingAbout" 152 ⟨"GoingAbout$Suburb", "nearestIn", "(LGoingAbout$Standing;)I"⟩ "GoingAbout",
  Cond.methodLinkNest "GoingAbout" 260 ⟨"GoingAbout$Standing", "copy", "(LGoingAbout$Standing;)V"⟩ "GoingAbout",
  Cond.methodLinkNest "GoingAbout" 163 ⟨"GoingAbout$Suburb", "countNearer", "(I)I"⟩ "GoingAbout",
  Cond.methodLinkNest "GoingAbout" 178 ⟨"GoingAbout$Suburb", "comeToFrom", "(I)I"⟩ "GoingAbout",
  Cond.methodLinkNest "GoingAbout" 181 ⟨"GoingAbout$Suburb", "countTakenNearer", "(I)I"⟩ "GoingAbout",
  Cond.methodLinkNest "GoingAbout" 190 ⟨"GoingAbout$Sheet", "isMissing", "()Z"⟩ "GoingAbout",
  Cond.methodLinkNest "GoingAbout" 203 ⟨"GoingAbout$Voices", "hear", "(IIIII)I"⟩ "GoingAbout",
  Cond.methodLinkNest "GoingAbout$Voices" 36 ⟨"GoingAbout", "isWithin", "(II)Z"⟩ "GoingAbout",
  Cond.methodLinkNest "GoingAbout" 217 ⟨"GoingAbout$Sheet", "lay", "(II)V"⟩ "GoingAbout",
  Cond.methodLinkNest "GoingAbout" 221 ⟨"GoingAbout$Sheet", "write", "(II)V"⟩ "GoingAbout",
  Cond.methodLinkNest "GoingAbout" 227 ⟨"GoingAbout$Sheet", "holds", "(II)Z"⟩ "GoingAbout",
  Cond.methodLinkNest "GoingAbout" 239 ⟨"GoingAbout$Suburb", "signOf", "(ILGoingAbout$Standing;)I"⟩ "GoingAbout",
  Cond.methodLinkNest "GoingAbout" 243 ⟨"GoingAbout$Suburb", "copy", "(LGoingAbout$Suburb;)V"⟩ "GoingAbout",
  Cond.methodLinkNest "GoingAbout$Suburb" 60 ⟨"GoingAbout$Standing", "copy", "(LGoingAbout$Standing;)V"⟩ "GoingAbout",
  Cond.methodLinkNest "GoingAbout$Suburb" 70 ⟨"GoingAbout$Law", "copy", "([II)V"⟩ "GoingAbout"]
def isNest : Cond → Bool
  | .fieldLinkNest _ _ _ _ _ _ => true
  | .methodLinkNest _ _ _ _ => true
  | _ => false
theorem nsL_nest : ∀ w ∈ nsL, isNest w = true := by decide +kernel
theorem nsL_eq : nsL = ([38, 39, 41, 42, 44, 45, 62, 64, 65, 77, 79, 81, 83, 85, 89, 91, 93, 95, 97, 159, 161, 163, 188, 190, 192, 620, 56, 249, 257, 286, 293, 313, 322, 333, 337, 455, 468, 473, 493, 503, 519, 536, 570, 578, 592, 609, 617, 641, 651, 659, 672, 677, 682, 683] : List Nat).filterMap (fun i => tables_1[i]?) := by decide +kernel
theorem nsL_tbl : ∀ w ∈ nsL, w ∈ tables_1 := by
  intro w hw
  rw [nsL_eq] at hw
  obtain ⟨i, -, hi⟩ := List.mem_filterMap.mp hw
  exact List.mem_of_getElem? hi
theorem nest_warm {s U : State} (hW : s.WarmedH U.vm) {w : Cond} (hn : isNest w = true) (h : va_Nw w s) : va_Nw w U := by
  cases w <;> first | exact va_Nw.warmF hW h | exact va_Nw.warmM hW h | (exact absurd hn (by simp [isNest]))
theorem nest_same {u U : State} (hv : u.vm = U.vm) {w : Cond} (hn : isNest w = true) (h : va_Nw w u) : va_Nw w U := by
  cases w <;> first | exact va_Nw.same rfl hv h | (exact absurd hn (by simp [isNest]))
def f_above : Nat → Int32 := fun k => ([-1, 0, 0, 0, 1, 2, 0] : List Int32).getD k 0
def f_bodies : Nat → Int32 := fun k => ([10, 11, 12, 13, 20, 0, 0, 21, 0, 30, 0, 0, 0, 0, 40, 0, 50, 0, 51, 0, 0, 60, 0, 0, 70, 71, 0, 0] : List Int32).getD k 0
def f_str (k : Nat) : Nat → Int32 := fun j => (([[114, 110, 115], [103, 110, 100]] : List (List Int32)).getD k []).getD j 0
def XF (G : Gt) (A : Nat → Prop) (U : State) (H : Heap) : Prop :=
  (∀ w ∈ nsL, va_Nw w U) ∧
  ((∃ t, va_Z RX6 "ABOVE" "[I" (.ref t) A U H ∧ va_T .int t 7 (fun k => .int (f_above k)) A U H) ∧
   (∃ t, va_Z RX5 "BODIES" "[I" (.ref t) A U H ∧ va_T .int t 28 (fun k => .int (f_bodies k)) A U H) ∧
   vk_S 2 [3, 3] [[114, 110, 115], [103, 110, 100]] G.2.2.2.2.1 G.2.2.2.2.2 A U H ∧ va_Z "java/lang/String" "COMPACT_STRINGS" "Z" (.int 1) A U H) ∧
  vk_R RX1 15 "rns" (G.2.2.2.2.1 0) U ∧ vk_R RX1 44 "gnd" (G.2.2.2.2.1 1) U ∧ va_AO RX2 U
theorem XF.kept {G : Gt} {A : Nat → Prop} {U : State} {H H1 : Heap} (h : XF G A U H) (hq : ∀ a : Nat, a < H.size → ¬ A a → H1[a]? = H[a]?) : XF G A U H1 := by
  obtain ⟨h1, ⟨⟨t, h2, h3⟩, ⟨t2, h4, h5⟩, h6, h7⟩, h8, h9, h10⟩ := h
  exact ⟨h1, ⟨⟨t, h2.kept hq, h3.kept hq⟩, ⟨t2, h4.kept hq, h5.kept hq⟩, h6.kept hq, h7.kept hq⟩, h8, h9, h10⟩
theorem XF.narrow {G : Gt} {A B : Nat → Prop} {U : State} {H : Heap} (h : XF G A U H) (hAB : ∀ q, B q → A q) : XF G B U H := by
  obtain ⟨h1, ⟨⟨t, h2, h3⟩, ⟨t2, h4, h5⟩, h6, h7⟩, h8, h9, h10⟩ := h
  exact ⟨h1, ⟨⟨t, h2.narrow hAB, h3.narrow hAB⟩, ⟨t2, h4.narrow hAB, h5.narrow hAB⟩, h6.narrow hAB, h7.narrow hAB⟩, h8, h9, h10⟩
theorem XF.warm {G : Gt} {A : Nat → Prop} {s U : State} {H : Heap} (hW : s.WarmedH U.vm) (h : XF G A s H) : XF G A U H := by
  obtain ⟨h1, ⟨⟨t, h2, h3⟩, ⟨t2, h4, h5⟩, h6, h7⟩, h8, h9, h10⟩ := h
  exact ⟨fun w hw => nest_warm hW (nsL_nest w hw) (h1 w hw), ⟨⟨t, h2.moved hW.alike, h3.moved hW.alike⟩, ⟨t2, h4.moved hW.alike, h5.moved hW.alike⟩, h6.moved hW.alike, h7.moved hW.alike⟩, h8.warm hW, h9.warm hW, h10.moved hW.alike⟩
theorem XF.same {G : Gt} {A : Nat → Prop} {u U : State} {H : Heap} (hv : u.vm = U.vm) (h : XF G A u H) : XF G A U H := by
  obtain ⟨h1, ⟨⟨t, h2, h3⟩, ⟨t2, h4, h5⟩, h6, h7⟩, h8, h9, h10⟩ := h
  have ha : u.vm.Alike U.vm := hv ▸ Vm.Alike.refl u.vm
  exact ⟨fun w hw => nest_same hv (nsL_nest w hw) (h1 w hw), ⟨⟨t, h2.moved ha, h3.moved ha⟩, ⟨t2, h4.moved ha, h5.moved ha⟩, h6.moved ha, h7.moved ha⟩, h8.same hv.symm, h9.same hv.symm, h10.moved ha⟩
/-- a world: it is held, and its addresses are apart -/
def wo (G : Gt) (A : Nat → Prop) (ws : va_W) (H : Heap) : Prop := va_P G.1 GB_cl ws H ∧ va_D A ws
/-- a contract's start -/
def Pt0 (G : Gt) (As : List Value) (w : va_W) (sz : Nat) : Array Value → State → Prop :=
  va_Pc As (fun U => U.heap.size = sz ∧ XF G (va_A w sz) U U.heap ∧ va_P G.1 GB_cl w U.heap ∧ va_K G.1 GB_cl (tyG G) U ∧ va_D (fun _ => True) w)
/-- a contract: from world w, with arguments As, an int and a world w' u, with post -/
def CI (l : Launch) (G : Gt) (y : MethodName) (ws : List Cond) (rm : Room) (As : List Value) (w : va_W) {S : Type} (w' : S → va_W) (post : Int32 → S → Prop) : Prop :=
  (∀ u, (w' u).map Prod.fst = w.map Prod.fst) ∧ ∀ sz : Nat, Met l y ws rm (Pt0 G As w sz) (va_Qi post (fun u t => va_P G.1 GB_cl (w' u) t.heap) (va_A w sz)) 0 0 (va_A w sz)
def CV (l : Launch) (G : Gt) (y : MethodName) (ws : List Cond) (rm : Room) (As : List Value) (w : va_W) {S : Type} (w' : S → va_W) (post : S → Prop) : Prop :=
  (∀ u, (w' u).map Prod.fst = w.map Prod.fst) ∧ ∀ sz : Nat, Met l y ws rm (Pt0 G As w sz) (va_Qv post (fun u t => va_P G.1 GB_cl (w' u) t.heap) (va_A w sz)) 0 0 (va_A w sz)
theorem Pt0.blind {G : Gt} {As : List Value} {w : va_W} {sz : Nat} : FrameBlind (Pt0 G As w sz) := by
  intro a U g mk q
  obtain ⟨q0, q1, q2, q3, q4, q5⟩ := q
  exact ⟨q0, q1, XF.same (u := U) rfl q2, q3, va_K.moved (u := U) (U := U.calling g mk a) (Vm.Alike.refl U.vm) q4, q5⟩
/-- what holds all through a method's walk -/
def Cx (p : Program) (s : State) (m : MethodId) (args : Array Value) (meth : Method) (c : Code) (own : String) (cc : ByteArray) (nL : Nat) (c0 : Cond) (G : Gt) (A : Nat → Prop) (rt : Option FieldType) : Prop :=
  (p.tables.exec = Jvm.exec ∧ c.code = cc ∧ c.maxLocals = nL ∧ s.vm.findClass own = some m.cls ∧ ∀ w ∈ c0 :: wsG, w.before args s = true) ∧ va_K G.1 GB_cl (tyG G) s ∧ XF G A s s.heap ∧ meth.sig.returnType = rt ∧ meth.locks = false ∧ ∀ q, s.heap.size ≤ q → A q
theorem va_D.mv {A : Nat → Prop} {w w' : va_W} (h : va_D A w) (e : w'.map Prod.fst = w.map Prod.fst) : va_D A w' := by
  have key : ∀ (k : Nat) (q : Nat × va_E), w'[k]? = some q → ∃ q0, w[k]? = some q0 ∧ q0.1 = q.1 := by
    intro k q hk
    have h1 : (w'.map Prod.fst)[k]? = some q.1 := by rw [List.getElem?_map, hk]; rfl
    rw [e, List.getElem?_map] at h1
    cases h2 : w[k]? with
    | none => rw [h2] at h1; cases h1
    | some q0 => rw [h2] at h1; exact ⟨q0, rfl, Option.some.inj h1⟩
  refine ⟨fun i j x y hi hj hxy => ?_, fun k q hk => ?_⟩
  · obtain ⟨x0, h1, h2⟩ := key i x hi
    obtain ⟨y0, h3, h4⟩ := key j y hj
    exact h.1 i j x0 y0 h1 h3 (h2.trans (hxy.trans h4.symm))
  · obtain ⟨q0, h1, h2⟩ := key k q hk
    rw [← h2]
    exact h.2 k q0 h1
/-- callee's cells put back at their places -/
def pick : Nat → List Nat → va_W → Option (Nat × va_E)
  | k, i :: is, e :: es => bif Nat.beq k i then some e else pick k is es
  | _, _, _ => none
def mixG : Nat → va_W → List Nat → va_W → va_W
  | k, e :: ws, is, es => (pick k is es).getD e :: mixG (k + 1) ws is es
  | _, [], _, _ => []
def mix (ws : va_W) (is : List Nat) (w1 : va_W) : va_W := mixG 0 ws is w1
theorem pick_some : ∀ (is : List Nat) (w1 : va_W) (k : Nat) (q : Nat × va_E), pick k is w1 = some q → ∃ j : Nat, is[j]? = some k ∧ w1[j]? = some q
  | [], _, _, _, h => by simp [pick] at h
  | _ :: _, [], _, _, h => by simp [pick] at h
  | i :: is, e :: es, k, q, h => by
    unfold pick at h
    cases hb : Nat.beq k i with
    | true =>
      rw [hb] at h
      have e1 : e = q := Option.some.inj h
      have e2 : k = i := Nat.eq_of_beq_eq_true hb
      exact ⟨0, by rw [e2]; rfl, by rw [e1]; rfl⟩
    | false =>
      rw [hb] at h
      obtain ⟨j, h1, h2⟩ := pick_some is es k q h
      exact ⟨j + 1, h1, h2⟩
theorem pick_none : ∀ (is : List Nat) (w1 : va_W) (k : Nat), is.length = w1.length → pick k is w1 = none → k ∉ is
  | [], _, _, _, _ => List.not_mem_nil
  | _ :: _, [], _, hl, _ => by cases hl
  | i :: is, e :: es, k, hl, h => by
    unfold pick at h
    cases hb : Nat.beq k i with
    | true => rw [hb] at h; cases h
    | false =>
      rw [hb] at h
      intro hz
      rcases List.mem_cons.mp hz with rfl | hz
      · rw [show Nat.beq k k = true from Nat.beq_refl k] at hb; cases hb
      · exact pick_none is es k (Nat.succ.inj hl) h hz
theorem mixG_get : ∀ (ws : va_W) (b : Nat) (is : List Nat) (w1 : va_W) (k : Nat), (mixG b ws is w1)[k]? = (ws[k]?).map (fun e => (pick (b + k) is w1).getD e)
  | [], _, _, _, k => by cases k <;> rfl
  | e :: ws, b, is, w1, 0 => rfl
  | e :: ws, b, is, w1, k + 1 => by
    show (mixG (b + 1) ws is w1)[k]? = _
    rw [mixG_get ws (b + 1) is w1 k, show b + 1 + k = b + (k + 1) from by omega]
    rfl
theorem mix_fst (is : List Nat) (ws w1 : va_W) (h : ∀ (j i : Nat) (e : Nat × va_E), is[j]? = some i → w1[j]? = some e → (ws.map Prod.fst)[i]? = some e.1) : (mix ws is w1).map Prod.fst = ws.map Prod.fst := by
  apply List.ext_getElem?
  intro k
  rw [List.getElem?_map, List.getElem?_map]
  show Option.map Prod.fst ((mixG 0 ws is w1)[k]?) = _
  rw [mixG_get]
  cases hw : ws[k]? with
  | none => rfl
  | some e =>
    show some ((pick (0 + k) is w1).getD e).1 = some e.1
    rw [Nat.zero_add]
    cases hp : pick k is w1 with
    | none => rfl
    | some q =>
      obtain ⟨j, h1, h2⟩ := pick_some is w1 k q hp
      have h3 := h j k q h1 h2
      rw [List.getElem?_map, hw] at h3
      exact congrArg some (Option.some.inj h3).symm
theorem mix_get (is : List Nat) (ws w1 : va_W) (hl : is.length = w1.length) (k : Nat) (q : Nat × va_E) (h : (mix ws is w1)[k]? = some q) : (k ∉ is ∧ ws[k]? = some q) ∨ q ∈ w1 := by
  have h0 : (mixG 0 ws is w1)[k]? = some q := h
  rw [mixG_get] at h0
  cases hw : ws[k]? with
  | none => rw [hw] at h0; cases h0
  | some e =>
    rw [hw] at h0
    have h1 : (pick (0 + k) is w1).getD e = q := Option.some.inj h0
    rw [Nat.zero_add] at h1
    cases hp : pick k is w1 with
    | none =>
      rw [hp] at h1
      exact Or.inl ⟨pick_none is w1 k hl hp, congrArg some h1⟩
    | some q0 =>
      rw [hp] at h1
      obtain ⟨j, -, h2⟩ := pick_some is w1 k q0 hp
      have : q0 = q := h1
      exact Or.inr (this ▸ List.mem_of_getElem? h2)
theorem cut_at {is : List Nat} {ws w : va_W} (hs : is.map (fun i => ws[i]?) = w.map some) {k : Nat} {q : Nat × va_E} (hq : w[k]? = some q) : ∃ i, is[k]? = some i ∧ ws[i]? = some q := by
  have h1 : (is.map (fun i => ws[i]?))[k]? = some (some q) := by rw [hs, List.getElem?_map, hq]; rfl
  rw [List.getElem?_map] at h1
  cases hi : is[k]? with
  | none => rw [hi] at h1; cases h1
  | some i => rw [hi] at h1; exact ⟨i, rfl, Option.some.inj h1⟩
/-- behind a call: the caller's world with the callee's cells put back -/
theorem wo_mix {G : Gt} {A : Nat → Prop} {ws wc w1 : va_W} {H H1 : Heap} (hW : wo G A ws H) (isC : List Nat) (hC : isC.map (fun i => ws[i]?) = wc.map some)
    (hk : ∀ q : Nat, q < H.size → ¬ va_A wc H.size q → H1[q]? = H[q]?) (hf : w1.map Prod.fst = wc.map Prod.fst) (hP1 : va_P G.1 GB_cl w1 H1) : wo G A (mix ws isC w1) H1 := by
  obtain ⟨hP, hD⟩ := hW
  have hlen : isC.length = w1.length := by
    have h1 := congrArg List.length hC
    have h2 := congrArg List.length hf
    simp only [List.length_map] at h1 h2
    omega
  have hfst : (mix ws isC w1).map Prod.fst = ws.map Prod.fst := by
    refine mix_fst isC ws w1 (fun j i e hj he => ?_)
    have h1 : (w1.map Prod.fst)[j]? = some e.1 := by rw [List.getElem?_map, he]; rfl
    rw [hf, List.getElem?_map] at h1
    cases h2 : wc[j]? with
    | none => rw [h2] at h1; cases h1
    | some q0 =>
      rw [h2] at h1
      obtain ⟨i', h3, h4⟩ := cut_at hC h2
      rw [hj] at h3
      cases h3
      rw [List.getElem?_map, h4]
      exact h1
  refine ⟨fun k q hq => ?_, hD.mv hfst⟩
  rcases mix_get isC ws w1 hlen k q hq with ⟨h1, h2⟩ | h1
  · refine (hP k q h2).kept (hk q.1 (hP k q h2).lt (fun z => ?_))
    rcases z with ⟨j, e, hj⟩ | z
    · obtain ⟨i, h3, h4⟩ := cut_at hC hj
      have := hD.1 k i q (q.1, e) h2 h4 rfl
      subst this
      exact h1 (List.mem_of_getElem? h3)
    · exact absurd (hP k q h2).lt (Nat.not_lt.mpr z)
  · obtain ⟨j, hj⟩ := List.getElem?_of_mem h1
    exact hP1 j q hj
theorem wo.P {G : Gt} {A : Nat → Prop} {ws : va_W} {H : Heap} (h : wo G A ws H) : va_P G.1 GB_cl ws H := h.1
/-- what a class needs of the tables -/
def KC (ci : Nat) (R : String) (T : u_T) (N : Nat) (ty : Nat → FieldType) : Prop := (∀ w ∈ u_ws R T N, w ∈ wsG) ∧ GB_cl[ci]? = some (R, T, N) ∧ (∀ k, k < N → parseFieldDescriptor (T k).2.2.1 = some (ty k)) ∧ (∀ a, a < N → ∀ b, b < N → a ≠ b → (T a).2.1 ≠ (T b).2.1)
theorem kc0 : KC 0 RX0 TX0 4 tyX0 := ⟨inlX0, rfl, tyX0_ok, nmX0⟩
theorem kc1 : KC 1 RX1 TX1 6 tyX1 := ⟨inlX1, rfl, tyX1_ok, nmX1⟩
theorem kc2 : KC 2 RX2 TX2 3 tyX2 := ⟨inlX2, rfl, tyX2_ok, nmX2⟩
theorem kc3 : KC 3 RX3 TX3 3 tyX3 := ⟨inlX3, rfl, tyX3_ok, nmX3⟩
theorem kc4 : KC 4 RX4 TX4 12 tyX4 := ⟨inlX4, rfl, tyX4_ok, nmX4⟩
theorem kc5 : KC 5 RX5 TX5 6 tyX5 := ⟨inlX5, rfl, tyX5_ok, nmX5⟩
theorem kc6 : KC 6 RX6 TX6 9 tyX6 := ⟨inlX6, rfl, tyX6_ok, nmX6⟩
theorem kc7 : KC 7 RX7 TX7 22 tyX7 := ⟨inlX7, rfl, tyX7_ok, nmX7⟩
abbrev rmm (f o : Nat) : Room := { frames := f, cells := 0, slots := 0, locals := o }
def KB (y : MethodName) (by1 : ByteArray) (nA : Nat) (r1 : Option FieldType) (n : Nat) : Prop := Cond.instanceMethod y ∈ wsG ∧ Cond.selects y.cls y y ∈ wsG ∧ Cond.initialized y.cls ∈ wsG ∧ Cond.code y by1 nA r1 ∈ wsG ∧ (y.cls ≠ "java/lang/invoke/MethodHandle" ∧ y.cls ≠ "java/lang/invoke/VarHandle" ∧ (parseMethodDescriptor y.desc).map (fun d => d.parameters.length) = some n)
def KS (y : MethodName) (by1 : ByteArray) (nA : Nat) (r1 : Option FieldType) (n : Nat) : Prop := Cond.static y ∈ wsG ∧ Cond.initialized y.cls ∈ wsG ∧ Cond.code y by1 nA r1 ∈ wsG ∧ (y.cls ≠ "java/lang/invoke/MethodHandle" ∧ y.cls ≠ "java/lang/invoke/VarHandle" ∧ (parseMethodDescriptor y.desc).map (fun d => d.parameters.length) = some n)
theorem bl_narrow {v : Int32} (h : v = 0 ∨ v = 1) : narrow .boolean (.int v) = .int v := by rcases h with rfl | rfl <;> decide
theorem bl_fits {v : Int32} (h : v = 0 ∨ v = 1) : fits .boolean (.int v) = true := by rcases h with rfl | rfl <;> decide
theorem bl_or {x y : Int32} (h : x = 0 ∨ x = 1) (h2 : y = 0 ∨ y = 1) : x ||| y = 0 ∨ x ||| y = 1 := by rcases h with rfl | rfl <;> rcases h2 with rfl | rfl <;> decide
section Q1
variable {p : Program} {l : Launch} {e : Env} {R : Room} {s : State} {m : MethodId} {args : Array Value} {below : List Frame} {meth : Method} {c : Code} {H : Heap} {locs : List Loc} {cells slots : Nat} {Q : State → Prop}
variable {own : String} {cc : ByteArray} {nL : Nat} {c0 : Cond} {G : Gt} {A : Nat → Prop} {rt : Option FieldType} {pc : Nat} {ls : Array Slot} {rest : List Value} {ws : va_W} {a : Nat}
theorem Cx.hx (C : Cx p s m args meth c own cc nL c0 G A rt) : p.tables.exec = Jvm.exec := C.1.1
theorem Cx.hb (C : Cx p s m args meth c own cc nL c0 G A rt) : c.code = cc := C.1.2.1
theorem Cx.hts (C : Cx p s m args meth c own cc nL c0 G A rt) {w : Cond} (h : w ∈ wsG) : w.before args s = true := C.1.2.2.2.2 w (List.mem_cons_of_mem _ h)
theorem q_get (C : Cx p s m args meth c own cc nL c0 G A rt) {ci N : Nat} {Rn : String} {T : u_T} {ty : Nat → FieldType} (hc : KC ci Rn T N ty) (hW : wo G A ws H) (q0 : Nat) {fs : List Value} (he : ws[q0]? = some (a, .inr (ci, fs))) (k : Nat) (hk : k < N) {ref : String} {index : Nat}
    (hl : Cond.fieldLink own index ref (T k).2.1 (T k).2.2.1 ∈ wsG) (hr : (T k).1 = ref) {v : Value} (hv : fs[k]? = some v) (hdg : decode cc pc = .ok (.getfield index, 3))
    (kk : W p l e R s m args below meth c H locs cells slots Q (F0 m (pc + 3) ls (v :: rest))) : W p l e R s m args below meth c H locs cells slots Q (F0 m pc ls (.ref a :: rest)) :=
  va_get (D := G.1) (cl := GB_cl) (ci := ci) (C := Rn) (T := T) (N := N) C.1.1 C.1.2.1 C.1.2.2.2.2 (fun w h => List.mem_cons_of_mem _ (hc.1 w h)) C.1.2.2.2.1 C.2.1 hW.1 q0 he hc.2.1 k hk (C.hts hl) (fun _ h => hr ▸ h) hv hdg kk
theorem q_getN (C : Cx p s m args meth c own cc nL c0 G A rt) {ci N : Nat} {Rn : String} {T : u_T} {ty : Nat → FieldType} (hc : KC ci Rn T N ty) (hW : wo G A ws H) (q0 : Nat) {fs : List Value} (he : ws[q0]? = some (a, .inr (ci, fs))) (k : Nat) (hk : k < N) {ref host : String} {index : Nat}
    (hl : Cond.fieldLinkNest own index ref (T k).2.1 (T k).2.2.1 host ∈ nsL) (hr : (T k).1 = ref) {v : Value} (hv : fs[k]? = some v) (hdg : decode cc pc = .ok (.getfield index, 3))
    (kk : W p l e R s m args below meth c H locs cells slots Q (F0 m (pc + 3) ls (v :: rest))) : W p l e R s m args below meth c H locs cells slots Q (F0 m pc ls (.ref a :: rest)) :=
  va_getN (D := G.1) (cl := GB_cl) (ci := ci) (C := Rn) (T := T) (N := N) C.1.1 C.1.2.1 C.1.2.2.2.2 (fun w h => List.mem_cons_of_mem _ (hc.1 w h)) C.1.2.2.2.1 C.2.1 hW.1 q0 he hc.2.1 k hk (va_Nw.use rfl (C.2.2.1.1 _ hl)) (fun _ h => hr ▸ h) hv hdg kk
theorem q_put (C : Cx p s m args meth c own cc nL c0 G A rt) {ci N : Nat} {Rn : String} {T : u_T} {ty : Nat → FieldType} (hc : KC ci Rn T N ty) (hW : wo G A ws H) (hS : va_S A s.heap H locs) (q0 : Nat) {fs : List Value} (he : ws[q0]? = some (a, .inr (ci, fs))) (k : Nat) (hk : k < N) {ref : String} {index : Nat}
    (hl : Cond.fieldLink own index ref (T k).2.1 (T k).2.2.1 ∈ wsG) (hr : (T k).1 = ref) (hfin : (T k).2.2.2 = false) {v : Value} (hn : narrow (ty k) v = v) (hfit : fits (ty k) v = true) (hlen : k < fs.length) (hdg : decode cc pc = .ok (.putfield index, 3))
    (kk : ∀ (H1 : Heap) (locs1 : List Loc), wo G A (ws.set q0 (a, .inr (ci, fs.set k v))) H1 → va_S A s.heap H1 locs1 → W p l e R s m args below meth c H1 locs1 cells slots Q (F0 m (pc + 3) ls rest)) : W p l e R s m args below meth c H locs cells slots Q (F0 m pc ls (v :: .ref a :: rest)) :=
  va_put (D := G.1) (cl := GB_cl) (ci := ci) (C := Rn) (T := T) (N := N) C.1.1 C.1.2.1 C.1.2.2.2.2 (fun w h => List.mem_cons_of_mem _ (hc.1 w h)) ty hc.2.2.1 hc.2.2.2 C.1.2.2.2.1 C.2.1 hW.1 hW.2 hS q0 he hc.2.1 k hk (C.hts hl) (fun _ h => hr ▸ h) hfin (hc.2.2.1 k hk) hn hfit hlen hdg (fun H1 l1 h1 h2 h3 => kk H1 l1 ⟨h1, h2⟩ h3)
theorem q_putN (C : Cx p s m args meth c own cc nL c0 G A rt) {ci N : Nat} {Rn : String} {T : u_T} {ty : Nat → FieldType} (hc : KC ci Rn T N ty) (hW : wo G A ws H) (hS : va_S A s.heap H locs) (q0 : Nat) {fs : List Value} (he : ws[q0]? = some (a, .inr (ci, fs))) (k : Nat) (hk : k < N) {ref host : String} {index : Nat}
    (hl : Cond.fieldLinkNest own index ref (T k).2.1 (T k).2.2.1 host ∈ nsL) (hr : (T k).1 = ref) (hfin : (T k).2.2.2 = false) {v : Value} (hn : narrow (ty k) v = v) (hfit : fits (ty k) v = true) (hlen : k < fs.length) (hdg : decode cc pc = .ok (.putfield index, 3))
    (kk : ∀ (H1 : Heap) (locs1 : List Loc), wo G A (ws.set q0 (a, .inr (ci, fs.set k v))) H1 → va_S A s.heap H1 locs1 → W p l e R s m args below meth c H1 locs1 cells slots Q (F0 m (pc + 3) ls rest)) : W p l e R s m args below meth c H locs cells slots Q (F0 m pc ls (v :: .ref a :: rest)) :=
  va_putN (D := G.1) (cl := GB_cl) (ci := ci) (C := Rn) (T := T) (N := N) C.1.1 C.1.2.1 C.1.2.2.2.2 (fun w h => List.mem_cons_of_mem _ (hc.1 w h)) ty hc.2.2.1 hc.2.2.2 C.1.2.2.2.1 C.2.1 hW.1 hW.2 hS q0 he hc.2.1 k hk (va_Nw.use rfl (C.2.2.1.1 _ hl)) (fun _ h => hr ▸ h) hfin (hc.2.2.1 k hk) hn hfit hlen hdg (fun H1 l1 h1 h2 h3 => kk H1 l1 ⟨h1, h2⟩ h3)
theorem q_iald (C : Cx p s m args meth c own cc nL c0 G A rt) (hW : wo G A ws H) (q0 : Nat) {n : Nat} {f : Nat → Int32} (ha : ws[q0]? = some (a, .inl (G.2.1, n, .inl f))) {i : Int32} (hin : vp_in i n) (hdg : decode cc pc = .ok (.iaload, 1))
    (kk : W p l e R s m args below meth c H locs cells slots Q (F0 m (pc + 1) ls (.int (f i.toNatClampNeg) :: rest))) : W p l e R s m args below meth c H locs cells slots Q (F0 m pc ls (.int i :: .ref a :: rest)) :=
  va_iald (D := G.1) (cl := GB_cl) (tys := tyG G) C.1.1 C.1.2.1 C.2.1 hW.1 q0 0 ha rfl hin hdg kk
theorem q_bald (C : Cx p s m args meth c own cc nL c0 G A rt) (hW : wo G A ws H) (q0 : Nat) {n : Nat} {f : Nat → Int32} (ha : ws[q0]? = some (a, .inl (G.2.2.1, n, .inl f))) {i : Int32} (hin : vp_in i n) (hdg : decode cc pc = .ok (.baload, 1))
    (kk : W p l e R s m args below meth c H locs cells slots Q (F0 m (pc + 1) ls (.int (f i.toNatClampNeg) :: rest))) : W p l e R s m args below meth c H locs cells slots Q (F0 m pc ls (.int i :: .ref a :: rest)) :=
  va_bald (D := G.1) (cl := GB_cl) (tys := tyG G) C.1.1 C.1.2.1 C.2.1 hW.1 q0 1 ha rfl hin hdg kk
theorem q_iast (C : Cx p s m args meth c own cc nL c0 G A rt) (hW : wo G A ws H) (hS : va_S A s.heap H locs) (q0 : Nat) {n : Nat} {f : Nat → Int32} (ha : ws[q0]? = some (a, .inl (G.2.1, n, .inl f))) {i x : Int32} (hin : vp_in i n) (hdg : decode cc pc = .ok (.iastore, 1))
    (kk : ∀ (H1 : Heap) (locs1 : List Loc), wo G A (ws.set q0 (a, .inl (G.2.1, n, .inl (upd f i.toNatClampNeg x)))) H1 → va_S A s.heap H1 locs1 → W p l e R s m args below meth c H1 locs1 cells slots Q (F0 m (pc + 1) ls rest)) : W p l e R s m args below meth c H locs cells slots Q (F0 m pc ls (.int x :: .int i :: .ref a :: rest)) :=
  va_iast (D := G.1) (cl := GB_cl) (tys := tyG G) C.1.1 C.1.2.1 C.2.1 hW.1 hW.2 hS q0 0 ha rfl hin hdg (fun H1 l1 h1 h2 h3 => kk H1 l1 ⟨h1, h2⟩ h3)
theorem q_bast (C : Cx p s m args meth c own cc nL c0 G A rt) (hW : wo G A ws H) (hS : va_S A s.heap H locs) (q0 : Nat) {n : Nat} {f : Nat → Int32} (ha : ws[q0]? = some (a, .inl (G.2.2.1, n, .inl f))) {i x : Int32} (hin : vp_in i n) (hdg : decode cc pc = .ok (.bastore, 1))
    (kk : ∀ (H1 : Heap) (locs1 : List Loc), wo G A (ws.set q0 (a, .inl (G.2.2.1, n, .inl (upd f i.toNatClampNeg (vp_nar .byte x))))) H1 → va_S A s.heap H1 locs1 → W p l e R s m args below meth c H1 locs1 cells slots Q (F0 m (pc + 1) ls rest)) : W p l e R s m args below meth c H locs cells slots Q (F0 m pc ls (.int x :: .int i :: .ref a :: rest)) :=
  va_bast (D := G.1) (cl := GB_cl) (tys := tyG G) C.1.1 C.1.2.1 C.2.1 hW.1 hW.2 hS q0 1 ha rfl hin hdg (fun H1 l1 h1 h2 h3 => kk H1 l1 ⟨h1, h2⟩ h3)
theorem q_iret {S : Type} {w' : S → va_W} {post : Int32 → S → Prop} {ty : FieldType} (C : Cx p s m args meth c own cc nL c0 G A (some ty)) (u : S) {v : Int32} (hn : narrow ty (.int v) = .int v) (hW : wo G A (w' u) H) (hS : va_S A s.heap H locs) (hv : post v u) (hdg : decode cc pc = .ok (.ireturn, 1)) :
    W p l e R s m args below meth c H locs 0 0 (MQ below (va_Qi post (fun u t => va_P G.1 GB_cl (w' u) t.heap) A) args s 0 0 A) (F0 m pc ls [.int v]) :=
  W.zret (ty := ty) C.1.1 C.1.2.1 C.2.2.2.1 hn (fun t ht _ => ⟨⟨v, u, rfl, hv, by show va_P G.1 GB_cl (w' u) t.heap; rw [ht]; exact hW.1⟩, hS.F ht⟩) hS.2.2 hdg C.2.2.2.2.1
theorem q_vret {S : Type} {w' : S → va_W} {post : S → Prop} (C : Cx p s m args meth c own cc nL c0 G A none) (u : S) (hW : wo G A (w' u) H) (hS : va_S A s.heap H locs) (hv : post u) (hdg : decode cc pc = .ok (.return_, 1)) :
    W p l e R s m args below meth c H locs 0 0 (MQ below (va_Qv post (fun u t => va_P G.1 GB_cl (w' u) t.heap) A) args s 0 0 A) (F0 m pc ls []) :=
  W.vret C.1.1 C.1.2.1 C.2.2.2.1 (fun t ht _ => ⟨⟨u, rfl, hv, by show va_P G.1 GB_cl (w' u) t.heap; rw [ht]; exact hW.1⟩, hS.F ht⟩) hS.2.2 hdg C.2.2.2.2.1
theorem good_V {idx nA : Nat} {Cn : String} {y : MethodName} {by1 : ByteArray} {r1 : Option FieldType} (h1 : Cond.methodLink own idx y ∈ wsG) (h2 : Cond.instanceMethod y ∈ wsG) (h3 : Cond.selects Cn y y ∈ wsG) (h4 : Cond.initialized Cn ∈ wsG) (h5 : Cond.code y by1 nA r1 ∈ wsG) : GoodIn (c0 :: wsG) (wsV own idx Cn y (Cond.code y by1 nA r1 :: wsG)) := by
  intro w hw
  have hg : ∀ w ∈ wsG, goodWord w = true := wsG_good
  have hm : w ∈ wsG := by
    simp only [wsV, List.cons_append, List.nil_append, List.mem_cons] at hw
    rcases hw with rfl | rfl | rfl | rfl | rfl | hw
    · exact h1
    · exact h2
    · exact h3
    · exact h4
    · exact h5
    · exact hw
  exact ⟨List.mem_cons_of_mem _ hm, good_of_word (hg w hm)⟩
theorem good_S {idx nA : Nat} {y : MethodName} {by1 : ByteArray} {r1 : Option FieldType} (h1 : Cond.methodLink own idx y ∈ wsG) (h2 : Cond.static y ∈ wsG) (h4 : Cond.initialized y.cls ∈ wsG) (h5 : Cond.code y by1 nA r1 ∈ wsG) : GoodIn (c0 :: wsG) (va_wsS own idx y (Cond.code y by1 nA r1 :: wsG)) := by
  intro w hw
  have hg : ∀ w ∈ wsG, goodWord w = true := wsG_good
  have hm : w ∈ wsG := by
    simp only [va_wsS, List.cons_append, List.nil_append, List.mem_cons] at hw
    rcases hw with rfl | rfl | rfl | rfl | hw
    · exact h1
    · exact h2
    · exact h4
    · exact h5
    · exact hw
  exact ⟨List.mem_cons_of_mem _ hm, good_of_word (hg w hm)⟩
theorem good_N {nA : Nat} {y : MethodName} {by1 : ByteArray} {r1 : Option FieldType} (h5 : Cond.code y by1 nA r1 ∈ wsG) : GoodIn (c0 :: wsG) (Cond.code y by1 nA r1 :: wsG) := by
  intro w hw
  have hm : w ∈ wsG := by
    rcases List.mem_cons.mp hw with rfl | hw
    · exact h5
    · exact hw
  exact ⟨List.mem_cons_of_mem _ hm, good_of_word (wsG_good w hm)⟩
/-- what a callee's start asks, out of the caller's walk -/
theorem pt_of (C : Cx p s m args meth c own cc nL c0 G A rt) {wc : va_W} (hW : wo G A ws H) (hS : va_S A s.heap H locs) (isC : List Nat) (hn : va_nd isC = true) (hC : isC.map (fun i => ws[i]?) = wc.map some) (As : List Value) {U : State} (hU : U.heap = H) (hWm : s.WarmedH U.vm) : Pt0 G As wc H.size As.toArray U := by
  refine ⟨rfl, by rw [hU], ?_, ?_, va_K.moved hWm.alike C.2.1, ?_⟩
  · rw [hU]
    exact XF.warm hWm ((C.2.2.1.kept (fun a h1 h2 => hS.2.1 a h1 h2)).narrow (va_free hW.2 hS C.2.2.2.2.2 isC hC))
  · rw [hU]
    exact fun k q hk => by
      obtain ⟨i, -, hi⟩ := cut_at hC hk
      exact hW.1 i q hi
  · exact (hW.2.sub isC hn hC).weaken (fun _ _ _ _ => trivial)
/-- a class of the call's receiver -/
theorem recv_C (C : Cx p s m args meth c own cc nL c0 G A rt) (hW : wo G A ws H) {ci N q0 : Nat} {Rn : String} {T : u_T} {ty : Nat → FieldType} (hc : KC ci Rn T N ty) {fs : List Value} (he : ws[q0]? = some (a, .inr (ci, fs))) : ∃ cell : Cell, H[a]? = some cell ∧ cell.vm.isStatics = false ∧ s.vm.findClass Rn = some cell.cls :=
  va_recv C.2.1 hW.1 hc.2.1 he
theorem sw_row {dflt lo hi : Int} {offs : Array Int} {len : Nat} {x : Int32} {tgt N : Nat} (hexec : p.tables.exec = Jvm.exec) (hb : c.code = cc) (hdg : decode cc pc = .ok (.tableswitch dflt lo hi offs, len)) (hN : hi - lo + 1 = (N : Int)) (hall : ∀ a : Nat, a < N → offs[a]? = some dflt ∨ ¬ x.toInt = lo + a) (ht : (pc : Int) + dflt = (tgt : Int))
    (k : W p l e R s m args below meth c H locs cells slots Q (F0 m tgt ls rest)) : W p l e R s m args below meth c H locs cells slots Q (F0 m pc ls (.int x :: rest)) := by
  by_cases h : x.toInt < lo ∨ hi < x.toInt
  · exact lv_tableOut hexec hb hdg h ht k
  · have h1 : ¬ x.toInt < lo := fun z => h (Or.inl z)
    have h2 : ¬ hi < x.toInt := fun z => h (Or.inr z)
    rcases hall (x.toInt - lo).toNat (by omega) with z | z
    · exact lv_tableIn hexec hb hdg h1 h2 z ht k
    · exact absurd (by omega) z
theorem lk_ne {x k : Int32} {n : Int} (h : ¬ x = k) (hk : k.toInt = n) : ¬ (n = x.toInt) := fun e => h (Int32.toInt_inj.mp (e.symm.trans hk.symm))
section CALLS
variable {y : MethodName} {by1 : ByteArray} {nA index n : Nat} {rm : Room} {As : List Value} {wc : va_W} {S : Type} {w' : S → va_W}
/-- a call of a method of an object, an int comes back -/
theorem q_callV (C : Cx p s m args meth c own cc nL c0 G A rt) {post : Int32 → S → Prop} {ty : FieldType} (hM : CI l G y (Cond.code y by1 nA (some ty) :: wsG) rm (.ref a :: As) wc w' post)
    (h1 : Cond.methodLink own index y ∈ wsG) (hB : KB y by1 nA (some ty) n) (hn : As.length = n) (hR : (rm.cells = 0 ∧ rm.slots = 0) ∧ rm.frames + 1 ≤ R.frames ∧ 8 + (nA + 11) + rm.locals ≤ R.locals)
    (hW : wo G A ws H) (hS : va_S A s.heap H locs) (isC : List Nat) (hnd : va_nd isC = true) (hC : isC.map (fun i => ws[i]?) = wc.map some) {ci N q0 : Nat} {T : u_T} {tyf : Nat → FieldType} (hc : KC ci y.cls T N tyf) {fs : List Value} (he : ws[q0]? = some (a, .inr (ci, fs)))
    (hsz : ls.size = nL) {st : List Value} (hst : st = As.reverse ++ .ref a :: rest) (hroom : (rest.map fun v => v.category).sum ≤ 8) (hdg : decode cc pc = .ok (.invokevirtual index, 3)) (hcs : cells ≤ R.cells ∧ slots ≤ R.slots)
    (kk : ∀ (r : Int32) (u : S) (H1 : Heap) (locs1 : List Loc), post r u → wo G A (mix ws isC (w' u)) H1 → va_S A s.heap H1 locs1 → W p l e R s m args below meth c H1 locs1 cells slots Q (F0 m (pc + 3) ls (.int r :: rest))) : W p l e R s m args below meth c H locs cells slots Q (F0 m pc ls st) := by
  obtain ⟨h2, h3, h4, h5, hy⟩ := hB
  have hF := va_free hW.2 hS C.2.2.2.2.2 isC hC
  subst hst
  refine va_calli (va_runV (rest := rest) C.1 (hM.2 H.size) (cwV n C.1.2.2.2.2 (good_V h1 h2 h3 h4 h5) rfl hR.1.1 hR.1.2 ⟨rfl, hy⟩ hR.2) ⟨Pt0.blind, recv_C C hW hc he, fun U hU hWm => pt_of C hW hS isC hnd hC (.ref a :: As) hU hWm⟩ rfl hn hsz rfl (lv_room hroom) hdg hcs) hS (fun q _ h => hF q h) hF (fun r u t H1 locs1 ht hvm hw hB hz hk hS1 => ?_)
  rw [ht] at hB
  exact kk r u H1 locs1 hw (wo_mix hW isC hC hk (hM.1 u) hB) hS1
theorem q_callVv (C : Cx p s m args meth c own cc nL c0 G A rt) {post : S → Prop} (hM : CV l G y (Cond.code y by1 nA none :: wsG) rm (.ref a :: As) wc w' post)
    (h1 : Cond.methodLink own index y ∈ wsG) (hB : KB y by1 nA none n) (hn : As.length = n) (hR : (rm.cells = 0 ∧ rm.slots = 0) ∧ rm.frames + 1 ≤ R.frames ∧ 8 + (nA + 11) + rm.locals ≤ R.locals)
    (hW : wo G A ws H) (hS : va_S A s.heap H locs) (isC : List Nat) (hnd : va_nd isC = true) (hC : isC.map (fun i => ws[i]?) = wc.map some) {ci N q0 : Nat} {T : u_T} {tyf : Nat → FieldType} (hc : KC ci y.cls T N tyf) {fs : List Value} (he : ws[q0]? = some (a, .inr (ci, fs)))
    (hsz : ls.size = nL) {st : List Value} (hst : st = As.reverse ++ .ref a :: rest) (hroom : (rest.map fun v => v.category).sum ≤ 8) (hdg : decode cc pc = .ok (.invokevirtual index, 3)) (hcs : cells ≤ R.cells ∧ slots ≤ R.slots)
    (kk : ∀ (u : S) (H1 : Heap) (locs1 : List Loc), post u → wo G A (mix ws isC (w' u)) H1 → va_S A s.heap H1 locs1 → W p l e R s m args below meth c H1 locs1 cells slots Q (F0 m (pc + 3) ls rest)) : W p l e R s m args below meth c H locs cells slots Q (F0 m pc ls st) := by
  obtain ⟨h2, h3, h4, h5, hy⟩ := hB
  have hF := va_free hW.2 hS C.2.2.2.2.2 isC hC
  subst hst
  refine va_callv (va_runV (rest := rest) C.1 (hM.2 H.size) (cwV n C.1.2.2.2.2 (good_V h1 h2 h3 h4 h5) rfl hR.1.1 hR.1.2 ⟨rfl, hy⟩ hR.2) ⟨Pt0.blind, recv_C C hW hc he, fun U hU hWm => pt_of C hW hS isC hnd hC (.ref a :: As) hU hWm⟩ rfl hn hsz rfl (lv_room hroom) hdg hcs) hS (fun q _ h => hF q h) hF (fun u t H1 locs1 ht hvm hw hB hz hk hS1 => ?_)
  rw [ht] at hB
  exact kk u H1 locs1 hw (wo_mix hW isC hC hk (hM.1 u) hB) hS1
/-- the same of a nest mate's private method -/
theorem q_callN (C : Cx p s m args meth c own cc nL c0 G A rt) {post : Int32 → S → Prop} {ty : FieldType} {host : String} (hM : CI l G y (Cond.code y by1 nA (some ty) :: wsG) rm (.ref a :: As) wc w' post)
    (h1 : Cond.methodLinkNest own index y host ∈ nsL) (hB : KB y by1 nA (some ty) n) (hn : As.length = n) (hR : (rm.cells = 0 ∧ rm.slots = 0) ∧ rm.frames + 1 ≤ R.frames ∧ 8 + (nA + 11) + rm.locals ≤ R.locals)
    (hW : wo G A ws H) (hS : va_S A s.heap H locs) (isC : List Nat) (hnd : va_nd isC = true) (hC : isC.map (fun i => ws[i]?) = wc.map some) {ci N q0 : Nat} {T : u_T} {tyf : Nat → FieldType} (hc : KC ci y.cls T N tyf) {fs : List Value} (he : ws[q0]? = some (a, .inr (ci, fs)))
    (hsz : ls.size = nL) {st : List Value} (hst : st = As.reverse ++ .ref a :: rest) (hroom : (rest.map fun v => v.category).sum ≤ 8) (hdg : decode cc pc = .ok (.invokevirtual index, 3)) (hcs : cells ≤ R.cells ∧ slots ≤ R.slots)
    (kk : ∀ (r : Int32) (u : S) (H1 : Heap) (locs1 : List Loc), post r u → wo G A (mix ws isC (w' u)) H1 → va_S A s.heap H1 locs1 → W p l e R s m args below meth c H1 locs1 cells slots Q (F0 m (pc + 3) ls (.int r :: rest))) : W p l e R s m args below meth c H locs cells slots Q (F0 m pc ls st) := by
  obtain ⟨h2, h3, h4, h5, hy⟩ := hB
  have hF := va_free hW.2 hS C.2.2.2.2.2 isC hC
  subst hst
  refine va_calli (va_runVN (rest := rest) C.1 (hM.2 H.size) ⟨va_cnB n C.1.2.2.2.2 (good_N h5) rfl hR.1.1 hR.1.2 (C.2.2.1.1 _ h1) (C.hts h4) hy hR.2, C.hts h2, C.hts h3⟩ ⟨Pt0.blind, recv_C C hW hc he, fun U hU hWm => pt_of C hW hS isC hnd hC (.ref a :: As) hU hWm⟩ rfl hn hsz rfl (lv_room hroom) hdg hcs) hS (fun q _ h => hF q h) hF (fun r u t H1 locs1 ht hvm hw hB hz hk hS1 => ?_)
  rw [ht] at hB
  exact kk r u H1 locs1 hw (wo_mix hW isC hC hk (hM.1 u) hB) hS1
theorem q_callNv (C : Cx p s m args meth c own cc nL c0 G A rt) {post : S → Prop} {host : String} (hM : CV l G y (Cond.code y by1 nA none :: wsG) rm (.ref a :: As) wc w' post)
    (h1 : Cond.methodLinkNest own index y host ∈ nsL) (hB : KB y by1 nA none n) (hn : As.length = n) (hR : (rm.cells = 0 ∧ rm.slots = 0) ∧ rm.frames + 1 ≤ R.frames ∧ 8 + (nA + 11) + rm.locals ≤ R.locals)
    (hW : wo G A ws H) (hS : va_S A s.heap H locs) (isC : List Nat) (hnd : va_nd isC = true) (hC : isC.map (fun i => ws[i]?) = wc.map some) {ci N q0 : Nat} {T : u_T} {tyf : Nat → FieldType} (hc : KC ci y.cls T N tyf) {fs : List Value} (he : ws[q0]? = some (a, .inr (ci, fs)))
    (hsz : ls.size = nL) {st : List Value} (hst : st = As.reverse ++ .ref a :: rest) (hroom : (rest.map fun v => v.category).sum ≤ 8) (hdg : decode cc pc = .ok (.invokevirtual index, 3)) (hcs : cells ≤ R.cells ∧ slots ≤ R.slots)
    (kk : ∀ (u : S) (H1 : Heap) (locs1 : List Loc), post u → wo G A (mix ws isC (w' u)) H1 → va_S A s.heap H1 locs1 → W p l e R s m args below meth c H1 locs1 cells slots Q (F0 m (pc + 3) ls rest)) : W p l e R s m args below meth c H locs cells slots Q (F0 m pc ls st) := by
  obtain ⟨h2, h3, h4, h5, hy⟩ := hB
  have hF := va_free hW.2 hS C.2.2.2.2.2 isC hC
  subst hst
  refine va_callv (va_runVN (rest := rest) C.1 (hM.2 H.size) ⟨va_cnB n C.1.2.2.2.2 (good_N h5) rfl hR.1.1 hR.1.2 (C.2.2.1.1 _ h1) (C.hts h4) hy hR.2, C.hts h2, C.hts h3⟩ ⟨Pt0.blind, recv_C C hW hc he, fun U hU hWm => pt_of C hW hS isC hnd hC (.ref a :: As) hU hWm⟩ rfl hn hsz rfl (lv_room hroom) hdg hcs) hS (fun q _ h => hF q h) hF (fun u t H1 locs1 ht hvm hw hB hz hk hS1 => ?_)
  rw [ht] at hB
  exact kk u H1 locs1 hw (wo_mix hW isC hC hk (hM.1 u) hB) hS1
/-- a call of a static method that asks for no cell -/
theorem mix_nil {ws w1 : va_W} : mix ws [] w1 = ws := by
  apply List.ext_getElem?
  intro k
  show (mixG 0 ws [] w1)[k]? = _
  rw [mixG_get]
  cases hw : ws[k]? with
  | none => rfl
  | some e => cases w1 <;> rfl
theorem q_callS (C : Cx p s m args meth c own cc nL c0 G A rt) {post : Int32 → S → Prop} {ty : FieldType} (hM : CI l G y (Cond.code y by1 nA (some ty) :: wsG) rm As [] w' post)
    (h1 : Cond.methodLink own index y ∈ wsG) (hB : KS y by1 nA (some ty) n) (hn : As.length = n) (hR : (rm.cells = 0 ∧ rm.slots = 0) ∧ rm.frames + 1 ≤ R.frames ∧ 8 + (nA + 11) + rm.locals ≤ R.locals)
    (hW : wo G A ws H) (hS : va_S A s.heap H locs)
    (hsz : ls.size = nL) {st : List Value} (hst : st = As.reverse ++ rest) (hroom : (rest.map fun v => v.category).sum ≤ 8) (hdg : decode cc pc = .ok (.invokestatic index, 3)) (hcs : cells ≤ R.cells ∧ slots ≤ R.slots)
    (kk : ∀ (r : Int32) (u : S) (H1 : Heap) (locs1 : List Loc), post r u → wo G A ws H1 → va_S A s.heap H1 locs1 → W p l e R s m args below meth c H1 locs1 cells slots Q (F0 m (pc + 3) ls (.int r :: rest))) : W p l e R s m args below meth c H locs cells slots Q (F0 m pc ls st) := by
  obtain ⟨h2, h4, h5, hy⟩ := hB
  have hC : ([] : List Nat).map (fun i => ws[i]?) = ([] : va_W).map some := rfl
  have hF := va_free hW.2 hS C.2.2.2.2.2 [] hC
  subst hst
  refine va_calli (va_runS (rest := rest) C.1 (hM.2 H.size) (va_cwS n C.1.2.2.2.2 (good_S h1 h2 h4 h5) rfl hR.1.1 hR.1.2 hy hR.2) ⟨Pt0.blind, fun U hU hWm => pt_of C hW hS [] rfl hC As hU hWm⟩ rfl hn hsz rfl (lv_room hroom) hdg hcs) hS (fun q _ h => hF q h) hF (fun r u t H1 locs1 ht hvm hw hB hz hk hS1 => ?_)
  rw [ht] at hB
  have h9 := wo_mix (w1 := w' u) hW [] hC hk (hM.1 u) hB
  rw [mix_nil] at h9
  exact kk r u H1 locs1 hw h9 hS1
theorem q_callSN (C : Cx p s m args meth c own cc nL c0 G A rt) {post : Int32 → S → Prop} {ty : FieldType} {host : String} (hM : CI l G y (Cond.code y by1 nA (some ty) :: wsG) rm As [] w' post)
    (h1 : Cond.methodLinkNest own index y host ∈ nsL) (hB : KS y by1 nA (some ty) n) (hn : As.length = n) (hR : (rm.cells = 0 ∧ rm.slots = 0) ∧ rm.frames + 1 ≤ R.frames ∧ 8 + (nA + 11) + rm.locals ≤ R.locals)
    (hW : wo G A ws H) (hS : va_S A s.heap H locs)
    (hsz : ls.size = nL) {st : List Value} (hst : st = As.reverse ++ rest) (hroom : (rest.map fun v => v.category).sum ≤ 8) (hdg : decode cc pc = .ok (.invokestatic index, 3)) (hcs : cells ≤ R.cells ∧ slots ≤ R.slots)
    (kk : ∀ (r : Int32) (u : S) (H1 : Heap) (locs1 : List Loc), post r u → wo G A ws H1 → va_S A s.heap H1 locs1 → W p l e R s m args below meth c H1 locs1 cells slots Q (F0 m (pc + 3) ls (.int r :: rest))) : W p l e R s m args below meth c H locs cells slots Q (F0 m pc ls st) := by
  obtain ⟨h2, h4, h5, hy⟩ := hB
  have hC : ([] : List Nat).map (fun i => ws[i]?) = ([] : va_W).map some := rfl
  have hF := va_free hW.2 hS C.2.2.2.2.2 [] hC
  subst hst
  refine va_calli (va_runSN (rest := rest) C.1 (hM.2 H.size) ⟨va_cnB n C.1.2.2.2.2 (good_N h5) rfl hR.1.1 hR.1.2 (C.2.2.1.1 _ h1) (C.hts h4) hy hR.2, C.hts h2, trivial⟩ ⟨Pt0.blind, fun U hU hWm => pt_of C hW hS [] rfl hC As hU hWm⟩ rfl hn hsz rfl (lv_room hroom) hdg hcs) hS (fun q _ h => hF q h) hF (fun r u t H1 locs1 ht hvm hw hB hz hk hS1 => ?_)
  rw [ht] at hB
  have h9 := wo_mix (w1 := w' u) hW [] hC hk (hM.1 u) hB
  rw [mix_nil] at h9
  exact kk r u H1 locs1 hw h9 hS1
/-- a method of a text constant -/
theorem q_callVs (C : Cx p s m args meth c own cc nL c0 G A rt) {post : Int32 → S → Prop} {ty : FieldType} {i : Nat} (hM : CI l G y (Cond.code y by1 nA (some ty) :: wsG) rm (.ref (G.2.2.2.2.1 i) :: As) [] w' post)
    (h1 : Cond.methodLink own index y ∈ wsG) (hB : KB y by1 nA (some ty) n) (hn : As.length = n) (hR : (rm.cells = 0 ∧ rm.slots = 0) ∧ rm.frames + 1 ≤ R.frames ∧ 8 + (nA + 11) + rm.locals ≤ R.locals)
    (hW : wo G A ws H) (hS : va_S A s.heap H locs) (hi : i < 2) (hcl : y.cls = "java/lang/String")
    (hsz : ls.size = nL) {st : List Value} (hst : st = As.reverse ++ .ref (G.2.2.2.2.1 i) :: rest) (hroom : (rest.map fun v => v.category).sum ≤ 8) (hdg : decode cc pc = .ok (.invokevirtual index, 3)) (hcs : cells ≤ R.cells ∧ slots ≤ R.slots)
    (kk : ∀ (r : Int32) (u : S) (H1 : Heap) (locs1 : List Loc), post r u → wo G A ws H1 → va_S A s.heap H1 locs1 → W p l e R s m args below meth c H1 locs1 cells slots Q (F0 m (pc + 3) ls (.int r :: rest))) : W p l e R s m args below meth c H locs cells slots Q (F0 m pc ls st) := by
  obtain ⟨h2, h3, h4, h5, hy⟩ := hB
  have hC : ([] : List Nat).map (fun i => ws[i]?) = ([] : va_W).map some := rfl
  have hF := va_free hW.2 hS C.2.2.2.2.2 [] hC
  subst hst
  refine va_calli (va_runV (rest := rest) C.1 (hM.2 H.size) (cwV n C.1.2.2.2.2 (good_V h1 h2 h3 h4 h5) rfl hR.1.1 hR.1.2 ⟨rfl, hy⟩ hR.2) ⟨Pt0.blind, hcl ▸ vk_recv C.2.2.1.2.1.2.2.1 hi hS, fun U hU hWm => pt_of C hW hS [] rfl hC _ hU hWm⟩ rfl hn hsz rfl (lv_room hroom) hdg hcs) hS (fun q _ h => hF q h) hF (fun r u t H1 locs1 ht hvm hw hB hz hk hS1 => ?_)
  rw [ht] at hB
  have h9 := wo_mix (w1 := w' u) hW [] hC hk (hM.1 u) hB
  rw [mix_nil] at h9
  exact kk r u H1 locs1 hw h9 hS1
/-- a static method over cells, nothing comes back -/
theorem q_callSCv (C : Cx p s m args meth c own cc nL c0 G A rt) {post : S → Prop} (hM : CV l G y (Cond.code y by1 nA none :: wsG) rm As wc w' post)
    (h1 : Cond.methodLink own index y ∈ wsG) (hB : KS y by1 nA none n) (hn : As.length = n) (hR : (rm.cells = 0 ∧ rm.slots = 0) ∧ rm.frames + 1 ≤ R.frames ∧ 8 + (nA + 11) + rm.locals ≤ R.locals)
    (hW : wo G A ws H) (hS : va_S A s.heap H locs) (isC : List Nat) (hnd : va_nd isC = true) (hC : isC.map (fun i => ws[i]?) = wc.map some)
    (hsz : ls.size = nL) {st : List Value} (hst : st = As.reverse ++ rest) (hroom : (rest.map fun v => v.category).sum ≤ 8) (hdg : decode cc pc = .ok (.invokestatic index, 3)) (hcs : cells ≤ R.cells ∧ slots ≤ R.slots)
    (kk : ∀ (u : S) (H1 : Heap) (locs1 : List Loc), post u → wo G A (mix ws isC (w' u)) H1 → va_S A s.heap H1 locs1 → W p l e R s m args below meth c H1 locs1 cells slots Q (F0 m (pc + 3) ls rest)) : W p l e R s m args below meth c H locs cells slots Q (F0 m pc ls st) := by
  obtain ⟨h2, h4, h5, hy⟩ := hB
  have hF := va_free hW.2 hS C.2.2.2.2.2 isC hC
  subst hst
  refine va_callv (va_runS (rest := rest) C.1 (hM.2 H.size) (va_cwS n C.1.2.2.2.2 (good_S h1 h2 h4 h5) rfl hR.1.1 hR.1.2 hy hR.2) ⟨Pt0.blind, fun U hU hWm => pt_of C hW hS isC hnd hC As hU hWm⟩ rfl hn hsz rfl (lv_room hroom) hdg hcs) hS (fun q _ h => hF q h) hF (fun u t H1 locs1 ht hvm hw hB hz hk hS1 => ?_)
  rw [ht] at hB
  exact kk u H1 locs1 hw (wo_mix hW isC hC hk (hM.1 u) hB) hS1
/-- a method that answers one of its cells -/
def CR (l : Launch) (G : Gt) (y : MethodName) (ws : List Cond) (rm : Room) (As : List Value) (w : va_W) (post : Nat → Prop) : Prop :=
  ∀ sz : Nat, Met l y ws rm (Pt0 G As w sz) (va_Qr (S := Unit) (fun _ => True) (fun _ a t => post a ∧ va_P G.1 GB_cl w t.heap) (va_A w sz)) 0 0 (va_A w sz)
theorem q_callNr (C : Cx p s m args meth c own cc nL c0 G A rt) {post : Nat → Prop} {ty : FieldType} {host : String} (hM : CR l G y (Cond.code y by1 nA (some ty) :: wsG) rm (.ref a :: As) wc post)
    (h1 : Cond.methodLinkNest own index y host ∈ nsL) (hB : KB y by1 nA (some ty) n) (hn : As.length = n) (hR : (rm.cells = 0 ∧ rm.slots = 0) ∧ rm.frames + 1 ≤ R.frames ∧ 8 + (nA + 11) + rm.locals ≤ R.locals)
    (hW : wo G A ws H) (hS : va_S A s.heap H locs) (isC : List Nat) (hnd : va_nd isC = true) (hC : isC.map (fun i => ws[i]?) = wc.map some) {ci N q0 : Nat} {T : u_T} {tyf : Nat → FieldType} (hc : KC ci y.cls T N tyf) {fs : List Value} (he : ws[q0]? = some (a, .inr (ci, fs)))
    (hsz : ls.size = nL) {st : List Value} (hst : st = As.reverse ++ .ref a :: rest) (hroom : (rest.map fun v => v.category).sum ≤ 8) (hdg : decode cc pc = .ok (.invokevirtual index, 3)) (hcs : cells ≤ R.cells ∧ slots ≤ R.slots)
    (kk : ∀ (ra : Nat) (H1 : Heap) (locs1 : List Loc), post ra → wo G A (mix ws isC wc) H1 → va_S A s.heap H1 locs1 → W p l e R s m args below meth c H1 locs1 cells slots Q (F0 m (pc + 3) ls (.ref ra :: rest))) : W p l e R s m args below meth c H locs cells slots Q (F0 m pc ls st) := by
  obtain ⟨h2, h3, h4, h5, hy⟩ := hB
  have hF := va_free hW.2 hS C.2.2.2.2.2 isC hC
  subst hst
  refine va_callr (va_runVN (rest := rest) C.1 (hM H.size) ⟨va_cnB n C.1.2.2.2.2 (good_N h5) rfl hR.1.1 hR.1.2 (C.2.2.1.1 _ h1) (C.hts h4) hy hR.2, C.hts h2, C.hts h3⟩ ⟨Pt0.blind, recv_C C hW hc he, fun U hU hWm => pt_of C hW hS isC hnd hC (.ref a :: As) hU hWm⟩ rfl hn hsz rfl (lv_room hroom) hdg hcs) hS (fun q _ h => hF q h) hF (fun u ra t H1 locs1 ht hvm hw hB hz hk hS1 => ?_)
  obtain ⟨hB1, hB2⟩ := hB
  rw [ht] at hB2
  exact kk ra H1 locs1 hB1 (wo_mix hW isC hC hk rfl hB2) hS1
end CALLS
end Q1
/-- the start of a contract's walk -/
theorem ci_intro {l : Launch} {G : Gt} {y : MethodName} {cc : ByteArray} {nL : Nat} {ty : FieldType} {rm : Room} {As : List Value} {w : va_W} {S : Type} {w' : S → va_W} {post : Int32 → S → Prop} {own : String} (hy : plainName y.cls = true) (ho : y.cls = own) (hf : ∀ u, (w' u).map Prod.fst = w.map Prod.fst) (hlen : (lg_sl As).length ≤ nL)
    (body : ∀ (p : Program) (e : Env) (s : State) (m : MethodId) (args : Array Value) (below : List Frame) (meth : Method) (c : Code) (A : Nat → Prop) (H : Heap) (ls : Array Slot) (Q : State → Prop), Cx p s m args meth c own cc nL (Cond.code y cc nL (some ty)) G A (some ty) → wo G A w H → va_S A s.heap H [] → lv_has ls nL (lv_args 0 As) →
      (∀ (u : S) (v : Int32) (H1 : Heap) (locs1 : List Loc) (ls1 : Array Slot) (pc1 : Nat), narrow ty (.int v) = .int v → wo G A (w' u) H1 → va_S A s.heap H1 locs1 → post v u → decode cc pc1 = .ok (.ireturn, 1) → W p l e rm s m args below meth c H1 locs1 0 0 Q (F0 m pc1 ls1 [.int v])) →
      W p l e rm s m args below meth c H [] 0 0 Q (F0 m 0 ls [])) : CI l G y (Cond.code y cc nL (some ty) :: wsG) rm As w w' post := by
  refine ⟨hf, fun sz => Met.ofW (cc := cc) (maxL := nL) (ret := some ty) hy rfl ?_⟩
  intro p e s m args below meth c s₁ B hml hv
  obtain ⟨rfl, hsz, hX, hP, hK, hD0⟩ := hv
  subst hsz
  subst ho
  rw [lg_entry_eq]
  have C : Cx p s m As.toArray meth c y.cls cc nL (Cond.code y cc nL (some ty)) G (va_A w s.heap.size) (some ty) := ⟨⟨B.exec, B.bytes, hml, findClass_of_methodNamed B.named, atoms_spec (ws := Cond.code y cc nL (some ty) :: wsG) B.pre⟩, hK, hX, B.returns, B.notSynchronized, fun q h => Or.inr h⟩
  exact body p e s m As.toArray below meth c (va_A w s.heap.size) s.heap _ _ C ⟨hP, hD0.self⟩ va_S.rf (lv_entry As hlen) (fun u v H1 locs1 ls1 pc1 hn hW hS hv hd => q_iret C u hn hW hS hv hd)
theorem cr_intro {l : Launch} {G : Gt} {y : MethodName} {cc : ByteArray} {nL : Nat} {ty : FieldType} {rm : Room} {As : List Value} {w : va_W} {post : Nat → Prop} {own : String} {cls : String} (hy : plainName y.cls = true) (ho : y.cls = own) (hty : ty = .object cls) (hlen : (lg_sl As).length ≤ nL)
    (body : ∀ (p : Program) (e : Env) (s : State) (m : MethodId) (args : Array Value) (below : List Frame) (meth : Method) (c : Code) (A : Nat → Prop) (H : Heap) (ls : Array Slot) (Q : State → Prop), Cx p s m args meth c own cc nL (Cond.code y cc nL (some ty)) G A (some ty) → wo G A w H → va_S A s.heap H [] → lv_has ls nL (lv_args 0 As) →
      (∀ (ra : Nat) (H1 : Heap) (locs1 : List Loc) (ls1 : Array Slot) (pc1 : Nat), wo G A w H1 → va_S A s.heap H1 locs1 → post ra → decode cc pc1 = .ok (.areturn, 1) → W p l e rm s m args below meth c H1 locs1 0 0 Q (F0 m pc1 ls1 [.ref ra])) →
      W p l e rm s m args below meth c H [] 0 0 Q (F0 m 0 ls [])) : CR l G y (Cond.code y cc nL (some ty) :: wsG) rm As w post := by
  refine fun sz => Met.ofW (cc := cc) (maxL := nL) (ret := some ty) hy rfl ?_
  intro p e s m args below meth c s₁ B hml hv
  obtain ⟨rfl, hsz, hX, hP, hK, hD0⟩ := hv
  subst hsz
  subst ho
  rw [lg_entry_eq]
  have C : Cx p s m As.toArray meth c y.cls cc nL (Cond.code y cc nL (some ty)) G (va_A w s.heap.size) (some ty) := ⟨⟨B.exec, B.bytes, hml, findClass_of_methodNamed B.named, atoms_spec (ws := Cond.code y cc nL (some ty) :: wsG) B.pre⟩, hK, hX, B.returns, B.notSynchronized, fun q h => Or.inr h⟩
  refine body p e s m As.toArray below meth c (va_A w s.heap.size) s.heap _ _ C ⟨hP, hD0.self⟩ va_S.rf (lv_entry As hlen) (fun ra H1 locs1 ls1 pc1 hW hS hv hd => ?_)
  exact W.aret (rt := ty) C.1.1 C.1.2.1 C.2.2.2.1 (Or.inl ⟨cls, hty⟩) (Or.inr ⟨ra, rfl⟩) (fun t ht _ => ⟨⟨(), ra, rfl, trivial, hv, by rw [ht]; exact hW.1⟩, hS.F ht⟩) hS.2.2 hd C.2.2.2.2.1
theorem cv_intro {l : Launch} {G : Gt} {y : MethodName} {cc : ByteArray} {nL : Nat} {rm : Room} {As : List Value} {w : va_W} {S : Type} {w' : S → va_W} {post : S → Prop} {own : String} (hy : plainName y.cls = true) (ho : y.cls = own) (hf : ∀ u, (w' u).map Prod.fst = w.map Prod.fst) (hlen : (lg_sl As).length ≤ nL)
    (body : ∀ (p : Program) (e : Env) (s : State) (m : MethodId) (args : Array Value) (below : List Frame) (meth : Method) (c : Code) (A : Nat → Prop) (H : Heap) (ls : Array Slot) (Q : State → Prop), Cx p s m args meth c own cc nL (Cond.code y cc nL none) G A none → wo G A w H → va_S A s.heap H [] → lv_has ls nL (lv_args 0 As) →
      (∀ (u : S) (H1 : Heap) (locs1 : List Loc) (ls1 : Array Slot) (pc1 : Nat), wo G A (w' u) H1 → va_S A s.heap H1 locs1 → post u → decode cc pc1 = .ok (.return_, 1) → W p l e rm s m args below meth c H1 locs1 0 0 Q (F0 m pc1 ls1 [])) →
      W p l e rm s m args below meth c H [] 0 0 Q (F0 m 0 ls [])) : CV l G y (Cond.code y cc nL none :: wsG) rm As w w' post := by
  refine ⟨hf, fun sz => Met.ofW (cc := cc) (maxL := nL) (ret := none) hy rfl ?_⟩
  intro p e s m args below meth c s₁ B hml hv
  obtain ⟨rfl, hsz, hX, hP, hK, hD0⟩ := hv
  subst hsz
  subst ho
  rw [lg_entry_eq]
  have C : Cx p s m As.toArray meth c y.cls cc nL (Cond.code y cc nL none) G (va_A w s.heap.size) none := ⟨⟨B.exec, B.bytes, hml, findClass_of_methodNamed B.named, atoms_spec (ws := Cond.code y cc nL none :: wsG) B.pre⟩, hK, hX, B.returns, B.notSynchronized, fun q h => Or.inr h⟩
  exact body p e s m As.toArray below meth c (va_A w s.heap.size) s.heap _ _ C ⟨hP, hD0.self⟩ va_S.rf (lv_entry As hlen) (fun u H1 locs1 ls1 pc1 hW hS hv hd => q_vret C u hW hS hv hd)
