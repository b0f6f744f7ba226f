/-! constructors -/
abbrev rmc (f o k n : Nat) : Room := { frames := f, cells := k, slots := n, locals := o }
def CN (l : Launch) (G : Gt) (y : MethodName) (ws : List Cond) (rm : Room) (mc ms : Nat) (As : List Value) (w : va_W) (w' : (Nat → Nat) → va_W) (post : (Nat → Nat) → Prop) : Prop :=
  (rm.cells = mc ∧ rm.slots = ms) ∧ ∀ sz : Nat, Met l y ws rm (Pt0 G As w sz) (va_Qv post (fun ad t => va_P G.1 GB_cl (w' ad) t.heap ∧ va_D (va_A w sz) (w' ad)) (va_A w sz)) mc ms (va_A w sz)
theorem cn_intro {l : Launch} {G : Gt} {y : MethodName} {cc : ByteArray} {nL mc ms : Nat} {rm : Room} {As : List Value} {w : va_W} {w' : (Nat → Nat) → va_W} {post : (Nat → Nat) → Prop} {own : String} (hy : plainName y.cls = true) (ho : y.cls = own) (hnm : y.name = "<init>") (hrm : rm.cells = mc ∧ rm.slots = ms) (hlen : (lg_sl As).length ≤ nL)
    (body : ∀ (p : Program) (e : Env) (s : State) (m : MethodId) (args : Array Value) (below : List Frame) (meth : Method) (c : Code) (A : Nat → Prop) (H : Heap) (ls : Array Slot) (Q : State → Prop), Cx p s m args meth c own cc nL (Cond.code y cc nL none) G A none → meth.name = "<init>" → wo G A w H → va_S A s.heap H [] → lv_has ls nL (lv_args 0 As) →
      (∀ (ad : Nat → Nat) (H1 : Heap) (locs1 : List Loc) (ls1 : Array Slot) (pc1 : Nat), wo G A (w' ad) H1 → va_S A s.heap H1 locs1 → post ad → decode cc pc1 = .ok (.return_, 1) → W p l e rm s m args below meth c H1 locs1 mc ms Q (F0 m pc1 ls1 [])) →
      W p l e rm s m args below meth c H [] 0 0 Q (F0 m 0 ls [])) : CN l G y (Cond.code y cc nL none :: wsG) rm mc ms As w w' post := by
  refine ⟨hrm, fun sz => Met.ofW (cc := cc) (maxL := nL) (ret := none) hy rfl ?_⟩
  intro p e s m args below meth c s₁ B hml hv
  obtain ⟨rfl, hsz, hX, hP, hK, hD0⟩ := hv
  subst hsz
  subst ho
  rw [lg_entry_eq]
  have C : Cx p s m As.toArray meth c y.cls cc nL (Cond.code y cc nL none) G (va_A w s.heap.size) none := ⟨⟨B.exec, B.bytes, hml, findClass_of_methodNamed B.named, atoms_spec (ws := Cond.code y cc nL none :: wsG) B.pre⟩, hK, hX, B.returns, B.notSynchronized, fun q h => Or.inr h⟩
  refine body p e s m As.toArray below meth c (va_A w s.heap.size) s.heap _ _ C ((name_of_methodNamed B.named B.method).1.trans hnm) ⟨hP, hD0.self⟩ va_S.rf (lv_entry As hlen) (fun ad H1 locs1 ls1 pc1 hW hS hv hd => ?_)
  exact W.vret C.1.1 C.1.2.1 C.2.2.2.1 (fun t ht _ => ⟨⟨ad, rfl, hv, by rw [ht]; exact hW.1, hW.2⟩, hS.F ht⟩) hS.2.2 hd C.2.2.2.2.1
theorem wo.sub {G : Gt} {A : Nat → Prop} {ws ws' : va_W} {H : Heap} (h : wo G A ws H) (is : List Nat) (hn : va_nd is = true) (hs : is.map (fun i => ws[i]?) = ws'.map some) : wo G A ws' H := by
  refine ⟨fun k q hk => ?_, h.2.sub is hn hs⟩
  obtain ⟨i, -, hi⟩ := cut_at hs hk
  exact h.1 i q hi
section QI
variable {p : Program} {l : Launch} {e : Env} {R : Room} {s : State} {m : MethodId} {args : Array Value} {below : List Frame} {meth : Method} {c : Code} {H : Heap} {locs : List Loc} {cells slots : Nat} {Q : State → Prop}
variable {own : String} {cc : ByteArray} {nL : Nat} {c0 : Cond} {G : Gt} {A : Nat → Prop} {rt : Option FieldType} {pc : Nat} {ls : Array Slot} {rest : List Value} {ws : va_W} {a : Nat}
theorem q_obj (C : Cx p s m args meth c own cc nL c0 G A rt) {idx : Nat} (h1 : Cond.methodLink own idx objectInit ∈ wsG) (hsz : ls.size = nL) (hd : decode cc pc = .ok (.invokespecial idx, 3)) (hf : 1 ≤ R.frames) (ho : 2 * 0 + (rest.map fun v => v.category).sum + 12 ≤ R.locals)
    (kk : W p l e R s m args below meth c H locs cells slots Q (F0 m (pc + 3) ls rest)) : W p l e R s m args below meth c H locs cells slots Q (F0 m pc ls (.ref a :: rest)) :=
  W.objInit C.1.1 C.1.2.1 C.1.2.2.2.1 (C.hts h1) (C.hts im_obj) (C.hts cd_obj) rfl (by rw [C.1.2.2.1]; exact hsz) rfl hd hf ho kk
theorem q_newI (C : Cx p s m args meth c own cc nL c0 G A rt) (hW : wo G A ws H) (hS : va_S A s.heap H locs) {n : Int32} {N' : Nat} (hn : ¬ n < 0) (hN : n.toNatClampNeg = N') (hbytes : N' * componentBytes .int ≤ 536870912) (hcells : cells + 1 ≤ R.cells) (hslots : slots + N' ≤ R.slots) (hdg : decode cc pc = .ok (.newarray .int, 2))
    (kk : ∀ (q : Nat) (H1 : Heap), wo G A (ws ++ [(q, .inl (G.2.1, N', .inl (fun _ => 0)))]) H1 → va_S A s.heap H1 locs → W p l e R s m args below meth c H1 locs (cells + 1) (slots + N') Q (F0 m (pc + 2) ls (.ref q :: rest))) : W p l e R s m args below meth c H locs cells slots Q (F0 m pc ls (.int n :: rest)) := by
  refine va_newa (D := G.1) (cl := GB_cl) (tys := tyG G) (atype := .int) (ty := .int) (a0 := (N', .inl (fun _ => 0))) C.1.1 C.1.2.1 (C.hts ac_int) rfl C.2.1 hW.1 hW.2 hS C.2.2.2.2.2 (fun _ => rfl) hn hN hbytes hcells hslots hdg (fun q cA H1 hK hP hD hS1 => ?_)
  have e : cA = G.2.1 := Option.some.inj ((hK.2 3 (cA, .int) rfl).2.symm.trans (C.2.1.2 0 (G.2.1, .int) rfl).2)
  subst e
  exact kk q H1 ⟨hP, hD⟩ hS1
theorem q_newB (C : Cx p s m args meth c own cc nL c0 G A rt) (hW : wo G A ws H) (hS : va_S A s.heap H locs) {n : Int32} {N' : Nat} (hn : ¬ n < 0) (hN : n.toNatClampNeg = N') (hbytes : N' * componentBytes .byte ≤ 536870912) (hcells : cells + 1 ≤ R.cells) (hslots : slots + N' ≤ R.slots) (hdg : decode cc pc = .ok (.newarray .byte, 2))
    (kk : ∀ (q : Nat) (H1 : Heap), wo G A (ws ++ [(q, .inl (G.2.2.1, N', .inl (fun _ => 0)))]) H1 → va_S A s.heap H1 locs → W p l e R s m args below meth c H1 locs (cells + 1) (slots + N') Q (F0 m (pc + 2) ls (.ref q :: rest))) : W p l e R s m args below meth c H locs cells slots Q (F0 m pc ls (.int n :: rest)) := by
  refine va_newa (D := G.1) (cl := GB_cl) (tys := tyG G) (atype := .byte) (ty := .byte) (a0 := (N', .inl (fun _ => 0))) C.1.1 C.1.2.1 (C.hts ac_byte) rfl C.2.1 hW.1 hW.2 hS C.2.2.2.2.2 (fun _ => rfl) hn hN hbytes hcells hslots hdg (fun q cA H1 hK hP hD hS1 => ?_)
  have e : cA = G.2.2.1 := Option.some.inj ((hK.2 3 (cA, .byte) rfl).2.symm.trans (C.2.1.2 1 (G.2.2.1, .byte) rfl).2)
  subst e
  exact kk q H1 ⟨hP, hD⟩ hS1
theorem q_newQ (C : Cx p s m args meth c own cc nL c0 G A rt) (hW : wo G A ws H) (hS : va_S A s.heap H locs) {index : Nat} (hcl : Cond.classLink own index RX2 ∈ wsG) {n : Int32} {N' : Nat} (hn : ¬ n < 0) (hN : n.toNatClampNeg = N') (hbytes : N' * 4 ≤ 536870912) (hcells : cells + 1 ≤ R.cells) (hslots : slots + N' ≤ R.slots) (hdg : decode cc pc = .ok (.anewarray index, 3))
    (kk : ∀ (q : Nat) (H1 : Heap), wo G A (ws ++ [(q, .inl (G.2.2.2.1, N', .inr (.inr (.inr (.inr (fun _ => none))))))]) H1 → va_S A s.heap H1 locs → W p l e R s m args below meth c H1 locs (cells + 1) (slots + N') Q (F0 m (pc + 3) ls (.ref q :: rest))) : W p l e R s m args below meth c H locs cells slots Q (F0 m pc ls (.int n :: rest)) := by
  refine va_newq (D := G.1) (cl := GB_cl) (tys := tyG G) (C := RX2) C.1.1 C.1.2.1 C.1.2.2.2.1 (C.hts hcl) C.2.2.1.2.2.2.2 C.2.1 hW.1 hW.2 hS C.2.2.2.2.2 hn hN hbytes hcells hslots hdg (fun q cA H1 hK hP hD hS1 => ?_)
  obtain ⟨-, -, -, -, -, h1⟩ := (hK.2 3 (cA, .object RX2) rfl).2
  obtain ⟨-, -, -, -, -, h2⟩ := (C.2.1.2 2 (G.2.2.2.1, .object RX2) rfl).2
  have e : cA = G.2.2.2.1 := Option.some.inj (h1.symm.trans h2)
  subst e
  exact kk q H1 ⟨hP, hD⟩ hS1
theorem q_new (C : Cx p s m args meth c own cc nL c0 G A rt) {ci N : Nat} {Rn : String} {T : u_T} {ty : Nat → FieldType} (hc : KC ci Rn T N ty) {index : Nat} (hcl : Cond.classLink own index Rn ∈ wsG) (hin : Cond.instantiable Rn N ∈ wsG) (hini : Cond.initialized Rn ∈ wsG) (hW : wo G A ws H) (hS : va_S A s.heap H locs) {fs : List Value} (hfs : ∀ j, j < N → defaultValue (ty j) = vp_V fs j) (hcells : cells + 1 ≤ R.cells) (hslots : slots + N ≤ R.slots) (hdg : decode cc pc = .ok (.new index, 3))
    (kk : ∀ (q : Nat) (H1 : Heap), wo G A (ws ++ [(q, .inr (ci, fs))]) H1 → va_S A s.heap H1 locs → W p l e R s m args below meth c H1 locs (cells + 1) (slots + N) Q (F0 m (pc + 3) ls (.ref q :: rest))) : W p l e R s m args below meth c H locs cells slots Q (F0 m pc ls rest) :=
  va_new (D := G.1) (cl := GB_cl) (tys := tyG G) (ci := ci) (C := Rn) (T := T) (N := N) C.1.1 C.1.2.1 C.1.2.2.2.2 (fun w h => List.mem_cons_of_mem _ (hc.1 w h)) ty hc.2.2.1 C.1.2.2.2.1 (C.hts hcl) (C.hts hin) (C.hts hini) C.2.1 hW.1 hW.2 hS C.2.2.2.2.2 hc.2.1 hfs hcells hslots hdg (fun q H1 h1 h2 h3 => kk q H1 ⟨h1, h2⟩ h3)
theorem q_putF (C : Cx p s m args meth c own cc nL c0 G A rt) (hi : meth.name = "<init>") {ci N : Nat} {Rn : String} {T : u_T} {ty : Nat → FieldType} (hc : KC ci Rn T N ty) (hW : wo G A ws H) (hS : va_S A s.heap H locs) (q0 : Nat) {fs : List Value} (he : ws[q0]? = some (a, .inr (ci, fs))) (k : Nat) (hk : k < N) {ref : String} {index : Nat}
    (hl : Cond.fieldLink own index ref (T k).2.1 (T k).2.2.1 ∈ wsG) (hr : (T k).1 = ref) (hfin : (T k).2.2.2 = true) (hdecl : (T k).1 = own) {v : Value} (hn : narrow (ty k) v = v) (hfit : fits (ty k) v = true) (hlen : k < fs.length) (hdg : decode cc pc = .ok (.putfield index, 3))
    (kk : ∀ (H1 : Heap) (locs1 : List Loc), wo G A (ws.set q0 (a, .inr (ci, fs.set k v))) H1 → va_S A s.heap H1 locs1 → W p l e R s m args below meth c H1 locs1 cells slots Q (F0 m (pc + 3) ls rest)) : W p l e R s m args below meth c H locs cells slots Q (F0 m pc ls (v :: .ref a :: rest)) :=
  va_putF (D := G.1) (cl := GB_cl) (ci := ci) (C := Rn) (T := T) (N := N) C.1.1 C.1.2.1 C.1.2.2.2.2 (fun w h => List.mem_cons_of_mem _ (hc.1 w h)) ty hc.2.2.1 hc.2.2.2 C.1.2.2.2.1 C.2.1 hW.1 hW.2 hS q0 he hc.2.1 k hk (C.hts hl) (fun _ h => hr ▸ h) hfin hi hdecl (hc.2.2.1 k hk) hn hfit hlen hdg (fun H1 l1 h1 h2 h3 => kk H1 l1 ⟨h1, h2⟩ h3)
theorem q_aast (C : Cx p s m args meth c own cc nL c0 G A rt) (hW : wo G A ws H) (hS : va_S A s.heap H locs) (q0 qk : Nat) {n v : Nat} {vs : List Value} {f : Nat → Option Nat} (ha : ws[q0]? = some (a, .inl (G.2.2.2.1, n, .inr (.inr (.inr (.inr f)))))) (hv : ws[qk]? = some (v, .inr (2, vs))) {i : Int32} (hin : vp_in i n) (hdg : decode cc pc = .ok (.aastore, 1))
    (kk : ∀ (H1 : Heap) (locs1 : List Loc), wo G A (ws.set q0 (a, .inl (G.2.2.2.1, n, .inr (.inr (.inr (.inr (va_up f i.toNatClampNeg (some v)))))))) H1 → va_S A s.heap H1 locs1 → W p l e R s m args below meth c H1 locs1 cells slots Q (F0 m (pc + 1) ls rest)) : W p l e R s m args below meth c H locs cells slots Q (F0 m pc ls (.ref v :: .int i :: .ref a :: rest)) :=
  va_astq (D := G.1) (cl := GB_cl) (tys := tyG G) C.1.1 C.1.2.1 C.2.1 hW.1 hW.2 hS q0 2 qk 2 (r := (RX2, TX2, 3)) ha rfl hv rfl hin hdg (fun H1 l1 h1 h2 h3 => kk H1 l1 ⟨h1, h2⟩ h3)
variable {y : MethodName} {by1 : ByteArray} {nA index n mc ms : Nat} {rm : Room} {As : List Value} {wc wr : va_W} {w' : (Nat → Nat) → va_W}
theorem q_ctor (C : Cx p s m args meth c own cc nL c0 G A rt) {post : (Nat → Nat) → Prop} (hM : CN l G y (Cond.code y by1 nA none :: wsG) rm mc ms (.ref a :: As) wc w' post)
    (h1 : Cond.methodLink own index y ∈ wsG) (h2 : Cond.instanceMethod y ∈ wsG) (h4 : Cond.initialized y.cls ∈ wsG) (h5 : Cond.code y by1 nA none ∈ wsG) (hnm : y.name = "<init>")
    (hy : y.cls ≠ "java/lang/invoke/MethodHandle" ∧ y.cls ≠ "java/lang/invoke/VarHandle" ∧ (parseMethodDescriptor y.desc).map (fun d => d.parameters.length) = some n) (hn : As.length = n) (hR : rm.frames + 1 ≤ R.frames ∧ 8 + (nA + 11) + rm.locals ≤ R.locals)
    (hW : wo G A ws H) (hS : va_S A s.heap H locs) (isC isR : List Nat) (hnd : va_nd isC = true) (hC : isC.map (fun i => ws[i]?) = wc.map some) (hndR : va_nd isR = true) (hRr : isR.map (fun i => ws[i]?) = wr.map some) (hdis : ∀ i ∈ isR, i ∉ isC)
    (hsz : ls.size = nL) {st : List Value} (hst : st = As.reverse ++ .ref a :: rest) (hroom : (rest.map fun v => v.category).sum ≤ 8) (hdg : decode cc pc = .ok (.invokespecial index, 3)) (hcs : cells + mc ≤ R.cells ∧ slots + ms ≤ R.slots)
    (kk : ∀ (ad : Nat → Nat) (H1 : Heap) (locs1 : List Loc), post ad → wo G A (wr ++ w' ad) H1 → va_S A s.heap H1 locs1 → W p l e R s m args below meth c H1 locs1 (cells + mc) (slots + ms) Q (F0 m (pc + 3) ls rest)) : W p l e R s m args below meth c H locs cells slots Q (F0 m pc ls st) := by
  have hF := va_free hW.2 hS C.2.2.2.2.2 isC hC
  subst hst
  refine va_callv (va_runI (rest := rest) C.1 (hM.2 H.size) (cwI n C.1.2.2.2.2 (good_N h5) rfl hM.1.1 hM.1.2 (C.hts h4) (C.hts h1) (C.hts h2) hnm hy hR) ⟨Pt0.blind, fun U hU hWm => pt_of C hW hS isC hnd hC (.ref a :: As) hU hWm⟩ rfl hn hsz rfl (lv_room hroom) hdg hcs) hS (fun q _ h => hF q h) hF (fun ad t H1 locs1 ht hvm hw hB hz hk hS1 => ?_)
  obtain ⟨hB1, hB2⟩ := hB
  rw [ht] at hB1
  exact kk ad H1 locs1 hw (va_join hW.1 hW.2 isC isR hC hRr hndR hdis hk hF hB1 hB2) hS1
theorem q_ctorN (C : Cx p s m args meth c own cc nL c0 G A rt) {post : (Nat → Nat) → Prop} {host : String} (hM : CN l G y (Cond.code y by1 nA none :: wsG) rm mc ms (.ref a :: As) wc w' post)
    (h1 : Cond.methodLinkNest own index y host ∈ nsL) (h2 : Cond.instanceMethod y ∈ wsG) (h4 : Cond.initialized y.cls ∈ wsG) (h5 : Cond.code y by1 nA none ∈ wsG) (hnm : y.name = "<init>")
    (hy : y.cls ≠ "java/lang/invoke/MethodHandle" ∧ y.cls ≠ "java/lang/invoke/VarHandle" ∧ (parseMethodDescriptor y.desc).map (fun d => d.parameters.length) = some n) (hn : As.length = n) (hR : rm.frames + 1 ≤ R.frames ∧ 8 + (nA + 11) + rm.locals ≤ R.locals)
    (hW : wo G A ws H) (hS : va_S A s.heap H locs) (isC isR : List Nat) (hnd : va_nd isC = true) (hC : isC.map (fun i => ws[i]?) = wc.map some) (hndR : va_nd isR = true) (hRr : isR.map (fun i => ws[i]?) = wr.map some) (hdis : ∀ i ∈ isR, i ∉ isC)
    (hsz : ls.size = nL) {st : List Value} (hst : st = As.reverse ++ .ref a :: rest) (hroom : (rest.map fun v => v.category).sum ≤ 8) (hdg : decode cc pc = .ok (.invokespecial index, 3)) (hcs : cells + mc ≤ R.cells ∧ slots + ms ≤ R.slots)
    (kk : ∀ (ad : Nat → Nat) (H1 : Heap) (locs1 : List Loc), post ad → wo G A (wr ++ w' ad) H1 → va_S A s.heap H1 locs1 → W p l e R s m args below meth c H1 locs1 (cells + mc) (slots + ms) Q (F0 m (pc + 3) ls rest)) : W p l e R s m args below meth c H locs cells slots Q (F0 m pc ls st) := by
  have hF := va_free hW.2 hS C.2.2.2.2.2 isC hC
  subst hst
  refine va_callv (va_runIN (rest := rest) C.1 (hM.2 H.size) ⟨va_cnB n C.1.2.2.2.2 (good_N h5) rfl hM.1.1 hM.1.2 (C.2.2.1.1 _ h1) (C.hts h4) hy hR, hnm, C.hts h2⟩ ⟨Pt0.blind, fun U hU hWm => pt_of C hW hS isC hnd hC (.ref a :: As) hU hWm⟩ rfl hn hsz rfl (lv_room hroom) hdg hcs) hS (fun q _ h => hF q h) hF (fun ad t H1 locs1 ht hvm hw hB hz hk hS1 => ?_)
  obtain ⟨hB1, hB2⟩ := hB
  rw [ht] at hB1
  exact kk ad H1 locs1 hw (va_join hW.1 hW.2 isC isR hC hRr hndR hdis hk hF hB1 hB2) hS1
end QI
