/-! ===== calls of members that throw; the law's own static members ===== -/
section L0
variable {l : Launch} {R : Room} {p : Program} {e : Env} {below : List Frame} {s : State} {sargs : Array Value} {y : MethodName} {len W : Nat}
def PostT (X : String) (mc ms : Nat) : Pt → Array Value → Addr → Pt → Prop := fun A a x B => ∃ (g : JFrame) (mk : MethodId) (t : State), B.U.heap = t.heap ∧ B.U.vm = t.vm ∧ QX X (A.U.calling g mk a) x t ∧ B.locs = A.locs ∧ B.cells = A.cells + mc ∧ B.slots = A.slots + ms
theorem backT_of {ws : List Cond} {rm : Room} {Pc : Array Value → State → Prop} {X : String} {mc ms : Nat} {bytes : ByteArray} {maxL : Nat} {ret : Option FieldType}
    (hM : MetT l y ws rm Pc X mc ms) (hblind : FrameBlind Pc) (hrc : rm.cells = mc) (hrs : rm.slots = ms)
    (hframes : rm.frames + 1 ≤ R.frames) (hlocals : W + (maxL + 11) + rm.locals ≤ R.locals)
    (hws : ∀ w ∈ ws, ∀ a' U, s.WarmedH U.vm → w.before a' U = true) (hcode : Cond.code y bytes maxL ret ∈ ws) (hinit : ∀ a' U, s.WarmedH U.vm → (Cond.initialized y.cls).before a' U = true) :
    BackT l R p e below s sargs y len W (PreOf R mc ms Pc) (PostT X mc ms) := by
  refine BackT.of_free (S := headSpec ws rm) (P := Pc) (K := fun _ _ _ _ _ => True) (Q := fun _ st o t => QcT X st o t ∧ FrameEndT st o t [] mc ms) (bytes := bytes) (maxL := maxL) (ret := ret)
    (E := fun _ _ _ _ L k n => L = [] ∧ k = mc ∧ n = ms) hM hframes hlocals ?_ ?_ (fun _ _ _ _ _ _ _ _ _ => trivial) ?_ ?_
  · intro m meth c A a X hp
    exact ⟨atoms_intro fun w hw => hws w hw _ _ X.warmed, hws _ hcode _ _ X.warmed, hinit _ _ X.warmed, by rw [show (headSpec ws rm).room.cells = mc from hrc]; exact hp.1, by rw [show (headSpec ws rm).room.slots = ms from hrs]; exact hp.2.1⟩
  · intro m meth c A a g mk X hp
    exact hblind _ _ _ _ hp.2.2
  · intro a st o t ⟨hq, hF⟩
    exact ⟨[], mc, ms, hF, rfl, rfl, rfl⟩
  · intro m meth c A a g mk v t L k n X' hp hq hF ⟨e1, e2, e3⟩
    subst e1; subst e2; subst e3
    obtain ⟨⟨a', ha', hq⟩, -⟩ := hq
    cases ha'
    exact ⟨g, mk, t, rfl, rfl, hq, List.append_nil _, rfl, rfl⟩
theorem back_ofX {hs : List (Nat × Nat × Nat × Nat)} {ws : List Cond} {rm : Room} {Pc : Array Value → State → Prop} {Qc : Array Value → State → Outcome → State → Prop} {mc ms : Nat} {free : Addr → Prop} {bytes : ByteArray} {maxL : Nat} {ret : Option FieldType}
    (hM : Met l y ws rm Pc Qc mc ms free) (hblind : FrameBlind Pc) (hrc : rm.cells = mc) (hrs : rm.slots = ms)
    (hframes : rm.frames + 1 ≤ R.frames) (hlocals : W + (maxL + 11) + rm.locals ≤ R.locals)
    (hws : ∀ w ∈ ws, ∀ a' U, s.WarmedH U.vm → w.before a' U = true) (hcode : Cond.codeWith y bytes maxL ret hs ∈ ws) (hinit : ∀ a' U, s.WarmedH U.vm → (Cond.initialized y.cls).before a' U = true) :
    Back l R p e below s sargs y len W (PreOf R mc ms Pc) (PostOf Qc mc ms free) := by
  refine Back.of_freeWith (handlers := hs) (S := headSpec ws rm) (P := Pc) (K := fun _ _ _ _ _ => True) (Q := fun a st o t => Qc a st o t ∧ ∃ L, FrameEnd st o t L mc ms ∧ ∀ q ∈ L, free q.base) (bytes := bytes) (maxL := maxL) (ret := ret)
    (E := fun a st o t L k n => k = mc ∧ n = ms ∧ ∀ q ∈ L, free q.base) hM hframes hlocals ?_ ?_ (fun _ _ _ _ _ _ _ _ _ => trivial) ?_ ?_
  · intro m meth c A a X hp
    exact ⟨atoms_intro fun w hw => hws w hw _ _ X.warmed, hws _ hcode _ _ X.warmed, hinit _ _ X.warmed, by rw [show (headSpec ws rm).room.cells = mc from hrc]; exact hp.1, by rw [show (headSpec ws rm).room.slots = ms from hrs]; exact hp.2.1⟩
  · intro m meth c A a g mk X hp
    exact hblind _ _ _ _ hp.2.2
  · intro a st o t ⟨hq, L, hF, hL⟩
    exact ⟨L, mc, ms, hF, rfl, rfl, hL⟩
  · intro m meth c A a g mk v t L k n X hp hq hF ⟨e1, e2, hL⟩
    subst e1; subst e2
    exact ⟨g, mk, t, L, rfl, rfl, hq.1, rfl, hL, rfl, rfl⟩
end L0
section L1
variable {p : Program} {l : Launch} {e : Env} {R : Room} {s : State} {m : MethodId} {args : Array Value} {below : List Frame} {meth : Method} {c : Code} {T : State} {locs : List Loc} {cells slots : Nat}
theorem callVT (X : Stand p l e R s m args below meth c T locs cells slots) (hexec : p.tables.exec = Jvm.exec) {own C : String} {index : Nat} {y : MethodName} {bytes : ByteArray} {maxL : Nat} {ret : Option FieldType}
    (hown : s.vm.findClass own = some m.cls) (hlink : (Cond.methodLink own index y).before args s = true) (hinst : (Cond.instanceMethod y).before args s = true) (hsel : (Cond.selects C y y).before args s = true)
    (hcode : (Cond.code y bytes maxL ret).before args s = true) (hy : y.cls ≠ "java/lang/invoke/MethodHandle" ∧ y.cls ≠ "java/lang/invoke/VarHandle")
    {W : Nat} {Pre : Pt → Array Value → Prop} {Post : Pt → Array Value → Addr → Pt → Prop} (hK : BackT l R p e below s args y 3 W Pre Post)
    {b : Addr} {cellB : Cell} (hcell : T.heap[b]? = some cellB) (hobj : cellB.vm.isStatics = false) (hcls : s.vm.findClass C = some cellB.cls)
    {g : JFrame} (hg : g.method = m) (hsize : g.locals.size = c.maxLocals) {argsL rest : List Value} (hlen : ∀ sig, parseMethodDescriptor y.desc = some sig → argsL.length = sig.parameters.length)
    (hstack : g.stack = argsL.reverse ++ .ref b :: rest) (hW : 2 * g.monitorRoom + (rest.map fun v => v.category).sum ≤ W) (hdg : decode c.code g.pc = .ok (.invokevirtual index, 3))
    (hpre : ∀ vm₁, s.WarmedH vm₁ → Pre ⟨T.setVm vm₁, locs, cells, slots⟩ (Value.ref b :: argsL).toArray) :
    ∃ (v : Addr) (vm₁ : Vm) (B : Pt), s.WarmedH vm₁ ∧ Stand p l e R s m args below meth c B.U B.locs B.cells B.slots ∧ Post ⟨T.setVm vm₁, locs, cells, slots⟩ (Value.ref b :: argsL).toArray v B ∧
      Steps p.tables e below (T.setTop g) ((B.U.setTop { g with stack := rest }).pushFrame (.throwing v)) := by
  obtain ⟨mk, methM, hnamed, hmethM, hstM, habM⟩ := Cond.instanceMethod_spec hinst
  obtain ⟨methM', cM, hmethM', -, -, -, -, -, -, hsigM⟩ := Cond.code_spec hnamed hcode
  cases hmethM.symm.trans hmethM'
  obtain ⟨c2, r2, m2, q1, q2, q3, q4, kP, hkP, hkPi⟩ := Cond.selects_spec hsel
  cases hcls.symm.trans q1
  cases (State.methodFound?_of_named hnamed hy).symm.trans q2
  cases hnamed.symm.trans q3
  have hselP : selectMethod e.platform s.vm cellB.cls mk = .method mk := by rw [Launch.admits_selectMethod X.admits]; exact q4
  obtain ⟨vm₁, X₁, hstep₁⟩ := X.invokevirtual hexec hown hlink hnamed hmethM hstM hkP hkPi hy (a := b) (cell := cellB) hcell
    (fun z h => by rw [h] at hobj; cases hobj) hselP hmethM habM hkP hkPi (g := g) hg (argsL := argsL) (rest := rest) (hlen _ hsigM) hstack hdg
  obtain ⟨v, B, X', hpost, hsteps⟩ := hK m meth c ⟨T.setVm vm₁, locs, cells, slots⟩ { g with stack := rest } (.invokevirtual index) mk (Value.ref b :: argsL).toArray X₁ hg hsize hdg hW (X₁.named hnamed) (hpre vm₁ X₁.warmed)
  exact ⟨v, vm₁, B, X₁.warmed, X', hpost, (hstep₁ _ fun acts => by rw [doInvoke_state]; exact Steps.refl _).trans hsteps⟩
theorem callSX (X : Stand p l e R s m args below meth c T locs cells slots) (hexec : p.tables.exec = Jvm.exec) {hs : List (Nat × Nat × Nat × Nat)} {own : String} {index : Nat} {y : MethodName} {bytes : ByteArray} {maxL : Nat} {ret : Option FieldType}
    (hown : s.vm.findClass own = some m.cls) (hlink : (Cond.methodLink own index y).before args s = true) (hstat : (Cond.static y).before args s = true) (hinit : (Cond.initialized y.cls).before args s = true)
    (hcode : (Cond.codeWith y bytes maxL ret hs).before args s = true) (hy : y.cls ≠ "java/lang/invoke/MethodHandle" ∧ y.cls ≠ "java/lang/invoke/VarHandle")
    {W : Nat} {Pre : Pt → Array Value → Prop} {Post : Pt → Array Value → Option Value → Pt → Prop} (hK : Back l R p e below s args y 3 W Pre Post)
    {g : JFrame} (hg : g.method = m) (hsize : g.locals.size = c.maxLocals) {argsL rest : List Value} (hlen : ∀ sig, parseMethodDescriptor y.desc = some sig → argsL.length = sig.parameters.length)
    (hstack : g.stack = argsL.reverse ++ rest) (hW : 2 * g.monitorRoom + (rest.map fun v => v.category).sum ≤ W) (hdg : decode c.code g.pc = .ok (.invokestatic index, 3))
    (hpre : ∀ vm₁, s.WarmedH vm₁ → Pre ⟨T.setVm vm₁, locs, cells, slots⟩ argsL.toArray) :
    ∃ (v : Option Value) (vm₁ : Vm) (B : Pt), s.WarmedH vm₁ ∧ Stand p l e R s m args below meth c B.U B.locs B.cells B.slots ∧ Post ⟨T.setVm vm₁, locs, cells, slots⟩ argsL.toArray v B ∧
      ∀ target, Steps p.tables e below (B.U.setTop { g with pc := g.pc + 3, stack := v.toList ++ rest }) target → Steps p.tables e below (T.setTop g) target := by
  obtain ⟨mk, methM, cM, hnamed, hmethM, -, -, -, -, -, -, hsigM⟩ := Cond.codeWith_spec hcode
  have hstatic : methM.isStatic = true := Cond.static_spec hnamed hmethM hstat
  obtain ⟨kP, hkP, -⟩ := className_of_methodNamed hnamed
  have hinitP : kP.init = .initialized := Cond.initialized_spec (findClass_of_methodNamed hnamed) hkP hinit
  obtain ⟨vm₁, X₁, hstep₁⟩ := X.invokestatic hexec hown hlink hnamed hmethM hstatic hkP hinitP hy (g := g) hg (argsL := argsL) (rest := rest) (hlen _ hsigM) hstack hdg
  obtain ⟨v, B, X', hpost, hsteps⟩ := hK m meth c ⟨T.setVm vm₁, locs, cells, slots⟩ { g with stack := rest } (.invokestatic index) mk argsL.toArray X₁ hg hsize hdg hW (X₁.named hnamed) (hpre vm₁ X₁.warmed)
  exact ⟨v, vm₁, B, X₁.warmed, X', hpost, fun target h => hstep₁ _ fun acts => by rw [doInvoke_state]; exact hsteps.trans h⟩
end L1
section L2
variable {p : Program} {l : Launch} {e : Env} {R : Room} {s : State} {m : MethodId} {args : Array Value} {below : List Frame} {meth : Method} {c : Code} {H : Heap} {locs : List Loc} {cells slots : Nat} {Q : State → Prop}
variable {cc : ByteArray} {pc nL : Nat} {ls : Array Slot} {rest st0 : List Value} {own : String} {ρ : RH} {w0 : Cond} {A A1 : Nat → Prop} {H0 : Heap}
variable {y : MethodName} {bytes : ByteArray} {maxL n index mc ms : Nat} {ret : Option FieldType} {rm : Room} {post : Option Value → Heap → Prop} {b : Nat} {As : List Value} {C : String}
theorem m_ofWX {hs : List (Nat × Nat × Nat × Nat)} {y : MethodName} {cb : ByteArray} {ml : Nat} {ret : Option FieldType} {rm : Room} {av : List Value} {H0 : Heap} {mc ms : Nat} (hy : plainFor y = true) (hc : y.cls = own) (hlen : (lg_sl av).length ≤ ml)
    (body : ∀ (p : Program) (e : Env) (s : State) (m : MethodId) (args : Array Value) (below : List Frame) (meth : Method) (c : Code) (ls : Array Slot), p.tables.exec = Jvm.exec → c.code = cb → meth.sig.returnType = ret → meth.locks = false → c.exceptionTable.toList.map (fun h => (h.startPc, h.endPc, h.handlerPc, h.catchType)) = hs → CX p s m c args own cb ml ρ (Cond.codeWith y cb ml ret hs) → s.heap = H0 → TX ρ H0 s → lv_has ls ml (lv_args 0 av) →
      W p l e rm s m args below meth c H0 [] 0 0 (MQ below (mQ post A) args s mc ms A) (F0 m 0 ls [])) :
    Met l y (Cond.codeWith y cb ml ret hs :: TG) rm (va_Pc av (KPT ρ H0)) (mQ post A) mc ms A := by
  refine MetFree.of_bodySF (code := cb) (maxLocals := ml) (ret := ret) hy ?_ ?_
  · intro args s m h hn
    obtain ⟨m', meth, c, hn', h1, h2, h3, h4, -, h5, h6, -⟩ := Cond.codeWith_spec (atoms_spec (ws := Cond.codeWith y cb ml ret hs :: TG) h _ List.mem_cons_self)
    cases hn.symm.trans hn'
    exact ⟨meth, c, h1, h2, h3, h4, h5, h6⟩
  · intro p e s m args below meth c s₁ B hml hv _
    obtain ⟨rfl, ⟨hs0, hK⟩, hT⟩ := hv
    have hh0 : s₁.heap = s.heap := by rw [B.state]; rfl
    have hl := lv_entry av (n := ml) hlen
    have hat := atoms_spec (ws := Cond.codeWith y cb ml ret hs :: TG) B.pre
    obtain ⟨m', meth', c', hn', h1, h2, -, -, h3, -, -, -⟩ := Cond.codeWith_spec (hat _ List.mem_cons_self)
    cases B.named.symm.trans hn'
    cases B.method.symm.trans h1
    cases (Stand.of_body B).code.symm.trans h2
    rw [lg_entry_eq]
    generalize (lg_sl av ++ List.replicate (ml - (lg_sl av).length) Slot.unset).toArray = ls at hl ⊢
    obtain ⟨t, a1, o, b1, b2, b3, b4⟩ := body p e s m av.toArray below meth c ls B.exec B.bytes B.returns B.notSynchronized h3 ⟨⟨B.exec, B.bytes, hml, hc ▸ findClass_of_methodNamed B.named, hat⟩, hK⟩ hs0 hT hl s₁ (hh0.trans hs0) (Stand.of_body B)
    exact ⟨t, o, a1, b1, b2, b3, b4⟩
/-- a call that throws, caught in the walked method -/
theorem k_catchV (X : CX p s m c args own cc nL ρ w0) (hS : va_S A H0 H locs) {XN : String} (hM : MetT l y (wsOf y bytes maxL ret) rm (va_Pc (.ref b :: As) (KPT ρ H)) XN mc ms) (hcode : Cond.code y bytes maxL ret ∈ TG) (hl : Cond.methodLink own index y ∈ TG) (hi : Cond.instanceMethod y ∈ TG) (hsel : Cond.selects C y y ∈ TG) (hini : Cond.initialized y.cls ∈ TG) (hd : KD y n) (hrm : KR R rm maxL mc ms) (hrc : Rcv s H b C) (hT : TX ρ H s) (hst : st0 = As.reverse ++ .ref b :: rest) (hn : As.length = n) (hsz : ls.size = nL) (hsum : (rest.map fun v => v.category).sum ≤ 8) (hdg : decode cc pc = .ok (.invokevirtual index, 3)) (hf : cells + mc ≤ R.cells ∧ slots + ms ≤ R.slots)
    (pre : List ExceptionTableEntry) (x : ExceptionTableEntry) (rs : List ExceptionTableEntry) (hsplit : c.exceptionTable.toList = pre ++ x :: rs) (hx : covers x pc = true)
    (hend : ∀ (T : State) (lo : List Loc) (c1 s1 : Nat), Stand p l e R s m args below meth c T lo c1 s1 → ∀ thrown : ClassId, s.vm.findClass XN = some thrown → (RowCatches e.platform s m.cls thrown x ∧ ∃ k, s.vm.classes[thrown]? = some k) ∧ ∀ y ∈ pre, RowPassed e.platform s m.cls pc thrown y)
    (kk : ∀ (a : Nat) (H1 : Heap), H.size ≤ H1.size → (∀ q : Nat, q < H.size → H1[q]? = H[q]?) → va_S A H0 H1 locs → W p l e R s m args below meth c H1 locs (cells + mc) (slots + ms) Q (F0 m x.handlerPc ls [.ref a])) : W p l e R s m args below meth c H locs cells slots Q (F0 m pc ls st0) := by
  subst hst
  intro T hTH Xs
  obtain ⟨hx0, hb, hml, ho, hts⟩ := X.1
  have hcb := callB_of (Ts := w0 :: TG) (R := R) (own := own) (index := index) (ws' := TG) n hts (goodTG (c0 := w0) hcode) rfl hrm.1 hrm.2.1 (X.ts hini) (X.ts hl) hd hrm.2.2
  obtain ⟨-, -, -, -, hws, hcw, hcode', hini', hy, hlen, hlk⟩ := hcb
  have hK : BackT l R p e below s args y 3 8 (PreOf R mc ms (va_Pc (.ref b :: As) (KPT ρ H))) (PostT XN mc ms) := backT_of (bytes := bytes) (maxL := maxL) (ret := ret) hM KPT.blind hrm.1 hrm.2.1 hrm.2.2.1 hrm.2.2.2 hws hcw (fun a' U hW => word_at hW (Or.inl (by first | rfl | simp [Cond.onTables, Cond.keeps, Cond.steady])) hini')
  obtain ⟨cellB, hcB, hoB, hclB⟩ := hrc
  obtain ⟨v, vm₁, ⟨U', l2, c2, s2⟩, hW₁, X', ⟨g', mk, t, e1, e2, hq, h1, h2, h3⟩, st⟩ := callVT Xs hx0 (C := C) (bytes := bytes) (maxL := maxL) (ret := ret) ho hlk (X.ts hi) (X.ts hsel) hcode' hy hK (b := b) (by rw [hTH]; exact hcB) hoB hclB (g := F0 m pc ls (As.reverse ++ .ref b :: rest)) rfl (hsz.trans hml.symm) (argsL := As) (rest := rest) (fun sig h => hn.trans (hlen sig h)) rfl (by simpa [JFrame.monitorRoom] using hsum) (by rw [hb]; exact hdg)
    (fun vm₁ hW₁ => ⟨hf.1, hf.2, KPT.of X.2 (hTH : (T.setVm vm₁).heap = H) hW₁ hT rfl rfl⟩)
  dsimp only [Pt.U, Pt.locs, Pt.cells, Pt.slots] at X' e1 e2 h1 h2 h3 st
  subst h1; subst h2; subst h3
  obtain ⟨hz, hq1, ce, hce, hcls, hvm⟩ := hq
  have hz : H.size ≤ U'.heap.size := by rw [e1, ← hTH]; exact hz
  have hq1 : ∀ q : Nat, q < H.size → U'.heap[q]? = H[q]? := fun q h => by rw [e1, ← hTH]; exact hq1 q (by show q < T.heap.size; rw [hTH]; exact h)
  have hcls' : s.vm.findClass XN = some ce.cls := by
    have := hW₁.alike.findClass XN none
    rw [← this]; exact hcls
  obtain ⟨⟨hct, hk⟩, hps⟩ := hend U' _ _ _ X' ce.cls hcls'
  obtain ⟨vm', XV, st2⟩ := X'.thenCaughtThrough v (g := { F0 m pc ls (As.reverse ++ .ref b :: rest) with stack := rest }) rfl st (cell := ce) (by rw [e1]; exact hce) (by rw [hvm]; rfl) hk pre x rs hsplit hps hx hct
  obtain ⟨t2, a1, b1⟩ := kk v U'.heap hz hq1 ⟨Nat.le_trans hS.1 hz, fun q h1 h2 => (hq1 q (Nat.lt_of_lt_of_le h1 hS.1)).trans (hS.2.1 q h1 h2), hS.2.2⟩ (U'.setVm vm') rfl XV
  exact ⟨t2, st2.trans a1, b1⟩
/-- a static member with handlers -/
theorem k_callSX {hs : List (Nat × Nat × Nat × Nat)} (X : CX p s m c args own cc nL ρ w0) (hS : va_S A H0 H locs) (hM : Met l y (Cond.codeWith y bytes maxL ret hs :: TG) rm (va_Pc As (KPT ρ H)) (mQ post A1) mc ms A1) (hcode : Cond.codeWith y bytes maxL ret hs ∈ TG) (hl : Cond.methodLink own index y ∈ TG) (hi : Cond.static y ∈ TG) (hini : Cond.initialized y.cls ∈ TG) (hd : KD y n) (hrm : KR R rm maxL mc ms) (hT : TX ρ H s) (hst : st0 = As.reverse ++ rest) (hn : As.length = n) (hsz : ls.size = nL) (hsum : (rest.map fun v => v.category).sum ≤ 8) (hdg : decode cc pc = .ok (.invokestatic index, 3)) (hf : cells + mc ≤ R.cells ∧ slots + ms ≤ R.slots) (hA : ∀ q, A1 q → A q)
    (kk : ∀ (v : Option Value) (H1 : Heap) (locs1 : List Loc), post v H1 → H.size ≤ H1.size → (∀ q : Nat, q < H.size → ¬ A1 q → H1[q]? = H[q]?) → va_S A H0 H1 locs1 → W p l e R s m args below meth c H1 locs1 (cells + mc) (slots + ms) Q (F0 m (pc + 3) ls (v.toList ++ rest))) : W p l e R s m args below meth c H locs cells slots Q (F0 m pc ls st0) := by
  subst hst
  refine k_go (a := As.toArray) ?_ hS hA kk
  intro T hTH Xs
  obtain ⟨hx0, hb, hml, ho, hts⟩ := X.1
  have hws : ∀ w ∈ Cond.codeWith y bytes maxL ret hs :: TG, ∀ (a' : Array Value) (U : State), s.WarmedH U.vm → w.before a' U = true := pay_in hts (goodTG (c0 := w0) hcode)
  have hini' : (Cond.initialized y.cls).before args s = true := X.ts hini
  have hK : Back l R p e below s args y 3 8 (PreOf R mc ms (va_Pc As (KPT ρ H))) (PostOf (mQ post A1) mc ms A1) := back_ofX (bytes := bytes) (maxL := maxL) (ret := ret) (hs := hs) hM KPT.blind hrm.1 hrm.2.1 hrm.2.2.1 hrm.2.2.2 hws List.mem_cons_self (fun a' U hW => word_at hW (Or.inl (by first | rfl | simp [Cond.onTables, Cond.keeps, Cond.steady])) hini')
  have hlen : ∀ sig, parseMethodDescriptor y.desc = some sig → n = sig.parameters.length := fun sig h => by
    have h2 := hd.2.2
    rw [h] at h2
    exact (Option.some.inj h2).symm
  obtain ⟨v, vm₁, ⟨U', l2, c2, s2⟩, hW₁, X', ⟨g', mk, t, L, e1, e2, hq, h1, hL, h2, h3⟩, st⟩ := callSX Xs hx0 (bytes := bytes) (maxL := maxL) (ret := ret) (hs := hs) ho (X.ts hl) (X.ts hi) hini' (X.ts hcode) ⟨hd.1, hd.2.1⟩ hK (g := F0 m pc ls (As.reverse ++ rest)) rfl (hsz.trans hml.symm) (argsL := As) (rest := rest) (fun sig h => hn.trans (hlen sig h)) rfl (by simpa [JFrame.monitorRoom] using hsum) (by rw [hb]; exact hdg)
    (fun vm₁ hW₁ => ⟨hf.1, hf.2, KPT.of X.2 (hTH : (T.setVm vm₁).heap = H) hW₁ hT rfl rfl⟩)
  dsimp only [Pt.U, Pt.locs, Pt.cells, Pt.slots] at X' e1 e2 h1 h2 h3 st
  subst h1; subst h2; subst h3
  exact ⟨v, (T.setVm vm₁).calling g' mk As.toArray, t, U', L, hTH, X', hL, e1, e2, hq, st⟩
end L2
