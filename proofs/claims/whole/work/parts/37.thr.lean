/-! ===== methods that throw ===== -/
abbrev nTN : String := "java/lang/Throwable"
abbrev nSTE : String := "[Ljava/lang/StackTraceElement;"
abbrev nLIST : String := "Ljava/util/List;"
abbrev nIAE : String := "java/lang/IllegalArgumentException"
abbrev nISE : String := "java/lang/IllegalStateException"
/-- a static of Throwable's as the machine holds it -/
def TXs (ρ : RH) (H : Heap) (U : State) (k : Nat) (n d : String) : Prop := ∃ (c : ClassId) (kf : Class) (fi : Nat) (f : Field) (cell : Cell) (v : Value), U.vm.findClass nTN = some c ∧ U.fieldFound? nTN n d = some (c, kf, fi, f) ∧ kf.statics = some (rZa ρ k) ∧ H[rZa ρ k]? = some cell ∧ f.isStatic = true ∧ cell.vm.isStatics = true ∧ cell.cls = c ∧ f.slot < cell.slots.size ∧ kf.staticTypes[f.slot]? = some f.type ∧ cell.slots[f.slot]? = some v ∧ v.isRef = true
def NCu (U : State) : Prop := ∃ c1 c2 : ClassId, U.vm.findClass nISE = some c1 ∧ U.vm.findClass nIAE = some c2 ∧ U.vm.assignable c1 c2 = false
theorem NCu.moved {u U : State} (hvm : u.vm.Alike U.vm) (h : NCu u) : NCu U := by
  obtain ⟨c1, c2, h1, h2, h3⟩ := h
  exact ⟨c1, c2, by rw [hvm.findClass]; exact h1, by rw [hvm.findClass]; exact h2, by rw [hvm.assignable]; exact h3⟩
def TX (ρ : RH) (H : Heap) (U : State) : Prop := TXs ρ H U 5 "UNASSIGNED_STACK" nSTE ∧ TXs ρ H U 6 "SUPPRESSED_SENTINEL" nLIST ∧ NCu U
theorem TXs.moved {ρ : RH} {H H1 : Heap} {u U : State} {k : Nat} {n d : String} (h : TXs ρ H u k n d) (hvm : u.vm.Alike U.vm) (hq : H1[rZa ρ k]? = H[rZa ρ k]?) : TXs ρ H1 U k n d := by
  obtain ⟨c, kf, fi, f, cell, v, h1, h2, h3, h4, h5, h6, h7, h8, h9, h10, h11⟩ := h
  obtain ⟨k', hi', he⟩ := State.fieldFound?_setVm hvm h2
  exact ⟨c, k', fi, f, cell, v, by rw [hvm.findClass]; exact h1, hi', by rw [he]; exact h3, by rw [hq]; exact h4, h5, h6, h7, h8, by rw [he]; exact h9, h10, h11⟩
theorem TXs.lays {ρ : RH} {H : Heap} {U : State} {k : Nat} {n d : String} (h : TXs ρ H U k n d) (hH : U.heap = H) (A : Array Value) : (Cond.laysStatic nTN n d).before A U = true := by
  obtain ⟨c, kf, fi, f, cell, v, h1, h2, h3, h4, h5, h6, h7, h8, h9, h10, h11⟩ := h
  subst hH
  simp [Cond.before, Cond.holds, Cond.value, h1, h2, h3, h4, h5, h6, h7, h8, h9]
theorem TXs.isRef {ρ : RH} {H : Heap} {U : State} {k : Nat} {n d : String} (h : TXs ρ H U k n d) (hH : U.heap = H) (A : Array Value) : (Cond.isRef (.static nTN n d)).before A U = true := by
  obtain ⟨c, kf, fi, f, cell, v, h1, h2, h3, h4, h5, h6, h7, h8, h9, h10, h11⟩ := h
  subst hH
  simp only [Cond.before, Cond.holds, Cond.value, Term.eval, State.fieldNamed?, h2, h5, h3, h4, h6, h10, bind, Option.bind, Pure.pure, beq_self_eq_true, if_true, Option.map]
  cases v <;> simp_all [Value.isRef]
def KPT (ρ : RH) (H : Heap) : State → Prop := fun U => KP ρ H U ∧ TX ρ H U
theorem TX.moved {ρ : RH} {H H1 : Heap} {s U : State} (h : TX ρ H s) (hW : s.WarmedH U.vm) (h5 : H1[rZa ρ 5]? = H[rZa ρ 5]?) (h6 : H1[rZa ρ 6]? = H[rZa ρ 6]?) : TX ρ H1 U :=
  ⟨h.1.moved hW.alike h5, h.2.1.moved hW.alike h6, h.2.2.moved hW.alike⟩
theorem KPT.blind {ρ : RH} {H : Heap} {av : List Value} : FrameBlind (va_Pc av (KPT ρ H)) := fun a U g mk h => ⟨h.1, ⟨h.2.1.1, KK.blind h.2.1.2⟩, TX.moved (U := U.calling g mk a) h.2.2 (State.WarmedH.refl U) rfl rfl⟩
theorem KPT.of {ρ : RH} {H : Heap} {s U : State} {av : List Value} (hK : KK ρ s) (hU : U.heap = H) (hW : s.WarmedH U.vm) {H0 : Heap} (hT : TX ρ H0 s) (h5 : H[rZa ρ 5]? = H0[rZa ρ 5]?) (h6 : H[rZa ρ 6]? = H0[rZa ρ 6]?) : va_Pc av (KPT ρ H) av.toArray U := ⟨rfl, ⟨hU, hK.warm hW⟩, hT.moved hW h5 h6⟩
theorem all_nil {P : Cond → Prop} : ∀ a ∈ ([] : List Cond), P a := fun a h => by cases h
theorem all_cons {P : Cond → Prop} {x : Cond} {l : List Cond} (h : P x) (hl : ∀ a ∈ l, P a) : ∀ a ∈ x :: l, P a := fun a ha => by
  rcases List.mem_cons.mp ha with rfl | ha
  · exact h
  · exact hl a ha

/-- an end by a new exception of class X -/
def QX (X : String) (s : State) (a : Addr) (t : State) : Prop := s.heap.size ≤ t.heap.size ∧ (∀ q : Nat, q < s.heap.size → t.heap[q]? = s.heap[q]?) ∧ ∃ ce : Cell, t.heap[a]? = some ce ∧ s.vm.findClass X = some ce.cls ∧ ce.vm = .none
def QcT (X : String) : State → Outcome → State → Prop := fun st o t => ∃ a, o = .threw a ∧ QX X st a t
def MetT (l : Launch) (y : MethodName) (ws : List Cond) (rm : Room) (Pc : Array Value → State → Prop) (X : String) (mc ms : Nat) : Prop := MetFree l y (headSpec ws rm) Pc (fun _ _ _ _ _ => True) (fun _ st o t => QcT X st o t ∧ FrameEndT st o t [] mc ms)
def MQT (below : List Frame) (X : String) (s : State) (mc ms : Nat) : State → Prop := fun t => ∃ o, t.status = .running ∧ Ended t below o ∧ QcT X s o t ∧ FrameEndT s o t [] mc ms
theorem same_nil {s t : State} {k n : Nat} (h : s.sameButNew t [] k n) : s.heap.size ≤ t.heap.size ∧ ∀ q : Nat, q < s.heap.size → t.heap[q]? = s.heap[q]? := by
  refine ⟨h.2.1, fun q hq => ?_⟩
  have h0 : s.heap[q]? = some s.heap[q] := Array.getElem?_eq_getElem hq
  obtain ⟨c', h1, h2, h3, h4⟩ := h.2.2.2.2.2 q _ h0
  rw [h1, h0]
  have e : c'.slots = s.heap[q].slots := by
    refine Array.ext_getElem? (fun i => h4 i (fun z => by cases z))
  rw [h2, e]
section T0
variable {p : Program} {l : Launch} {e : Env} {R : Room} {s : State} {m : MethodId} {args : Array Value} {below : List Frame} {meth : Method} {c : Code} {H : Heap} {locs : List Loc} {cells slots : Nat} {Q : State → Prop}
variable {cc : ByteArray} {pc nL : Nat} {ls : Array Slot} {rest : List Value} {own : String} {ρ : RH} {w0 : Cond} {A : Nat → Prop}
theorem m_ofWT {y : MethodName} {cb : ByteArray} {ml : Nat} {ret : Option FieldType} {rm : Room} {av : List Value} {H0 : Heap} {X : String} {mc ms : Nat} (hy : plainFor y = true) (hc : y.cls = own) (hlen : (lg_sl av).length ≤ ml)
    (body : ∀ (p : Program) (e : Env) (s : State) (m : MethodId) (args : Array Value) (below : List Frame) (meth : Method) (c : Code) (ls : Array Slot), p.tables.exec = Jvm.exec → c.code = cb → meth.sig.returnType = ret → meth.locks = false → c.exceptionTable.isEmpty = true → CX p s m c args own cb ml ρ (Cond.code y cb ml ret) → s.heap = H0 → TX ρ H0 s → lv_has ls ml (lv_args 0 av) →
      W p l e rm s m args below meth c H0 [] 0 0 (MQT below X s mc ms) (F0 m 0 ls [])) :
    MetT l y (wsOf y cb ml ret) rm (va_Pc av (KPT ρ H0)) X mc ms := by
  refine MetFree.of_bodySF (code := cb) (maxLocals := ml) (ret := ret) hy ?_ ?_
  · intro args s m h hn
    obtain ⟨meth, c, h1, h2, h3, h4, h5, h6, -, -⟩ := Cond.code_spec hn (atoms_spec (ws := wsOf y cb ml ret) h _ List.mem_cons_self)
    exact ⟨meth, c, h1, h2, h3, h4, h5, h6⟩
  · intro p e s m args below meth c s₁ B hml hv _
    obtain ⟨rfl, ⟨hs, hK⟩, hT⟩ := hv
    have hh0 : s₁.heap = s.heap := by rw [B.state]; rfl
    have hl := lv_entry av (n := ml) hlen
    have hat := atoms_spec (ws := wsOf y cb ml ret) B.pre
    rw [lg_entry_eq]
    generalize (lg_sl av ++ List.replicate (ml - (lg_sl av).length) Slot.unset).toArray = ls at hl ⊢
    obtain ⟨t, a1, o, b1, b2, b3, b4⟩ := body p e s m av.toArray below meth c ls B.exec B.bytes B.returns B.notSynchronized (B.noHandlers (hat _ List.mem_cons_self)) ⟨⟨B.exec, B.bytes, hml, hc ▸ findClass_of_methodNamed B.named, hat⟩, hK⟩ hs hT hl s₁ (hh0.trans hs) (Stand.of_body B)
    exact ⟨t, o, a1, b1, b2, b3, b4⟩
theorem n_newX (X : CX p s m c args own cc nL ρ w0) (hS : va_S A s.heap H locs) {N index : Nat} {C : String} {cX : ClassId} (hfc : s.vm.findClass C = some cX) (hl : Cond.classLink own index C ∈ TG) (hins : Cond.instantiable C N ∈ TG) (hini : Cond.initialized C ∈ TG) (hcells : cells + 1 ≤ R.cells) (hslots : slots + N ≤ R.slots) (hdg : decode cc pc = .ok (.new index, 3))
    (kk : ∀ (o : Nat) (H1 : Heap) (kX : Class), s.heap.size ≤ o → s.vm.classes[cX]? = some kX → H1[o]? = some (blank cX kX) → va_S A s.heap H1 locs → W p l e R s m args below meth c H1 locs (cells + 1) (slots + N) Q (F0 m (pc + 3) ls (.ref o :: rest))) : W p l e R s m args below meth c H locs cells slots Q (F0 m pc ls rest) := by
  refine W.newcK X.1.1 X.1.2.1 X.1.2.2.2.1 (X.ts hl) (X.ts hins) (X.ts hini) rfl hdg hcells hslots hfc rfl fun H1 kC hkC hcell z oq => ?_
  exact kk H.size H1 kC hS.1 hkC hcell (hS.grow (by omega) oq)
theorem w_throw (hfl : l.flags = pinnedFlags ++ [noTraceFlag]) (X : CX p s m c args own cc nL ρ w0) {cls : String} {names : List String} {ic : Nat} (hat : ∀ a ∈ Bundle.ownAtoms own ic cls names, a.before args s = true) (hcls : Bundle.fit cls = true) (hnm : ∀ n ∈ names, Bundle.fit n = true) {a t : Nat} {cX : ClassId} {kX : Class} (hfound : s.vm.findClass cls = some cX) (hkX : s.vm.classes[cX]? = some kX) (hcell : H[a]? = some (blank cX kX)) (hnew : s.heap.size ≤ a) (hlocs : locs = []) (hlocks : meth.locks = false) (het : c.exceptionTable.isEmpty = true) (hd6 : decode cc pc = .ok (.invokespecial ic, 3)) (hd9 : decode cc (pc + 3) = .ok (.athrow, 1)) (hsz : ls.size = nL) (hfr : Nat.ble (names.length + 4) R.frames = true) (hlo : Nat.ble (1 + (13 * (names.length + 1) + 42)) R.locals = true) : W p l e R s m args below meth c H locs cells slots (MQT below cls s cells slots) (F0 m pc ls [.ref t, .ref a, .ref a]) := by
  subst hlocs
  intro T hT Xs
  have hem : c.exceptionTable.toList = [] := by
    have h1 : c.exceptionTable = #[] := Array.isEmpty_iff.mp het
    rw [h1]
  obtain ⟨U, h1, h2, h3, h4, h5, ce, h6, h7⟩ := Xs.ctorThrowS (names := names) (g := F0 m pc ls [.ref t, .ref a, .ref a]) (rest := []) (msg := .ref t) (a := a) X.1.1 (Launch.traces_off hfl Xs.admits) X.1.2.2.2.1 hcls hnm hat (fun x hx => by cases hx) hfound hkX (by rw [hT]; exact hcell) hnew rfl rfl (hsz.trans X.1.2.2.1.symm) rfl rfl rfl (by rw [X.1.2.1]; exact hd6) (by rw [X.1.2.1]; exact hd9) (fun x hx => by rw [hem] at hx; cases hx) (by have := Nat.le_of_ble_eq_true hfr; omega) (by have := Nat.le_of_ble_eq_true hlo; simpa [JFrame.monitorRoom, Value.category] using this) hlocks
  obtain ⟨g1, g2⟩ := same_nil h5
  exact ⟨U, h1, .threw a, h2, h3, ⟨a, rfl, g1, g2, ce, h6, h7.cls, h7.vm⟩, ⟨⟨a, rfl⟩, h4, h5⟩⟩
end T0

theorem own_IAE {p : Program} {s : State} {m : MethodId} {c : Code} {args : Array Value} {cc : ByteArray} {nL : Nat} {ρ : RH} {w0 : Cond} {H : Heap} (X : CX p s m c args "WordFunctions" cc nL ρ w0) (hT : TX ρ H s) (hH : s.heap = H) : ∀ a ∈ Bundle.ownAtoms "WordFunctions" 101 nIAE ["java/lang/RuntimeException", "java/lang/Exception"], a.before args s = true :=
  all_cons (X.ts wd22) (all_cons (X.ts wd466) (all_cons (X.ts wd475) (all_cons (X.ts wd478) (all_cons (X.ts wd481) (all_cons (X.ts wd483) (all_cons (X.ts wd467) (all_cons (X.ts wd468) (all_cons (X.ts wd36) (all_cons (X.ts wd37) (all_cons (X.ts wd469) (all_cons (X.ts wd474) (all_cons (X.ts wd479) (all_cons (X.ts wd574) (all_cons (X.ts wd456) (all_cons (X.ts wd575) (all_cons (X.ts wd458) (all_cons (X.ts wd576) (all_cons (X.ts wd460) (all_cons (X.ts wd470) (all_cons (hT.1.lays hH args) (all_cons (X.ts wd472) (all_cons (hT.2.1.lays hH args) (all_cons (X.ts wd462) (all_cons (X.ts wd570) (all_cons (X.ts wd571) (all_cons (X.ts wd573) (all_cons (X.ts wd462) (all_cons (X.ts wd561) (all_cons (X.ts wd562) (all_cons (X.ts wd563) (all_cons (X.ts wd564) (all_cons ((X.2.2.2.2.2.2.2.2.2.1 1 _ rfl).use rfl) (all_cons (X.ts wd564) (all_cons (X.ts wd565) (all_cons (X.ts wd566) (all_cons (X.ts wd567) (all_cons ((X.2.2.2.2.2.2.2.2.2.1 3 _ rfl).use rfl) (all_cons (X.ts wd567) (all_cons (X.ts wd568) (all_cons (X.ts wd569) (all_cons (X.ts wd570) (all_cons ((X.2.2.2.2.2.2.2.2.2.1 5 _ rfl).use rfl) (all_cons (X.ts wd706) (all_cons (X.ts wd445) (all_cons ((X.2.2.2.2.2.2.2.2.1 1 _ rfl).use rfl) (all_cons (X.ts wd453) (all_cons (X.ts wd454) (all_cons (X.ts wd455) (all_cons (X.ts wd457) (all_cons (X.ts wd459) (all_cons (X.ts wd461) (all_cons (hT.1.isRef hH args) (all_cons (hT.2.1.isRef hH args) (all_cons (X.ts wd465) (all_cons (X.ts wd464) (all_cons (X.ts wd463) (all_nil)))))))))))))))))))))))))))))))))))))))))))))))))))))))))
theorem own_ISE {p : Program} {s : State} {m : MethodId} {c : Code} {args : Array Value} {cc : ByteArray} {nL : Nat} {ρ : RH} {w0 : Cond} {H : Heap} (X : CX p s m c args "WordFunctions" cc nL ρ w0) (hT : TX ρ H s) (hH : s.heap = H) : ∀ a ∈ Bundle.ownAtoms "WordFunctions" 111 nISE ["java/lang/RuntimeException", "java/lang/Exception"], a.before args s = true :=
  all_cons (X.ts wd22) (all_cons (X.ts wd466) (all_cons (X.ts wd475) (all_cons (X.ts wd478) (all_cons (X.ts wd481) (all_cons (X.ts wd483) (all_cons (X.ts wd467) (all_cons (X.ts wd468) (all_cons (X.ts wd36) (all_cons (X.ts wd37) (all_cons (X.ts wd469) (all_cons (X.ts wd474) (all_cons (X.ts wd479) (all_cons (X.ts wd574) (all_cons (X.ts wd456) (all_cons (X.ts wd575) (all_cons (X.ts wd458) (all_cons (X.ts wd576) (all_cons (X.ts wd460) (all_cons (X.ts wd470) (all_cons (hT.1.lays hH args) (all_cons (X.ts wd472) (all_cons (hT.2.1.lays hH args) (all_cons (X.ts wd462) (all_cons (X.ts wd570) (all_cons (X.ts wd571) (all_cons (X.ts wd573) (all_cons (X.ts wd462) (all_cons (X.ts wd722) (all_cons (X.ts wd723) (all_cons (X.ts wd724) (all_cons (X.ts wd564) (all_cons ((X.2.2.2.2.2.2.2.2.2.1 1 _ rfl).use rfl) (all_cons (X.ts wd564) (all_cons (X.ts wd565) (all_cons (X.ts wd566) (all_cons (X.ts wd567) (all_cons ((X.2.2.2.2.2.2.2.2.2.1 3 _ rfl).use rfl) (all_cons (X.ts wd567) (all_cons (X.ts wd568) (all_cons (X.ts wd569) (all_cons (X.ts wd570) (all_cons ((X.2.2.2.2.2.2.2.2.2.1 5 _ rfl).use rfl) (all_cons (X.ts wd721) (all_cons (X.ts wd712) (all_cons ((X.2.2.2.2.2.2.2.2.1 2 _ rfl).use rfl) (all_cons (X.ts wd714) (all_cons (X.ts wd477) (all_cons (X.ts wd715) (all_cons (X.ts wd716) (all_cons (X.ts wd717) (all_cons (X.ts wd718) (all_cons (hT.1.isRef hH args) (all_cons (hT.2.1.isRef hH args) (all_cons (X.ts wd465) (all_cons (X.ts wd464) (all_cons (X.ts wd719) (all_nil)))))))))))))))))))))))))))))))))))))))))))))))))))))))))
