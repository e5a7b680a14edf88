section R1
variable {p : Program} {l : Launch} {e : Env} {R : Room} {s : State} {m : MethodId} {args : Array Value} {below : List Frame} {meth : Method} {c : Code} {H : Heap} {locs : List Loc} {cells slots : Nat} {Q : State → Prop}
variable {cc : ByteArray} {pc nL : Nat} {ls : Array Slot} {rest st0 : List Value} {own : String} {ρ : RH} {w0 : Cond} {A A1 : Nat → Prop} {H0 : Heap}
theorem k_go {post : Option Value → Heap → Prop} {mc ms : Nat} {a : Array Value} (hr : va_Run p l e R s m args below meth c H locs cells slots mc ms (F0 m pc ls st0) rest (mQ post A1 a) A1) (hS : va_S A H0 H locs) (hA : ∀ q, A1 q → A q)
    (kk : ∀ (v : Option Value) (H1 : Heap) (locs1 : List Loc), post v H1 → H.size ≤ H1.size → (∀ q : Nat, q < H.size → ¬ A1 q → H1[q]? = H[q]?) → va_S A H0 H1 locs1 → W p l e R s m args below meth c H1 locs1 (cells + mc) (slots + ms) Q (F0 m (pc + 3) ls (v.toList ++ rest))) : W p l e R s m args below meth c H locs cells slots Q (F0 m pc ls st0) := by
  intro T hT X
  obtain ⟨v, st₀, t, T', L, h0, X', hL, e1, e2, ⟨⟨v', hv, hp⟩, hz, hk⟩, st⟩ := hr T hT X
  cases hv
  rw [h0] at hz hk
  obtain ⟨t2, a1, b1⟩ := kk v T'.heap (locs ++ L) (by rw [e1]; exact hp) (by rw [e1]; exact hz) (fun q h1 h2 => by rw [e1]; exact hk q h1 h2)
    ⟨Nat.le_trans hS.1 (by rw [e1]; exact hz), fun q h1 h2 => by rw [e1, hk q (Nat.lt_of_lt_of_le h1 hS.1) (fun z => h2 (hA q z))]; exact hS.2.1 q h1 h2, fun q hq => by
      rcases List.mem_append.mp hq with h | h
      · exact hS.2.2 q h
      · exact hA _ (hL q h)⟩ T' rfl X'
  exact ⟨t2, st t2 a1, b1⟩
/-- what a callee needs: its room, its descriptor -/
abbrev KD (y : MethodName) (n : Nat) : Prop := y.cls ≠ "java/lang/invoke/MethodHandle" ∧ y.cls ≠ "java/lang/invoke/VarHandle" ∧ (parseMethodDescriptor y.desc).map (fun d => d.parameters.length) = some n
abbrev KR (R rm : Room) (maxL mc ms : Nat) : Prop := rm.cells = mc ∧ rm.slots = ms ∧ rm.frames + 1 ≤ R.frames ∧ 8 + (maxL + 11) + rm.locals ≤ R.locals
abbrev Rcv (s : State) (H : Heap) (b : Nat) (C : String) : Prop := ∃ cellB : Cell, H[b]? = some cellB ∧ cellB.vm.isStatics = false ∧ s.vm.findClass C = some cellB.cls
theorem g_recv (X : CX p s m c args own cc nL ρ w0) {w : WD} {ad : Nat → Nat} {st : GS} (hW : GW ρ w ad st H) (i ci : Nat) {q : vw_C} (hi : i < w.1) (hd : w.2.1 i = (0, ci)) (hc : CL[ci]? = some q) : Rcv s H (ad i) q.1 := by
  have hg := hW.1 i hi
  rw [hd] at hg
  unfold gC at hg
  rw [if_pos rfl] at hg
  obtain ⟨cell, q1, q2, q3, q4⟩ := hg
  obtain ⟨hS, hfc, -⟩ := X.2.1.1 ci _ hc
  exact ⟨cell, q1, by rw [q3]; rfl, by rw [q2]; exact hfc⟩
variable {y : MethodName} {bytes : ByteArray} {maxL n index mc ms : Nat} {ret : Option FieldType} {rm : Room} {post : Option Value → Heap → Prop} {b : Nat} {As : List Value} {C : String}
theorem k_callV (X : CX p s m c args own cc nL ρ w0) (hS : va_S A H0 H locs) (hM : Met l y (wsOf y bytes maxL ret) rm (va_Pc (.ref b :: As) (KP ρ H)) (mQ post A1) mc ms A1) (hcode : Cond.code y bytes maxL ret ∈ TG) (hl : Cond.methodLink own index y ∈ TG) (hi : Cond.instanceMethod y ∈ TG) (hsel : Cond.selects C y y ∈ TG) (hini : Cond.initialized y.cls ∈ TG) (hd : KD y n) (hrm : KR R rm maxL mc ms) (hrc : Rcv s H b C) (hst : st0 = As.reverse ++ .ref b :: rest) (hn : As.length = n) (hsz : ls.size = nL) (hsum : (rest.map fun v => v.category).sum ≤ 8) (hdg : decode cc pc = .ok (.invokevirtual index, 3)) (hf : cells + mc ≤ R.cells ∧ slots + ms ≤ R.slots) (hA : ∀ q, A1 q → A q)
    (kk : ∀ (v : Option Value) (H1 : Heap) (locs1 : List Loc), post v H1 → H.size ≤ H1.size → (∀ q : Nat, q < H.size → ¬ A1 q → H1[q]? = H[q]?) → va_S A H0 H1 locs1 → W p l e R s m args below meth c H1 locs1 (cells + mc) (slots + ms) Q (F0 m (pc + 3) ls (v.toList ++ rest))) : W p l e R s m args below meth c H locs cells slots Q (F0 m pc ls st0) := by
  subst hst
  refine k_go (va_runV (b := b) (As := As) (rest := rest) (C := C) X.1 hM ⟨callB_of n X.1.2.2.2.2 (goodTG hcode) rfl hrm.1 hrm.2.1 (X.ts hini) (X.ts hl) hd hrm.2.2, X.ts hi, X.ts hsel⟩ ⟨KP.blind, hrc, fun U hU hW => KP.of X.2 hU hW⟩ rfl hn hsz rfl (by simpa [JFrame.monitorRoom] using hsum) hdg hf) hS hA kk
theorem k_callS (X : CX p s m c args own cc nL ρ w0) (hS : va_S A H0 H locs) (hM : Met l y (wsOf y bytes maxL ret) rm (va_Pc As (KP ρ H)) (mQ post A1) mc ms A1) (hcode : Cond.code y bytes maxL ret ∈ TG) (hl : Cond.methodLink own index y ∈ TG) (hi : Cond.static y ∈ TG) (hini : Cond.initialized y.cls ∈ TG) (hd : KD y n) (hrm : KR R rm maxL mc ms) (hst : st0 = As.reverse ++ rest) (hn : As.length = n) (hsz : ls.size = nL) (hsum : (rest.map fun v => v.category).sum ≤ 8) (hdg : decode cc pc = .ok (.invokestatic index, 3)) (hf : cells + mc ≤ R.cells ∧ slots + ms ≤ R.slots) (hA : ∀ q, A1 q → A q)
    (kk : ∀ (v : Option Value) (H1 : Heap) (locs1 : List Loc), post v H1 → H.size ≤ H1.size → (∀ q : Nat, q < H.size → ¬ A1 q → H1[q]? = H[q]?) → va_S A H0 H1 locs1 → W p l e R s m args below meth c H1 locs1 (cells + mc) (slots + ms) Q (F0 m (pc + 3) ls (v.toList ++ rest))) : W p l e R s m args below meth c H locs cells slots Q (F0 m pc ls st0) := by
  subst hst
  refine k_go (va_runS (As := As) (rest := rest) X.1 hM ⟨callB_of n X.1.2.2.2.2 (goodTG hcode) rfl hrm.1 hrm.2.1 (X.ts hini) (X.ts hl) hd hrm.2.2, X.ts hi⟩ ⟨KP.blind, fun U hU hW => KP.of X.2 hU hW⟩ rfl hn hsz rfl (by simpa [JFrame.monitorRoom] using hsum) hdg hf) hS hA kk
theorem k_callSN (X : CX p s m c args own cc nL ρ w0) (hS : va_S A H0 H locs) (hM : Met l y (wsOf y bytes maxL ret) rm (va_Pc As (KP ρ H)) (mQ post A1) mc ms A1) (hcode : Cond.code y bytes maxL ret ∈ TG) (k : Nat) {host : String} (hl : NWL[k]? = some (own, index, y, host)) (hi : Cond.static y ∈ TG) (hini : Cond.initialized y.cls ∈ TG) (hd : KD y n) (hrm : KR R rm maxL mc ms) (hst : st0 = As.reverse ++ rest) (hn : As.length = n) (hsz : ls.size = nL) (hsum : (rest.map fun v => v.category).sum ≤ 8) (hdg : decode cc pc = .ok (.invokestatic index, 3)) (hf : cells + mc ≤ R.cells ∧ slots + ms ≤ R.slots) (hA : ∀ q, A1 q → A q)
    (kk : ∀ (v : Option Value) (H1 : Heap) (locs1 : List Loc), post v H1 → H.size ≤ H1.size → (∀ q : Nat, q < H.size → ¬ A1 q → H1[q]? = H[q]?) → va_S A H0 H1 locs1 → W p l e R s m args below meth c H1 locs1 (cells + mc) (slots + ms) Q (F0 m (pc + 3) ls (v.toList ++ rest))) : W p l e R s m args below meth c H locs cells slots Q (F0 m pc ls st0) := by
  subst hst
  refine k_go (va_runSN (As := As) (rest := rest) (host := host) X.1 hM ⟨va_cnB n X.1.2.2.2.2 (goodTG hcode) rfl hrm.1 hrm.2.1 (X.2.2.1 k _ hl) (X.ts hini) hd hrm.2.2, X.ts hi, trivial⟩ ⟨KP.blind, fun U hU hW => KP.of X.2 hU hW⟩ rfl hn hsz rfl (by simpa [JFrame.monitorRoom] using hsum) hdg hf) hS hA kk
theorem k_callI (X : CX p s m c args own cc nL ρ w0) (hS : va_S A H0 H locs) (hM : Met l y (wsOf y bytes maxL none) rm (va_Pc (.ref b :: As) (KP ρ H)) (mQ post A1) mc ms A1) (hcode : Cond.code y bytes maxL none ∈ TG) (hl : Cond.methodLink own index y ∈ TG) (hi : Cond.instanceMethod y ∈ TG) (hy1 : y.name = "<init>") (hini : Cond.initialized y.cls ∈ TG) (hd : KD y n) (hrm : KR R rm maxL mc ms) (hst : st0 = As.reverse ++ .ref b :: rest) (hn : As.length = n) (hsz : ls.size = nL) (hsum : (rest.map fun v => v.category).sum ≤ 8) (hdg : decode cc pc = .ok (.invokespecial index, 3)) (hf : cells + mc ≤ R.cells ∧ slots + ms ≤ R.slots) (hA : ∀ q, A1 q → A q)
    (kk : ∀ (v : Option Value) (H1 : Heap) (locs1 : List Loc), post v H1 → H.size ≤ H1.size → (∀ q : Nat, q < H.size → ¬ A1 q → H1[q]? = H[q]?) → va_S A H0 H1 locs1 → W p l e R s m args below meth c H1 locs1 (cells + mc) (slots + ms) Q (F0 m (pc + 3) ls (v.toList ++ rest))) : W p l e R s m args below meth c H locs cells slots Q (F0 m pc ls st0) := by
  subst hst
  refine k_go (va_runI (b := b) (As := As) (rest := rest) X.1 hM ⟨callB_of n X.1.2.2.2.2 (goodTG hcode) rfl hrm.1 hrm.2.1 (X.ts hini) (X.ts hl) hd hrm.2.2, hy1, X.ts hi⟩ ⟨KP.blind, fun U hU hW => KP.of X.2 hU hW⟩ rfl hn hsz rfl (by simpa [JFrame.monitorRoom] using hsum) hdg hf) hS hA kk
theorem k_callIN (X : CX p s m c args own cc nL ρ w0) (hS : va_S A H0 H locs) (hM : Met l y (wsOf y bytes maxL none) rm (va_Pc (.ref b :: As) (KP ρ H)) (mQ post A1) mc ms A1) (hcode : Cond.code y bytes maxL none ∈ TG) (k : Nat) {host : String} (hl : NWL[k]? = some (own, index, y, host)) (hi : Cond.instanceMethod y ∈ TG) (hy1 : y.name = "<init>") (hini : Cond.initialized y.cls ∈ TG) (hd : KD y n) (hrm : KR R rm maxL mc ms) (hst : st0 = As.reverse ++ .ref b :: rest) (hn : As.length = n) (hsz : ls.size = nL) (hsum : (rest.map fun v => v.category).sum ≤ 8) (hdg : decode cc pc = .ok (.invokespecial index, 3)) (hf : cells + mc ≤ R.cells ∧ slots + ms ≤ R.slots) (hA : ∀ q, A1 q → A q)
    (kk : ∀ (v : Option Value) (H1 : Heap) (locs1 : List Loc), post v H1 → H.size ≤ H1.size → (∀ q : Nat, q < H.size → ¬ A1 q → H1[q]? = H[q]?) → va_S A H0 H1 locs1 → W p l e R s m args below meth c H1 locs1 (cells + mc) (slots + ms) Q (F0 m (pc + 3) ls (v.toList ++ rest))) : W p l e R s m args below meth c H locs cells slots Q (F0 m pc ls st0) := by
  subst hst
  refine k_go (va_runIN (b := b) (As := As) (rest := rest) (host := host) X.1 hM ⟨va_cnB n X.1.2.2.2.2 (goodTG hcode) rfl hrm.1 hrm.2.1 (X.2.2.1 k _ hl) (X.ts hini) hd hrm.2.2, hy1, X.ts hi⟩ ⟨KP.blind, fun U hU hW => KP.of X.2 hU hW⟩ rfl hn hsz rfl (by simpa [JFrame.monitorRoom] using hsum) hdg hf) hS hA kk
end R1
