section R0
variable {p : Program} {l : Launch} {e : Env} {R : Room} {s : State} {m : MethodId} {args : Array Value} {below : List Frame} {meth : Method} {c : Code} {H : Heap} {locs : List Loc} {cells slots : Nat} {Q : State → Prop}
variable {cc : ByteArray} {pc nL : Nat} {ls : Array Slot} {rest : List Value} {own : String} {ρ : RH} {w0 : Cond} {A : Nat → Prop}
/-- as the kit's, for a class with rows in the table of natives too -/
theorem met_ofWF {y : MethodName} {ws ws' : List Cond} {rm : Room} {Pc : Array Value → State → Prop} {Qc : Array Value → State → Outcome → State → Prop} {mc ms : Nat} {free : Addr → Prop} {cc : ByteArray} {maxL : Nat} {ret : Option FieldType}
    (hy : plainFor y = true) (hw : ws = Cond.code y cc maxL ret :: ws')
    (body : ∀ p e s m args below meth c s₁, BodyLoose p l y (headSpec ws rm) cc maxL ret e s m args below meth c s₁ → c.maxLocals = maxL → Pc args s →
      W p l e (headSpec ws rm).room s m args below meth c s.heap [] 0 0 (MQ below Qc args s mc ms free) (entryFrame m args maxL)) : Met l y ws rm Pc Qc mc ms free := by
  refine MetFree.of_bodySF (code := cc) (maxLocals := maxL) (ret := ret) hy ?_ ?_
  · intro args s m h hn
    obtain ⟨meth, c, h1, h2, h3, h4, h5, h6, -, -⟩ := Cond.code_spec hn (atoms_spec (ws := ws) h _ (by rw [hw]; exact List.mem_cons_self))
    exact ⟨meth, c, h1, h2, h3, h4, h5, h6⟩
  · intro p e s m args below meth c s₁ B hml hP _
    have hh0 : s₁.heap = s.heap := by rw [B.state]; rfl
    obtain ⟨t, a1, o, b1, b2, b3⟩ := body p e s m args below meth c s₁ B hml hP s₁ hh0 (Stand.of_body B)
    exact ⟨t, o, a1, b1, b2, ⟨b3.1, b3.2⟩⟩
/-- a method's start -/
theorem m_ofW {y : MethodName} {cb : ByteArray} {ml : Nat} {ret : Option FieldType} {rm : Room} {av : List Value} {H0 : Heap} {post : Option Value → Heap → Prop} {mc ms : Nat} (hy : plainFor y = true) (hc : y.cls = own) (hlen : (lg_sl av).length ≤ ml)
    (body : ∀ (p : Program) (e : Env) (s : State) (m : MethodId) (args : Array Value) (below : List Frame) (meth : Method) (c : Code) (ls : Array Slot), p.tables.exec = Jvm.exec → c.code = cb → meth.sig.returnType = ret → meth.locks = false → meth.name = y.name → CX p s m c args own cb ml ρ (Cond.code y cb ml ret) → s.heap = H0 → lv_has ls ml (lv_args 0 av) →
      W p l e rm s m args below meth c H0 [] 0 0 (MQ below (mQ post A) args s mc ms A) (F0 m 0 ls [])) :
    Met l y (wsOf y cb ml ret) rm (va_Pc av (KP ρ H0)) (mQ post A) mc ms A := by
  refine met_ofWF (cc := cb) (maxL := ml) (ret := ret) hy rfl ?_
  intro p e s m args below meth c s₁ B hml hv
  obtain ⟨rfl, hs, hK⟩ := hv
  have hl := lv_entry av (n := ml) hlen
  rw [lg_entry_eq, hs]
  generalize (lg_sl av ++ List.replicate (ml - (lg_sl av).length) Slot.unset).toArray = ls at hl ⊢
  exact body p e s m av.toArray below meth c ls B.exec B.bytes B.returns B.notSynchronized (name_of_methodNamed B.named B.method).1 ⟨⟨B.exec, B.bytes, hml, hc ▸ findClass_of_methodNamed B.named, atoms_spec (ws := wsOf y cb ml ret) B.pre⟩, hK⟩ hs hl
/-- ends -/
theorem m_iret {post : Option Value → Heap → Prop} {mc ms : Nat} {v : Int32} (hx : p.tables.exec = Jvm.exec) (hb : c.code = cc) (hr : meth.sig.returnType = some .int) (hlocks : meth.locks = false) (hS : va_S A s.heap H locs) (hp : post (some (.int v)) H) (hc : cells ≤ mc) (hs : slots ≤ ms) (hdg : decode cc pc = .ok (.ireturn, 1)) : W p l e R s m args below meth c H locs cells slots (MQ below (mQ post A) args s mc ms A) (F0 m pc ls [.int v]) := by
  refine W.widen hc hs ?_
  exact W.iret (v := v) hx hb hr (fun t ht hW => ⟨⟨_, rfl, by rw [ht]; exact hp⟩, hS.F ht⟩) hS.2.2 hdg hlocks
theorem m_zret {post : Option Value → Heap → Prop} {mc ms : Nat} {v : Int32} (hx : p.tables.exec = Jvm.exec) (hb : c.code = cc) (hr : meth.sig.returnType = some .boolean) (hlocks : meth.locks = false) (hS : va_S A s.heap H locs) (hp : post (some (.int v)) H) (hc : cells ≤ mc) (hs : slots ≤ ms) (hdg : decode cc pc = .ok (.ireturn, 1)) (hv : narrow .boolean (.int v) = .int v) : W p l e R s m args below meth c H locs cells slots (MQ below (mQ post A) args s mc ms A) (F0 m pc ls [.int v]) := by
  refine W.widen hc hs ?_
  exact W.zret (v := v) hx hb hr hv (fun t ht hW => ⟨⟨_, rfl, by rw [ht]; exact hp⟩, hS.F ht⟩) hS.2.2 hdg hlocks
theorem m_vret {post : Option Value → Heap → Prop} {mc ms : Nat} (hx : p.tables.exec = Jvm.exec) (hb : c.code = cc) (hr : meth.sig.returnType = none) (hlocks : meth.locks = false) (hS : va_S A s.heap H locs) (hp : post none H) (hc : cells ≤ mc) (hs : slots ≤ ms) (hdg : decode cc pc = .ok (.return_, 1)) : W p l e R s m args below meth c H locs cells slots (MQ below (mQ post A) args s mc ms A) (F0 m pc ls []) := by
  refine W.widen hc hs ?_
  exact W.vret hx hb hr (fun t ht hW => ⟨⟨_, rfl, by rw [ht]; exact hp⟩, hS.F ht⟩) hS.2.2 hdg hlocks
theorem m_dret {post : Option Value → Heap → Prop} {mc ms : Nat} {v : UInt64} (hx : p.tables.exec = Jvm.exec) (hb : c.code = cc) (hr : meth.sig.returnType = some .double) (hlocks : meth.locks = false) (hS : va_S A s.heap H locs) (hp : post (some (.double v)) H) (hc : cells ≤ mc) (hs : slots ≤ ms) (hdg : decode cc pc = .ok (.dreturn, 1)) : W p l e R s m args below meth c H locs cells slots (MQ below (mQ post A) args s mc ms A) (F0 m pc ls [.double v]) := by
  refine W.widen hc hs ?_
  exact W.dret (v := v) hx hb hr (fun t ht hW => ⟨⟨_, rfl, by rw [ht]; exact hp⟩, hS.F ht⟩) hS.2.2 hdg hlocks
theorem m_lret {post : Option Value → Heap → Prop} {mc ms : Nat} {v : Int64} (hx : p.tables.exec = Jvm.exec) (hb : c.code = cc) (hr : meth.sig.returnType = some .long) (hlocks : meth.locks = false) (hS : va_S A s.heap H locs) (hp : post (some (.long v)) H) (hc : cells ≤ mc) (hs : slots ≤ ms) (hdg : decode cc pc = .ok (.lreturn, 1)) : W p l e R s m args below meth c H locs cells slots (MQ below (mQ post A) args s mc ms A) (F0 m pc ls [.long v]) := by
  refine W.widen hc hs ?_
  exact W.lret (v := v) hx hb hr (fun t ht hW => ⟨⟨_, rfl, by rw [ht]; exact hp⟩, hS.F ht⟩) hS.2.2 hdg hlocks
theorem m_aret {post : Option Value → Heap → Prop} {mc ms : Nat} {a : Nat} {rt : FieldType} (hx : p.tables.exec = Jvm.exec) (hb : c.code = cc) (hr : meth.sig.returnType = some rt) (hrt : (∃ n, rt = .object n) ∨ ∃ t, rt = .array t) (hlocks : meth.locks = false) (hS : va_S A s.heap H locs) (hp : post (some (.ref a)) H) (hc : cells ≤ mc) (hs : slots ≤ ms) (hdg : decode cc pc = .ok (.areturn, 1)) : W p l e R s m args below meth c H locs cells slots (MQ below (mQ post A) args s mc ms A) (F0 m pc ls [.ref a]) := by
  refine W.widen hc hs ?_
  exact W.aret (v := .ref a) hx hb hr hrt (Or.inr ⟨a, rfl⟩) (fun t ht hW => ⟨⟨_, rfl, by rw [ht]; exact hp⟩, hS.F ht⟩) hS.2.2 hdg hlocks
/-- fields -/
theorem r_get (X : CX p s m c args own cc nL ρ w0) {w : WD} {ad : Nat → Nat} {st : GS} (hW : GW ρ w ad st H) (i k ci : Nat) {C ref : String} {T : u_T} {N index : Nat} (hi : i < w.1) (hd : w.2.1 i = (0, ci)) (hc : CL[ci]? = some (C, T, N)) (hn : nf ci = N) (hk : k < N) (hin : ∀ w ∈ u_ws C T N, w ∈ TG) (hsame : (T k).1 = ref) (hl : Cond.fieldLink own index ref (T k).2.1 (T k).2.2.1 ∈ TG) {v : Value} (hv : gV w.2.2 ad st i ci k = v) (hdg : decode cc pc = .ok (.getfield index, 3))
    (kk : W p l e R s m args below meth c H locs cells slots Q (F0 m (pc + 3) ls (v :: rest))) : W p l e R s m args below meth c H locs cells slots Q (F0 m pc ls (.ref (ad i) :: rest)) := by
  have hg := hW.1 i hi
  rw [hd] at hg
  unfold gC at hg
  rw [if_pos rfl] at hg
  obtain ⟨cell, q1, q2, q3, q4⟩ := hg
  obtain ⟨hS, hfc, kC, hkC, hkind⟩ := X.2.1.1 ci _ hc
  obtain ⟨cf, kf, fi, f, hf, hsl⟩ := hS k hk
  subst hsame
  refine W.getf X.1.1 X.1.2.1 X.1.2.2.2.1 (X.ts hl) hf (u_facts hfc hkC (u_lays (fun w h => X.ts h) hin hk) hf).1 q1 (by rw [q3]; exact fun h => by cases h) (v := v) ?_ rfl rfl hdg kk
  rw [hsl, q4 k (by show k < nf ci; rw [hn]; exact hk), hv]
theorem g_apart (X : CX p s m c args own cc nL ρ w0) {ci : Nat} {C : String} {T : u_T} {N : Nat} (hc : CL[ci]? = some (C, T, N)) (hin : ∀ w ∈ u_ws C T N, w ∈ TG) (ty : Nat → FieldType) (hty : ∀ k, k < N → parseFieldDescriptor (T k).2.2.1 = some (ty k)) (hnm : ∀ a, a < N → ∀ b, b < N → a ≠ b → (T a).2.1 ≠ (T b).2.1) : ∀ x y, x < N → y < N → x ≠ y → ((rD ρ).2 ci) x ≠ ((rD ρ).2 ci) y :=
  va_apart (own := own) (fun w h => X.ts h) hin ty hty hnm X.2.1 hc
theorem r_put (X : CX p s m c args own cc nL ρ w0) {w : WD} {ad : Nat → Nat} {st st' : GS} {H0 : Heap} (hW : GW ρ w ad st H) (hS0 : va_S A H0 H locs) (i k ci : Nat) {C ref : String} {T : u_T} {N index : Nat} (hA : A (ad i)) (hi : i < w.1) (hd : w.2.1 i = (0, ci)) (hc : CL[ci]? = some (C, T, N)) (hn : nf ci = N) (hk : k < N) (hin : ∀ w ∈ u_ws C T N, w ∈ TG) (ty0 : Nat → FieldType) (hty : ∀ k, k < N → parseFieldDescriptor (T k).2.2.1 = some (ty0 k)) (hnm : ∀ a, a < N → ∀ b, b < N → a ≠ b → (T a).2.1 ≠ (T b).2.1) (hsame : (T k).1 = ref) (hl : Cond.fieldLink own index ref (T k).2.1 (T k).2.2.1 ∈ TG) (hfin : (T k).2.2.2 = false) {v : Value} (hnr : narrow (ty0 k) v = v) (hfit : fits (ty0 k) v = true)
    (hv : ∀ j, j < N → updV (gV w.2.2 ad st i ci) k v j = gV w.2.2 ad st' i ci j) (hs : ∀ j, j ≠ i → st'.1 j = st.1 j ∧ st'.2.1 j = st.2.1 j ∧ st'.2.2 j = st.2.2 j)
    (hdg : decode cc pc = .ok (.putfield index, 3)) (kk : ∀ (H1 : Heap) (locs1 : List Loc), GW ρ w ad st' H1 → va_S A H0 H1 locs1 → H1.size = H.size → (∀ q, q ≠ ad i → H1[q]? = H[q]?) → W p l e R s m args below meth c H1 locs1 cells slots Q (F0 m (pc + 3) ls rest)) : W p l e R s m args below meth c H locs cells slots Q (F0 m pc ls (v :: .ref (ad i) :: rest)) := by
  have hap := g_apart X hc hin ty0 hty hnm
  have hg := hW.1 i hi
  rw [hd] at hg
  unfold gC at hg
  rw [if_pos rfl] at hg
  obtain ⟨cell, q1, q2, q3, q4⟩ := hg
  rw [hn] at q4
  obtain ⟨hS, hfc, kC, hkC, hkind⟩ := X.2.1.1 ci _ hc
  obtain ⟨cf, kf, fi, f, hf, hsl⟩ := hS k hk
  subst hsame
  have hlay := X.ts (hin _ (u_in_lay hk))
  unfold u_lay at hlay
  rw [if_neg (by rw [hfin]; decide)] at hlay
  have hst := (u_facts hfc hkC (u_lays (fun w h => X.ts h) hin hk) hf).1
  have h6 := u_store hfc hkC hkind hlay hf (hty k hk) hnr hfit
  refine W.putK X.1.1 X.1.2.1 (f := f) ⟨X.1.2.2.2.1, X.ts hl, ⟨_, _, _, hf⟩, hst⟩ (by rw [q2]; exact h6) q1 q3 (by rw [hsl]; exact k2_hasslot (q4 k hk)) rfl rfl hdg fun H' e1 e2 e3 => ?_
  rw [hsl] at e1 ⊢
  refine kk H' _ (hW.put hi ?_ e3 hs) (hS0.put e2 e3 hA) e2 e3
  rw [hd]
  unfold gC
  rw [if_pos rfl]
  refine t_OB.to (V := updV (gV w.2.2 ad st i ci) k v) ?_ (by rw [hn]; exact hv)
  rw [hn]
  exact ⟨_, e1, q2, q3, t_set q4 hap hk v⟩
/-- an array's place -/
theorem g_arr {w : WD} {ad : Nat → Nat} {st : GS} (hW : GW ρ w ad st H) {i code len : Nat} (hi : i < w.1) (hd : w.2.1 i = (code, len)) (hne : ¬ code = 0) : H[ad i]? = some (vp_cell (gA ρ w.2.2 ad st i (code, len)).1 (gA ρ w.2.2 ad st i (code, len)).2) := by
  have hg := hW.1 i hi
  rw [hd] at hg
  unfold gC at hg
  rw [if_neg hne] at hg
  exact hg
theorem k_arr {ρ : RH} {s : State} (hK : KK ρ s) (k : Nat) {q : ClassId × FieldType} (h : (TYS ρ)[k]? = some q) : ArrOfT s q.1 q.2 := (hK.1.2 k q h).1
theorem r_iald (X : CX p s m c args own cc nL ρ w0) {w : WD} {ad : Nat → Nat} {st : GS} (hW : GW ρ w ad st H) (i : Nat) {len : Nat} (hi : i < w.1) (hd : w.2.1 i = (1, len)) {j : Int32} (hin : vp_in j len) (hdg : decode cc pc = .ok (.iaload, 1))
    (kk : W p l e R s m args below meth c H locs cells slots Q (F0 m (pc + 1) ls (.int (st.1 i j.toNatClampNeg) :: rest))) : W p l e R s m args below meth c H locs cells slots Q (F0 m pc ls (.int j :: .ref (ad i) :: rest)) := by
  have hlt : j.toNatClampNeg < len := Nat.not_le.mp fun q => hin (Or.inr q)
  exact W.iald (v := .int (st.1 i j.toNatClampNeg)) X.1.1 X.1.2.1 (g_arr hW hi hd (by decide)) (k_arr X.2 0 rfl len (fun j => .int (st.1 i j))) (fun q => by cases q) (by show ¬ (j < 0 ∨ (arrV _ _ _).slots.size ≤ _); rw [arrV_size]; exact hin) (arrV_read _ (N := len) _ hlt) rfl rfl hdg kk
theorem r_zald (X : CX p s m c args own cc nL ρ w0) {w : WD} {ad : Nat → Nat} {st : GS} (hW : GW ρ w ad st H) (i : Nat) {len : Nat} (hi : i < w.1) (hd : w.2.1 i = (2, len)) {j : Int32} (hin : vp_in j len) (hdg : decode cc pc = .ok (.baload, 1))
    (kk : W p l e R s m args below meth c H locs cells slots Q (F0 m (pc + 1) ls (.int (st.1 i j.toNatClampNeg) :: rest))) : W p l e R s m args below meth c H locs cells slots Q (F0 m pc ls (.int j :: .ref (ad i) :: rest)) := by
  have hlt : j.toNatClampNeg < len := Nat.not_le.mp fun q => hin (Or.inr q)
  exact W.zald (v := .int (st.1 i j.toNatClampNeg)) X.1.1 X.1.2.1 (g_arr hW hi hd (by decide)) (k_arr X.2 1 rfl len (fun j => .int (st.1 i j))) (fun q => by cases q) (by show ¬ (j < 0 ∨ (arrV _ _ _).slots.size ≤ _); rw [arrV_size]; exact hin) (arrV_read _ (N := len) _ hlt) rfl rfl hdg kk
theorem r_cald (X : CX p s m c args own cc nL ρ w0) {w : WD} {ad : Nat → Nat} {st : GS} (hW : GW ρ w ad st H) (i : Nat) {len : Nat} (hi : i < w.1) (hd : w.2.1 i = (3, len)) {j : Int32} (hin : vp_in j len) (hdg : decode cc pc = .ok (.caload, 1))
    (kk : W p l e R s m args below meth c H locs cells slots Q (F0 m (pc + 1) ls (.int (st.1 i j.toNatClampNeg) :: rest))) : W p l e R s m args below meth c H locs cells slots Q (F0 m pc ls (.int j :: .ref (ad i) :: rest)) := by
  have hlt : j.toNatClampNeg < len := Nat.not_le.mp fun q => hin (Or.inr q)
  exact W.cald (v := .int (st.1 i j.toNatClampNeg)) X.1.1 X.1.2.1 (g_arr hW hi hd (by decide)) (k_arr X.2 2 rfl len (fun j => .int (st.1 i j))) (fun q => by cases q) (by show ¬ (j < 0 ∨ (arrV _ _ _).slots.size ≤ _); rw [arrV_size]; exact hin) (arrV_read _ (N := len) _ hlt) rfl rfl hdg kk
theorem r_dald (X : CX p s m c args own cc nL ρ w0) {w : WD} {ad : Nat → Nat} {st : GS} (hW : GW ρ w ad st H) (i : Nat) {len : Nat} (hi : i < w.1) (hd : w.2.1 i = (4, len)) {j : Int32} (hin : vp_in j len) (hdg : decode cc pc = .ok (.daload, 1))
    (kk : W p l e R s m args below meth c H locs cells slots Q (F0 m (pc + 1) ls (.double (st.2.1 i j.toNatClampNeg) :: rest))) : W p l e R s m args below meth c H locs cells slots Q (F0 m pc ls (.int j :: .ref (ad i) :: rest)) := by
  have hlt : j.toNatClampNeg < len := Nat.not_le.mp fun q => hin (Or.inr q)
  exact W.dald (v := .double (st.2.1 i j.toNatClampNeg)) X.1.1 X.1.2.1 (g_arr hW hi hd (by decide)) (k_arr X.2 3 rfl len (fun j => .double (st.2.1 i j))) (fun q => by cases q) (by show ¬ (j < 0 ∨ (arrV _ _ _).slots.size ≤ _); rw [arrV_size]; exact hin) (arrV_read _ (N := len) _ hlt) rfl rfl hdg kk
theorem g_putI {w : WD} {ad : Nat → Nat} {st : GS} (hW : GW ρ w ad st H) {i code len : Nat} (hi : i < w.1) (hd : w.2.1 i = (code, len)) (hcode : code = 1 ∨ code = 2 ∨ code = 3) {H1 : Heap} {k : Nat} {x : Int32} (e1 : H1[ad i]? = some ((vp_cell (gA ρ w.2.2 ad st i (code, len)).1 (gA ρ w.2.2 ad st i (code, len)).2).setSlot k (.int x))) (oq : ∀ q, q ≠ ad i → H1[q]? = H[q]?) : GW ρ w ad (uI st i k x) H1 := by
  refine hW.put hi ?_ oq (fun j hj => ⟨if_neg hj, rfl, rfl⟩)
  rw [hd]
  unfold gC
  rw [if_neg (by rintro (h : code = 0); rcases hcode with z | z | z <;> omega), e1]
  have key : ∀ cA : ClassId, (vp_cell cA (len, .inl (st.1 i))).setSlot k (.int x) = vp_cell cA (len, .inl ((uI st i k x).1 i)) := by
    intro cA
    rw [vp_cell_i, vp_cell_i, arrV_store]
    congr 1
    funext q
    show updV _ k _ q = Value.int ((if i = i then upd (st.1 i) k x else st.1 i) q)
    rw [if_pos rfl]
    by_cases hq : q = k
    · subst hq; simp [updV, upd]
    · simp [updV, upd, hq]
  rcases hcode with rfl | rfl | rfl <;> exact congrArg some (key _)
theorem g_putD {w : WD} {ad : Nat → Nat} {st : GS} (hW : GW ρ w ad st H) {i len : Nat} (hi : i < w.1) (hd : w.2.1 i = (4, len)) {H1 : Heap} {k : Nat} {x : UInt64} (e1 : H1[ad i]? = some ((vp_cell (gA ρ w.2.2 ad st i (4, len)).1 (gA ρ w.2.2 ad st i (4, len)).2).setSlot k (.double x))) (oq : ∀ q, q ≠ ad i → H1[q]? = H[q]?) : GW ρ w ad (uD st i k x) H1 := by
  refine hW.put hi ?_ oq (fun j hj => ⟨rfl, if_neg hj, rfl⟩)
  rw [hd]
  unfold gC
  rw [if_neg (show ¬ (4 : Nat) = 0 by decide), e1]
  have key : ∀ cA : ClassId, (vp_cell cA (len, .inr (.inr (.inr (.inl (st.2.1 i)))))).setSlot k (.double x) = vp_cell cA (len, .inr (.inr (.inr (.inl ((uD st i k x).2.1 i))))) := by
    intro cA
    rw [vp_cell_d, vp_cell_d, arrV_store]
    congr 1
    funext q
    show updV _ k _ q = Value.double ((if i = i then vf_upd (st.2.1 i) k x else st.2.1 i) q)
    rw [if_pos rfl]
    by_cases hq : q = k
    · subst hq; simp [updV, vf_upd]
    · simp [updV, vf_upd, hq]
  exact congrArg some (key _)
theorem r_iast (X : CX p s m c args own cc nL ρ w0) {w : WD} {ad : Nat → Nat} {st : GS} {H0 : Heap} (hW : GW ρ w ad st H) (hS : va_S A H0 H locs) (i : Nat) {len : Nat} (hA : A (ad i)) (hi : i < w.1) (hd : w.2.1 i = (1, len)) {j x : Int32} (hin : vp_in j len) (hdg : decode cc pc = .ok (.iastore, 1))
    (kk : ∀ (H1 : Heap) (locs1 : List Loc), GW ρ w ad (uI st i j.toNatClampNeg x) H1 → va_S A H0 H1 locs1 → H1.size = H.size → (∀ q, q ≠ ad i → H1[q]? = H[q]?) → W p l e R s m args below meth c H1 locs1 cells slots Q (F0 m (pc + 1) ls rest)) : W p l e R s m args below meth c H locs cells slots Q (F0 m pc ls (.int x :: .int j :: .ref (ad i) :: rest)) := by
  refine W.iast X.1.1 X.1.2.1 (g_arr hW hi hd (by decide)) (k_arr X.2 0 rfl len (fun j => .int (st.1 i j))) (fun q => by cases q) (by show ¬ (j < 0 ∨ (arrV _ _ _).slots.size ≤ _); rw [arrV_size]; exact hin) rfl rfl hdg fun H1 e z oq => ?_
  exact kk H1 _ (g_putI hW hi hd (Or.inl rfl) e oq) (hS.put z oq hA) z oq
theorem r_zast (X : CX p s m c args own cc nL ρ w0) {w : WD} {ad : Nat → Nat} {st : GS} {H0 : Heap} (hW : GW ρ w ad st H) (hS : va_S A H0 H locs) (i : Nat) {len : Nat} (hA : A (ad i)) (hi : i < w.1) (hd : w.2.1 i = (2, len)) {j x : Int32} (hx : x = 0 ∨ x = 1) (hin : vp_in j len) (hdg : decode cc pc = .ok (.bastore, 1))
    (kk : ∀ (H1 : Heap) (locs1 : List Loc), GW ρ w ad (uI st i j.toNatClampNeg x) H1 → va_S A H0 H1 locs1 → H1.size = H.size → (∀ q, q ≠ ad i → H1[q]? = H[q]?) → W p l e R s m args below meth c H1 locs1 cells slots Q (F0 m (pc + 1) ls rest)) : W p l e R s m args below meth c H locs cells slots Q (F0 m pc ls (.int x :: .int j :: .ref (ad i) :: rest)) := by
  refine W.zast X.1.1 X.1.2.1 (g_arr hW hi hd (by decide)) (k_arr X.2 1 rfl len (fun j => .int (st.1 i j))) (fun q => by cases q) (by show ¬ (j < 0 ∨ (arrV _ _ _).slots.size ≤ _); rw [arrV_size]; exact hin) rfl rfl hdg fun H1 e z oq => ?_
  have hv : narrow .boolean (.int x) = .int x := by rcases hx with rfl | rfl <;> decide
  rw [hv] at e
  exact kk H1 _ (g_putI hW hi hd (Or.inr (Or.inl rfl)) e oq) (hS.put z oq hA) z oq
theorem r_cast (X : CX p s m c args own cc nL ρ w0) {w : WD} {ad : Nat → Nat} {st : GS} {H0 : Heap} (hW : GW ρ w ad st H) (hS : va_S A H0 H locs) (i : Nat) {len : Nat} (hA : A (ad i)) (hi : i < w.1) (hd : w.2.1 i = (3, len)) {j x : Int32} (hx : narrow .char (.int x) = .int x) (hin : vp_in j len) (hdg : decode cc pc = .ok (.castore, 1))
    (kk : ∀ (H1 : Heap) (locs1 : List Loc), GW ρ w ad (uI st i j.toNatClampNeg x) H1 → va_S A H0 H1 locs1 → H1.size = H.size → (∀ q, q ≠ ad i → H1[q]? = H[q]?) → W p l e R s m args below meth c H1 locs1 cells slots Q (F0 m (pc + 1) ls rest)) : W p l e R s m args below meth c H locs cells slots Q (F0 m pc ls (.int x :: .int j :: .ref (ad i) :: rest)) := by
  refine W.cast X.1.1 X.1.2.1 (g_arr hW hi hd (by decide)) (k_arr X.2 2 rfl len (fun j => .int (st.1 i j))) (fun q => by cases q) (by show ¬ (j < 0 ∨ (arrV _ _ _).slots.size ≤ _); rw [arrV_size]; exact hin) rfl rfl hdg fun H1 e z oq => ?_
  rw [hx] at e
  exact kk H1 _ (g_putI hW hi hd (Or.inr (Or.inr rfl)) e oq) (hS.put z oq hA) z oq
theorem r_dast (X : CX p s m c args own cc nL ρ w0) {w : WD} {ad : Nat → Nat} {st : GS} {H0 : Heap} (hW : GW ρ w ad st H) (hS : va_S A H0 H locs) (i : Nat) {len : Nat} (hA : A (ad i)) (hi : i < w.1) (hd : w.2.1 i = (4, len)) {j : Int32} {x : UInt64} (hin : vp_in j len) (hdg : decode cc pc = .ok (.dastore, 1))
    (kk : ∀ (H1 : Heap) (locs1 : List Loc), GW ρ w ad (uD st i j.toNatClampNeg x) H1 → va_S A H0 H1 locs1 → H1.size = H.size → (∀ q, q ≠ ad i → H1[q]? = H[q]?) → W p l e R s m args below meth c H1 locs1 cells slots Q (F0 m (pc + 1) ls rest)) : W p l e R s m args below meth c H locs cells slots Q (F0 m pc ls (.double x :: .int j :: .ref (ad i) :: rest)) := by
  refine W.dast X.1.1 X.1.2.1 (g_arr hW hi hd (by decide)) (k_arr X.2 3 rfl len (fun j => .double (st.2.1 i j))) (fun q => by cases q) (by show ¬ (j < 0 ∨ (arrV _ _ _).slots.size ≤ _); rw [arrV_size]; exact hin) rfl rfl hdg fun H1 e z oq => ?_
  exact kk H1 _ (g_putD hW hi hd e oq) (hS.put z oq hA) z oq

end R0
