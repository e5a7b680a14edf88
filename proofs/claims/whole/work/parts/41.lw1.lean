theorem tab2 {l : List ExceptionTableEntry} {a b : Nat × Nat × Nat × Nat} (h : l.map (fun h => (h.startPc, h.endPc, h.handlerPc, h.catchType)) = [a, b]) : ∃ x1 x2 : ExceptionTableEntry, l = [x1, x2] ∧ (x1.startPc, x1.endPc, x1.handlerPc, x1.catchType) = a ∧ (x2.startPc, x2.endPc, x2.handlerPc, x2.catchType) = b := by
  match l, h with
  | [x1, x2], h =>
    simp only [List.map_cons, List.map_nil, List.cons.injEq, and_true] at h
    exact ⟨x1, x2, rfl, h.1, h.2⟩
theorem tab1 {l : List ExceptionTableEntry} {a : Nat × Nat × Nat × Nat} (h : l.map (fun h => (h.startPc, h.endPc, h.handlerPc, h.catchType)) = [a]) : ∃ x1 : ExceptionTableEntry, l = [x1] ∧ (x1.startPc, x1.endPc, x1.handlerPc, x1.catchType) = a := by
  match l, h with
  | [x1], h =>
    simp only [List.map_cons, List.map_nil, List.cons.injEq, and_true] at h
    exact ⟨x1, rfl, h⟩
theorem cov_of {x : ExceptionTableEntry} {a b h t pc : Nat} (e : (x.startPc, x.endPc, x.handlerPc, x.catchType) = (a, b, h, t)) (h1 : Nat.ble a pc = true) (h2 : Nat.ble (pc + 1) b = true) : covers x pc = true := by
  cases e
  have q1 := Nat.le_of_ble_eq_true h1
  have q2 := Nat.le_of_ble_eq_true h2
  simp only [covers, Bool.and_eq_true, decide_eq_true_eq]
  exact ⟨q1, by omega⟩
section LW
variable {p : Program} {l : Launch} {e : Env} {R : Room} {s : State} {m : MethodId} {args : Array Value} {below : List Frame} {meth : Method} {c : Code} {H : Heap} {locs : List Loc} {cells slots : Nat} {Q : State → Prop}
variable {cc : ByteArray} {pc nL : Nat} {ls : Array Slot} {rest st0 : List Value} {own : String} {ρ : RH} {w0 : Cond} {A A1 : Nat → Prop} {H0 : Heap}
theorem catch_self (X : CX p s m c args own cc nL ρ w0) {x : ExceptionTableEntry} {XN : String} {a b h t : Nat} (e0 : (x.startPc, x.endPc, x.handlerPc, x.catchType) = (a, b, h, t)) (ht : ¬ t = 0) (hl : Cond.classLink own t XN ∈ TG) (hc : (Cond.castable XN XN).before args s = true) {T : State} {lo : List Loc} {c1 s1 : Nat} (Xs : Stand p l e R s m args below meth c T lo c1 s1) {thrown : ClassId} (hf : s.vm.findClass XN = some thrown) : RowCatches e.platform s m.cls thrown x ∧ ∃ k, s.vm.classes[thrown]? = some k := by
  cases e0
  obtain ⟨c3, cT, hc3, hcT, hasg⟩ := Cond.castable_spec hc
  cases hf.symm.trans hc3
  exact Xs.catches_of_link X.1.2.2.2.1 ht (X.ts hl) hcT hasg
theorem pass_other (X : CX p s m c args own cc nL ρ w0) {x : ExceptionTableEntry} {a b h t : Nat} (e0 : (x.startPc, x.endPc, x.handlerPc, x.catchType) = (a, b, h, t)) (ht : ¬ t = 0) (hl : Cond.classLink own t nIAE ∈ TG) (hn : NCu s) {T : State} {lo : List Loc} {c1 s1 : Nat} (Xs : Stand p l e R s m args below meth c T lo c1 s1) {thrown : ClassId} (hf : s.vm.findClass nISE = some thrown) : RowPassed e.platform s m.cls pc thrown x := by
  cases e0
  obtain ⟨k1, k2, h1, h2, h3⟩ := hn
  cases hf.symm.trans h1
  have hpl : e.platform.magicAccessors = ({} : Platform).magicAccessors := by rw [Xs.admits.platform]
  obtain ⟨c', hc', hcl⟩ := Cond.classLink_spec X.1.2.2.2.1 (X.ts hl) e.platform hpl
  cases h2.symm.trans hc'
  exact Or.inr ⟨ht, _, hcl, h3⟩
theorem o_last (X : CX p s m c args own cc nL ρ w0) (hS : va_S A H0 H locs) {b : Nat} {f : Nat → Int64} (hb : H[b]? = some (vp_cell (rA ρ 5) (1, .inr (.inl f)))) (hA : A b) {x : Int64} (hdg : decode cc pc = .ok (.lastore, 1))
    (kk : ∀ (H1 : Heap) (locs1 : List Loc), H1[b]? = some (vp_cell (rA ρ 5) (1, .inr (.inl (fun _ => x)))) → va_S A H0 H1 locs1 → H1.size = H.size → (∀ q, q ≠ b → H1[q]? = H[q]?) → W p l e R s m args below meth c H1 locs1 cells slots Q (F0 m (pc + 1) ls rest)) : W p l e R s m args below meth c H locs cells slots Q (F0 m pc ls (.long x :: .int 0 :: .ref b :: rest)) := by
  refine W.last X.1.1 X.1.2.1 hb ((X.2.1.2 5 _ rfl).1 1 (fun j => .long (f j))) (fun q => by cases q) (by show ¬ ((0 : Int32) < 0 ∨ (arrV _ _ _).slots.size ≤ _); rw [arrV_size]; show ¬ ((0 : Int32) < 0 ∨ 1 ≤ (0 : Int32).toNatClampNeg); decide) rfl rfl hdg fun H1 e z oq => ?_
  refine kk H1 _ ?_ (hS.put z oq hA) z oq
  rw [e, vp_cell_l, vp_cell_l, arrV_store]
  refine congrArg some (arrV_ext (fun j hj => ?_))
  have h0 : j = 0 := by omega
  subst h0
  simp [updV]
theorem o_lald (X : CX p s m c args own cc nL ρ w0) {b : Nat} {f : Nat → Int64} (hb : H[b]? = some (vp_cell (rA ρ 5) (1, .inr (.inl f)))) (hdg : decode cc pc = .ok (.laload, 1))
    (kk : W p l e R s m args below meth c H locs cells slots Q (F0 m (pc + 1) ls (.long (f 0) :: rest))) : W p l e R s m args below meth c H locs cells slots Q (F0 m pc ls (.int 0 :: .ref b :: rest)) := by
  exact W.lald (v := .long (f 0)) X.1.1 X.1.2.1 hb ((X.2.1.2 5 _ rfl).1 1 (fun j => .long (f j))) (fun q => by cases q) (by show ¬ ((0 : Int32) < 0 ∨ (arrV _ _ _).slots.size ≤ _); rw [arrV_size]; show ¬ ((0 : Int32) < 0 ∨ 1 ≤ (0 : Int32).toNatClampNeg); decide) (by show (arrV _ _ _).slots[_]? = _; rw [arrV_read _ _ (show (0 : Int32).toNatClampNeg < 1 by decide)]; rfl) rfl rfl hdg kk
end LW
abbrev b135 : ByteArray := method_3_code
theorem d135_0 : decode b135 0 = .ok ((.aload_n 0), 1) := by decide +kernel
theorem d135_1 : decode b135 1 = .ok ((.iload_n 1), 1) := by decide +kernel
theorem d135_2 : decode b135 2 = .ok ((.iload_n 2), 1) := by decide +kernel
theorem d135_3 : decode b135 3 = .ok ((.invokevirtual 7), 3) := by decide +kernel
theorem d135_6 : decode b135 6 = .ok ((.goto 9), 3) := by decide +kernel
theorem d135_9 : decode b135 9 = .ok ((.astore_n 3), 1) := by decide +kernel
theorem d135_10 : decode b135 10 = .ok ((.iconst 1), 1) := by decide +kernel
theorem d135_11 : decode b135 11 = .ok (.ireturn, 1) := by decide +kernel
theorem d135_12 : decode b135 12 = .ok ((.astore_n 3), 1) := by decide +kernel
theorem d135_13 : decode b135 13 = .ok ((.iconst 2), 1) := by decide +kernel
theorem d135_14 : decode b135 14 = .ok (.ireturn, 1) := by decide +kernel
theorem d135_15 : decode b135 15 = .ok ((.iconst 0), 1) := by decide +kernel
theorem d135_16 : decode b135 16 = .ok (.ireturn, 1) := by decide +kernel
set_option maxHeartbeats 1000000 in
theorem c_l_arg0 (l : Launch) (ρ : RH) (H : Heap) (P : Nat → Prop) (ad : Nat → Nat) (st : CS) (p0 p1 : Int32) (res : CS) (hW : CW ρ P ad st H) (h : f_wf_argument st p0 p1 = some res) : Met l y135 (Cond.codeWith y135 method_3_code 4 (Option.some FieldType.int) [(0, 6, 9, 13), (0, 6, 12, 15)] :: TG) ({ frames := 2, cells := 0, slots := 0, locals := 60 } : Room) (va_Pc [.ref (ad 0), .int p0, .int p1] (KPT ρ H)) (mQ (fun v H1 => v = some (.int 0) ∧ CW ρ P ad res H1) (MA wC ad H.size)) 0 0 (MA wC ad H.size) := by
  refine m_ofWX (own := "WordFunctionsLaw") (plainFor_of_name rfl) rfl (Nat.le_of_ble_eq_true rfl) fun p e s m args below meth c ls hx hb hr hlk htab X hs0 hT hl => ?_
  subst hs0
  have hS : va_S (MA wC ad s.heap.size) s.heap s.heap [] := va_S.rf
  have hl : lv_has ls 4 [(0, .ref (ad 0)), (1, .int p0), (2, .int p1)] := hl
  refine lv_aload_n (pc := 0) hx hb d135_0 rfl (lv_at hl 0 rfl) ?_
  refine lv_iload_n (pc := 1) hx hb d135_1 rfl (lv_at hl 1 rfl) ?_
  refine lv_iload_n (pc := 2) hx hb d135_2 rfl (lv_at hl 2 rfl) ?_
  refine k_callV (pc := 3) (n := 2) X hS (c_wf_argument l ρ ad _ P st p0 p1 res hW h) wd703 wd700 wd701 wd702 wd1 (by decide) ⟨rfl, rfl, (Nat.le_of_ble_eq_true rfl), (Nat.le_of_ble_eq_true rfl)⟩ (c_recv X hW 0 9 (by decide) rfl rfl) (As := [.int p0, .int p1]) (rest := []) rfl rfl hl.1 (Nat.le_of_ble_eq_true rfl) d135_3 ⟨(Nat.le_of_ble_eq_true rfl), (Nat.le_of_ble_eq_true rfl)⟩ (fun q hq => hq) (fun v H1 locs1 hv hz1 hq1 hS => ?_)
  obtain ⟨rfl, hW⟩ := hv
  refine lv_goto (pc := 6) (tgt := 15) hx hb d135_6 (by decide) ?_
  refine lv_iconst (pc := 15) (v := 0) hx hb d135_15 (by decide) ?_
  exact m_iret (pc := 16) hx hb hr hlk hS ⟨rfl, hW⟩ (Nat.le_of_ble_eq_true rfl) (Nat.le_of_ble_eq_true rfl) d135_16
set_option maxHeartbeats 1000000 in
theorem c_l_arg1 (l : Launch) (hfl : l.flags = pinnedFlags ++ [noTraceFlag]) (ρ : RH) (H : Heap) (P : Nat → Prop) (ad : Nat → Nat) (st : CS) (p0 p1 : Int32) (hW : CW ρ P ad st H) (hbad : ¬ (p0 = 0 ∧ p1 = 0) ∧ (p0 < 1 ∨ p1 < 1)) : Met l y135 (Cond.codeWith y135 method_3_code 4 (Option.some FieldType.int) [(0, 6, 9, 13), (0, 6, 12, 15)] :: TG) ({ frames := 9, cells := 1, slots := 6, locals := 140 } : Room) (va_Pc [.ref (ad 0), .int p0, .int p1] (KPT ρ H)) (mQ (fun v H1 => v = some (.int 1) ∧ CW ρ P ad st H1) (fun q => H.size ≤ q)) 1 6 (fun q => H.size ≤ q) := by
  refine m_ofWX (own := "WordFunctionsLaw") (plainFor_of_name rfl) rfl (Nat.le_of_ble_eq_true rfl) fun p e s m args below meth c ls hx hb hr hlk htab X hs0 hT hl => ?_
  subst hs0
  have hS : va_S (fun q => s.heap.size ≤ q) s.heap s.heap [] := va_S.rf
  have hl : lv_has ls 4 [(0, .ref (ad 0)), (1, .int p0), (2, .int p1)] := hl
  obtain ⟨x1, x2, htb, e1, e2⟩ := tab2 htab
  refine lv_aload_n (pc := 0) hx hb d135_0 rfl (lv_at hl 0 rfl) ?_
  refine lv_iload_n (pc := 1) hx hb d135_1 rfl (lv_at hl 1 rfl) ?_
  refine lv_iload_n (pc := 2) hx hb d135_2 rfl (lv_at hl 2 rfl) ?_
  refine k_catchV (pc := 3) (n := 2) X hS (c_t_arg1 l hfl ρ _ P _ p0 p1 hW.2.2.1 hbad) wd703 wd700 wd701 wd702 wd1 (by decide) ⟨rfl, rfl, (Nat.le_of_ble_eq_true rfl), (Nat.le_of_ble_eq_true rfl)⟩ (c_recv X hW 0 9 (by decide) rfl rfl) hT (As := [.int p0, .int p1]) (rest := []) rfl rfl hl.1 (Nat.le_of_ble_eq_true rfl) d135_3 ⟨(Nat.le_of_ble_eq_true rfl), (Nat.le_of_ble_eq_true rfl)⟩ [] x1 [x2] htb (cov_of e1 rfl rfl) (fun T lo c1 s1 Xs thrown hf => ⟨catch_self X e1 (by decide) wd698 ((X.2.2.2.2.2.2.2.2.1 1 _ rfl).use rfl) Xs hf, fun y hy => by cases hy⟩) (fun a H1 hz1 hq1 hS => ?_)
  rw [show x1.handlerPc = 9 from congrArg (fun q => q.2.2.1) e1]
  have hW := hW.keep (H1 := H1) (Z := fun _ => False) ⟨hz1, fun q hq _ => hq1 q hq⟩ (fun q _ z => z.elim) (fun _ _ z => z)
  refine lv_astore_n (pc := 9) (lv' := [(3, .ref a), (0, .ref (ad 0)), (1, .int p0), (2, .int p1)]) hx hb d135_9 rfl hl (by decide) rfl (fun ls hl => ?_)
  refine lv_iconst (pc := 10) (v := 1) hx hb d135_10 (by decide) ?_
  exact m_iret (pc := 11) hx hb hr hlk hS ⟨rfl, hW⟩ (Nat.le_of_ble_eq_true rfl) (Nat.le_of_ble_eq_true rfl) d135_11
set_option maxHeartbeats 1000000 in
theorem c_l_arg2 (l : Launch) (hfl : l.flags = pinnedFlags ++ [noTraceFlag]) (ρ : RH) (H : Heap) (P : Nat → Prop) (ad : Nat → Nat) (st : CS) (p0 p1 : Int32) (hW : CW ρ P ad st H) (hok : (p0 = 0 ∧ p1 = 0) ∨ (1 ≤ p0 ∧ 1 ≤ p1)) (hno : f_ar_addF st p0 p1 = some 0) : Met l y135 (Cond.codeWith y135 method_3_code 4 (Option.some FieldType.int) [(0, 6, 9, 13), (0, 6, 12, 15)] :: TG) ({ frames := 9, cells := 1, slots := 6, locals := 140 } : Room) (va_Pc [.ref (ad 0), .int p0, .int p1] (KPT ρ H)) (mQ (fun v H1 => v = some (.int 2) ∧ CW ρ P ad st H1) (fun q => H.size ≤ q)) 1 6 (fun q => H.size ≤ q) := by
  refine m_ofWX (own := "WordFunctionsLaw") (plainFor_of_name rfl) rfl (Nat.le_of_ble_eq_true rfl) fun p e s m args below meth c ls hx hb hr hlk htab X hs0 hT hl => ?_
  subst hs0
  have hS : va_S (fun q => s.heap.size ≤ q) s.heap s.heap [] := va_S.rf
  have hl : lv_has ls 4 [(0, .ref (ad 0)), (1, .int p0), (2, .int p1)] := hl
  obtain ⟨x1, x2, htb, e1, e2⟩ := tab2 htab
  refine lv_aload_n (pc := 0) hx hb d135_0 rfl (lv_at hl 0 rfl) ?_
  refine lv_iload_n (pc := 1) hx hb d135_1 rfl (lv_at hl 1 rfl) ?_
  refine lv_iload_n (pc := 2) hx hb d135_2 rfl (lv_at hl 2 rfl) ?_
  refine k_catchV (pc := 3) (n := 2) X hS (c_t_arg2 l hfl ρ _ P ad st p0 p1 hW hok hno) wd703 wd700 wd701 wd702 wd1 (by decide) ⟨rfl, rfl, (Nat.le_of_ble_eq_true rfl), (Nat.le_of_ble_eq_true rfl)⟩ (c_recv X hW 0 9 (by decide) rfl rfl) hT (As := [.int p0, .int p1]) (rest := []) rfl rfl hl.1 (Nat.le_of_ble_eq_true rfl) d135_3 ⟨(Nat.le_of_ble_eq_true rfl), (Nat.le_of_ble_eq_true rfl)⟩ [x1] x2 [] htb (cov_of e2 rfl rfl) (fun T lo c1 s1 Xs thrown hf => ⟨catch_self X e2 (by decide) wd699 ((X.2.2.2.2.2.2.2.2.1 2 _ rfl).use rfl) Xs hf, fun y hy => by rw [List.mem_singleton.mp hy]; exact pass_other X e1 (by decide) wd698 hT.2.2 Xs hf⟩) (fun a H1 hz1 hq1 hS => ?_)
  rw [show x2.handlerPc = 12 from congrArg (fun q => q.2.2.1) e2]
  have hW := hW.keep (H1 := H1) (Z := fun _ => False) ⟨hz1, fun q hq _ => hq1 q hq⟩ (fun q _ z => z.elim) (fun _ _ z => z)
  refine lv_astore_n (pc := 12) (lv' := [(3, .ref a), (0, .ref (ad 0)), (1, .int p0), (2, .int p1)]) hx hb d135_12 rfl hl (by decide) rfl (fun ls hl => ?_)
  refine lv_iconst (pc := 13) (v := 2) hx hb d135_13 (by decide) ?_
  exact m_iret (pc := 14) hx hb hr hlk hS ⟨rfl, hW⟩ (Nat.le_of_ble_eq_true rfl) (Nat.le_of_ble_eq_true rfl) d135_14
abbrev b136 : ByteArray := method_4_code
theorem d136_0 : decode b136 0 = .ok ((.aload_n 2), 1) := by decide +kernel
theorem d136_1 : decode b136 1 = .ok ((.iconst 0), 1) := by decide +kernel
theorem d136_2 : decode b136 2 = .ok ((.aload_n 0), 1) := by decide +kernel
theorem d136_3 : decode b136 3 = .ok ((.iload_n 1), 1) := by decide +kernel
theorem d136_4 : decode b136 4 = .ok ((.invokevirtual 17), 3) := by decide +kernel
theorem d136_7 : decode b136 7 = .ok (.i2l, 1) := by decide +kernel
theorem d136_8 : decode b136 8 = .ok (.lastore, 1) := by decide +kernel
theorem d136_9 : decode b136 9 = .ok ((.goto 6), 3) := by decide +kernel
theorem d136_12 : decode b136 12 = .ok ((.astore_n 3), 1) := by decide +kernel
theorem d136_13 : decode b136 13 = .ok ((.iconst 1), 1) := by decide +kernel
theorem d136_14 : decode b136 14 = .ok (.ireturn, 1) := by decide +kernel
theorem d136_15 : decode b136 15 = .ok ((.iconst 0), 1) := by decide +kernel
theorem d136_16 : decode b136 16 = .ok (.ireturn, 1) := by decide +kernel
set_option maxHeartbeats 1000000 in
theorem c_l_call0 (l : Launch) (ρ : RH) (H : Heap) (P : Nat → Prop) (ad : Nat → Nat) (st : CS) (p0 : Int32) (res : (Int32 × CS) × Nat × Nat) (oo : Nat) (fo : Nat → Int64) (hW : CW ρ P ad st H) (hoo : H[oo]? = some (vp_cell (rA ρ 5) (1, .inr (.inl fo)))) (hPo : P oo) (hno : ∀ i, i < 46 → oo ≠ ad i) (h : f_wf_call st p0 = some res) : Met l y136 (Cond.codeWith y136 method_4_code 4 (Option.some FieldType.int) [(0, 9, 12, 13)] :: TG) ({ frames := 20, cells := res.2.1, slots := res.2.2, locals := 800 } : Room) (va_Pc [.ref (ad 0), .int p0, .ref oo] (KPT ρ H)) (mQ (fun v H1 => v = some (.int 0) ∧ CW ρ P ad res.1.2 H1 ∧ H1[oo]? = some (vp_cell (rA ρ 5) (1, .inr (.inl (fun _ => res.1.1.toInt64))))) (fun q => MA wC ad H.size q ∨ q = oo)) res.2.1 res.2.2 (fun q => MA wC ad H.size q ∨ q = oo) := by
  refine m_ofWX (own := "WordFunctionsLaw") (plainFor_of_name rfl) rfl (Nat.le_of_ble_eq_true rfl) fun p e s m args below meth c ls hx hb hr hlk htab X hs0 hT hl => ?_
  subst hs0
  have hS : va_S (fun q => MA wC ad s.heap.size q ∨ q = oo) s.heap s.heap [] := va_S.rf
  have hl : lv_has ls 4 [(0, .ref (ad 0)), (1, .int p0), (2, .ref oo)] := hl
  refine lv_aload_n (pc := 0) hx hb d136_0 rfl (lv_at hl 2 rfl) ?_
  refine lv_iconst (pc := 1) (v := 0) hx hb d136_1 (by decide) ?_
  refine lv_aload_n (pc := 2) hx hb d136_2 rfl (lv_at hl 0 rfl) ?_
  refine lv_iload_n (pc := 3) hx hb d136_3 rfl (lv_at hl 1 rfl) ?_
  refine k_callV (pc := 4) (n := 1) X hS (c_wf_call l ρ ad _ P st p0 res hW h) wd733 wd730 wd731 wd732 wd1 (by decide) ⟨rfl, rfl, (Nat.le_of_ble_eq_true rfl), (Nat.le_of_ble_eq_true rfl)⟩ (c_recv X hW 0 9 (by decide) rfl rfl) (As := [.int p0]) (rest := [.int 0, .ref oo]) rfl rfl hl.1 (Nat.le_of_ble_eq_true rfl) d136_4 ⟨(by show 0 + res.2.1 ≤ res.2.1; omega), (by show 0 + res.2.2 ≤ res.2.2; omega)⟩ (fun q hq => Or.inl hq) (fun v H1 locs1 hv hz1 hq1 hS => ?_)
  have hPo := hPo
  have hoo1 : H1[oo]? = some (vp_cell (rA ρ 5) (1, .inr (.inl fo))) := by rw [hq1 oo (hp_lt hoo) (fun z => z.elim (fun ⟨i, hi, e⟩ => hno i hi e) (fun g => absurd (hp_lt hoo) (Nat.not_lt.mpr g)))]; exact hoo
  obtain ⟨rfl, hW⟩ := hv
  refine lv_i2l (pc := 7) hx hb d136_7 rfl ?_
  refine o_last (pc := 8) X hS hoo1 (Or.inr rfl) d136_8 (fun H2 locs2 ho2 hS hz2 hq2 => ?_)
  have hW := hW.keep (H1 := H2) (Z := fun q => q = oo) ⟨Nat.le_of_eq hz2.symm, fun q _ hn => hq2 q hn⟩ (fun q _ z => by rw [z]; exact hPo) (fun i hi z => hno i hi z.symm)
  refine lv_goto (pc := 9) (tgt := 15) hx hb d136_9 (by decide) ?_
  refine lv_iconst (pc := 15) (v := 0) hx hb d136_15 (by decide) ?_
  exact m_iret (pc := 16) hx hb hr hlk hS ⟨rfl, hW, ho2⟩ (by show 0 + res.2.1 ≤ res.2.1; omega) (by show 0 + res.2.2 ≤ res.2.2; omega) d136_16
set_option maxHeartbeats 1000000 in
theorem c_l_call1 (l : Launch) (hfl : l.flags = pinnedFlags ++ [noTraceFlag]) (ρ : RH) (H : Heap) (P : Nat → Prop) (ad : Nat → Nat) (st : CS) (p0 : Int32) (oo : Nat) (hW : CW ρ P ad st H) (hno : f_wf_isFor p0 (st.1 1 5) = some 0) : Met l y136 (Cond.codeWith y136 method_4_code 4 (Option.some FieldType.int) [(0, 9, 12, 13)] :: TG) ({ frames := 9, cells := 1, slots := 6, locals := 140 } : Room) (va_Pc [.ref (ad 0), .int p0, .ref oo] (KPT ρ H)) (mQ (fun v H1 => v = some (.int 1) ∧ CW ρ P ad st H1) (fun q => H.size ≤ q)) 1 6 (fun q => H.size ≤ q) := by
  refine m_ofWX (own := "WordFunctionsLaw") (plainFor_of_name rfl) rfl (Nat.le_of_ble_eq_true rfl) fun p e s m args below meth c ls hx hb hr hlk htab X hs0 hT hl => ?_
  subst hs0
  have hS : va_S (fun q => s.heap.size ≤ q) s.heap s.heap [] := va_S.rf
  have hl : lv_has ls 4 [(0, .ref (ad 0)), (1, .int p0), (2, .ref oo)] := hl
  obtain ⟨x1, htb, e1⟩ := tab1 htab
  refine lv_aload_n (pc := 0) hx hb d136_0 rfl (lv_at hl 2 rfl) ?_
  refine lv_iconst (pc := 1) (v := 0) hx hb d136_1 (by decide) ?_
  refine lv_aload_n (pc := 2) hx hb d136_2 rfl (lv_at hl 0 rfl) ?_
  refine lv_iload_n (pc := 3) hx hb d136_3 rfl (lv_at hl 1 rfl) ?_
  refine k_catchV (pc := 4) (n := 1) X hS (c_t_call l hfl ρ _ P ad st p0 hW hno) wd733 wd730 wd731 wd732 wd1 (by decide) ⟨rfl, rfl, (Nat.le_of_ble_eq_true rfl), (Nat.le_of_ble_eq_true rfl)⟩ (c_recv X hW 0 9 (by decide) rfl rfl) hT (As := [.int p0]) (rest := [.int 0, .ref oo]) rfl rfl hl.1 (Nat.le_of_ble_eq_true rfl) d136_4 ⟨(Nat.le_of_ble_eq_true rfl), (Nat.le_of_ble_eq_true rfl)⟩ [] x1 [] htb (cov_of e1 rfl rfl) (fun T lo c1 s1 Xs thrown hf => ⟨catch_self X e1 (by decide) wd698 ((X.2.2.2.2.2.2.2.2.1 1 _ rfl).use rfl) Xs hf, fun y hy => by cases hy⟩) (fun a H1 hz1 hq1 hS => ?_)
  rw [show x1.handlerPc = 12 from congrArg (fun q => q.2.2.1) e1]
  have hW := hW.keep (H1 := H1) (Z := fun _ => False) ⟨hz1, fun q hq _ => hq1 q hq⟩ (fun q _ z => z.elim) (fun _ _ z => z)
  refine lv_astore_n (pc := 12) (lv' := [(3, .ref a), (0, .ref (ad 0)), (1, .int p0), (2, .ref oo)]) hx hb d136_12 rfl hl (by decide) rfl (fun ls hl => ?_)
  refine lv_iconst (pc := 13) (v := 1) hx hb d136_13 (by decide) ?_
  exact m_iret (pc := 14) hx hb hr hlk hS ⟨rfl, hW⟩ (Nat.le_of_ble_eq_true rfl) (Nat.le_of_ble_eq_true rfl) d136_14
