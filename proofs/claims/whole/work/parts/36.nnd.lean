section N2
variable {p : Program} {l : Launch} {e : Env} {R : Room} {s : State} {m : MethodId} {args : Array Value} {below : List Frame} {meth : Method} {c : Code} {H : Heap} {locs : List Loc} {cells slots : Nat} {Q : State → Prop}
variable {cc : ByteArray} {pc nL : Nat} {ls : Array Slot} {rest : List Value} {own : String} {ρ : RH} {w0 : Cond} {A : Nat → Prop} {H0 : Heap} {ws : va_W} {a : Nat} {P : Nat → Prop}
theorem n_newq (X : CX p s m c args own cc nL ρ w0) (hP : va_P (rD ρ) CL ws H) (hD : va_D A ws) (hS : va_S A H0 H locs) (hA : ∀ q, H0.size ≤ q → A q) (k : Nat) {cA : ClassId} {C : String} {index : Nat} (hT : (TYS ρ)[k]? = some (cA, .object C)) (hAO : va_AO C s) (hcl : Cond.classLink own index C ∈ TG) {n : Int32} {N' : Nat} (hn : ¬ n < 0) (hN : n.toNatClampNeg = N') (hbytes : N' * 4 ≤ 536870912) (hcells : cells + 1 ≤ R.cells) (hslots : slots + N' ≤ R.slots) (hdg : decode cc pc = .ok (.anewarray index, 3))
    (kk : ∀ (q : Nat) (H1 : Heap), va_P (rD ρ) CL (ws ++ [(q, .inl (cA, N', .inr (.inr (.inr (.inr (fun _ => none))))))]) H1 → va_D A (ws ++ [(q, .inl (cA, N', .inr (.inr (.inr (.inr (fun _ => none))))))]) → va_S A H0 H1 locs → W p l e R s m args below meth c H1 locs (cells + 1) (slots + N') Q (F0 m (pc + 3) ls (.ref q :: rest))) : W p l e R s m args below meth c H locs cells slots Q (F0 m pc ls (.int n :: rest)) := by
  refine va_newq (tys := TYS ρ) X.1.1 X.1.2.1 X.1.2.2.2.1 (X.ts hcl) hAO X.2.1 hP hD hS hA hn hN hbytes hcells hslots hdg fun q cA' H1 hK hP1 hD1 hS1 => ?_
  obtain ⟨-, -, -, -, -, h1⟩ := (hK.2 8 (cA', .object C) rfl).2
  obtain ⟨-, -, -, -, -, h2⟩ := (X.2.1.2 k _ hT).2
  obtain rfl : cA' = cA := Option.some.inj (h1.symm.trans h2)
  exact kk q H1 hP1 hD1 hS1
theorem n_astV (X : CX p s m c args own cc nL ρ w0) (hP : va_P (rD ρ) CL ws H) (hD : va_D A ws) (hS : va_S A H0 H locs) (q0 : Nat) {n x : Nat} {f : Nat → Option Nat} {v : VV} (ha : ws[q0]? = some (a, .inl (rA ρ 6, n, .inr (.inr (.inr (.inr f)))))) (hx : isV ρ P H x v) {i : Int32} (hin : inb i n = true) (hdg : decode cc pc = .ok (.aastore, 1))
    (kk : ∀ (H1 : Heap) (locs1 : List Loc), va_P (rD ρ) CL (ws.set q0 (a, .inl (rA ρ 6, n, .inr (.inr (.inr (.inr (va_up f i.toNatClampNeg (some x)))))))) H1 → va_D A (ws.set q0 (a, .inl (rA ρ 6, n, .inr (.inr (.inr (.inr (va_up f i.toNatClampNeg (some x)))))))) → va_S A H0 H1 locs1 → W p l e R s m args below meth c H1 locs1 cells slots Q (F0 m (pc + 1) ls rest)) : W p l e R s m args below meth c H locs cells slots Q (F0 m pc ls (.ref x :: .int i :: .ref a :: rest)) := by
  obtain ⟨s0, ⟨cell, g1, g2, g3, -⟩, -, -⟩ := hx
  obtain ⟨-, hfc, kC, hkC, hkind⟩ := X.2.1.1 1 _ rfl
  refine va_astqM (tys := TYS ρ) (E := "WordFunctions$Value") X.1.1 X.1.2.1 X.2.1 hP hD hS q0 6 ha rfl ⟨cell, g1, by rw [g3]; rfl, ⟨kC, by rw [g2]; exact hkC⟩, fun comp hcomp => ?_⟩ (inb_in hin) hdg kk
  have e1 : (rD ρ).1 1 = comp := Option.some.inj (hfc.symm.trans hcomp)
  rw [g2, e1]
  exact va_asg _ _
theorem n_get (X : CX p s m c args own cc nL ρ w0) (hP : va_P (rD ρ) CL ws H) (q0 : Nat) {ci N index : Nat} {C ref : String} {T : u_T} {fs : List Value} (he : ws[q0]? = some (a, .inr (ci, fs))) (hc : CL[ci]? = some (C, T, N)) (k : Nat) {v : Value} (hv : fs[k]? = some v) (hk : Nat.ble (k + 1) N = true) (hin : ∀ w ∈ u_ws C T N, w ∈ TG) (hsame : (T k).1 = ref) (hl : Cond.fieldLink own index ref (T k).2.1 (T k).2.2.1 ∈ TG) (hdg : decode cc pc = .ok (.getfield index, 3))
    (kk : W p l e R s m args below meth c H locs cells slots Q (F0 m (pc + 3) ls (v :: rest))) : W p l e R s m args below meth c H locs cells slots Q (F0 m pc ls (.ref a :: rest)) :=
  va_get (Ts := TG) X.1.1 X.1.2.1 (fun w h => X.ts h) hin X.1.2.2.2.1 X.2.1 hP q0 he hc k (Nat.le_of_ble_eq_true hk) (X.ts hl) (fun x hx => hsame ▸ hx) hv hdg kk
theorem n_qlen (X : CX p s m c args own cc nL ρ w0) (hP : va_P (rD ρ) CL ws H) (q0 k : Nat) {n : Nat} {cA : ClassId} {C : String} {f : Nat → Option Nat} (ha : ws[q0]? = some (a, .inl (cA, n, .inr (.inr (.inr (.inr f)))))) (hT : (TYS ρ)[k]? = some (cA, .object C)) (hdg : decode cc pc = .ok (.arraylength, 1))
    (kk : W p l e R s m args below meth c H locs cells slots Q (F0 m (pc + 1) ls (.int (nI n) :: rest))) : W p l e R s m args below meth c H locs cells slots Q (F0 m pc ls (.ref a :: rest)) :=
  W.alen X.1.1 X.1.2.1 (hP q0 _ ha) ((X.2.1.2 k _ hT).1 n (fun j => va_rf (f j))) (by show (arrV _ _ _).slots.size.toInt32 = _; rw [arrV_size]; rfl) rfl rfl hdg kk
theorem n_puto (X : CX p s m c args own cc nL ρ w0) (hP : va_P (rD ρ) CL ws H) (hD : va_D A ws) (hS : va_S A H0 H locs) (q0 : Nat) {ci N index : Nat} {C ref : String} {T : u_T} {fs : List Value} (he : ws[q0]? = some (a, .inr (ci, fs))) (hc : CL[ci]? = some (C, T, N)) (k : Nat) (hk : Nat.ble (k + 1) N = true) (hin : ∀ w ∈ u_ws C T N, w ∈ TG) (ty0 : Nat → FieldType) (hty : ∀ k, k < N → parseFieldDescriptor (T k).2.2.1 = some (ty0 k)) (hnm : ∀ a, a < N → ∀ b, b < N → a ≠ b → (T a).2.1 ≠ (T b).2.1) (hsame : (T k).1 = ref) (hl : Cond.fieldLink own index ref (T k).2.1 (T k).2.2.1 ∈ TG) (hfin : (T k).2.2.2 = false) {v : Value} (hn : narrow (ty0 k) v = v) (hfit : fits (ty0 k) v = true) (hlen : Nat.ble (k + 1) fs.length = true) (hdg : decode cc pc = .ok (.putfield index, 3))
    (kk : ∀ (H1 : Heap) (locs1 : List Loc), va_P (rD ρ) CL (ws.set q0 (a, .inr (ci, fs.set k v))) H1 → va_D A (ws.set q0 (a, .inr (ci, fs.set k v))) → va_S A H0 H1 locs1 → H1.size = H.size → (∀ q, q ≠ a → H1[q]? = H[q]?) → W p l e R s m args below meth c H1 locs1 cells slots Q (F0 m (pc + 3) ls rest)) : W p l e R s m args below meth c H locs cells slots Q (F0 m pc ls (v :: .ref a :: rest)) := by
  obtain ⟨r, h1, h2⟩ := hP q0 _ he
  obtain rfl : r = (C, T, N) := Option.some.inj (h1.symm.trans hc)
  refine o_put X hS h2 k (hD.2 q0 _ he) hc hk hin ty0 hty hnm hsame hl hfin hn hfit hdg fun H1 locs1 ho hS1 hz hq => ?_
  exact kk H1 locs1 (hP.set hD he ⟨_, hc, ho.to (fun j _ => vp_updV_set (Nat.le_of_ble_eq_true hlen) v j)⟩ hq) (hD.set he) hS1 hz hq
theorem n_astVo (X : CX p s m c args own cc nL ρ w0) (hP : va_P (rD ρ) CL ws H) (hD : va_D A ws) (hS : va_S A H0 H locs) (q0 : Nat) {n x : Nat} {f : Nat → Option Nat} {v : VV} (ha : ws[q0]? = some (a, .inl (rA ρ 6, n, .inr (.inr (.inr (.inr f)))))) (hx : isV ρ P H x v) {i : Int32} (hin : inb i n = true) (hdg : decode cc pc = .ok (.aastore, 1))
    (kk : ∀ (H1 : Heap) (locs1 : List Loc), va_P (rD ρ) CL (ws.set q0 (a, .inl (rA ρ 6, n, .inr (.inr (.inr (.inr (va_up f i.toNatClampNeg (some x)))))))) H1 → va_D A (ws.set q0 (a, .inl (rA ρ 6, n, .inr (.inr (.inr (.inr (va_up f i.toNatClampNeg (some x)))))))) → va_S A H0 H1 locs1 → H1.size = H.size → (∀ q, q ≠ a → H1[q]? = H[q]?) → W p l e R s m args below meth c H1 locs1 cells slots Q (F0 m (pc + 1) ls rest)) : W p l e R s m args below meth c H locs cells slots Q (F0 m pc ls (.ref x :: .int i :: .ref a :: rest)) := by
  obtain ⟨s0, ⟨cell, g1, g2, g3, -⟩, -, -⟩ := hx
  obtain ⟨-, hfc, kC, hkC, hkind⟩ := X.2.1.1 1 _ rfl
  obtain ⟨kA, comp, k1, k2, k3, -⟩ := (X.2.1.2 6 _ rfl).2
  obtain rfl : comp = (rD ρ).1 1 := Option.some.inj (k3.symm.trans hfc)
  have hcell : H[a]? = some (arrV (rA ρ 6) n (fun j => va_rf (f j))) := hP q0 _ ha
  refine w_aast X hcell k1 k2 hkC (inb_in hin) g1 g3 g2 (va_asg _ _) hdg fun H1 e1 z oq => ?_
  refine kk H1 _ (hP.set hD ha ?_ oq) (hD.set ha) (hS.put z oq (hD.2 q0 _ ha)) z oq
  show H1[a]? = some (vp_cell _ _)
  rw [e1, vp_cell_q]
  congr 2
  funext j
  by_cases hj : j = i.toNatClampNeg
  · subst hj; simp [updV, va_up, va_rf]
  · simp [updV, va_up, hj]
end N2
theorem isV_out {ρ : RH} {P : Nat → Prop} {H : Heap} {x : Nat} {v : VV} (h : isV ρ P H x v) : ¬ P x := by
  obtain ⟨s0, -, -, h3⟩ := h
  exact h3
abbrev b21 : ByteArray := prog_2_method_1_code
theorem d21_0 : decode b21 0 = .ok ((.aload_n 0), 1) := by decide +kernel
theorem d21_1 : decode b21 1 = .ok ((.invokespecial 3), 3) := by decide +kernel
theorem d21_4 : decode b21 4 = .ok ((.aload_n 0), 1) := by decide +kernel
theorem d21_5 : decode b21 5 = .ok ((.sipush 512), 3) := by decide +kernel
theorem d21_8 : decode b21 8 = .ok ((.anewarray 9), 3) := by decide +kernel
theorem d21_11 : decode b21 11 = .ok ((.putfield 11), 3) := by decide +kernel
theorem d21_14 : decode b21 14 = .ok ((.aload_n 0), 1) := by decide +kernel
theorem d21_15 : decode b21 15 = .ok ((.iconst 1), 1) := by decide +kernel
theorem d21_16 : decode b21 16 = .ok ((.putfield 17), 3) := by decide +kernel
theorem d21_19 : decode b21 19 = .ok ((.aload_n 0), 1) := by decide +kernel
theorem d21_20 : decode b21 20 = .ok ((.iconst 1), 1) := by decide +kernel
theorem d21_21 : decode b21 21 = .ok ((.putfield 21), 3) := by decide +kernel
theorem d21_24 : decode b21 24 = .ok ((.aload_n 0), 1) := by decide +kernel
theorem d21_25 : decode b21 25 = .ok ((.invokestatic 24), 3) := by decide +kernel
theorem d21_28 : decode b21 28 = .ok ((.putfield 28), 3) := by decide +kernel
theorem d21_31 : decode b21 31 = .ok ((.iconst 0), 1) := by decide +kernel
theorem d21_32 : decode b21 32 = .ok ((.istore_n 1), 1) := by decide +kernel
theorem d21_33 : decode b21 33 = .ok ((.iload_n 1), 1) := by decide +kernel
theorem d21_34 : decode b21 34 = .ok ((.aload_n 0), 1) := by decide +kernel
theorem d21_35 : decode b21 35 = .ok ((.getfield 11), 3) := by decide +kernel
theorem d21_38 : decode b21 38 = .ok (.arraylength, 1) := by decide +kernel
theorem d21_39 : decode b21 39 = .ok ((.if_icmp .ge 19), 3) := by decide +kernel
theorem d21_42 : decode b21 42 = .ok ((.aload_n 0), 1) := by decide +kernel
theorem d21_43 : decode b21 43 = .ok ((.getfield 11), 3) := by decide +kernel
theorem d21_46 : decode b21 46 = .ok ((.iload_n 1), 1) := by decide +kernel
theorem d21_47 : decode b21 47 = .ok ((.aload_n 0), 1) := by decide +kernel
theorem d21_48 : decode b21 48 = .ok ((.getfield 28), 3) := by decide +kernel
theorem d21_51 : decode b21 51 = .ok (.aastore, 1) := by decide +kernel
theorem d21_52 : decode b21 52 = .ok ((.iinc 1 1), 3) := by decide +kernel
theorem d21_55 : decode b21 55 = .ok ((.goto (-22)), 3) := by decide +kernel
theorem d21_58 : decode b21 58 = .ok (.return_, 1) := by decide +kernel
set_option maxHeartbeats 1000000 in
theorem c_n_answer (l : Launch) (ρ : RH) (H : Heap) (P : Nat → Prop) (o : Nat) (hC : CC ρ P H) (hPb : ∀ q, P q → q < H.size) (hP : va_P (rD ρ) CL [(o, .inr (4, [.null, .int 0, .int 0, .null]))] H) (hPo : P o) : Met l y21 (wsOf y21 b21 2 none) ({ frames := 13, cells := 2, slots := 515, locals := 619 } : Room) (va_Pc [.ref o] (KP ρ H)) (mQ (fun v H1 => v = none ∧ ∃ (q1 x : Nat) (f : Nat → Option Nat), (∀ j, j < 512 → f j = some x) ∧ va_P (rD ρ) CL [(o, .inr (4, [.ref q1, .int 1, .int 1, .ref x])), (q1, .inl (rA ρ 6, 512, .inr (.inr (.inr (.inr f)))))] H1 ∧ va_D (va_A [(o, .inr (4, [.null, .int 0, .int 0, .null]))] H.size) [(o, .inr (4, [.ref q1, .int 1, .int 1, .ref x])), (q1, .inl (rA ρ 6, 512, .inr (.inr (.inr (.inr f)))))] ∧ isV ρ (fun q => P q ∨ q = q1) H1 x (0, 0, [])) (va_A [(o, .inr (4, [.null, .int 0, .int 0, .null]))] H.size)) 2 515 (va_A [(o, .inr (4, [.null, .int 0, .int 0, .null]))] H.size) := by
  have hZP : ∀ q, q < H.size → va_A [(o, .inr (4, [.null, .int 0, .int 0, .null]))] H.size q → P q := fun q hq z => by
    rcases z with ⟨k, e, hk⟩ | z
    · have h1 : k < 1 := (List.getElem?_eq_some_iff.mp hk).1
      obtain rfl : k = 0 := by omega
      cases hk
      exact hPo
    · omega
  refine m_ofW (own := "WordFunctions$Answer") (plainFor_of_name rfl) rfl (Nat.le_of_ble_eq_true rfl) fun p e s m args below meth c ls hx hb hr hlk hmn X hs0 hl => ?_
  subst hs0
  have hS : va_S (va_A [(o, .inr (4, [.null, .int 0, .int 0, .null]))] s.heap.size) s.heap s.heap [] := va_S.rf
  have hl : lv_has ls 2 [(0, .ref o)] := hl
  have hD : va_D (va_A [(o, .inr (4, [.null, .int 0, .int 0, .null]))] s.heap.size) [(o, .inr (4, [.null, .int 0, .int 0, .null]))] := one_D (Or.inl ⟨0, _, rfl⟩)
  have hPs := hP
  refine lv_aload_n (pc := 0) hx hb d21_0 rfl (lv_at hl 0 rfl) ?_
  refine o_oini (pc := 1) X wd171 hl.1 rfl rfl d21_1 ?_
  refine lv_aload_n (pc := 4) hx hb d21_4 rfl (lv_at hl 0 rfl) ?_
  refine lv_sipush (pc := 5) (v := 512) hx hb d21_5 (by decide) ?_
  refine n_newq (pc := 8) (N' := 512) X hP hD hS (fun q hq => Or.inr hq) 6 rfl X.2.2.2.2.2.2.2.2.2.2.1 wd172 (by decide) (by decide) (by decide) (Nat.le_of_ble_eq_true rfl) (Nat.le_of_ble_eq_true rfl) d21_8 (fun q1 H1 hP hD hS => ?_)
  have hP : va_P (rD ρ) CL [(o, .inr (4, [.null, .int 0, .int 0, .null])), (q1, .inl (rA ρ 6, 512, .inr (.inr (.inr (.inr (fun _ => none))))))] H1 := hP
  have hD : va_D (va_A [(o, .inr (4, [.null, .int 0, .int 0, .null]))] s.heap.size) [(o, .inr (4, [.null, .int 0, .int 0, .null])), (q1, .inl (rA ρ 6, 512, .inr (.inr (.inr (.inr (fun _ => none))))))] := hD
  refine n_putF (pc := 11) X hP hD hS 0 rfl rfl 0 rfl tin4 ty4 tyo4 tnm4 rfl wd174 rfl hmn rfl rfl rfl rfl d21_11 (fun H1 locs1 hP hD hS => ?_)
  have hP : va_P (rD ρ) CL [(o, .inr (4, [.ref q1, .int 0, .int 0, .null])), (q1, .inl (rA ρ 6, 512, .inr (.inr (.inr (.inr (fun _ => none))))))] H1 := hP
  have hD : va_D (va_A [(o, .inr (4, [.null, .int 0, .int 0, .null]))] s.heap.size) [(o, .inr (4, [.ref q1, .int 0, .int 0, .null])), (q1, .inl (rA ρ 6, 512, .inr (.inr (.inr (.inr (fun _ => none))))))] := hD
  refine lv_aload_n (pc := 14) hx hb d21_14 rfl (lv_at hl 0 rfl) ?_
  refine lv_iconst (pc := 15) (v := 1) hx hb d21_15 (by decide) ?_
  refine n_put (pc := 16) X hP hD hS 0 rfl rfl 1 rfl tin4 ty4 tyo4 tnm4 rfl wd175 rfl rfl rfl rfl d21_16 (fun H1 locs1 hP hD hS => ?_)
  have hP : va_P (rD ρ) CL [(o, .inr (4, [.ref q1, .int 1, .int 0, .null])), (q1, .inl (rA ρ 6, 512, .inr (.inr (.inr (.inr (fun _ => none))))))] H1 := hP
  have hD : va_D (va_A [(o, .inr (4, [.null, .int 0, .int 0, .null]))] s.heap.size) [(o, .inr (4, [.ref q1, .int 1, .int 0, .null])), (q1, .inl (rA ρ 6, 512, .inr (.inr (.inr (.inr (fun _ => none))))))] := hD
  refine lv_aload_n (pc := 19) hx hb d21_19 rfl (lv_at hl 0 rfl) ?_
  refine lv_iconst (pc := 20) (v := 1) hx hb d21_20 (by decide) ?_
  refine n_put (pc := 21) X hP hD hS 0 rfl rfl 2 rfl tin4 ty4 tyo4 tnm4 rfl wd177 rfl rfl rfl rfl d21_21 (fun H1 locs1 hP hD hS => ?_)
  have hP : va_P (rD ρ) CL [(o, .inr (4, [.ref q1, .int 1, .int 1, .null])), (q1, .inl (rA ρ 6, 512, .inr (.inr (.inr (.inr (fun _ => none))))))] H1 := hP
  have hD : va_D (va_A [(o, .inr (4, [.null, .int 0, .int 0, .null]))] s.heap.size) [(o, .inr (4, [.ref q1, .int 1, .int 1, .null])), (q1, .inl (rA ρ 6, 512, .inr (.inr (.inr (.inr (fun _ => none))))))] := hD
  refine lv_aload_n (pc := 24) hx hb d21_24 rfl (lv_at hl 0 rfl) ?_
  skip
  have hCv : CC ρ (fun q => P q ∨ s.heap.size ≤ q ∧ q < H1.size) H1 := hC.step (H1 := H1) (Z := va_A [(o, .inr (4, [.null, .int 0, .int 0, .null]))] s.heap.size) ⟨hS.1, fun q h1 h2 => hS.2.1 q h1 h2⟩ hZP (fun q hq z => z.elim id (fun g => absurd hq (by omega)))
  have hPv : ∀ q, (P q ∨ s.heap.size ≤ q ∧ q < H1.size) → q < H1.size := fun q z => z.elim (fun g => Nat.lt_of_lt_of_le (hPb q g) hS.1) (fun g => g.2)
  refine k_callS (pc := 25) (n := 0) X hS (c_vl_ofEmpty l ρ _ (fun q => P q ∨ s.heap.size ≤ q ∧ q < H1.size) _ hCv hPv rfl) wd67 wd173 wd66 wd4 (by decide) ⟨rfl, rfl, Nat.le_of_ble_eq_true rfl, Nat.le_of_ble_eq_true rfl⟩ (As := []) (rest := [.ref o]) rfl rfl hl.1 (Nat.le_of_ble_eq_true rfl) d21_25 ⟨(Nat.le_of_ble_eq_true rfl), (Nat.le_of_ble_eq_true rfl)⟩ (fun q hq => Or.inr (Nat.le_trans hS.1 hq)) (fun v H2 locs1 hv hz1 hq1 hS2 => ?_)
  obtain ⟨x, rfl, hxv⟩ := hv
  have hPs2 := hP
  have hxl : H1.size ≤ H2.size := hz1
  have hP2 := hP.kept (H1 := H2) (fun k q hk => hq1 q.1 ((hP k q hk).lt) (by have := (hP k q hk).lt; omega))
  have hP := hP2
  have hS := hS2
  have hoq : q1 < H1.size := (hPs2 1 _ rfl).lt
  have hqs : s.heap.size ≤ q1 := by rcases hD.2 1 _ rfl with ⟨k, e, hk⟩ | z; exact absurd (hD.1 0 1 _ _ rfl rfl (by have h1 : k < 1 := (List.getElem?_eq_some_iff.mp hk).1; obtain rfl : k = 0 := (by omega); cases hk; rfl)) (by decide); exact z
  have hxq : ¬ (P x ∨ s.heap.size ≤ x ∧ x < H1.size) := isV_out hxv
  refine n_puto (pc := 28) X hP hD hS 0 rfl rfl 3 rfl tin4 ty4 tyo4 tnm4 rfl wd179 rfl rfl rfl rfl d21_28 (fun H3 locs1 hP hD hS hz hq => ?_)
  have hP : va_P (rD ρ) CL [(o, .inr (4, [.ref q1, .int 1, .int 1, .ref x])), (q1, .inl (rA ρ 6, 512, .inr (.inr (.inr (.inr (fun _ => none))))))] H3 := hP
  have hD : va_D (va_A [(o, .inr (4, [.null, .int 0, .int 0, .null]))] s.heap.size) [(o, .inr (4, [.ref q1, .int 1, .int 1, .ref x])), (q1, .inl (rA ρ 6, 512, .inr (.inr (.inr (.inr (fun _ => none))))))] := hD
  have hxv := hxv.keep (kp_one hz hq) (fun q _ e => by rw [e]; exact Or.inl hPo)
  refine lv_iconst (pc := 31) (v := 0) hx hb d21_31 (by decide) ?_
  refine lv_istore_n (pc := 32) (lv' := [(1, .int 0), (0, .ref o)]) hx hb d21_32 rfl hl (by decide) rfl (fun ls hl => ?_)
  have key : ∀ (n i : Nat) (H : Heap) (f : Nat → Option Nat) (locs : List Loc) (ls : Array Slot), 512 - i = n → i ≤ 512 → (∀ j, j < i → f j = some x) → va_P (rD ρ) CL [(o, .inr (4, [.ref q1, .int 1, .int 1, .ref x])), (q1, .inl (rA ρ 6, 512, .inr (.inr (.inr (.inr (f))))))] H → va_D (va_A [(o, .inr (4, [.null, .int 0, .int 0, .null]))] s.heap.size) [(o, .inr (4, [.ref q1, .int 1, .int 1, .ref x])), (q1, .inl (rA ρ 6, 512, .inr (.inr (.inr (.inr (f))))))] → va_S (va_A [(o, .inr (4, [.null, .int 0, .int 0, .null]))] s.heap.size) s.heap H locs → isV ρ (fun q => P q ∨ s.heap.size ≤ q ∧ q < H1.size) H x (0, 0, []) → lv_has ls 2 [(1, .int (nI i)), (0, .ref o)] → W p l e ({ frames := 13, cells := 2, slots := 515, locals := 619 } : Room) s m args below meth c H locs 2 515 (MQ below (mQ (fun v H1 => v = none ∧ ∃ (q1 x : Nat) (f : Nat → Option Nat), (∀ j, j < 512 → f j = some x) ∧ va_P (rD ρ) CL [(o, .inr (4, [.ref q1, .int 1, .int 1, .ref x])), (q1, .inl (rA ρ 6, 512, .inr (.inr (.inr (.inr f)))))] H1 ∧ va_D (va_A [(o, .inr (4, [.null, .int 0, .int 0, .null]))] s.heap.size) [(o, .inr (4, [.ref q1, .int 1, .int 1, .ref x])), (q1, .inl (rA ρ 6, 512, .inr (.inr (.inr (.inr f)))))] ∧ isV ρ (fun q => P q ∨ q = q1) H1 x (0, 0, [])) (va_A [(o, .inr (4, [.null, .int 0, .int 0, .null]))] s.heap.size)) args s 2 515 (va_A [(o, .inr (4, [.null, .int 0, .int 0, .null]))] s.heap.size)) (F0 m 33 ls []) := by
    intro n
    induction n with
    | zero =>
      intro i H f locs ls hn hi hf hP hD hS hxv hl
      refine lv_iload_n (pc := 33) hx hb d21_33 rfl (lv_at hl 0 rfl) ?_
      refine lv_aload_n (pc := 34) hx hb d21_34 rfl (lv_at hl 1 rfl) ?_
      refine n_get (pc := 35) X hP 0 rfl rfl 0 rfl rfl tin4 rfl wd174 d21_35 ?_
      refine n_qlen (pc := 38) X hP 1 6 rfl rfl d21_38 ?_
      refine lv_icmp_ge (pc := 39) (tgt := 58) hx hb d21_39 (by decide) (fun zbr => ?_) (fun zbr => absurd (nI_le (a := 512) (b := i) (by omega) (by omega)) zbr)
      exact m_vret (pc := 58) hx hb hr hlk hS ⟨rfl, q1, x, f, fun j hj => hf j (by omega), hP, hD, hxv.step kp.rf no_hz (fun q hq z => z.elim Or.inl (fun e => Or.inr (by rw [e]; exact ⟨hqs, hoq⟩)))⟩ (Nat.le_refl _) (Nat.le_refl _) d21_58
    | succ n ih =>
      intro i H f locs ls hn hi hf hP hD hS hxv hl
      refine lv_iload_n (pc := 33) hx hb d21_33 rfl (lv_at hl 0 rfl) ?_
      refine lv_aload_n (pc := 34) hx hb d21_34 rfl (lv_at hl 1 rfl) ?_
      refine n_get (pc := 35) X hP 0 rfl rfl 0 rfl rfl tin4 rfl wd174 d21_35 ?_
      refine n_qlen (pc := 38) X hP 1 6 rfl rfl d21_38 ?_
      refine lv_icmp_ge (pc := 39) (tgt := 58) hx hb d21_39 (by decide) (fun zbr => absurd zbr (fun z => absurd (nI_lt (show i < 512 by omega) (by decide)) (Int32.not_lt.mpr z))) (fun zbr => ?_)
      refine lv_aload_n (pc := 42) hx hb d21_42 rfl (lv_at hl 1 rfl) ?_
      refine n_get (pc := 43) X hP 0 rfl rfl 0 rfl rfl tin4 rfl wd174 d21_43 ?_
      refine lv_iload_n (pc := 46) hx hb d21_46 rfl (lv_at hl 0 rfl) ?_
      refine lv_aload_n (pc := 47) hx hb d21_47 rfl (lv_at hl 1 rfl) ?_
      refine n_get (pc := 48) X hP 0 rfl rfl 3 rfl rfl tin4 rfl wd179 d21_48 ?_
      refine n_astVo (pc := 51) X hP hD hS 1 rfl hxv (inb_of (show i < 512 by omega) (by decide)) d21_51 (fun H4 locs1 hP hD hS hz hq => ?_)
      rw [nI_clamp (show i < 2 ^ 31 by omega)] at hP hD
      have hxv := hxv.keep (kp_one hz hq) (fun q _ e => by rw [e]; exact Or.inr ⟨hqs, hoq⟩)
      refine lv_iinc (pc := 52) (v := (nI (i + 1))) (lv' := [(1, .int (nI (i + 1))), (0, .ref o)]) hx hb d21_52 hl (k := 0) rfl ((nI_succ i).symm) (by decide) rfl (fun ls hl => ?_)
      refine lv_goto (pc := 55) (tgt := 33) hx hb d21_55 (by decide) ?_
      exact ih (i + 1) _ _ _ _ (by omega) (by omega) (fun j hj => by by_cases e : j = i; rw [e]; exact va_up_self _ _ _; rw [va_up_ne _ _ e]; exact hf j (by omega)) hP hD hS hxv (lv_sub hl [0, 1] rfl)
  exact key 512 0 _ _ _ _ rfl (by decide) (fun j hj => absurd hj (Nat.not_lt_zero j)) hP hD hS hxv (lv_sub hl [0, 1] rfl)
