section R3
variable {p : Program} {l : Launch} {e : Env} {R : Room} {s : State} {m : MethodId} {args : Array Value} {below : List Frame} {meth : Method} {c : Code} {H : Heap} {locs : List Loc} {cells slots : Nat} {Q : State → Prop}
variable {cc : ByteArray} {pc nL : Nat} {ls : Array Slot} {rest st0 : List Value} {own : String} {ρ : RH} {w0 : Cond} {A : Nat → Prop} {H0 : Heap} {P : Nat → Prop} {ad : Nat → Nat} {st : CS}
theorem kp_one {H H1 : Heap} {a : Nat} (z : H1.size = H.size) (oq : ∀ q, q ≠ a → H1[q]? = H[q]?) : kp (fun q => q = a) H H1 := ⟨by rw [z]; exact Nat.le_refl _, fun q _ hn => oq q hn⟩
theorem kp_P {H H1 : Heap} {a : Nat} (ha : P a) (h : kp (fun q => q = a) H H1) : kp P H H1 := h.wk (fun q _ e => by rw [e]; exact ha)
/-- an int field; a constant reference -/
theorem c_getI (X : CX p s m c args own cc nL ρ w0) (hW : CW ρ P ad st H) (i k ci : Nat) {C ref : String} {T : u_T} {N index : Nat} (hi : i < 46) (hd : tabC i = (0, ci)) (hc : CL[ci]? = some (C, T, N)) (hn : nf ci = N) (hk : Nat.ble (k + 1) N = true) (hin : ∀ w ∈ u_ws C T N, w ∈ TG) (hsame : (T k).1 = ref) (hl : Cond.fieldLink own index ref (T k).2.1 (T k).2.2.1 ∈ TG) (hf : fk ci k = 0) (hdg : decode cc pc = .ok (.getfield index, 3))
    (kk : W p l e R s m args below meth c H locs cells slots Q (F0 m (pc + 3) ls (.int (st.1 i k) :: rest))) : W p l e R s m args below meth c H locs cells slots Q (F0 m pc ls (.ref (ad i) :: rest)) := by
  obtain ⟨h1, h2, h3, Rf, hG, hR⟩ := hW
  exact r_get X hG i k ci hi hd hc hn (Nat.le_of_ble_eq_true hk) hin hsame hl (by unfold gV; rw [hf]; rfl) hdg kk
theorem c_getK (X : CX p s m c args own cc nL ρ w0) (hW : CW ρ P ad st H) (i k ci j : Nat) {C ref : String} {T : u_T} {N index : Nat} (hi : i < 46) (hd : tabC i = (0, ci)) (hc : CL[ci]? = some (C, T, N)) (hn : nf ci = N) (hk : Nat.ble (k + 1) N = true) (hin : ∀ w ∈ u_ws C T N, w ∈ TG) (hsame : (T k).1 = ref) (hl : Cond.fieldLink own index ref (T k).2.1 (T k).2.2.1 ∈ TG) (hf : fk ci k = 2) (hj : ctC i k = j) (hdg : decode cc pc = .ok (.getfield index, 3))
    (kk : W p l e R s m args below meth c H locs cells slots Q (F0 m (pc + 3) ls (.ref (ad j) :: rest))) : W p l e R s m args below meth c H locs cells slots Q (F0 m pc ls (.ref (ad i) :: rest)) := by
  obtain ⟨h1, h2, h3, Rf, hG, hR⟩ := hW
  exact r_get X hG i k ci hi hd hc hn (Nat.le_of_ble_eq_true hk) hin hsame hl (by unfold gV; rw [hf]; show Value.ref (ad (ctC i k)) = _; rw [hj]) hdg kk
/-- the references that change -/
theorem c_getcut (X : CX p s m c args own cc nL ρ w0) (hW : CW ρ P ad st H) {index : Nat} (hl : Cond.fieldLink own index "WordFunctions" "cut" "Ljava/lang/String;" ∈ TG) (hdg : decode cc pc = .ok (.getfield index, 3))
    (kk : ∀ a, isS ρ P H a (st.2 0 2).2.2 → W p l e R s m args below meth c H locs cells slots Q (F0 m (pc + 3) ls (.ref a :: rest))) : W p l e R s m args below meth c H locs cells slots Q (F0 m pc ls (.ref (ad 0) :: rest)) := by
  obtain ⟨h1, h2, h3, Rf, hG, hR⟩ := hW
  exact r_get X hG 0 2 9 (C := "WordFunctions") (T := T9) (N := 9) (by decide) rfl rfl rfl (by decide) tin9 rfl hl (v := .ref (Rf 0 2)) rfl hdg (kk _ hR.1)
theorem c_gettold (X : CX p s m c args own cc nL ρ w0) (hW : CW ρ P ad st H) {index : Nat} (hl : Cond.fieldLink own index "WordFunctions$Answer" "told" "LWordFunctions$Value;" ∈ TG) (hdg : decode cc pc = .ok (.getfield index, 3))
    (kk : ∀ a, isV ρ P H a (st.2 2 3) → W p l e R s m args below meth c H locs cells slots Q (F0 m (pc + 3) ls (.ref a :: rest))) : W p l e R s m args below meth c H locs cells slots Q (F0 m pc ls (.ref (ad 2) :: rest)) := by
  obtain ⟨h1, h2, h3, Rf, hG, hR⟩ := hW
  exact r_get X hG 2 3 4 (C := "WordFunctions$Answer") (T := T4) (N := 4) (by decide) rfl rfl rfl (by decide) tin4 rfl hl (v := .ref (Rf 2 3)) rfl hdg (kk _ hR.2.2.1)
theorem c_getempty (X : CX p s m c args own cc nL ρ w0) (hW : CW ρ P ad st H) {index : Nat} (hl : Cond.fieldLink own index "WordFunctions$Arguments" "empty" "LWordFunctions$Value;" ∈ TG) (hdg : decode cc pc = .ok (.getfield index, 3))
    (kk : ∀ a, isV ρ P H a (st.2 1 0) → W p l e R s m args below meth c H locs cells slots Q (F0 m (pc + 3) ls (.ref a :: rest))) : W p l e R s m args below meth c H locs cells slots Q (F0 m pc ls (.ref (ad 1) :: rest)) := by
  obtain ⟨h1, h2, h3, Rf, hG, hR⟩ := hW
  exact r_get X hG 1 0 3 (C := "WordFunctions$Arguments") (T := T3) (N := 9) (by decide) rfl rfl rfl (by decide) tin3 rfl hl (v := .ref (Rf 1 0)) rfl hdg (kk _ hR.2.1)
theorem CW.put {st' : CS} {H1 : Heap} {Rf' : Nat → Nat → Nat} {i : Nat} (h : CW ρ P ad st H) (hR : CR ρ P st' Rf' H) (hG : GW ρ wC ad (CG st' Rf') H1) (hi : i < 46) (hk : kp (fun q => q = ad i) H H1) : CW ρ P ad st' H1 := by
  have hz : ∀ q, q < H.size → q = ad i → P q := fun q _ e => by rw [e]; exact h.1 i hi
  exact ⟨h.1, fun q hq => hk.lt (h.2.1 q hq), h.2.2.1.keep hk hz, Rf', hG, hR.step hk hz (fun _ _ z => z)⟩
theorem c_putI (X : CX p s m c args own cc nL ρ w0) (hW : CW ρ P ad st H) (hS : va_S A H0 H locs) (i k ci : Nat) {C ref : String} {T : u_T} {N index : Nat} {x : Int32} {st' : CS} (hst : st' = uC st i k x) (hA : A (ad i)) (hi : i < 46) (hd : tabC i = (0, ci)) (hc : CL[ci]? = some (C, T, N)) (hn : nf ci = N) (hk : Nat.ble (k + 1) N = true) (hin : ∀ w ∈ u_ws C T N, w ∈ TG) (ty0 : Nat → FieldType) (hty : ∀ k, k < N → parseFieldDescriptor (T k).2.2.1 = some (ty0 k)) (hnm : ∀ a, a < N → ∀ b, b < N → a ≠ b → (T a).2.1 ≠ (T b).2.1) (hsame : (T k).1 = ref) (hl : Cond.fieldLink own index ref (T k).2.1 (T k).2.2.1 ∈ TG) (hfin : (T k).2.2.2 = false) (hf : fk ci k = 0) (hnr : narrow (ty0 k) (.int x) = .int x) (hfit : fits (ty0 k) (.int x) = true) (hdg : decode cc pc = .ok (.putfield index, 3))
    (kk : ∀ (H1 : Heap) (locs1 : List Loc), CW ρ P ad st' H1 → va_S A H0 H1 locs1 → kp P H H1 → W p l e R s m args below meth c H1 locs1 cells slots Q (F0 m (pc + 3) ls rest)) : W p l e R s m args below meth c H locs cells slots Q (F0 m pc ls (.int x :: .ref (ad i) :: rest)) := by
  obtain ⟨h1, h2, h3, Rf, hG, hR⟩ := id hW
  subst hst
  refine r_put X hG hS i k ci (st' := CG (uC st i k x) Rf) hA hi hd hc hn (Nat.le_of_ble_eq_true hk) hin ty0 hty hnm hsame hl hfin hnr hfit (fun j _ => gV_putI (st := CG st Rf) rfl hf j) (uI_off (st := CG st Rf) rfl) hdg (fun H1 locs1 a b z oq => ?_)
  have hkp := kp_one z oq
  exact kk H1 locs1 (hW.put hR a hi hkp) b (kp_P (h1 i hi) hkp)
/-- references put -/
theorem gV_putR {ct : Nat → Nat → Nat} {st st' : GS} {i c k x : Nat} (hst : st' = uR st i k x) (hf : fk c k = 3) (j : Nat) : updV (gV ct ad st i c) k (.ref x) j = gV ct ad st' i c j := by
  subst hst
  unfold updV gV uR
  dsimp only
  rw [if_pos rfl]
  by_cases hj : j = k
  · subst hj; rw [if_pos rfl, hf]; simp [va_up]
  · rw [if_neg hj]; simp [va_up, hj]
theorem uR_off {st st' : GS} {i k x : Nat} (hst : st' = uR st i k x) : ∀ j, j ≠ i → st'.1 j = st.1 j ∧ st'.2.1 j = st.2.1 j ∧ st'.2.2 j = st.2.2 j := by
  subst hst
  exact fun j hj => ⟨rfl, rfl, if_neg hj⟩
theorem c_putcut (X : CX p s m c args own cc nL ρ w0) (hW : CW ρ P ad st H) (hS : va_S A H0 H locs) {index x : Nat} {t : TT} {st' : CS} (hx : isS ρ P H x t) (hst : st' = uV st 0 2 (0, 0, t)) (hA : A (ad 0)) (hl : Cond.fieldLink own index "WordFunctions" "cut" "Ljava/lang/String;" ∈ TG) (hdg : decode cc pc = .ok (.putfield index, 3))
    (kk : ∀ (H1 : Heap) (locs1 : List Loc), CW ρ P ad st' H1 → va_S A H0 H1 locs1 → kp P H H1 → W p l e R s m args below meth c H1 locs1 cells slots Q (F0 m (pc + 3) ls rest)) : W p l e R s m args below meth c H locs cells slots Q (F0 m pc ls (.ref x :: .ref (ad 0) :: rest)) := by
  obtain ⟨h1, h2, h3, Rf, hG, hR⟩ := id hW
  subst hst
  refine r_put X hG hS 0 2 9 (st' := uR (CG st Rf) 0 2 x) (C := "WordFunctions") (T := T9) (N := 9) hA (by decide) rfl rfl rfl (by decide) tin9 ty9 tyo9 tnm9 rfl hl rfl rfl rfl (fun j _ => gV_putR (st := CG st Rf) rfl rfl j) (uR_off (st := CG st Rf) rfl) hdg (fun H1 locs1 a b z oq => ?_)
  have hkp := kp_one z oq
  refine kk H1 locs1 (hW.put (Rf' := (uR (CG st Rf) 0 2 x).2.2) ?_ a (by decide) hkp) b (kp_P (h1 0 (by decide)) hkp)
  exact ⟨hx, hR.2.1, hR.2.2.1, hR.2.2.2.1, hR.2.2.2.2⟩
theorem c_puttold (X : CX p s m c args own cc nL ρ w0) (hW : CW ρ P ad st H) (hS : va_S A H0 H locs) {index x : Nat} {v : VV} {st' : CS} (hx : isV ρ P H x v) (hst : st' = uV st 2 3 v) (hA : A (ad 2)) (hl : Cond.fieldLink own index "WordFunctions$Answer" "told" "LWordFunctions$Value;" ∈ TG) (hdg : decode cc pc = .ok (.putfield index, 3))
    (kk : ∀ (H1 : Heap) (locs1 : List Loc), CW ρ P ad st' H1 → va_S A H0 H1 locs1 → kp P H H1 → W p l e R s m args below meth c H1 locs1 cells slots Q (F0 m (pc + 3) ls rest)) : W p l e R s m args below meth c H locs cells slots Q (F0 m pc ls (.ref x :: .ref (ad 2) :: rest)) := by
  obtain ⟨h1, h2, h3, Rf, hG, hR⟩ := id hW
  subst hst
  refine r_put X hG hS 2 3 4 (st' := uR (CG st Rf) 2 3 x) (C := "WordFunctions$Answer") (T := T4) (N := 4) hA (by decide) rfl rfl rfl (by decide) tin4 ty4 tyo4 tnm4 rfl hl rfl rfl rfl (fun j _ => gV_putR (st := CG st Rf) rfl rfl j) (uR_off (st := CG st Rf) rfl) hdg (fun H1 locs1 a b z oq => ?_)
  have hkp := kp_one z oq
  refine kk H1 locs1 (hW.put (Rf' := (uR (CG st Rf) 2 3 x).2.2) ?_ a (by decide) hkp) b (kp_P (h1 2 (by decide)) hkp)
  exact ⟨hR.1, hR.2.1, hx, hR.2.2.2.1, hR.2.2.2.2⟩
/-- arrays of ints, chars, booleans -/
theorem c_iald (X : CX p s m c args own cc nL ρ w0) (hW : CW ρ P ad st H) (i : Nat) {len : Nat} (hi : i < 46) (hd : tabC i = (1, len)) {j : Int32} (hin : inb j len = true) (hdg : decode cc pc = .ok (.iaload, 1))
    (kk : W p l e R s m args below meth c H locs cells slots Q (F0 m (pc + 1) ls (.int (st.1 i j.toNatClampNeg) :: rest))) : W p l e R s m args below meth c H locs cells slots Q (F0 m pc ls (.int j :: .ref (ad i) :: rest)) := by
  obtain ⟨h1, h2, h3, Rf, hG, hR⟩ := hW
  exact r_iald X hG i hi hd (inb_in hin) hdg kk
theorem c_zald (X : CX p s m c args own cc nL ρ w0) (hW : CW ρ P ad st H) (i : Nat) {len : Nat} (hi : i < 46) (hd : tabC i = (2, len)) {j : Int32} (hin : inb j len = true) (hdg : decode cc pc = .ok (.baload, 1))
    (kk : W p l e R s m args below meth c H locs cells slots Q (F0 m (pc + 1) ls (.int (st.1 i j.toNatClampNeg) :: rest))) : W p l e R s m args below meth c H locs cells slots Q (F0 m pc ls (.int j :: .ref (ad i) :: rest)) := by
  obtain ⟨h1, h2, h3, Rf, hG, hR⟩ := hW
  exact r_zald X hG i hi hd (inb_in hin) hdg kk
theorem c_cald (X : CX p s m c args own cc nL ρ w0) (hW : CW ρ P ad st H) (i : Nat) {len : Nat} (hi : i < 46) (hd : tabC i = (3, len)) {j : Int32} (hin : inb j len = true) (hdg : decode cc pc = .ok (.caload, 1))
    (kk : W p l e R s m args below meth c H locs cells slots Q (F0 m (pc + 1) ls (.int (st.1 i j.toNatClampNeg) :: rest))) : W p l e R s m args below meth c H locs cells slots Q (F0 m pc ls (.int j :: .ref (ad i) :: rest)) := by
  obtain ⟨h1, h2, h3, Rf, hG, hR⟩ := hW
  exact r_cald X hG i hi hd (inb_in hin) hdg kk
theorem c_iast (X : CX p s m c args own cc nL ρ w0) (hW : CW ρ P ad st H) (hS : va_S A H0 H locs) (i : Nat) {len : Nat} {st' : CS} {j x : Int32} (hA : A (ad i)) (hi : i < 46) (hd : tabC i = (1, len)) (hin : inb j len = true) (hst : st' = uC st i j.toNatClampNeg x) (hdg : decode cc pc = .ok (.iastore, 1))
    (kk : ∀ (H1 : Heap) (locs1 : List Loc), CW ρ P ad st' H1 → va_S A H0 H1 locs1 → kp P H H1 → W p l e R s m args below meth c H1 locs1 cells slots Q (F0 m (pc + 1) ls rest)) : W p l e R s m args below meth c H locs cells slots Q (F0 m pc ls (.int x :: .int j :: .ref (ad i) :: rest)) := by
  obtain ⟨h1, h2, h3, Rf, hG, hR⟩ := id hW
  subst hst
  refine r_iast X hG hS i hA hi hd (inb_in hin) hdg (fun H1 locs1 a b z oq => ?_)
  exact kk H1 locs1 (hW.put hR a hi (kp_one z oq)) b (kp_P (h1 i hi) (kp_one z oq))
theorem c_zast (X : CX p s m c args own cc nL ρ w0) (hW : CW ρ P ad st H) (hS : va_S A H0 H locs) (i : Nat) {len : Nat} {st' : CS} {j x : Int32} (hA : A (ad i)) (hi : i < 46) (hd : tabC i = (2, len)) (hx : isB x = true) (hin : inb j len = true) (hst : st' = uC st i j.toNatClampNeg x) (hdg : decode cc pc = .ok (.bastore, 1))
    (kk : ∀ (H1 : Heap) (locs1 : List Loc), CW ρ P ad st' H1 → va_S A H0 H1 locs1 → kp P H H1 → W p l e R s m args below meth c H1 locs1 cells slots Q (F0 m (pc + 1) ls rest)) : W p l e R s m args below meth c H locs cells slots Q (F0 m pc ls (.int x :: .int j :: .ref (ad i) :: rest)) := by
  obtain ⟨h1, h2, h3, Rf, hG, hR⟩ := id hW
  subst hst
  refine r_zast X hG hS i hA hi hd (isB_or hx) (inb_in hin) hdg (fun H1 locs1 a b z oq => ?_)
  exact kk H1 locs1 (hW.put hR a hi (kp_one z oq)) b (kp_P (h1 i hi) (kp_one z oq))
theorem isC_nar {x : Int32} (h : isC x = true) : narrow .char (.int x) = .int x := by
  unfold isC at h
  simp only [Bool.and_eq_true, decide_eq_true_eq] at h
  obtain ⟨h1, h2⟩ := h
  have hx : x = nI x.toInt.toNat := by
    apply Int32.toInt_inj.mp
    rw [nI_toInt (by omega)]
    omega
  rw [hx]
  exact (pk_charN (by omega)).1
theorem c_cast (X : CX p s m c args own cc nL ρ w0) (hW : CW ρ P ad st H) (hS : va_S A H0 H locs) (i : Nat) {len : Nat} {st' : CS} {j x : Int32} (hA : A (ad i)) (hi : i < 46) (hd : tabC i = (3, len)) (hx : isC x = true) (hin : inb j len = true) (hst : st' = uC st i j.toNatClampNeg x) (hdg : decode cc pc = .ok (.castore, 1))
    (kk : ∀ (H1 : Heap) (locs1 : List Loc), CW ρ P ad st' H1 → va_S A H0 H1 locs1 → kp P H H1 → W p l e R s m args below meth c H1 locs1 cells slots Q (F0 m (pc + 1) ls rest)) : W p l e R s m args below meth c H locs cells slots Q (F0 m pc ls (.int x :: .int j :: .ref (ad i) :: rest)) := by
  obtain ⟨h1, h2, h3, Rf, hG, hR⟩ := id hW
  subst hst
  refine r_cast X hG hS i hA hi hd (isC_nar hx) (inb_in hin) hdg (fun H1 locs1 a b z oq => ?_)
  exact kk H1 locs1 (hW.put hR a hi (kp_one z oq)) b (kp_P (h1 i hi) (kp_one z oq))
/-- arrays of references, lengths kept as variables -/
theorem g_arr5 {w : WD} {gs : GS} (hW : GW ρ w ad gs H) {i len : Nat} (hi : i < w.1) (hd : w.2.1 i = (5, len)) : H[ad i]? = some (arrV (rA ρ 6) len (fun j => .ref (gs.2.2 i j))) := g_arr hW hi hd (by decide)
theorem g_arr6 {w : WD} {gs : GS} (hW : GW ρ w ad gs H) {i len : Nat} (hi : i < w.1) (hd : w.2.1 i = (6, len)) : H[ad i]? = some (arrV (rA ρ 7) len (fun j => .ref (ad (w.2.2 i j)))) := g_arr hW hi hd (by decide)
theorem w_aald (X : CX p s m c args own cc nL ρ w0) {a len : Nat} {cA : ClassId} {f : Nat → Value} {C : String} (hcell : H[a]? = some (arrV cA len f)) (hT : ArrOfT s cA (.object C)) {j : Int32} (hin : vp_in j len) (hdg : decode cc pc = .ok (.aaload, 1))
    (kk : W p l e R s m args below meth c H locs cells slots Q (F0 m (pc + 1) ls (f j.toNatClampNeg :: rest))) : W p l e R s m args below meth c H locs cells slots Q (F0 m pc ls (.int j :: .ref a :: rest)) := by
  have hlt : j.toNatClampNeg < len := Nat.not_le.mp fun q => hin (Or.inr q)
  exact W.aald (v := f j.toNatClampNeg) (ty := .object C) X.1.1 X.1.2.1 hcell (hT len f) rfl (fun q => by cases q) (by rw [arrV_size]; exact hin) (arrV_read _ _ hlt) rfl rfl hdg kk
theorem w_aast (X : CX p s m c args own cc nL ρ w0) {a x len : Nat} {cA comp : ClassId} {kA kC : Class} {f : Nat → Value} {C : String} {cellV : Cell} (hcell : H[a]? = some (arrV cA len f)) (k1 : s.vm.classes[cA]? = some kA) (k2 : kA.kind = .array comp (.object C)) (hkC : s.vm.classes[comp]? = some kC) {j : Int32} (hin : vp_in j len) (g1 : H[x]? = some cellV) (g3 : cellV.vm = .none) (g2 : cellV.cls = comp) (hasg : s.vm.assignable comp comp = true) (hdg : decode cc pc = .ok (.aastore, 1))
    (kk : ∀ H' : Heap, H'[a]? = some (arrV cA len (updV f j.toNatClampNeg (.ref x))) → H'.size = H.size → (∀ q, q ≠ a → H'[q]? = H[q]?) → W p l e R s m args below meth c H' (locs ++ [⟨a, j.toNatClampNeg⟩]) cells slots Q (F0 m (pc + 1) ls rest)) : W p l e R s m args below meth c H locs cells slots Q (F0 m pc ls (.ref x :: .int j :: .ref a :: rest)) := by
  have hlt : j.toNatClampNeg < len := Nat.not_le.mp fun q => hin (Or.inr q)
  refine W.aast X.1.1 X.1.2.1 hcell (fun q h => by cases h) (fun h => by cases h) k1 k2 rfl hkC ⟨fun q => hin (Or.inl q), by rw [arrV_size]; exact hlt⟩ g1 (fun q h => by rw [g3] at h; cases h) (by rw [g2]; exact hkC) (by rw [g2]; exact hasg) rfl rfl hdg fun H1 e z oq => ?_
  rw [arrV_store] at e
  exact kk H1 e z oq
/-- arrays of values, of grids -/
theorem c_vald (X : CX p s m c args own cc nL ρ w0) (hW : CW ρ P ad st H) (i : Nat) (hi : i = 40 ∨ i = 42) {j : Int32} (hin : inb j 512 = true) (hdg : decode cc pc = .ok (.aaload, 1))
    (kk : ∀ a, isV ρ P H a (st.2 i j.toNatClampNeg) → W p l e R s m args below meth c H locs cells slots Q (F0 m (pc + 1) ls (.ref a :: rest))) : W p l e R s m args below meth c H locs cells slots Q (F0 m pc ls (.int j :: .ref (ad i) :: rest)) := by
  obtain ⟨h1, h2, h3, Rf, hG, hR⟩ := hW
  have hn := inb_in hin
  have hlt : j.toNatClampNeg < 512 := Nat.not_le.mp fun q => hn (Or.inr q)
  have hd : tabC i = (5, 512) ∧ i < 46 := by rcases hi with rfl | rfl <;> exact ⟨rfl, by decide⟩
  have hv : isV ρ P H (Rf i j.toNatClampNeg) (st.2 i j.toNatClampNeg) := by
    rcases hi with rfl | rfl
    · exact hR.2.2.2.1 _ hlt
    · exact hR.2.2.2.2 _ hlt
  exact w_aald X (g_arr5 hG hd.2 hd.1) (k_arr X.2 6 rfl) hn hdg (kk _ hv)
theorem c_gald (X : CX p s m c args own cc nL ρ w0) (hW : CW ρ P ad st H) {j : Int32} (hin : inb j 30 = true) (hdg : decode cc pc = .ok (.aaload, 1))
    (kk : W p l e R s m args below meth c H locs cells slots Q (F0 m (pc + 1) ls (.ref (ad (9 + j.toNatClampNeg)) :: rest))) : W p l e R s m args below meth c H locs cells slots Q (F0 m pc ls (.int j :: .ref (ad 41) :: rest)) := by
  obtain ⟨h1, h2, h3, Rf, hG, hR⟩ := hW
  exact w_aald X (g_arr6 hG (i := 41) (by decide) rfl) (k_arr X.2 7 rfl) (inb_in hin) hdg kk
theorem tabC_grid : ∀ n, n < 30 → 9 + n < 46 ∧ tabC (9 + n) = (0, 2) := by decide +kernel
theorem grid_ok {j : Int32} (h : inb j 30 = true) : 9 + j.toNatClampNeg < 46 ∧ tabC (9 + j.toNatClampNeg) = (0, 2) := tabC_grid _ (Nat.not_le.mp fun q => (inb_in h) (Or.inr q))
theorem c_vast (X : CX p s m c args own cc nL ρ w0) (hW : CW ρ P ad st H) (hS : va_S A H0 H locs) (i : Nat) {st' : CS} {j : Int32} {x : Nat} {v : VV} (hA : A (ad i)) (hi : i = 40 ∨ i = 42) (hx : isV ρ P H x v) (hin : inb j 512 = true) (hst : st' = uV st i j.toNatClampNeg v) (hdg : decode cc pc = .ok (.aastore, 1))
    (kk : ∀ (H1 : Heap) (locs1 : List Loc), CW ρ P ad st' H1 → va_S A H0 H1 locs1 → kp P H H1 → W p l e R s m args below meth c H1 locs1 cells slots Q (F0 m (pc + 1) ls rest)) : W p l e R s m args below meth c H locs cells slots Q (F0 m pc ls (.ref x :: .int j :: .ref (ad i) :: rest)) := by
  obtain ⟨h1, h2, h3, Rf, hG, hR⟩ := id hW
  subst hst
  have hn := inb_in hin
  have hlt : j.toNatClampNeg < 512 := Nat.not_le.mp fun q => hn (Or.inr q)
  have hd : tabC i = (5, 512) ∧ i < 46 := by rcases hi with rfl | rfl <;> exact ⟨rfl, by decide⟩
  obtain ⟨s0, ⟨cellV, g1, g2, g3, -⟩, -, -⟩ := id hx
  obtain ⟨-, hcls⟩ := X.2.1.1 1 _ rfl
  obtain ⟨kA, comp, k1, k2, k3, -⟩ := (X.2.1.2 6 _ rfl).2
  have hcomp : comp = (rD ρ).1 1 := Option.some.inj (k3.symm.trans hcls.1)
  subst hcomp
  obtain ⟨kC, hkC, -⟩ := hcls.2
  refine w_aast X (g_arr5 hG hd.2 hd.1) k1 k2 hkC hn g1 g3 g2 (va_assign hcls) hdg fun H1 e z oq => ?_
  have hkp := kp_one z oq
  refine kk H1 _ (hW.put (Rf' := (uR (CG st Rf) i j.toNatClampNeg x).2.2) ?_ ?_ hd.2 hkp) (hS.put z oq hA) (kp_P (h1 i hd.2) hkp)
  · have e1 : ∀ a b, (uR (CG st Rf) i j.toNatClampNeg x).2.2 a b = if a = i ∧ b = j.toNatClampNeg then x else Rf a b := by
      intro a b
      show (if a = i then va_up (Rf i) j.toNatClampNeg x else Rf a) b = _
      by_cases ha : a = i
      · subst ha
        rw [if_pos rfl]
        by_cases hb : b = j.toNatClampNeg
        · subst hb; simp [va_up]
        · simp [va_up, hb]
      · rw [if_neg ha, if_neg (fun z => ha z.1)]
    have e2 : ∀ a b, (uV st i j.toNatClampNeg v).2 a b = if a = i ∧ b = j.toNatClampNeg then v else st.2 a b := by
      intro a b
      show (if a = i then va_up (st.2 i) j.toNatClampNeg v else st.2 a) b = _
      by_cases ha : a = i
      · subst ha
        rw [if_pos rfl]
        by_cases hb : b = j.toNatClampNeg
        · subst hb; simp [va_up]
        · simp [va_up, hb]
      · rw [if_neg ha, if_neg (fun z => ha z.1)]
    have key : ∀ a b, isV ρ P H (Rf a b) (st.2 a b) → isV ρ P H ((uR (CG st Rf) i j.toNatClampNeg x).2.2 a b) ((uV st i j.toNatClampNeg v).2 a b) := by
      intro a b hab
      rw [e1, e2]
      split
      · exact hx
      · exact hab
    refine ⟨?_, key _ _ hR.2.1, key _ _ hR.2.2.1, fun j hj => key _ _ (hR.2.2.2.1 j hj), fun j hj => key _ _ (hR.2.2.2.2 j hj)⟩
    rw [e1, e2, if_neg (fun z => by rcases hi with h | h <;> omega), if_neg (fun z => by rcases hi with h | h <;> omega)]
    exact hR.1
  · refine hG.put hd.2 ?_ oq (fun j' hj' => ⟨rfl, rfl, if_neg hj'⟩)
    show gC _ _ _ _ _ (tabC i) _
    rw [hd.1]
    unfold gC
    rw [if_neg (show ¬ (5 : Nat) = 0 by decide), e]
    refine congrArg some ?_
    show arrV (rA ρ 6) 512 _ = arrV (rA ρ 6) 512 (fun q => va_rf (some ((if i = i then va_up (Rf i) j.toNatClampNeg x else Rf i) q)))
    congr 1
    funext q
    rw [if_pos rfl]
    by_cases hq : q = j.toNatClampNeg
    · subst hq; simp [updV, va_up, va_rf]
    · simp [updV, va_up, hq]; rfl
theorem c_alen (X : CX p s m c args own cc nL ρ w0) (hW : CW ρ P ad st H) (i : Nat) {code len : Nat} {v : Int32} (hi : i < 46) (hd : tabC i = (code, len)) (hc : code = 1 ∨ code = 2 ∨ code = 3 ∨ code = 5 ∨ code = 6) (hv : Int32.ofNat len = v) (hdg : decode cc pc = .ok (.arraylength, 1))
    (kk : W p l e R s m args below meth c H locs cells slots Q (F0 m (pc + 1) ls (.int v :: rest))) : W p l e R s m args below meth c H locs cells slots Q (F0 m pc ls (.ref (ad i) :: rest)) := by
  obtain ⟨h1, h2, h3, Rf, hG, hR⟩ := hW
  have hg := g_arr hG hi hd (by omega)
  rcases hc with rfl | rfl | rfl | rfl | rfl
  · exact W.alen X.1.1 X.1.2.1 hg (k_arr X.2 0 rfl len _) (by show (arrV _ _ _).slots.size.toInt32 = v; rw [arrV_size]; exact hv) rfl rfl hdg kk
  · exact W.alen X.1.1 X.1.2.1 hg (k_arr X.2 1 rfl len _) (by show (arrV _ _ _).slots.size.toInt32 = v; rw [arrV_size]; exact hv) rfl rfl hdg kk
  · exact W.alen X.1.1 X.1.2.1 hg (k_arr X.2 2 rfl len _) (by show (arrV _ _ _).slots.size.toInt32 = v; rw [arrV_size]; exact hv) rfl rfl hdg kk
  · exact W.alen X.1.1 X.1.2.1 hg (k_arr X.2 6 rfl len _) (by show (arrV _ _ _).slots.size.toInt32 = v; rw [arrV_size]; exact hv) rfl rfl hdg kk
  · exact W.alen X.1.1 X.1.2.1 hg (k_arr X.2 7 rfl len _) (by show (arrV _ _ _).slots.size.toInt32 = v; rw [arrV_size]; exact hv) rfl rfl hdg kk
/-- a value's fields -/
theorem v_get (X : CX p s m c args own cc nL ρ w0) {a : Nat} {v : VV} {x : Nat} (ho : t_OB a ((rD ρ).1 1) 3 ((rD ρ).2 1) H (vF v x)) (k : Nat) {index : Nat} {r : Value} (hl : Cond.fieldLink own index (T1 k).1 (T1 k).2.1 (T1 k).2.2.1 ∈ TG) (hk : Nat.ble (k + 1) 3 = true) (hv : vF v x k = r) (hdg : decode cc pc = .ok (.getfield index, 3))
    (kk : W p l e R s m args below meth c H locs cells slots Q (F0 m (pc + 3) ls (r :: rest))) : W p l e R s m args below meth c H locs cells slots Q (F0 m pc ls (.ref a :: rest)) := by
  obtain ⟨cell, q1, q2, q3, q4⟩ := ho
  obtain ⟨hS, hfc, kC, hkC, hkind⟩ := X.2.1.1 1 _ rfl
  have hk := Nat.le_of_ble_eq_true hk
  obtain ⟨cf, kf, fi, f, hf, hsl⟩ := hS k hk
  refine W.getf X.1.1 X.1.2.1 X.1.2.2.2.1 (X.ts hl) hf (u_facts hfc hkC (u_lays (fun w h => X.ts h) tin1 hk) hf).1 q1 (by rw [q3]; exact fun h => by cases h) (v := r) ?_ rfl rfl hdg kk
  rw [hsl, q4 k hk, hv]
theorem v_kind (X : CX p s m c args own cc nL ρ w0) {a : Nat} {v : VV} (hV : isV ρ P H a v) {index : Nat} (hl : Cond.fieldLink own index "WordFunctions$Value" "kind" "I" ∈ TG) (hdg : decode cc pc = .ok (.getfield index, 3))
    (kk : W p l e R s m args below meth c H locs cells slots Q (F0 m (pc + 3) ls (.int v.1 :: rest))) : W p l e R s m args below meth c H locs cells slots Q (F0 m pc ls (.ref a :: rest)) := by
  obtain ⟨x, h1, h2, h3⟩ := hV
  exact v_get X h1 0 hl rfl rfl hdg kk
theorem v_number (X : CX p s m c args own cc nL ρ w0) {a : Nat} {v : VV} (hV : isV ρ P H a v) {index : Nat} (hl : Cond.fieldLink own index "WordFunctions$Value" "number" "D" ∈ TG) (hdg : decode cc pc = .ok (.getfield index, 3))
    (kk : W p l e R s m args below meth c H locs cells slots Q (F0 m (pc + 3) ls (.double v.2.1 :: rest))) : W p l e R s m args below meth c H locs cells slots Q (F0 m pc ls (.ref a :: rest)) := by
  obtain ⟨x, h1, h2, h3⟩ := hV
  exact v_get X h1 1 hl rfl rfl hdg kk
theorem v_text (X : CX p s m c args own cc nL ρ w0) {a : Nat} {v : VV} (hV : isV ρ P H a v) {index : Nat} (hl : Cond.fieldLink own index "WordFunctions$Value" "text" "Ljava/lang/String;" ∈ TG) (hdg : decode cc pc = .ok (.getfield index, 3))
    (kk : ∀ x, isS ρ P H x v.2.2 → W p l e R s m args below meth c H locs cells slots Q (F0 m (pc + 3) ls (.ref x :: rest))) : W p l e R s m args below meth c H locs cells slots Q (F0 m pc ls (.ref a :: rest)) := by
  obtain ⟨x, h1, h2, h3⟩ := hV
  exact v_get X h1 2 hl rfl rfl hdg (kk x h2)
/-- constants -/
theorem c_ldcS (X : CX p s m c args own cc nL ρ w0) (hC : CC ρ P H) (k : Nat) {index : Nat} {tx : String} {t : TT} (hk : SRL[k]? = some (own, index, tx)) (ht : SRT[k]? = some t) (hdg : decode cc pc = .ok (.ldc index, 2))
    (kk : isS ρ P H (rS ρ k) t → W p l e R s m args below meth c H locs cells slots Q (F0 m (pc + 2) ls (.ref (rS ρ k) :: rest))) : W p l e R s m args below meth c H locs cells slots Q (F0 m pc ls rest) :=
  va_ldcS X.1.1 X.1.2.1 X.1.2.2.2.1 (X.2.2.2.1 k _ hk) hdg (kk (hC.1 k t ht))
theorem c_gets (X : CX p s m c args own cc nL ρ w0) (k : Nat) {C n d ref : String} {v : Value} {index : Nat} (hz : zcell ρ P H k v) (hk : ZL[k]? = some (C, n, d)) (hsame : C = ref) (hl : Cond.fieldLink own index ref n d ∈ TG) (hdg : decode cc pc = .ok (.getstatic index, 3))
    (kk : W p l e R s m args below meth c H locs cells slots Q (F0 m (pc + 3) ls (v :: rest))) : W p l e R s m args below meth c H locs cells slots Q (F0 m pc ls rest) := by
  subst hsame
  obtain ⟨cf, kf, fi, f, h1, h2, h3, h4, h5⟩ := X.2.2.2.2.1 k _ hk
  obtain ⟨cell, g1, g2, g3, g4⟩ := hz
  exact W.gets X.1.1 X.1.2.1 X.1.2.2.2.1 (X.ts hl) h1 h2 h3 h4 g1 (fun e => by rw [e] at g2; cases g2) (by rw [h5]; exact g3) rfl hdg kk
theorem arr_of {U : State} {ca : Cell} {ty : FieldType} (h : ArrOfT U ca.cls ty) (hv : ∀ k, ca.vm ≠ .statics k) : U.isArrayOf ca ty := ⟨hv, (h 0 (fun _ => .null)).2⟩
theorem c_tald (X : CX p s m c args own cc nL ρ w0) (k : Nat) {ls0 : List Int32} (hz : ztab ρ P H k 2 ls0) {j : Int32} {n : Nat} (hn : ls0.length = n) (hn2 : n < 2 ^ 31) (hin : inb j n = true) (hdg : decode cc pc = .ok (.iaload, 1))
    (kk : W p l e R s m args below meth c H locs cells slots Q (F0 m (pc + 1) ls (.int (ls0.getD j.toNatClampNeg 0) :: rest))) : W p l e R s m args below meth c H locs cells slots Q (F0 m pc ls (.int j :: .ref (rT ρ k) :: rest)) := by
  obtain ⟨-, ca, h1, h2, h3, h4, h5, h6, h7, h8⟩ := hz
  have hn' := inb_in hin
  subst hn
  have hlt : j.toNatClampNeg < ls0.length := Nat.not_le.mp fun q => hn' (Or.inr q)
  exact W.iald (v := .int (ls0.getD j.toNatClampNeg 0)) X.1.1 X.1.2.1 h1 (arr_of (X.2.2.2.2.2.2.1 _ h2) h4) h3 (fun q => q.elim (fun z => hn' (Or.inl z)) (fun z => by omega)) (h7 _ hlt) rfl rfl hdg kk
theorem c_tlen (X : CX p s m c args own cc nL ρ w0) (k : Nat) {ls0 : List Int32} {v : Int32} (hz : ztab ρ P H k 2 ls0) (hv : nI ls0.length = v) (hdg : decode cc pc = .ok (.arraylength, 1))
    (kk : W p l e R s m args below meth c H locs cells slots Q (F0 m (pc + 1) ls (.int v :: rest))) : W p l e R s m args below meth c H locs cells slots Q (F0 m pc ls (.ref (rT ρ k) :: rest)) := by
  obtain ⟨-, ca, h1, h2, h3, h4, h5, h6, h7, h8⟩ := hz
  exact W.alen X.1.1 X.1.2.1 h1 (arr_of (X.2.2.2.2.2.2.1 _ h2) h4) (h6.trans hv) rfl rfl hdg kk
/-- receivers -/
theorem s_recv (X : CX p s m c args own cc nL ρ w0) {a : Nat} {t : TT} (h : isS ρ P H a t) : Rcv s H a "java/lang/String" := by
  obtain ⟨b, cs, h1, h2, h3, -⟩ := h
  obtain ⟨-, hfc, -⟩ := X.2.1.1 11 _ rfl
  exact ⟨cs, h1, h3, by rw [h2]; exact hfc⟩
theorem c_recv (X : CX p s m c args own cc nL ρ w0) (hW : CW ρ P ad st H) (i ci : Nat) {q : vw_C} (hi : i < 46) (hd : tabC i = (0, ci)) (hc : CL[ci]? = some q) : Rcv s H (ad i) q.1 := by
  obtain ⟨h1, h2, h3, Rf, hG, hR⟩ := hW
  exact g_recv X hG i ci hi hd hc
end R3
