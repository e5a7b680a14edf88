section L5
variable {p : Program} {l : Launch} {e : Env} {R : Room} {s : State} {m : MethodId} {args : Array Value} {below : List Frame} {meth : Method} {c : Code} {H : Heap} {locs : List Loc} {cells slots : Nat} {Q : State → Prop}
variable {cc : ByteArray} {pc nL : Nat} {ls : Array Slot} {rest st0 : List Value} {own : String} {ρ : RH} {w0 : Cond} {A : Nat → Prop} {H0 : Heap}
theorem o_newJ (X : CX p s m c args own cc nL ρ w0) (hS : va_S A H0 H locs) {n : Int32} (hn : n = 1) (hcells : cells + 1 ≤ R.cells) (hslots : slots + 1 ≤ R.slots) (harr : Cond.arrayClass .long ∈ TG) (hdg : decode cc pc = .ok (.newarray .long, 2))
    (kk : ∀ (o : Nat) (H1 : Heap), o = H.size → H1[o]? = some (vp_cell (rA ρ 5) (1, .inr (.inl (fun _ => 0)))) → H1.size = H.size + 1 → (∀ q, q < H.size → H1[q]? = H[q]?) → va_S A H0 H1 locs → W p l e R s m args below meth c H1 locs (cells + 1) (slots + 1) Q (F0 m (pc + 2) ls (.ref o :: rest))) : W p l e R s m args below meth c H locs cells slots Q (F0 m pc ls (.int n :: rest)) := by
  subst hn
  refine va_newaK (atype := .long) (N := 1) X.1.1 X.1.2.1 (X.ts harr) rfl hdg rfl (by decide) (by decide) (by decide) hcells hslots rfl fun H1 cA e1 z1 o1 hAr hNm => ?_
  have hcA : cA = rA ρ 5 := Option.some.inj (hNm.symm.trans (X.2.1.2 5 _ rfl).2)
  subst hcA
  exact kk H.size H1 rfl e1 z1 o1 (hS.grow (by omega) o1)
end L5
theorem kp_tr3 {a b c d : Heap} (h1 : kp no a b) (h2 : kp (fun q => a.size ≤ q) b c) (h3 : kp no c d) : kp (fun q => a.size ≤ q) a d :=
  ⟨Nat.le_trans h1.1 (Nat.le_trans h2.1 h3.1), fun q hq hn => (h3.2 q (h2.lt (h1.lt hq)) (fun z => z)).trans ((h2.2 q (h1.lt hq) hn).trans (h1.2 q hq (fun z => z)))⟩
theorem kp_far {a b c : Heap} {o : Nat} {e : va_E} (hq : ∀ q : Nat, q < b.size → ¬ va_A [(o, e)] b.size q → c[q]? = b[q]?) (hz : b.size ≤ c.size) (ho : o = a.size) : kp (fun q => a.size ≤ q) b c :=
  ⟨hz, fun q h1 h2 => hq q h1 (fun z => z.elim (fun ⟨k, e, hk⟩ => h2 (by have := inW.one ⟨k, e, hk⟩; omega)) (fun g => absurd h1 (Nat.not_lt.mpr g)))⟩
theorem CW.lt {ρ : RH} {P : Nat → Prop} {ad : Nat → Nat} {st : CS} {H : Heap} (h : CW ρ P ad st H) {i : Nat} (hi : i < 46) : ad i < H.size := by
  obtain ⟨-, -, -, Rf, hG, -⟩ := h
  exact gC.lt (hG.1 i hi)
theorem DF9 : ∀ j, j < 9 → defaultValue (ty9 j) = vp_V [.null, .int 0, .null, .null, .null, .null, .null, .null, .null] j := by
  intro j hj
  match j, hj with
  | 0, _ => rfl
  | 1, _ => rfl
  | 2, _ => rfl
  | 3, _ => rfl
  | 4, _ => rfl
  | 5, _ => rfl
  | 6, _ => rfl
  | 7, _ => rfl
  | 8, _ => rfl
  | j + 9, h => exact absurd h (by omega)
set_option maxHeartbeats 2000000 in
theorem lw_init {p : Program} {l : Launch} {e : Env} {s : State} {m : MethodId} {below : List Frame} {meth : Method} {c : Code} {ρ : RH} {w0 : Cond} {b L : Nat} {xs : Nat → Int32} {ls : Array Slot} {Rel : Nat → CS → GS → Nat → Nat → Prop} (hfl : l.flags = pinnedFlags ++ [noTraceFlag]) (X : CX p s m c #[Value.ref b] "WordFunctionsLaw" code 9 ρ w0) (hx : p.tables.exec = Jvm.exec) (hb : c.code = code) (hr0 : meth.sig.returnType = ret) (hlk : meth.locks = false) (hL : L ≤ 3072) (hX : va_X b L xs s s.heap) (hbl : b < s.heap.size) (hT0 : TX ρ s.heap s) (hZ : rZa ρ 5 < s.heap.size ∧ rZa ρ 6 < s.heap.size) (hRel : LRel Rel) (hC : CC ρ (fun _ => False) s.heap) (hl : lv_has ls 9 [(0, .ref b)]) : W p l e room_1 s m #[Value.ref b] below meth c s.heap [] 0 0 (lw_Z below #[Value.ref b] s) (F0 m 0 ls []) := by
  have hS : va_S (fun q => s.heap.size ≤ q) s.heap s.heap [] := va_S.rf
  have hP0 : va_P (rD ρ) CL [] s.heap := fun k q hk => by cases hk
  have hD0 : va_D (fun q => s.heap.size ≤ q) [] := ⟨fun i j x y hx _ _ => (by cases hx), fun k q hk => (by cases hk)⟩
  refine n_new (pc := 0) X hP0 hD0 hS (fun q hq => hq) 9 rfl tin9 tyo9 [.null, .int 0, .null, .null, .null, .null, .null, .null, .null] DF9 wd30 wd31 wd1 (by decide) (by decide) d137_0 (fun o1 H1 hP hD hS1 ho1 hz1 hq1 => ?_)
  refine lv_dup (pc := 3) hx hb d137_3 rfl ?_
  have hP : va_P (rD ρ) CL [(o1, .inr (9, [.null, .int 0, .null, .null, .null, .null, .null, .null, .null]))] H1 := hP
  have hC1 : CC ρ (fun q => q = o1) H1 := hC.step (kp_new (n := 1) hz1 hq1) no_hz (fun q hq z => absurd hq (by omega))
  refine k_callI (pc := 4) (n := 0) X hS1 (c_n_wf l ρ _ (fun q => q = o1) o1 hC1 (fun q z => by omega) hP rfl) wd34 wd32 wd33 rfl wd1 (by decide) ⟨rfl, rfl, (Nat.le_of_ble_eq_true rfl), (Nat.le_of_ble_eq_true rfl)⟩ (As := []) (rest := [.ref o1]) rfl rfl hl.1 (Nat.le_of_ble_eq_true rfl) d137_4 ⟨by decide, by decide⟩ (fun q z => z.elim (fun ⟨k, e, hk⟩ => by have := inW.one ⟨k, e, hk⟩; omega) (fun g => by omega)) (fun v H2 locs2 hv hz2 hq2 hS2 => ?_)
  obtain ⟨rfl, L1, hL1, hL1n, hL1a, hW⟩ := hv
  refine lv_astore_n (pc := 7) (lv' := [(1, .ref o1), (0, .ref b)]) hx hb d137_7 rfl hl (by decide) rfl (fun ls hl => ?_)
  refine o_new (pc := 8) X hS2 12 rfl tin12 tyo12 wd1358 wd1359 wd11 (by decide) (by decide) d137_8 (fun o2 H3 ho2 hob hz3 hq3 hS3 => ?_)
  refine lv_dup (pc := 11) hx hb d137_11 rfl ?_
  have hC3 : CC ρ (fun _ => False) H3 := hC.step (kp_tr3 (kp_new (n := 1) hz1 hq1) (kp_far hq2 hz2 ho1) (kp_new (n := 1) hz3 hq3)) (fun q hq z => absurd hq (Nat.not_lt.mpr z)) (fun q _ z => z)
  refine k_callI (pc := 12) (n := 0) X hS3 (c_mo_new l ρ _ (fun _ => False) o2 hC3 (fun q z => z.elim) hob) wd1362 wd1360 wd1361 rfl wd11 (by decide) ⟨rfl, rfl, (Nat.le_of_ble_eq_true rfl), (Nat.le_of_ble_eq_true rfl)⟩ (As := []) (rest := [.ref o2]) rfl rfl hl.1 (Nat.le_of_ble_eq_true rfl) d137_12 ⟨by decide, by decide⟩ (fun q z => z.elim (fun e => by have := hS2.1; omega) (fun g => by have := hS3.1; omega)) (fun v H4 locs4 hv hz4 hq4 hS4 => ?_)
  obtain ⟨rfl, L2, hL2, hL2n, hG, hL2a⟩ := hv
  refine lv_astore_n (pc := 15) (lv' := [(2, .ref o2), (1, .ref o1), (0, .ref b)]) hx hb d137_15 rfl hl (by decide) rfl (fun ls hl => ?_)
  refine lv_iconst (pc := 16) (v := 1) hx hb d137_16 (by decide) ?_
  refine o_newJ (pc := 17) X hS4 rfl (by decide) (by decide) wd2001 d137_17 (fun oo H5 hoo hoc hz5 hq5 hS5 => ?_)
  refine lv_astore_n (pc := 19) (lv' := [(3, .ref oo), (2, .ref o2), (1, .ref o1), (0, .ref b)]) hx hb d137_19 rfl hl (by decide) rfl (fun ls hl => ?_)
  refine lv_iconst (pc := 20) (v := 0) hx hb d137_20 (by decide) ?_
  refine lv_istore (pc := 21) (lv' := [(4, .int 0), (3, .ref oo), (2, .ref o2), (1, .ref o1), (0, .ref b)]) hx hb d137_21 hl (by decide) rfl (fun ls hl => ?_)
  have hb0 : o1 = s.heap.size := ho1
  have hs1 : s.heap.size ≤ H2.size := hS2.1
  have hA1 : ∀ i, i < 46 → s.heap.size ≤ adL L1 i ∧ adL L1 i < H2.size := fun i hi => ⟨(hL1a i hi).elim (fun e => by omega) (fun g => by omega), hW.lt hi⟩
  have hA2 : ∀ j, j < 23 → H2.size ≤ adL L2 j ∧ adL L2 j < H4.size := fun j hj => ⟨(hL2a j hj).elim (fun e => by omega) (fun g => by omega), gC.lt (hG.1 j hj)⟩
  have hk25 : kp (fun _ => False) H2 H5 := ⟨by omega, fun q hq _ => by rw [hq5 q (by omega), hq4 q (by omega) (fun z => z.elim (fun e => by omega) (fun g => by omega)), hq3 q hq]⟩
  have hW5 : CW ρ (fun q => q = o1 ∨ (∃ i, i < 46 ∧ q = adL L1 i) ∨ (∃ j, j < 23 ∧ q = adL L2 j) ∨ q = oo) (adL L1) cs0 H5 := by
    refine hW.step hk25 (fun q _ z => z.elim) (fun i _ z => z) (fun q hq z => ?_) (fun i hi => Or.inr (Or.inl ⟨i, hi, rfl⟩)) (fun q z => ?_)
    · rcases z with e | ⟨i, hi, e⟩ | ⟨j, hj, e⟩ | e
      · exact Or.inl e
      · exact Or.inr ⟨i, hi, e⟩
      · have := hA2 j hj; omega
      · omega
    · rcases z with e | ⟨i, hi, e⟩ | ⟨j, hj, e⟩ | e
      · omega
      · have := hA1 i hi; omega
      · have := hA2 j hj; omega
      · omega
  have hG5 : GW ρ wM (adL L2) ms0 H5 := hG.kept (fun j hj => hq5 _ (hA2 j hj).2)
  have hI : LI ρ (fun q => q = o1 ∨ (∃ i, i < 46 ∧ q = adL L1 i) ∨ (∃ j, j < 23 ∧ q = adL L2 j) ∨ q = oo) (adL L1) (adL L2) oo s.heap.size cs0 ms0 H5 := ⟨hW5, hG5, ⟨_, hoc⟩, fun j hj => Or.inr (Or.inr (Or.inl ⟨j, hj, rfl⟩)), Or.inr (Or.inr (Or.inr rfl)), fun i j hi hj e => by have := hA1 i hi; have := hA2 j hj; omega, fun i hi e => by have := hA1 i hi; omega, fun j hj e => by have := hA2 j hj; omega, fun i hi => (hA1 i hi).1, fun j hj => by have := hA2 j hj; omega, by omega⟩
  exact lw_loop hfl X hx hb hr0 hlk hL hX hbl hT0 hZ hRel 513 0 0 0 cs0 ms0 H5 _ _ rfl (Nat.zero_le _) hRel.init hS5 hI (by rw [hL1, hL2]; exact lv_sub hl [0, 1, 2, 3, 4] rfl)
