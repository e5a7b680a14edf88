/-- bytes that are only read -/
def bY (ρ : RH) (H : Heap) (b N : Nat) (f : Nat → Int32) : Prop := ∃ ca : Cell, H[b]? = some ca ∧ rB ρ ca.cls = 1 ∧ ca.vm ≠ .unknown ∧ (∀ k, ca.vm ≠ .statics k) ∧ N ≤ ca.slots.size ∧ ca.slots.size.toInt32 = nI N ∧ (∀ j, j < N → ca.slots[j]? = some (.int (f j))) ∧ N < 2 ^ 31 ∧ ∀ j, j < N → fits .byte (.int (f j)) = true
theorem isY.bY {ρ : RH} {P : Nat → Prop} {H : Heap} {b : Nat} {t : TT} (h : isY ρ P H b t) : bY ρ H b t.length (fun j => sb_b (t.getD j 0)) := by
  obtain ⟨ca, g1, g2, g3, g4, g5, g6, g7, g8, g9, g10⟩ := h
  exact ⟨ca, g1, g2, g3, g4, g5, g6, g7, g9, fun j _ => sb_fitB _⟩
theorem bY_of {ρ : RH} {H : Heap} {b N : Nat} {f : Nat → Int32} (hr : rB ρ (rA ρ 4) = 1) (hb : H[b]? = some (vp_cell (rA ρ 4) (N, .inl f))) (hf : sb_Fit f) (hN : N < 2 ^ 31) : bY ρ H b N f :=
  ⟨_, hb, hr, (fun q => by cases q), (fun k q => by cases q), by show _ ≤ (arrV _ _ _).slots.size; rw [arrV_size]; exact Nat.le_refl _, by show (arrV _ _ _).slots.size.toInt32 = _; rw [arrV_size]; rfl, fun j hj => by show (arrV _ _ _).slots[_]? = _; rw [arrV_read _ _ hj], hN, fun j _ => hf j⟩
theorem bY.lt {ρ : RH} {H : Heap} {b N : Nat} {f : Nat → Int32} (h : bY ρ H b N f) : b < H.size := by
  obtain ⟨ca, g1, -⟩ := h
  exact hp_lt g1
theorem bY.lt31 {ρ : RH} {H : Heap} {b N : Nat} {f : Nat → Int32} (h : bY ρ H b N f) : N < 2 ^ 31 := by
  obtain ⟨ca, g1, g2, g3, g4, g5, g6, g7, g8, g9⟩ := h
  exact g8
theorem bY.keep {ρ : RH} {H H1 : Heap} {b N : Nat} {f : Nat → Int32} (h : bY ρ H b N f) (e : H1[b]? = H[b]?) : bY ρ H1 b N f := by
  obtain ⟨ca, g1, g2⟩ := h
  exact ⟨ca, by rw [e]; exact g1, g2⟩
theorem nfw7 : nativeFrameWords "java/lang/System" "arraycopy" 5 + 11 = 18 := by decide +kernel
section J4
variable {p : Program} {l : Launch} {e : Env} {R : Room} {s : State} {m : MethodId} {args : Array Value} {below : List Frame} {meth : Method} {c : Code} {H : Heap} {locs : List Loc} {cells slots : Nat} {Q : State → Prop}
variable {cc : ByteArray} {pc nL : Nat} {ls : Array Slot} {rest st0 : List Value} {own : String} {ρ : RH} {w0 : Cond} {A : Nat → Prop} {H0 : Heap} {P : Nat → Prop}
theorem b_len (X : CX p s m c args own cc nL ρ w0) {b N : Nat} {f : Nat → Int32} (h : bY ρ H b N f) (hdg : decode cc pc = .ok (.arraylength, 1))
    (kk : W p l e R s m args below meth c H locs cells slots Q (F0 m (pc + 1) ls (.int (nI N) :: rest))) : W p l e R s m args below meth c H locs cells slots Q (F0 m pc ls (.ref b :: rest)) := by
  obtain ⟨ca, h1, h2, h3, h4, h5, h6, h7, h8⟩ := h
  exact W.alen X.1.1 X.1.2.1 h1 (arr_of (X.2.2.2.2.2.1 _ h2) h4) h6 rfl rfl hdg kk
theorem one_P {a : Nat} {x : vp_A} (hb : H[a]? = some (vp_cell (rA ρ 4) x)) : va_P (rD ρ) CL [(a, .inl (rA ρ 4, x))] H := by
  intro k q hq
  have hk : k < 1 := (List.getElem?_eq_some_iff.mp hq).1
  obtain rfl : k = 0 := by omega
  cases hq
  exact hb
theorem one_D {a : Nat} {x : va_E} (hA : A a) : va_D A [(a, x)] := by
  refine ⟨fun i j p q hi hj _ => ?_, fun k q hq => ?_⟩
  · have h1 : i < 1 := (List.getElem?_eq_some_iff.mp hi).1
    have h2 : j < 1 := (List.getElem?_eq_some_iff.mp hj).1
    omega
  · have hk : k < 1 := (List.getElem?_eq_some_iff.mp hq).1
    obtain rfl : k = 0 := by omega
    cases hq
    exact hA
theorem o_copy (X : CX p s m c args own cc nL ρ w0) (hS : va_S A s.heap H locs) {b0 n0 : Nat} {f : Nat → Int32} (hB : bY ρ s.heap b0 n0 f) (hnA : ¬ A b0) {a n1 : Nat} {g : Nat → Int32} (hb : H[a]? = some (vp_cell (rA ρ 4) (n1, .inl g))) (hA : A a) {sp dp n : Nat} (h4 : sp + n ≤ n0) (h5 : dp + n ≤ n1) (hn1 : n1 < 2 ^ 31) (hsz : ls.size = nL) (hfr : Nat.ble 1 R.frames = true) (hlo : Nat.ble ((rest.map fun v => v.category).sum + 18) R.locals = true) {index : Nat} (hl : Cond.methodLink own index y341 ∈ TG) (hdg : decode cc pc = .ok (.invokestatic index, 3))
    (kk : ∀ (H1 : Heap) (locs1 : List Loc), H1[a]? = some (vp_cell (rA ρ 4) (n1, .inl (va_cpy f g sp dp n))) → va_S A s.heap H1 locs1 → W p l e R s m args below meth c H1 locs1 cells slots Q (F0 m (pc + 3) ls rest)) : W p l e R s m args below meth c H locs cells slots Q (F0 m pc ls (.int (nI n) :: .int (nI dp) :: .ref a :: .int (nI sp) :: .ref b0 :: rest)) := by
  have hn0 := hB.lt31
  obtain ⟨ca, g1, g2, g3, g4, g5, g6, g7, g8, g9⟩ := hB
  have hT : va_T .byte b0 n0 (fun j => .int (f j)) A s s.heap := ⟨ca, g1, arr_of (X.2.2.2.2.2.1 _ g2) g4, g3, g5, g6, g7, hnA⟩
  have c1 : (nI sp).toNatClampNeg = sp := nI_clamp (by omega)
  have c2 : (nI dp).toNatClampNeg = dp := nI_clamp (by omega)
  have c3 : (nI n).toNatClampNeg = n := nI_clamp (by omega)
  refine vk_copyt (A := A) (tys := TYS ρ) X.1.1 X.1.2.1 (X.1.2.2.1.trans hsz.symm) X.1.2.2.2.1 (X.ts hl) (X.ts wd354) (X.ts wd353) (X.ts wd19) X.2.1 (one_P hb) (one_D hA) hS hT 0 4 rfl rfl (nI_pos (by omega)) (nI_pos (by omega)) (nI_pos (by omega)) (by rw [c1, c3]; exact h4) (by rw [c2, c3]; exact h5) (fun i hi => by rw [c3] at hi; rw [c1]; exact g9 _ (by omega)) (Nat.le_of_ble_eq_true hfr) (by rw [nfw7]; exact Nat.le_of_ble_eq_true hlo) hdg fun H1 locs1 hP1 hD1 hS1 => ?_
  rw [c1, c2, c3] at hP1
  exact kk H1 locs1 (hP1 0 _ rfl) hS1
theorem o_clone (X : CX p s m c args own cc nL ρ w0) (hS : va_S A H0 H locs) (hAz : ∀ q, H0.size ≤ q → A q) {b N : Nat} {f : Nat → Int32} (hb : H[b]? = some (vp_cell (rA ρ 4) (N, .inl f))) (hf : sb_Fit f) (hsz : ls.size = nL) (hfr : Nat.ble 1 R.frames = true) (hlo : Nat.ble ((rest.map fun v => v.category).sum + 14) R.locals = true) (hcells : cells + 1 ≤ R.cells) (hslots : slots + N ≤ R.slots) {index : Nat} (hl : Cond.methodLink own index y249 ∈ TG) (hdg : decode cc pc = .ok (.invokevirtual index, 3))
    (kk : ∀ (q : Nat) (H1 : Heap), H1[q]? = some (vp_cell (rA ρ 4) (N, .inl f)) → A q → va_S A H0 H1 locs → W p l e R s m args below meth c H1 locs (cells + 1) (slots + N) Q (F0 m (pc + 3) ls (.ref q :: rest))) : W p l e R s m args below meth c H locs cells slots Q (F0 m pc ls (.ref b :: rest)) := by
  have hS' : va_S (fun x => A x ∨ x = b) H0 H locs := ⟨hS.1, fun q h1 h2 => hS.2.1 q h1 (fun z => h2 (Or.inl z)), fun q hq => Or.inl (hS.2.2 q hq)⟩
  refine va_clone (A := fun x => A x ∨ x = b) (H0 := H0) (tys := TYS ρ) X.1.1 X.1.2.1 (X.1.2.2.1.trans hsz.symm) X.1.2.2.2.1 (X.ts hl) (X.ts wd343) (X.ts wd344) (X.ts wd345) (X.ts wd346) (X.2.2.2.2.2.2.2.2.1 0 _ rfl) X.2.1 (one_P hb) (one_D (Or.inr rfl)) hS' (fun q hq => Or.inl (hAz q hq)) 0 4 rfl rfl (X.2.1.2 4 _ rfl).2 (fun i v hv => ?_) (Nat.le_of_ble_eq_true hfr) (Nat.le_of_ble_eq_true hlo) hcells hslots hdg fun q H1 hK1 hP1 hD1 hS1 => ?_
  · by_cases hi : i < N
    · have hv' : (arrV (rA ρ 4) N (fun j => .int (f j))).slots[i]? = some v := hv
      rw [arrV_read _ _ hi] at hv'
      cases hv'
      exact hf i
    · have hv' : (arrV (rA ρ 4) N (fun j => .int (f j))).slots[i]? = some v := hv
      rw [Array.getElem?_eq_none (by rw [arrV_size]; omega)] at hv'
      cases hv'
  · refine kk q H1 (hP1 1 _ rfl) ?_ ⟨hS1.1, fun x h1 h2 => ?_, hS.2.2⟩
    · rcases hD1.2 1 _ rfl with z | z
      · exact z
      · have hz : (0 : Nat) = 1 := hD1.1 0 1 _ _ rfl rfl z.symm
        omega
    · by_cases hxb : x = b
      · subst hxb
        rw [← hS.2.1 x h1 h2, hb]
        exact hP1 0 _ rfl
      · exact hS1.2.1 x h1 (fun z => z.elim h2 hxb)
end J4
theorem cpy_at {f g : Nat → Int32} {sp n k : Nat} (h : k < n) : va_cpy f g sp 0 n k = f (sp + k) := by
  unfold va_cpy
  rw [if_pos ⟨Nat.zero_le _, by omega⟩]
  rfl
theorem cpy_fit {f g : Nat → Int32} {sp dp n N : Nat} (hf : ∀ j, j < N → fits .byte (.int (f j)) = true) (hg : sb_Fit g) (h : sp + n ≤ N) : sb_Fit (va_cpy f g sp dp n) := by
  intro j
  unfold va_cpy
  split
  · rename_i c; exact hf _ (by omega)
  · exact hg j
theorem bY.fit {ρ : RH} {H : Heap} {b N : Nat} {f : Nat → Int32} (h : bY ρ H b N f) : ∀ j, j < N → fits .byte (.int (f j)) = true := by
  obtain ⟨ca, g1, g2, g3, g4, g5, g6, g7, g8, g9⟩ := h
  exact g9
theorem sub_ex {x y : Int32} {n : Nat} (h : (decide (0 ≤ x.toInt) && decide (x.toInt ≤ y.toInt) && decide (y.toInt ≤ n) && decide (n < 2 ^ 20)) = true) : ∃ i j : Nat, x = nI i ∧ y = nI j ∧ i ≤ j ∧ j ≤ n ∧ n < 2 ^ 20 := by
  simp only [Bool.and_eq_true, decide_eq_true_eq] at h
  obtain ⟨⟨⟨h1, h2⟩, h3⟩, h4⟩ := h
  refine ⟨x.toInt.toNat, y.toInt.toNat, ?_, ?_, by omega, by omega, h4⟩
  · apply Int32.toInt_inj.mp
    rw [nI_toInt (by omega)]
    omega
  · apply Int32.toInt_inj.mp
    rw [nI_toInt (by omega)]
    omega
theorem sub_len {t : TT} {i n : Nat} (h : i + n ≤ t.length) : ((t.drop i).take n).length = n := by
  rw [List.length_take, List.length_drop]
  omega
theorem sub_get {t : TT} {i n k : Nat} (h : k < n) : ((t.drop i).take n).getD k 0 = t.getD (i + k) 0 := by
  rw [List.getD_eq_getElem?_getD, List.getD_eq_getElem?_getD, List.getElem?_take_of_lt h, List.getElem?_drop]
theorem sub_mem {t : TT} {i n : Nat} (h : ∀ c ∈ t, c < 256) : ∀ c ∈ (t.drop i).take n, c < 256 := fun c hc => h c (List.mem_of_mem_drop (List.mem_of_mem_take hc))
abbrev b286 : ByteArray := prog_23_method_151_code
theorem d286_0 : decode b286 0 = .ok ((.aload_n 0), 1) := by decide +kernel
theorem d286_1 : decode b286 1 = .ok ((.invokespecial 1), 3) := by decide +kernel
theorem d286_4 : decode b286 4 = .ok ((.aload_n 0), 1) := by decide +kernel
theorem d286_5 : decode b286 5 = .ok ((.aload_n 1), 1) := by decide +kernel
theorem d286_6 : decode b286 6 = .ok ((.putfield 9), 3) := by decide +kernel
theorem d286_9 : decode b286 9 = .ok ((.aload_n 0), 1) := by decide +kernel
theorem d286_10 : decode b286 10 = .ok ((.iload_n 2), 1) := by decide +kernel
theorem d286_11 : decode b286 11 = .ok ((.putfield 15), 3) := by decide +kernel
theorem d286_14 : decode b286 14 = .ok (.return_, 1) := by decide +kernel
set_option maxHeartbeats 1000000 in
theorem c_s_init (l : Launch) (ρ : RH) (H : Heap) (P : Nat → Prop) (o b : Nat) (V0 : Nat → Value) (hC : CC ρ P H) (hPb : ∀ q, P q → q < H.size) (ho : t_OB o ((rD ρ).1 11) 4 ((rD ρ).2 11) H V0) : Met l y286 (wsOf y286 b286 3 none) ({ frames := 1, cells := 0, slots := 0, locals := 12 } : Room) (va_Pc [.ref o, .ref b, .int 0] (KP ρ H)) (mQ (fun v H1 => v = none ∧ ∃ V, t_OB o ((rD ρ).1 11) 4 ((rD ρ).2 11) H1 V ∧ V 0 = .ref b ∧ V 1 = .int 0) (fun q => q = o)) 0 0 (fun q => q = o) := by
  refine m_ofW (own := "java/lang/String") (plainFor_of_name rfl) rfl (Nat.le_of_ble_eq_true rfl) fun p e s m args below meth c ls hx hb hr hlk hmn X hs0 hl => ?_
  subst hs0
  have hS : va_S (fun q => q = o) s.heap s.heap [] := va_S.rf
  have hl : lv_has ls 3 [(0, .ref o), (1, .ref b), (2, .int 0)] := hl
  refine lv_aload_n (pc := 0) hx hb d286_0 rfl (lv_at hl 0 rfl) ?_
  refine o_oini (pc := 1) X wd420 hl.1 rfl rfl d286_1 ?_
  refine lv_aload_n (pc := 4) hx hb d286_4 rfl (lv_at hl 0 rfl) ?_
  refine lv_aload_n (pc := 5) hx hb d286_5 rfl (lv_at hl 1 rfl) ?_
  refine o_putF (pc := 6) X hS ho 0 rfl rfl rfl tin11 ty11 tyo11 tnm11 rfl wd598 rfl hmn rfl rfl rfl d286_6 (fun H1 locs1 ho1 hS hz hq => ?_)
  have ho := ho1
  refine lv_aload_n (pc := 9) hx hb d286_9 rfl (lv_at hl 0 rfl) ?_
  refine lv_iload_n (pc := 10) hx hb d286_10 rfl (lv_at hl 2 rfl) ?_
  refine o_putF (pc := 11) X hS ho 1 rfl rfl rfl tin11 ty11 tyo11 tnm11 rfl wd599 rfl hmn rfl rfl rfl d286_11 (fun H1 locs1 ho1 hS hz hq => ?_)
  have ho := ho1
  exact m_vret (pc := 14) hx hb hr hlk hS ⟨rfl, _, ho, rfl, rfl⟩ (Nat.le_refl _) (Nat.le_refl _) d286_14
set_option maxHeartbeats 1000000 in
theorem c_j_min2 (l : Launch) (ρ : RH) (H : Heap) (P : Nat → Prop) (x0 y0 : Int32) (hC : CC ρ P H) (hPb : ∀ q, P q → q < H.size) (hyx : y0 ≤ x0) : Met l y279 (wsOf y279 b279 2 (some .int)) ({ frames := 0, cells := 0, slots := 0, locals := 0 } : Room) (va_Pc [.int x0, .int y0] (KP ρ H)) (mQ (fun v H1 => v = some (.int y0) ∧ H1 = H) (fun _ => False)) 0 0 (fun _ => False) := by
  refine m_ofW (own := "java/lang/Math") (by decide +kernel) rfl (Nat.le_of_ble_eq_true rfl) fun p e s m args below meth c ls hx hb hr hlk hmn X hs0 hl => ?_
  subst hs0
  have hS : va_S (fun _ => False) s.heap s.heap [] := va_S.rf
  have hl : lv_has ls 2 [(0, .int x0), (1, .int y0)] := hl
  refine lv_iload_n (pc := 0) hx hb d279_0 rfl (lv_at hl 0 rfl) ?_
  refine lv_iload_n (pc := 1) hx hb d279_1 rfl (lv_at hl 1 rfl) ?_
  refine lv_icmp_gt (pc := 2) (tgt := 9) hx hb d279_2 (by decide) (fun z2 => ?_) (fun z2 => ?_)
  · skip
    refine lv_iload_n (pc := 9) hx hb d279_9 rfl (lv_at hl 1 rfl) ?_
    exact m_iret (pc := 10) hx hb hr hlk hS ⟨rfl, rfl⟩ (Nat.le_refl _) (Nat.le_refl _) d279_10
  · skip
    refine lv_iload_n (pc := 5) hx hb d279_5 rfl (lv_at hl 0 rfl) ?_
    refine lv_goto (pc := 6) (tgt := 10) hx hb d279_6 (by decide) ?_
    exact m_iret (pc := 10) hx hb hr hlk hS ⟨by rw [Int32.le_antisymm (Int32.not_lt.mp z2) hyx], rfl⟩ (Nat.le_refl _) (Nat.le_refl _) d279_10
abbrev b346 : ByteArray := prog_29_method_131_code
theorem d346_0 : decode b346 0 = .ok ((.iload_n 1), 1) := by decide +kernel
theorem d346_1 : decode b346 1 = .ok ((.iload_n 0), 1) := by decide +kernel
theorem d346_2 : decode b346 2 = .ok ((.if_icmp .ge 35), 3) := by decide +kernel
theorem d346_5 : decode b346 5 = .ok ((.new 43), 3) := by decide +kernel
theorem d346_8 : decode b346 8 = .ok (.dup, 1) := by decide +kernel
theorem d346_9 : decode b346 9 = .ok ((.new 45), 3) := by decide +kernel
theorem d346_12 : decode b346 12 = .ok (.dup, 1) := by decide +kernel
theorem d346_13 : decode b346 13 = .ok ((.invokespecial 47), 3) := by decide +kernel
theorem d346_16 : decode b346 16 = .ok ((.iload_n 0), 1) := by decide +kernel
theorem d346_17 : decode b346 17 = .ok ((.invokevirtual 54), 3) := by decide +kernel
theorem d346_20 : decode b346 20 = .ok ((.ldc_w 337), 3) := by decide +kernel
theorem d346_23 : decode b346 23 = .ok ((.invokevirtual 50), 3) := by decide +kernel
theorem d346_26 : decode b346 26 = .ok ((.iload_n 1), 1) := by decide +kernel
theorem d346_27 : decode b346 27 = .ok ((.invokevirtual 54), 3) := by decide +kernel
theorem d346_30 : decode b346 30 = .ok ((.invokevirtual 61), 3) := by decide +kernel
theorem d346_33 : decode b346 33 = .ok ((.invokespecial 65), 3) := by decide +kernel
theorem d346_36 : decode b346 36 = .ok (.athrow, 1) := by decide +kernel
theorem d346_37 : decode b346 37 = .ok (.return_, 1) := by decide +kernel
set_option maxHeartbeats 1000000 in
theorem c_j_cl (l : Launch) (ρ : RH) (H : Heap) (P : Nat → Prop) (i j : Nat) (hC : CC ρ P H) (hPb : ∀ q, P q → q < H.size) (hij : i ≤ j) (hj31 : j < 2 ^ 31) : Met l y346 (wsOf y346 b346 2 none) ({ frames := 0, cells := 0, slots := 0, locals := 0 } : Room) (va_Pc [.int (nI i), .int (nI j)] (KP ρ H)) (mQ (fun v H1 => v = none ∧ H1 = H) (fun _ => False)) 0 0 (fun _ => False) := by
  refine m_ofW (own := "java/util/Arrays") (plainFor_of_name rfl) rfl (Nat.le_of_ble_eq_true rfl) fun p e s m args below meth c ls hx hb hr hlk hmn X hs0 hl => ?_
  subst hs0
  have hS : va_S (fun _ => False) s.heap s.heap [] := va_S.rf
  have hl : lv_has ls 2 [(0, .int (nI i)), (1, .int (nI j))] := hl
  refine lv_iload_n (pc := 0) hx hb d346_0 rfl (lv_at hl 1 rfl) ?_
  refine lv_iload_n (pc := 1) hx hb d346_1 rfl (lv_at hl 0 rfl) ?_
  refine lv_icmp_ge (pc := 2) (tgt := 37) hx hb d346_2 (by decide) (fun zbr => ?_) (fun zbr => absurd (nI_le hij hj31) zbr)
  exact m_vret (pc := 37) hx hb hr hlk hS ⟨rfl, rfl⟩ (Nat.le_refl _) (Nat.le_refl _) d346_37
abbrev b349 : ByteArray := prog_29_method_133_code
theorem d349_0 : decode b349 0 = .ok ((.iload_n 1), 1) := by decide +kernel
theorem d349_1 : decode b349 1 = .ok ((.iload_n 2), 1) := by decide +kernel
theorem d349_2 : decode b349 2 = .ok ((.invokestatic 343), 3) := by decide +kernel
theorem d349_5 : decode b349 5 = .ok ((.iload_n 2), 1) := by decide +kernel
theorem d349_6 : decode b349 6 = .ok ((.iload_n 1), 1) := by decide +kernel
theorem d349_7 : decode b349 7 = .ok (.isub, 1) := by decide +kernel
theorem d349_8 : decode b349 8 = .ok ((.istore_n 3), 1) := by decide +kernel
theorem d349_9 : decode b349 9 = .ok ((.iload_n 3), 1) := by decide +kernel
theorem d349_10 : decode b349 10 = .ok ((.newarray .byte), 2) := by decide +kernel
theorem d349_12 : decode b349 12 = .ok ((.astore 4), 2) := by decide +kernel
theorem d349_14 : decode b349 14 = .ok ((.aload_n 0), 1) := by decide +kernel
theorem d349_15 : decode b349 15 = .ok ((.iload_n 1), 1) := by decide +kernel
theorem d349_16 : decode b349 16 = .ok ((.aload 4), 2) := by decide +kernel
theorem d349_18 : decode b349 18 = .ok ((.iconst 0), 1) := by decide +kernel
theorem d349_19 : decode b349 19 = .ok ((.aload_n 0), 1) := by decide +kernel
theorem d349_20 : decode b349 20 = .ok (.arraylength, 1) := by decide +kernel
theorem d349_21 : decode b349 21 = .ok ((.iload_n 1), 1) := by decide +kernel
theorem d349_22 : decode b349 22 = .ok (.isub, 1) := by decide +kernel
theorem d349_23 : decode b349 23 = .ok ((.iload_n 3), 1) := by decide +kernel
theorem d349_24 : decode b349 24 = .ok ((.invokestatic 304), 3) := by decide +kernel
theorem d349_27 : decode b349 27 = .ok ((.invokestatic 150), 3) := by decide +kernel
theorem d349_30 : decode b349 30 = .ok ((.aload 4), 2) := by decide +kernel
theorem d349_32 : decode b349 32 = .ok (.areturn, 1) := by decide +kernel
set_option maxHeartbeats 1000000 in
theorem c_j_crb (l : Launch) (ρ : RH) (H : Heap) (P : Nat → Prop) (b N : Nat) (f : Nat → Int32) (i j : Nat) (hC : CC ρ P H) (hPb : ∀ q, P q → q < H.size) (hB : bY ρ H b N f) (hij : i ≤ j) (hjN : j ≤ N) (hj20 : j < 2 ^ 20) : Met l y349 (wsOf y349 b349 5 (some (.array .byte))) ({ frames := 1, cells := 1, slots := j - i, locals := 60 } : Room) (va_Pc [.ref b, .int (nI i), .int (nI j)] (KP ρ H)) (mQ (fun v H1 => ∃ (q : Nat) (g : Nat → Int32), v = some (.ref q) ∧ H.size ≤ q ∧ H1[q]? = some (vp_cell (rA ρ 4) (j - i, .inl g)) ∧ (∀ k, k < j - i → g k = f (i + k)) ∧ sb_Fit g) (fun q => H.size ≤ q)) 1 (j - i) (fun q => H.size ≤ q) := by
  refine m_ofW (own := "java/util/Arrays") (plainFor_of_name rfl) rfl (Nat.le_of_ble_eq_true rfl) fun p e s m args below meth c ls hx hb hr hlk hmn X hs0 hl => ?_
  subst hs0
  have hS : va_S (fun q => s.heap.size ≤ q) s.heap s.heap [] := va_S.rf
  have hl : lv_has ls 5 [(0, .ref b), (1, .int (nI i)), (2, .int (nI j))] := hl
  have hN31 := hB.lt31
  refine lv_iload_n (pc := 0) hx hb d349_0 rfl (lv_at hl 1 rfl) ?_
  refine lv_iload_n (pc := 1) hx hb d349_1 rfl (lv_at hl 2 rfl) ?_
  refine k_callS (pc := 2) (n := 2) X hS (c_j_cl l ρ _ P i j hC hPb hij (by omega)) wd443 wd441 wd442 wd18 (by decide) ⟨rfl, rfl, Nat.le_of_ble_eq_true rfl, Nat.le_of_ble_eq_true rfl⟩ (As := [.int (nI i), .int (nI j)]) (rest := []) rfl rfl hl.1 (Nat.le_of_ble_eq_true rfl) d349_2 ⟨(by first | omega | (dsimp only; omega)), (by first | omega | (dsimp only; omega))⟩ (fun q hq => hq.elim) (fun v H1 locs1 hv hz1 hz2 hS => ?_)
  obtain ⟨rfl, hv2⟩ := hv
  have hv3 := hv2.symm
  clear hv2
  subst hv3
  refine lv_iload_n (pc := 5) hx hb d349_5 rfl (lv_at hl 2 rfl) ?_
  refine lv_iload_n (pc := 6) hx hb d349_6 rfl (lv_at hl 1 rfl) ?_
  refine lv_isub (pc := 7) hx hb d349_7 ?_
  refine nm_i (y := nI (j - i)) ((pk_sub (by omega)).symm) ?_
  refine lv_istore_n (pc := 8) (lv' := [(3, .int (nI (j - i))), (0, .ref b), (1, .int (nI i)), (2, .int (nI j))]) hx hb d349_8 rfl hl (by decide) rfl (fun ls hl => ?_)
  refine lv_iload_n (pc := 9) hx hb d349_9 rfl (lv_at hl 0 rfl) ?_
  refine o_newB (pc := 10) (n := nI (j - i)) (N := j - i) X hS (nI_pos (by omega)) (nI_clamp (by omega)) (by omega) (by first | omega | (dsimp only; omega)) (by first | omega | (dsimp only; omega)) d349_10 (fun o H1 ho0 hcell hz hq hS => ?_)
  have hB1 := hB.keep (hq b hB.lt)
  have hkn := kp_new hz hq
  have hC := hC.keep hkn no_hz
  have hPb : ∀ q, P q → q < H1.size := fun q z => hkn.lt (hPb q z)
  refine lv_astore (pc := 12) (lv' := [(4, .ref o), (3, .int (nI (j - i))), (0, .ref b), (1, .int (nI i)), (2, .int (nI j))]) hx hb d349_12 hl (by decide) rfl (fun ls hl => ?_)
  refine lv_aload_n (pc := 14) hx hb d349_14 rfl (lv_at hl 2 rfl) ?_
  refine lv_iload_n (pc := 15) hx hb d349_15 rfl (lv_at hl 3 rfl) ?_
  refine lv_aload (pc := 16) hx hb d349_16 (lv_at hl 0 rfl) ?_
  refine lv_iconst (pc := 18) (v := 0) hx hb d349_18 (by decide) ?_
  refine lv_aload_n (pc := 19) hx hb d349_19 rfl (lv_at hl 2 rfl) ?_
  refine b_len (pc := 20) X hB1 d349_20 ?_
  refine lv_iload_n (pc := 21) hx hb d349_21 rfl (lv_at hl 3 rfl) ?_
  refine lv_isub (pc := 22) hx hb d349_22 ?_
  refine nm_i (y := nI (N - i)) ((pk_sub (by omega)).symm) ?_
  refine lv_iload_n (pc := 23) hx hb d349_23 rfl (lv_at hl 1 rfl) ?_
  refine k_callS (pc := 24) (n := 2) X hS (c_j_min2 l ρ _ P (nI (N - i)) (nI (j - i)) hC hPb (nI_le (by omega) (by omega))) wd351 wd349 wd350 wd17 (by decide) ⟨rfl, rfl, Nat.le_of_ble_eq_true rfl, Nat.le_of_ble_eq_true rfl⟩ (As := [.int (nI (N - i)), .int (nI (j - i))]) (rest := [.int 0, .ref o, .int (nI i), .ref b]) rfl rfl hl.1 (Nat.le_of_ble_eq_true rfl) d349_24 ⟨(by first | omega | (dsimp only; omega)), (by first | omega | (dsimp only; omega))⟩ (fun q hq => hq.elim) (fun v H1 locs1 hv hz1 hz2 hS => ?_)
  obtain ⟨rfl, hv2⟩ := hv
  have hv3 := hv2.symm
  clear hv2
  subst hv3
  refine o_copy (pc := 27) (sp := i) (dp := 0) (n := j - i) X hS hB (by have := hB.lt; omega) hcell (by omega) (by omega) (by omega) (by omega) hl.1 rfl rfl wd352 d349_27 (fun H1 locs1 hcell hS => ?_)
  refine lv_aload (pc := 30) hx hb d349_30 (lv_at hl 0 rfl) ?_
  exact m_aret (pc := 32) hx hb hr (Or.inr ⟨_, rfl⟩) hlk hS ⟨o, _, rfl, by omega, hcell, fun k hk => cpy_at hk, cpy_fit hB.fit sb_fit0 (by omega)⟩ (by first | omega | (dsimp only; omega)) (by first | omega | (dsimp only; omega)) d349_32
abbrev b348 : ByteArray := prog_29_method_132_code
theorem d348_0 : decode b348 0 = .ok ((.iload_n 1), 1) := by decide +kernel
theorem d348_1 : decode b348 1 = .ok ((.ifCond .ne 9), 3) := by decide +kernel
theorem d348_4 : decode b348 4 = .ok ((.iload_n 2), 1) := by decide +kernel
theorem d348_5 : decode b348 5 = .ok ((.aload_n 0), 1) := by decide +kernel
theorem d348_6 : decode b348 6 = .ok (.arraylength, 1) := by decide +kernel
theorem d348_7 : decode b348 7 = .ok ((.if_icmp .eq 10), 3) := by decide +kernel
theorem d348_10 : decode b348 10 = .ok ((.aload_n 0), 1) := by decide +kernel
theorem d348_11 : decode b348 11 = .ok ((.iload_n 1), 1) := by decide +kernel
theorem d348_12 : decode b348 12 = .ok ((.iload_n 2), 1) := by decide +kernel
theorem d348_13 : decode b348 13 = .ok ((.invokestatic 339), 3) := by decide +kernel
theorem d348_16 : decode b348 16 = .ok (.areturn, 1) := by decide +kernel
theorem d348_17 : decode b348 17 = .ok ((.aload_n 0), 1) := by decide +kernel
theorem d348_18 : decode b348 18 = .ok ((.invokevirtual 310), 3) := by decide +kernel
theorem d348_21 : decode b348 21 = .ok ((.checkcast 311), 3) := by decide +kernel
theorem d348_24 : decode b348 24 = .ok (.areturn, 1) := by decide +kernel
set_option maxHeartbeats 1000000 in
theorem c_j_cr (l : Launch) (ρ : RH) (H : Heap) (P : Nat → Prop) (b N : Nat) (f : Nat → Int32) (i j : Nat) (hC : CC ρ P H) (hPb : ∀ q, P q → q < H.size) (hB : bY ρ H b N f) (hij : i ≤ j) (hjN : j ≤ N) (hj20 : j < 2 ^ 20) (hnf : ¬ (i = 0 ∧ j = N)) : Met l y348 (wsOf y348 b348 3 (some (.array .byte))) ({ frames := 2, cells := 1, slots := j - i, locals := 84 } : Room) (va_Pc [.ref b, .int (nI i), .int (nI j)] (KP ρ H)) (mQ (fun v H1 => ∃ (q : Nat) (g : Nat → Int32), v = some (.ref q) ∧ H.size ≤ q ∧ H1[q]? = some (vp_cell (rA ρ 4) (j - i, .inl g)) ∧ (∀ k, k < j - i → g k = f (i + k)) ∧ sb_Fit g) (fun q => H.size ≤ q)) 1 (j - i) (fun q => H.size ≤ q) := by
  refine m_ofW (own := "java/util/Arrays") (plainFor_of_name rfl) rfl (Nat.le_of_ble_eq_true rfl) fun p e s m args below meth c ls hx hb hr hlk hmn X hs0 hl => ?_
  subst hs0
  have hS : va_S (fun q => s.heap.size ≤ q) s.heap s.heap [] := va_S.rf
  have hl : lv_has ls 3 [(0, .ref b), (1, .int (nI i)), (2, .int (nI j))] := hl
  have hN31 := hB.lt31
  refine lv_iload_n (pc := 0) hx hb d348_0 rfl (lv_at hl 1 rfl) ?_
  refine lv_if_ne (pc := 1) (tgt := 10) hx hb d348_1 (by decide) (fun z1 => ?_) (fun z1 => ?_)
  · skip
    refine lv_aload_n (pc := 10) hx hb d348_10 rfl (lv_at hl 0 rfl) ?_
    refine lv_iload_n (pc := 11) hx hb d348_11 rfl (lv_at hl 1 rfl) ?_
    refine lv_iload_n (pc := 12) hx hb d348_12 rfl (lv_at hl 2 rfl) ?_
    refine k_callS (pc := 13) (n := 3) X hS (c_j_crb l ρ _ P b N f i j hC hPb hB hij hjN hj20) wd440 wd438 wd439 wd18 (by decide) ⟨rfl, rfl, Nat.le_of_ble_eq_true rfl, Nat.le_of_ble_eq_true rfl⟩ (As := [.ref b, .int (nI i), .int (nI j)]) (rest := []) rfl rfl hl.1 (Nat.le_of_ble_eq_true rfl) d348_13 ⟨(by first | omega | (dsimp only; omega)), (by first | omega | (dsimp only; omega))⟩ (fun q hq => hq) (fun v H1 locs1 hv hz1 hq1 hS => ?_)
    obtain ⟨q, g, rfl, h1, h2, h3, h4⟩ := hv
    exact m_aret (pc := 16) hx hb hr (Or.inr ⟨_, rfl⟩) hlk hS ⟨q, g, rfl, h1, h2, h3, h4⟩ (by first | omega | (dsimp only; omega)) (by first | omega | (dsimp only; omega)) d348_16
  · skip
    refine lv_iload_n (pc := 4) hx hb d348_4 rfl (lv_at hl 2 rfl) ?_
    refine lv_aload_n (pc := 5) hx hb d348_5 rfl (lv_at hl 0 rfl) ?_
    refine b_len (pc := 6) X hB d348_6 ?_
    refine lv_icmp_eq (pc := 7) (tgt := 17) hx hb d348_7 (by decide) (fun zbr => absurd zbr (fun z => hnf ⟨(nI_eq (by omega) (by decide)).mp (z1.trans nI_0.symm), (nI_eq (by omega) (by omega)).mp z⟩)) (fun zbr => ?_)
    refine lv_aload_n (pc := 10) hx hb d348_10 rfl (lv_at hl 0 rfl) ?_
    refine lv_iload_n (pc := 11) hx hb d348_11 rfl (lv_at hl 1 rfl) ?_
    refine lv_iload_n (pc := 12) hx hb d348_12 rfl (lv_at hl 2 rfl) ?_
    refine k_callS (pc := 13) (n := 3) X hS (c_j_crb l ρ _ P b N f i j hC hPb hB hij hjN hj20) wd440 wd438 wd439 wd18 (by decide) ⟨rfl, rfl, Nat.le_of_ble_eq_true rfl, Nat.le_of_ble_eq_true rfl⟩ (As := [.ref b, .int (nI i), .int (nI j)]) (rest := []) rfl rfl hl.1 (Nat.le_of_ble_eq_true rfl) d348_13 ⟨(by first | omega | (dsimp only; omega)), (by first | omega | (dsimp only; omega))⟩ (fun q hq => hq) (fun v H1 locs1 hv hz1 hq1 hS => ?_)
    obtain ⟨q, g, rfl, h1, h2, h3, h4⟩ := hv
    exact m_aret (pc := 16) hx hb hr (Or.inr ⟨_, rfl⟩) hlk hS ⟨q, g, rfl, h1, h2, h3, h4⟩ (by first | omega | (dsimp only; omega)) (by first | omega | (dsimp only; omega)) d348_16
abbrev b315 : ByteArray := prog_25_method_47_code
theorem d315_0 : decode b315 0 = .ok ((.iload_n 2), 1) := by decide +kernel
theorem d315_1 : decode b315 1 = .ok ((.ifCond .ne 6), 3) := by decide +kernel
theorem d315_4 : decode b315 4 = .ok ((.ldc 151), 2) := by decide +kernel
theorem d315_6 : decode b315 6 = .ok (.areturn, 1) := by decide +kernel
theorem d315_7 : decode b315 7 = .ok ((.new 1), 3) := by decide +kernel
theorem d315_10 : decode b315 10 = .ok (.dup, 1) := by decide +kernel
theorem d315_11 : decode b315 11 = .ok ((.aload_n 0), 1) := by decide +kernel
theorem d315_12 : decode b315 12 = .ok ((.iload_n 1), 1) := by decide +kernel
theorem d315_13 : decode b315 13 = .ok ((.iload_n 1), 1) := by decide +kernel
theorem d315_14 : decode b315 14 = .ok ((.iload_n 2), 1) := by decide +kernel
theorem d315_15 : decode b315 15 = .ok (.iadd, 1) := by decide +kernel
theorem d315_16 : decode b315 16 = .ok ((.invokestatic 232), 3) := by decide +kernel
theorem d315_19 : decode b315 19 = .ok ((.iconst 0), 1) := by decide +kernel
theorem d315_20 : decode b315 20 = .ok ((.invokespecial 112), 3) := by decide +kernel
theorem d315_23 : decode b315 23 = .ok (.areturn, 1) := by decide +kernel
set_option maxHeartbeats 1000000 in
theorem c_j_news (l : Launch) (ρ : RH) (H : Heap) (P : Nat → Prop) (b : Nat) (t : TT) (i n : Nat) (hC : CC ρ P H) (hPb : ∀ q, P q → q < H.size) (hY : isY ρ P H b t) (hin : i + n ≤ t.length) (hnf : ¬ (i = 0 ∧ i + n = t.length)) (ht20 : t.length < 2 ^ 20) : Met l y315 (wsOf y315 b315 3 (some (.object "java/lang/String"))) ({ frames := 3, cells := 2, slots := 4 + n, locals := 106 } : Room) (va_Pc [.ref b, .int (nI i), .int (nI n)] (KP ρ H)) (mQ (fun v H1 => ∃ x : Nat, v = some (.ref x) ∧ isS ρ P H1 x ((t.drop i).take n)) (fun q => H.size ≤ q)) 2 (4 + n) (fun q => H.size ≤ q) := by
  refine m_ofW (own := "java/lang/StringLatin1") (plainFor_of_name rfl) rfl (Nat.le_of_ble_eq_true rfl) fun p e s m args below meth c ls hx hb hr hlk hmn X hs0 hl => ?_
  subst hs0
  have hS : va_S (fun q => s.heap.size ≤ q) s.heap s.heap [] := va_S.rf
  have hl : lv_has ls 3 [(0, .ref b), (1, .int (nI i)), (2, .int (nI n))] := hl
  refine lv_iload_n (pc := 0) hx hb d315_0 rfl (lv_at hl 2 rfl) ?_
  have hPb0 := hPb
  refine lv_if_ne (pc := 1) (tgt := 7) hx hb d315_1 (by decide) (fun z1 => ?_) (fun z1 => ?_)
  · skip
    refine o_new (pc := 7) X hS 11 rfl tin11 tyo11 wd942 wd413 wd14 (by first | omega | (dsimp only; omega)) (by first | omega | (dsimp only; omega)) d315_7 (fun o H1 ho0 ho hz hq hS => ?_)
    have hB1 := hY.bY.keep (hq b hY.bY.lt)
    have hkn := kp_new hz hq
    have hC := hC.keep hkn no_hz
    have hPb : ∀ q, P q → q < H1.size := fun q z => hkn.lt (hPb q z)
    refine lv_dup (pc := 10) hx hb d315_10 rfl ?_
    refine lv_aload_n (pc := 11) hx hb d315_11 rfl (lv_at hl 0 rfl) ?_
    refine lv_iload_n (pc := 12) hx hb d315_12 rfl (lv_at hl 1 rfl) ?_
    refine lv_iload_n (pc := 13) hx hb d315_13 rfl (lv_at hl 1 rfl) ?_
    refine lv_iload_n (pc := 14) hx hb d315_14 rfl (lv_at hl 2 rfl) ?_
    refine lv_iadd (pc := 15) hx hb d315_15 ?_
    refine nm_i (y := nI (i + n)) ((nI_add i n).symm) ?_
    refine k_callS (pc := 16) (n := 3) X hS (c_j_cr l ρ _ P b t.length (fun j => sb_b (t.getD j 0)) i (i + n) hC hPb hB1 (by omega) hin (by omega) hnf) wd437 wd943 wd436 wd18 (by decide) ⟨rfl, rfl, Nat.le_of_ble_eq_true rfl, Nat.le_of_ble_eq_true rfl⟩ (As := [.ref b, .int (nI i), .int (nI (i + n))]) (rest := [.ref o, .ref o]) rfl rfl hl.1 (Nat.le_of_ble_eq_true rfl) d315_16 ⟨(by first | omega | (dsimp only; omega)), (by first | omega | (dsimp only; omega))⟩ (fun q hq => by omega) (fun v H2 locs1 hv hz1 hq1 hS => ?_)
    obtain ⟨q, g, rfl, h1, h2, h3, h4⟩ := hv
    have hk2 : kp no H1 H2 := ⟨hz1, fun q hq _ => hq1 q hq (by omega)⟩
    have hC := hC.keep hk2 no_hz
    have hPb : ∀ q, P q → q < H2.size := fun q z => hk2.lt (hPb q z)
    have ho := ho.kept (hk2.2 o (by omega) (fun z => z))
    refine lv_iconst (pc := 19) (v := 0) hx hb d315_19 (by decide) ?_
    refine k_callI (pc := 20) (n := 2) X hS (c_s_init l ρ _ P o q _ hC hPb ho) wd946 wd944 wd945 rfl wd14 (by decide) ⟨rfl, rfl, Nat.le_of_ble_eq_true rfl, Nat.le_of_ble_eq_true rfl⟩ (As := [.ref q, .int 0]) (rest := [.ref o]) rfl rfl hl.1 (Nat.le_of_ble_eq_true rfl) d315_20 ⟨(by first | omega | (dsimp only; omega)), (by first | omega | (dsimp only; omega))⟩ (fun q hq => by omega) (fun v H3 locs1 hv hz3 hq3 hS => ?_)
    obtain ⟨rfl, V, ho, hv0, hv1⟩ := hv
    have hcell : H3[q]? = some (vp_cell (rA ρ 4) (((t.drop i).take n).length, .inl g)) := by rw [hq3 q (hp_lt h2) (by omega), h2, sub_len hin, Nat.add_sub_cancel_left]
    have hYn : isY ρ P H3 q ((t.drop i).take n) := Y_of X.2.2.2.2.2.2.2.1 hcell (fun j hj => by rw [sub_len hin] at hj; rw [h3 j (by omega), sub_get hj]) (sub_mem hY.ok.1) (by rw [sub_len hin]; omega) (fun z => by have := hPb0 _ z; omega)
    exact m_aret (pc := 23) hx hb hr (Or.inl ⟨_, rfl⟩) hlk hS ⟨o, rfl, S_of ho hv0 hv1 hYn (fun z => by have := hPb0 _ z; omega)⟩ (by first | omega | (dsimp only; omega)) (by first | omega | (dsimp only; omega)) d315_23
  · skip
    refine c_ldcS (pc := 4) (t := []) X hC 9 rfl rfl d315_4 (fun hp1 => ?_)
    obtain rfl : n = 0 := (nI_eq (by omega) (by decide)).mp (z1.trans nI_0.symm)
    exact m_aret (pc := 6) hx hb hr (Or.inl ⟨_, rfl⟩) hlk hS ⟨_, rfl, hp1⟩ (by first | omega | (dsimp only; omega)) (by first | omega | (dsimp only; omega)) d315_6
abbrev b353 : ByteArray := prog_31_method_12_code
theorem d353_0 : decode b353 0 = .ok ((.iload_n 0), 1) := by decide +kernel
theorem d353_1 : decode b353 1 = .ok ((.ifCond .lt 13), 3) := by decide +kernel
theorem d353_4 : decode b353 4 = .ok ((.iload_n 0), 1) := by decide +kernel
theorem d353_5 : decode b353 5 = .ok ((.iload_n 1), 1) := by decide +kernel
theorem d353_6 : decode b353 6 = .ok ((.if_icmp .gt 8), 3) := by decide +kernel
theorem d353_9 : decode b353 9 = .ok ((.iload_n 1), 1) := by decide +kernel
theorem d353_10 : decode b353 10 = .ok ((.iload_n 2), 1) := by decide +kernel
theorem d353_11 : decode b353 11 = .ok ((.if_icmp .le 11), 3) := by decide +kernel
theorem d353_14 : decode b353 14 = .ok ((.aload_n 3), 1) := by decide +kernel
theorem d353_15 : decode b353 15 = .ok ((.iload_n 0), 1) := by decide +kernel
theorem d353_16 : decode b353 16 = .ok ((.iload_n 1), 1) := by decide +kernel
theorem d353_17 : decode b353 17 = .ok ((.iload_n 2), 1) := by decide +kernel
theorem d353_18 : decode b353 18 = .ok ((.invokestatic 99), 3) := by decide +kernel
theorem d353_21 : decode b353 21 = .ok (.athrow, 1) := by decide +kernel
theorem d353_22 : decode b353 22 = .ok ((.iload_n 0), 1) := by decide +kernel
theorem d353_23 : decode b353 23 = .ok (.ireturn, 1) := by decide +kernel
set_option maxHeartbeats 1000000 in
theorem c_j_cftN (l : Launch) (ρ : RH) (H : Heap) (P : Nat → Prop) (i j n r2 : Nat) (hC : CC ρ P H) (hPb : ∀ q, P q → q < H.size) (hij : i ≤ j) (hjn : j ≤ n) (hn : n < 2 ^ 31) : Met l y353 (wsOf y353 b353 4 (some .int)) ({ frames := 0, cells := 0, slots := 0, locals := 0 } : Room) (va_Pc [.int (nI i), .int (nI j), .int (nI n), .null] (KP ρ H)) (mQ (fun v H1 => v = some (.int (nI i)) ∧ H1 = H) (fun _ => False)) 0 0 (fun _ => False) := by
  refine m_ofW (own := "jdk/internal/util/Preconditions") (plainFor_of_name rfl) rfl (Nat.le_of_ble_eq_true rfl) fun p e s m args below meth c ls hx hb hr hlk hmn X hs0 hl => ?_
  subst hs0
  have hS : va_S (fun _ => False) s.heap s.heap [] := va_S.rf
  have hl : lv_has ls 4 [(0, .int (nI i)), (1, .int (nI j)), (2, .int (nI n)), (3, .null)] := hl
  refine lv_iload_n (pc := 0) hx hb d353_0 rfl (lv_at hl 0 rfl) ?_
  refine lv_if_lt (pc := 1) (tgt := 14) hx hb d353_1 (by decide) (fun zbr => absurd zbr (nI_pos (by omega))) (fun zbr => ?_)
  refine lv_iload_n (pc := 4) hx hb d353_4 rfl (lv_at hl 0 rfl) ?_
  refine lv_iload_n (pc := 5) hx hb d353_5 rfl (lv_at hl 1 rfl) ?_
  refine lv_icmp_gt (pc := 6) (tgt := 14) hx hb d353_6 (by decide) (fun zbr => absurd zbr (fun z => absurd (nI_le hij (by omega)) (Int32.not_le.mpr z))) (fun zbr => ?_)
  refine lv_iload_n (pc := 9) hx hb d353_9 rfl (lv_at hl 1 rfl) ?_
  refine lv_iload_n (pc := 10) hx hb d353_10 rfl (lv_at hl 2 rfl) ?_
  refine lv_icmp_le (pc := 11) (tgt := 22) hx hb d353_11 (by decide) (fun zbr => ?_) (fun zbr => absurd (nI_le hjn (by omega)) zbr)
  refine lv_iload_n (pc := 22) hx hb d353_22 rfl (lv_at hl 0 rfl) ?_
  exact m_iret (pc := 23) hx hb hr hlk hS ⟨rfl, rfl⟩ (Nat.le_refl _) (Nat.le_refl _) d353_23
set_option maxHeartbeats 1000000 in
theorem c_j_cftR (l : Launch) (ρ : RH) (H : Heap) (P : Nat → Prop) (i j n r2 : Nat) (hC : CC ρ P H) (hPb : ∀ q, P q → q < H.size) (hij : i ≤ j) (hjn : j ≤ n) (hn : n < 2 ^ 31) : Met l y353 (wsOf y353 b353 4 (some .int)) ({ frames := 0, cells := 0, slots := 0, locals := 0 } : Room) (va_Pc [.int (nI i), .int (nI j), .int (nI n), .ref r2] (KP ρ H)) (mQ (fun v H1 => v = some (.int (nI i)) ∧ H1 = H) (fun _ => False)) 0 0 (fun _ => False) := by
  refine m_ofW (own := "jdk/internal/util/Preconditions") (plainFor_of_name rfl) rfl (Nat.le_of_ble_eq_true rfl) fun p e s m args below meth c ls hx hb hr hlk hmn X hs0 hl => ?_
  subst hs0
  have hS : va_S (fun _ => False) s.heap s.heap [] := va_S.rf
  have hl : lv_has ls 4 [(0, .int (nI i)), (1, .int (nI j)), (2, .int (nI n)), (3, .ref r2)] := hl
  refine lv_iload_n (pc := 0) hx hb d353_0 rfl (lv_at hl 0 rfl) ?_
  refine lv_if_lt (pc := 1) (tgt := 14) hx hb d353_1 (by decide) (fun zbr => absurd zbr (nI_pos (by omega))) (fun zbr => ?_)
  refine lv_iload_n (pc := 4) hx hb d353_4 rfl (lv_at hl 0 rfl) ?_
  refine lv_iload_n (pc := 5) hx hb d353_5 rfl (lv_at hl 1 rfl) ?_
  refine lv_icmp_gt (pc := 6) (tgt := 14) hx hb d353_6 (by decide) (fun zbr => absurd zbr (fun z => absurd (nI_le hij (by omega)) (Int32.not_le.mpr z))) (fun zbr => ?_)
  refine lv_iload_n (pc := 9) hx hb d353_9 rfl (lv_at hl 1 rfl) ?_
  refine lv_iload_n (pc := 10) hx hb d353_10 rfl (lv_at hl 2 rfl) ?_
  refine lv_icmp_le (pc := 11) (tgt := 22) hx hb d353_11 (by decide) (fun zbr => ?_) (fun zbr => absurd (nI_le hjn (by omega)) zbr)
  refine lv_iload_n (pc := 22) hx hb d353_22 rfl (lv_at hl 0 rfl) ?_
  exact m_iret (pc := 23) hx hb hr hlk hS ⟨rfl, rfl⟩ (Nat.le_refl _) (Nat.le_refl _) d353_23
abbrev b288 : ByteArray := prog_23_method_158_code
theorem d288_0 : decode b288 0 = .ok ((.iload_n 0), 1) := by decide +kernel
theorem d288_1 : decode b288 1 = .ok ((.iload_n 1), 1) := by decide +kernel
theorem d288_2 : decode b288 2 = .ok ((.iload_n 2), 1) := by decide +kernel
theorem d288_3 : decode b288 3 = .ok ((.getstatic 1053), 3) := by decide +kernel
theorem d288_6 : decode b288 6 = .ok ((.invokestatic 1062), 3) := by decide +kernel
theorem d288_9 : decode b288 9 = .ok (.pop, 1) := by decide +kernel
theorem d288_10 : decode b288 10 = .ok (.return_, 1) := by decide +kernel
set_option maxHeartbeats 1000000 in
theorem c_j_cbe (l : Launch) (ρ : RH) (H : Heap) (P : Nat → Prop) (i j n : Nat) (hC : CC ρ P H) (hPb : ∀ q, P q → q < H.size) (hij : i ≤ j) (hjn : j ≤ n) (hn : n < 2 ^ 31) : Met l y288 (wsOf y288 b288 3 none) ({ frames := 1, cells := 0, slots := 0, locals := 23 } : Room) (va_Pc [.int (nI i), .int (nI j), .int (nI n)] (KP ρ H)) (mQ (fun v H1 => v = none ∧ H1 = H) (fun _ => False)) 0 0 (fun _ => False) := by
  refine m_ofW (own := "java/lang/String") (plainFor_of_name rfl) rfl (Nat.le_of_ble_eq_true rfl) fun p e s m args below meth c ls hx hb hr hlk hmn X hs0 hl => ?_
  subst hs0
  have hS : va_S (fun _ => False) s.heap s.heap [] := va_S.rf
  have hl : lv_has ls 3 [(0, .int (nI i)), (1, .int (nI j)), (2, .int (nI n))] := hl
  refine lv_iload_n (pc := 0) hx hb d288_0 rfl (lv_at hl 0 rfl) ?_
  refine lv_iload_n (pc := 1) hx hb d288_1 rfl (lv_at hl 1 rfl) ?_
  refine lv_iload_n (pc := 2) hx hb d288_2 rfl (lv_at hl 2 rfl) ?_
  rcases hC.2.2.2 1 rfl with hz | ⟨tz, hz⟩
  · skip
    refine c_gets (pc := 3) X 1 hz rfl rfl wd382 d288_3 ?_
    refine k_callS (pc := 6) (n := 4) X hS (c_j_cftN l ρ _ P i j n 0 hC hPb hij hjn hn) wd514 wd512 wd513 wd21 (by decide) ⟨rfl, rfl, Nat.le_of_ble_eq_true rfl, Nat.le_of_ble_eq_true rfl⟩ (As := [.int (nI i), .int (nI j), .int (nI n), .null]) (rest := []) rfl rfl hl.1 (Nat.le_of_ble_eq_true rfl) d288_6 ⟨Nat.le_refl _, Nat.le_refl _⟩ (fun q hq => hq.elim) (fun v H1 locs1 hv hz1 hz2 hS => ?_)
    obtain ⟨rfl, hv2⟩ := hv
    have hv3 := hv2.symm
    clear hv2
    subst hv3
    refine lv_pop (pc := 9) hx hb d288_9 rfl ?_
    exact m_vret (pc := 10) hx hb hr hlk hS ⟨rfl, rfl⟩ (Nat.le_refl _) (Nat.le_refl _) d288_10
  · skip
    refine c_gets (pc := 3) X 1 hz rfl rfl wd382 d288_3 ?_
    refine k_callS (pc := 6) (n := 4) X hS (c_j_cftR l ρ _ P i j n tz hC hPb hij hjn hn) wd514 wd512 wd513 wd21 (by decide) ⟨rfl, rfl, Nat.le_of_ble_eq_true rfl, Nat.le_of_ble_eq_true rfl⟩ (As := [.int (nI i), .int (nI j), .int (nI n), .ref tz]) (rest := []) rfl rfl hl.1 (Nat.le_of_ble_eq_true rfl) d288_6 ⟨Nat.le_refl _, Nat.le_refl _⟩ (fun q hq => hq.elim) (fun v H1 locs1 hv hz1 hz2 hS => ?_)
    obtain ⟨rfl, hv2⟩ := hv
    have hv3 := hv2.symm
    clear hv2
    subst hv3
    refine lv_pop (pc := 9) hx hb d288_9 rfl ?_
    exact m_vret (pc := 10) hx hb hr hlk hS ⟨rfl, rfl⟩ (Nat.le_refl _) (Nat.le_refl _) d288_10
theorem d300_0 : decode b300 0 = .ok ((.aload_n 0), 1) := by decide +kernel
theorem d300_1 : decode b300 1 = .ok ((.invokevirtual 505), 3) := by decide +kernel
theorem d300_4 : decode b300 4 = .ok ((.istore_n 3), 1) := by decide +kernel
theorem d300_5 : decode b300 5 = .ok ((.iload_n 1), 1) := by decide +kernel
theorem d300_6 : decode b300 6 = .ok ((.iload_n 2), 1) := by decide +kernel
theorem d300_7 : decode b300 7 = .ok ((.iload_n 3), 1) := by decide +kernel
theorem d300_8 : decode b300 8 = .ok ((.invokestatic 521), 3) := by decide +kernel
theorem d300_11 : decode b300 11 = .ok ((.iload_n 1), 1) := by decide +kernel
theorem d300_12 : decode b300 12 = .ok ((.ifCond .ne 10), 3) := by decide +kernel
theorem d300_15 : decode b300 15 = .ok ((.iload_n 2), 1) := by decide +kernel
theorem d300_16 : decode b300 16 = .ok ((.iload_n 3), 1) := by decide +kernel
theorem d300_17 : decode b300 17 = .ok ((.if_icmp .ne 5), 3) := by decide +kernel
theorem d300_20 : decode b300 20 = .ok ((.aload_n 0), 1) := by decide +kernel
theorem d300_21 : decode b300 21 = .ok (.areturn, 1) := by decide +kernel
theorem d300_22 : decode b300 22 = .ok ((.iload_n 2), 1) := by decide +kernel
theorem d300_23 : decode b300 23 = .ok ((.iload_n 1), 1) := by decide +kernel
theorem d300_24 : decode b300 24 = .ok (.isub, 1) := by decide +kernel
theorem d300_25 : decode b300 25 = .ok ((.istore 4), 2) := by decide +kernel
theorem d300_27 : decode b300 27 = .ok ((.aload_n 0), 1) := by decide +kernel
theorem d300_28 : decode b300 28 = .ok ((.invokevirtual 492), 3) := by decide +kernel
theorem d300_31 : decode b300 31 = .ok ((.ifCond .eq 16), 3) := by decide +kernel
theorem d300_34 : decode b300 34 = .ok ((.aload_n 0), 1) := by decide +kernel
theorem d300_35 : decode b300 35 = .ok ((.getfield 9), 3) := by decide +kernel
theorem d300_38 : decode b300 38 = .ok ((.iload_n 1), 1) := by decide +kernel
theorem d300_39 : decode b300 39 = .ok ((.iload 4), 2) := by decide +kernel
theorem d300_41 : decode b300 41 = .ok ((.invokestatic 685), 3) := by decide +kernel
theorem d300_44 : decode b300 44 = .ok ((.goto 13), 3) := by decide +kernel
theorem d300_47 : decode b300 47 = .ok ((.aload_n 0), 1) := by decide +kernel
theorem d300_48 : decode b300 48 = .ok ((.getfield 9), 3) := by decide +kernel
theorem d300_51 : decode b300 51 = .ok ((.iload_n 1), 1) := by decide +kernel
theorem d300_52 : decode b300 52 = .ok ((.iload 4), 2) := by decide +kernel
theorem d300_54 : decode b300 54 = .ok ((.invokestatic 689), 3) := by decide +kernel
theorem d300_57 : decode b300 57 = .ok (.areturn, 1) := by decide +kernel
set_option maxHeartbeats 1000000 in
theorem c_js_substring (l : Launch) (ρ : RH) (H : Heap) (P : Nat → Prop) (a : Nat) (t : TT) (p0 : Int32) (p1 : Int32) (res : TT × Nat × Nat) (hC : CC ρ P H) (hPb : ∀ q, P q → q < H.size) (hs : isS ρ P H a t) (h : f_js_substring t p0 p1 = some res) : Met l y300 (wsOf y300 b300 5 (some (.object "java/lang/String"))) ({ frames := 12, cells := res.2.1, slots := res.2.2, locals := 600 } : Room) (va_Pc [.ref a, .int p0, .int p1] (KP ρ H)) (mQ (fun v H1 => ∃ x : Nat, v = some (.ref x) ∧ isS ρ P H1 x res.1) (fun q => H.size ≤ q)) res.2.1 res.2.2 (fun q => H.size ≤ q) := by
  obtain ⟨b, hR, hY⟩ := hs.cut
  obtain ⟨hg, h⟩ := jg_some h
  obtain ⟨i, j, rfl, rfl, hij, hjn, ht20⟩ := sub_ex hg
  rw [nI_clamp (show i < 2 ^ 31 by omega), nI_clamp (show j < 2 ^ 31 by omega)] at h
  obtain rfl := Option.some.inj h
  refine m_ofW (own := "java/lang/String") (plainFor_of_name rfl) rfl (Nat.le_of_ble_eq_true rfl) fun p e s m args below meth c ls hx hb hr hlk hmn X hs0 hl => ?_
  subst hs0
  have hS : va_S (fun q => s.heap.size ≤ q) s.heap s.heap [] := va_S.rf
  have hl : lv_has ls 5 [(0, .ref a), (1, .int (nI i)), (2, .int (nI j))] := hl
  refine lv_aload_n (pc := 0) hx hb d300_0 rfl (lv_at hl 0 rfl) ?_
  refine k_callV (pc := 1) (n := 0) X hS (c_j_length l ρ _ P a b t hC hPb hR hY) wd538 wd792 wd536 wd537 wd14 (by decide) ⟨rfl, rfl, Nat.le_of_ble_eq_true rfl, Nat.le_of_ble_eq_true rfl⟩ (r_recv X hR) (As := []) (rest := []) rfl rfl hl.1 (Nat.le_of_ble_eq_true rfl) d300_1 ⟨(by first | omega | (dsimp only; omega)), (by first | omega | (dsimp only; omega))⟩ (fun q hq => hq.elim) (fun v H1 locs1 hv hz1 hz2 hS => ?_)
  obtain ⟨rfl, hv2⟩ := hv
  have hv3 := hv2.symm
  clear hv2
  subst hv3
  refine lv_istore_n (pc := 4) (lv' := [(3, .int (nI t.length)), (0, .ref a), (1, .int (nI i)), (2, .int (nI j))]) hx hb d300_4 rfl hl (by decide) rfl (fun ls hl => ?_)
  refine lv_iload_n (pc := 5) hx hb d300_5 rfl (lv_at hl 2 rfl) ?_
  refine lv_iload_n (pc := 6) hx hb d300_6 rfl (lv_at hl 3 rfl) ?_
  refine lv_iload_n (pc := 7) hx hb d300_7 rfl (lv_at hl 0 rfl) ?_
  refine k_callS (pc := 8) (n := 3) X hS (c_j_cbe l ρ _ P i j t.length hC hPb hij hjn (by omega)) wd511 wd937 wd510 wd14 (by decide) ⟨rfl, rfl, Nat.le_of_ble_eq_true rfl, Nat.le_of_ble_eq_true rfl⟩ (As := [.int (nI i), .int (nI j), .int (nI t.length)]) (rest := []) rfl rfl hl.1 (Nat.le_of_ble_eq_true rfl) d300_8 ⟨(by first | omega | (dsimp only; omega)), (by first | omega | (dsimp only; omega))⟩ (fun q hq => hq.elim) (fun v H1 locs1 hv hz1 hz2 hS => ?_)
  obtain ⟨rfl, hv2⟩ := hv
  have hv3 := hv2.symm
  clear hv2
  subst hv3
  refine lv_iload_n (pc := 11) hx hb d300_11 rfl (lv_at hl 2 rfl) ?_
  refine lv_if_ne (pc := 12) (tgt := 22) hx hb d300_12 (by decide) (fun z12 => ?_) (fun z12 => ?_)
  · skip
    refine lv_iload_n (pc := 22) hx hb d300_22 rfl (lv_at hl 3 rfl) ?_
    refine lv_iload_n (pc := 23) hx hb d300_23 rfl (lv_at hl 2 rfl) ?_
    refine lv_isub (pc := 24) hx hb d300_24 ?_
    refine nm_i (y := nI (j - i)) ((pk_sub hij).symm) ?_
    refine lv_istore (pc := 25) (lv' := [(4, .int (nI (j - i))), (3, .int (nI t.length)), (0, .ref a), (1, .int (nI i)), (2, .int (nI j))]) hx hb d300_25 hl (by decide) rfl (fun ls hl => ?_)
    refine lv_aload_n (pc := 27) hx hb d300_27 rfl (lv_at hl 2 rfl) ?_
    refine k_callV (pc := 28) (n := 0) X hS (c_j_latin l ρ _ P a b hC hPb hR) wd687 wd684 wd685 wd686 wd14 (by decide) ⟨rfl, rfl, Nat.le_of_ble_eq_true rfl, Nat.le_of_ble_eq_true rfl⟩ (r_recv X hR) (As := []) (rest := []) rfl rfl hl.1 (Nat.le_of_ble_eq_true rfl) d300_28 ⟨(by first | omega | (dsimp only; omega)), (by first | omega | (dsimp only; omega))⟩ (fun q hq => hq.elim) (fun v H1 locs1 hv hz1 hz2 hS => ?_)
    obtain ⟨rfl, hv2⟩ := hv
    have hv3 := hv2.symm
    clear hv2
    subst hv3
    refine lv_if_eq (pc := 31) (tgt := 47) hx hb d300_31 (by decide) (fun zbr => absurd zbr (by decide)) (fun zbr => ?_)
    refine lv_aload_n (pc := 34) hx hb d300_34 rfl (lv_at hl 2 rfl) ?_
    refine s_val (pc := 35) X hR wd598 d300_35 ?_
    refine lv_iload_n (pc := 38) hx hb d300_38 rfl (lv_at hl 3 rfl) ?_
    refine lv_iload (pc := 39) hx hb d300_39 (lv_at hl 0 rfl) ?_
    refine k_callS (pc := 41) (n := 3) X hS (c_j_news l ρ _ P b t i (j - i) hC hPb hY (by omega) (fun z => z12 (by rw [z.1]; rfl)) ht20) wd940 wd938 wd939 wd20 (by decide) ⟨rfl, rfl, Nat.le_of_ble_eq_true rfl, Nat.le_of_ble_eq_true rfl⟩ (As := [.ref b, .int (nI i), .int (nI (j - i))]) (rest := []) rfl rfl hl.1 (Nat.le_of_ble_eq_true rfl) d300_41 ⟨(by first | omega | (dsimp only; omega)), (by first | omega | (dsimp only; omega))⟩ (fun q hq => hq) (fun v H1 locs1 hv hz1 hq1 hS => ?_)
    obtain ⟨x, rfl, hx9⟩ := hv
    refine lv_goto (pc := 44) (tgt := 57) hx hb d300_44 (by decide) ?_
    exact m_aret (pc := 57) hx hb hr (Or.inl ⟨_, rfl⟩) hlk hS ⟨x, rfl, hx9⟩ (by first | omega | (dsimp only; omega)) (by first | omega | (dsimp only; omega)) d300_57
  · skip
    refine lv_iload_n (pc := 15) hx hb d300_15 rfl (lv_at hl 3 rfl) ?_
    refine lv_iload_n (pc := 16) hx hb d300_16 rfl (lv_at hl 0 rfl) ?_
    refine lv_icmp_ne (pc := 17) (tgt := 22) hx hb d300_17 (by decide) (fun z17 => ?_) (fun z17 => ?_)
    · skip
      refine lv_iload_n (pc := 22) hx hb d300_22 rfl (lv_at hl 3 rfl) ?_
      refine lv_iload_n (pc := 23) hx hb d300_23 rfl (lv_at hl 2 rfl) ?_
      refine lv_isub (pc := 24) hx hb d300_24 ?_
      refine nm_i (y := nI (j - i)) ((pk_sub hij).symm) ?_
      refine lv_istore (pc := 25) (lv' := [(4, .int (nI (j - i))), (3, .int (nI t.length)), (0, .ref a), (1, .int (nI i)), (2, .int (nI j))]) hx hb d300_25 hl (by decide) rfl (fun ls hl => ?_)
      refine lv_aload_n (pc := 27) hx hb d300_27 rfl (lv_at hl 2 rfl) ?_
      refine k_callV (pc := 28) (n := 0) X hS (c_j_latin l ρ _ P a b hC hPb hR) wd687 wd684 wd685 wd686 wd14 (by decide) ⟨rfl, rfl, Nat.le_of_ble_eq_true rfl, Nat.le_of_ble_eq_true rfl⟩ (r_recv X hR) (As := []) (rest := []) rfl rfl hl.1 (Nat.le_of_ble_eq_true rfl) d300_28 ⟨(by first | omega | (dsimp only; omega)), (by first | omega | (dsimp only; omega))⟩ (fun q hq => hq.elim) (fun v H1 locs1 hv hz1 hz2 hS => ?_)
      obtain ⟨rfl, hv2⟩ := hv
      have hv3 := hv2.symm
      clear hv2
      subst hv3
      refine lv_if_eq (pc := 31) (tgt := 47) hx hb d300_31 (by decide) (fun zbr => absurd zbr (by decide)) (fun zbr => ?_)
      refine lv_aload_n (pc := 34) hx hb d300_34 rfl (lv_at hl 2 rfl) ?_
      refine s_val (pc := 35) X hR wd598 d300_35 ?_
      refine lv_iload_n (pc := 38) hx hb d300_38 rfl (lv_at hl 3 rfl) ?_
      refine lv_iload (pc := 39) hx hb d300_39 (lv_at hl 0 rfl) ?_
      refine k_callS (pc := 41) (n := 3) X hS (c_j_news l ρ _ P b t i (j - i) hC hPb hY (by omega) (fun z => z17 (by rw [show j = t.length by omega])) ht20) wd940 wd938 wd939 wd20 (by decide) ⟨rfl, rfl, Nat.le_of_ble_eq_true rfl, Nat.le_of_ble_eq_true rfl⟩ (As := [.ref b, .int (nI i), .int (nI (j - i))]) (rest := []) rfl rfl hl.1 (Nat.le_of_ble_eq_true rfl) d300_41 ⟨(by first | omega | (dsimp only; omega)), (by first | omega | (dsimp only; omega))⟩ (fun q hq => hq) (fun v H1 locs1 hv hz1 hq1 hS => ?_)
      obtain ⟨x, rfl, hx9⟩ := hv
      refine lv_goto (pc := 44) (tgt := 57) hx hb d300_44 (by decide) ?_
      exact m_aret (pc := 57) hx hb hr (Or.inl ⟨_, rfl⟩) hlk hS ⟨x, rfl, hx9⟩ (by first | omega | (dsimp only; omega)) (by first | omega | (dsimp only; omega)) d300_57
    · skip
      obtain rfl : i = 0 := (nI_eq (by omega) (by decide)).mp (z12.trans nI_0.symm)
      obtain rfl : j = t.length := (nI_eq (by omega) (by omega)).mp z17
      refine lv_aload_n (pc := 20) hx hb d300_20 rfl (lv_at hl 1 rfl) ?_
      exact m_aret (pc := 21) hx hb hr (Or.inl ⟨_, rfl⟩) hlk hS ⟨a, rfl, by rw [List.drop_zero, Nat.sub_zero, List.take_length]; exact hs⟩ (by first | omega | (dsimp only; omega)) (by first | omega | (dsimp only; omega)) d300_21
