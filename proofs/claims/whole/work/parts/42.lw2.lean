/-! ===== the law's walk: what goes round its loop ===== -/
def LI (ρ : RH) (P : Nat → Prop) (ad am : Nat → Nat) (oo B : Nat) (cs : CS) (ms : GS) (H : Heap) : Prop := CW ρ P ad cs H ∧ GW ρ wM am ms H ∧ (∃ fo : Nat → Int64, H[oo]? = some (vp_cell (rA ρ 5) (1, .inr (.inl fo)))) ∧ (∀ j, j < 23 → P (am j)) ∧ P oo ∧ (∀ i j, i < 46 → j < 23 → ad i ≠ am j) ∧ (∀ i, i < 46 → oo ≠ ad i) ∧ (∀ j, j < 23 → oo ≠ am j) ∧ (∀ i, i < 46 → B ≤ ad i) ∧ (∀ j, j < 23 → B ≤ am j) ∧ B ≤ oo
section LIL
variable {ρ : RH} {P : Nat → Prop} {ad am : Nat → Nat} {oo B : Nat} {cs cs' : CS} {ms ms' : GS} {H H1 : Heap}
theorem LI.am_lt (h : LI ρ P ad am oo B cs ms H) {j : Nat} (hj : j < 23) : am j < H.size := gC.lt (h.2.1.1 j hj)
theorem LI.oo_lt (h : LI ρ P ad am oo B cs ms H) : oo < H.size := by
  obtain ⟨fo, q⟩ := h.2.2.1
  exact hp_lt q
theorem LI.cls (h : LI ρ P ad am oo B cs ms H) (hW : CW ρ P ad cs' H1) (hz : H.size ≤ H1.size) (hq : ∀ q : Nat, q < H.size → ¬ MA wC ad H.size q → H1[q]? = H[q]?) : LI ρ P ad am oo B cs' ms H1 := by
  obtain ⟨fo, ho⟩ := h.2.2.1
  obtain ⟨h1, h2, -, h4, h5, h6, h7, h8⟩ := id h
  refine ⟨hW, h2.kept (fun j hj => hq _ (h.am_lt hj) (fun z => ?_)), ⟨fo, ?_⟩, h4, h5, h6, h7, h8⟩
  · rcases z with ⟨i, hi, e⟩ | g
    · exact h6 i j hi hj e.symm
    · exact absurd (h.am_lt hj) (Nat.not_lt.mpr g)
  · rw [hq _ h.oo_lt (fun z => by
      rcases z with ⟨i, hi, e⟩ | g
      · exact h7 i hi e
      · exact absurd h.oo_lt (Nat.not_lt.mpr g))]
    exact ho
theorem LI.call (h : LI ρ P ad am oo B cs ms H) (hW : CW ρ P ad cs' H1) (ho : ∃ fo : Nat → Int64, H1[oo]? = some (vp_cell (rA ρ 5) (1, .inr (.inl fo)))) (hz : H.size ≤ H1.size) (hq : ∀ q : Nat, q < H.size → ¬ (MA wC ad H.size q ∨ q = oo) → H1[q]? = H[q]?) : LI ρ P ad am oo B cs' ms H1 := by
  obtain ⟨h1, h2, -, h4, h5, h6, h7, h8, h9⟩ := id h
  refine ⟨hW, h2.kept (fun j hj => hq _ (h.am_lt hj) (fun z => ?_)), ho, h4, h5, h6, h7, h8, h9⟩
  rcases z with (⟨i, hi, e⟩ | g) | g
  · exact h6 i j hi hj e.symm
  · exact absurd (h.am_lt hj) (Nat.not_lt.mpr g)
  · exact h8 j hj g.symm
theorem LI.mod (h : LI ρ P ad am oo B cs ms H) (hW : GW ρ wM am ms' H1) (hz : H.size ≤ H1.size) (hq : ∀ q : Nat, q < H.size → ¬ MA wM am H.size q → H1[q]? = H[q]?) : LI ρ P ad am oo B cs ms' H1 := by
  obtain ⟨fo, ho⟩ := h.2.2.1
  obtain ⟨h1, h2, -, h4, h5, h6, h7, h8, h9⟩ := id h
  have hk : kp (fun q => ∃ j, j < 23 ∧ q = am j) H H1 := kp_call hz hq (fun q hq z => z.elim id (fun g => absurd hq (Nat.not_lt.mpr g)))
  refine ⟨h1.keep hk (fun q _ ⟨j, hj, e⟩ => by rw [e]; exact h4 j hj) (fun i hi ⟨j, hj, e⟩ => h6 i j hi hj e), hW, ⟨fo, ?_⟩, h4, h5, h6, h7, h8, h9⟩
  rw [hk.2 _ h.oo_lt (fun ⟨j, hj, e⟩ => h8 j hj e)]
  exact ho
theorem LI.MAc (h : LI ρ P ad am oo B cs ms H) (hB : B ≤ H.size) : ∀ q, MA wC ad H.size q → B ≤ q := fun q z => z.elim (fun ⟨i, hi, e⟩ => by rw [e]; exact h.2.2.2.2.2.2.2.2.1 i hi) (fun g => Nat.le_trans hB g)
theorem LI.MAm (h : LI ρ P ad am oo B cs ms H) (hB : B ≤ H.size) : ∀ q, MA wM am H.size q → B ≤ q := fun q z => z.elim (fun ⟨i, hi, e⟩ => by rw [e]; exact h.2.2.2.2.2.2.2.2.2.1 i hi) (fun g => Nat.le_trans hB g)
theorem LI.oo_b (h : LI ρ P ad am oo B cs ms H) : B ≤ oo := h.2.2.2.2.2.2.2.2.2.2
end LIL
/-- what the pure part owes: a relation of class and reference, with what has been made of cells and slots -/
def LRel (Rel : Nat → CS → GS → Nat → Nat → Prop) : Prop :=
  (Rel 0 cs0 ms0 0 0) ∧
  (∀ {k cs ms C S}, Rel k cs ms C S → C ≤ 600952 ∧ S ≤ 7078370) ∧
  (∀ {k cs ms C S}, Rel k cs ms C S → k < 512 → Rel (k + 1) cs ms C S) ∧
  (∀ {k cs ms C S}, Rel k cs ms C S → k < 512 → ∀ p0 p1 p2 p3 p4 : Int32, ∃ r cs' ms', f_wf_feed cs p0 p1 p2 p3 p4 = some (r, cs') ∧ f_mo_feed ms p0 p1 p2 p3 p4 = some (r, ms') ∧ Rel (k + 1) cs' ms' C S) ∧
  (∀ {k cs ms C S}, Rel k cs ms C S → k < 512 → ∀ p0 : Int32, ∃ r cs' ms' c1 s1, f_wf_end cs p0 = some ((r, cs'), c1, s1) ∧ f_mo_end ms p0 = some (r, ms') ∧ Rel (k + 1) cs' ms' (C + c1) (S + s1)) ∧
  (∀ {k cs ms C S}, Rel k cs ms C S → k < 512 → ∀ p0 p1 : Int32, ∃ r cs' ms', f_wf_home cs p0 p1 = some (r, cs') ∧ f_mo_home ms p0 p1 = some (r, ms') ∧ Rel (k + 1) cs' ms' C S) ∧
  (∀ {k cs ms C S}, Rel k cs ms C S → k < 512 → ∀ p0 p1 : Int32, ∃ ms' t, f_mo_argument ms p0 p1 = some ms' ∧ f_mo_thrown ms' = some t ∧ ((∃ cs', t = 0 ∧ f_wf_argument cs p0 p1 = some cs' ∧ Rel (k + 1) cs' ms' C S) ∨ (t = 1 ∧ (¬ (p0 = 0 ∧ p1 = 0) ∧ (p0 < 1 ∨ p1 < 1)) ∧ Rel (k + 1) cs ms' (C + 1) (S + 6)) ∨ (t = 2 ∧ ((p0 = 0 ∧ p1 = 0) ∨ (1 ≤ p0 ∧ 1 ≤ p1)) ∧ f_ar_addF cs p0 p1 = some 0 ∧ Rel (k + 1) cs ms' (C + 1) (S + 6)))) ∧
  (∀ {k cs ms C S}, Rel k cs ms C S → k < 512 → ∀ p0 p1 : Int32, ∃ r cs' ms', f_wf_range cs p0 p1 = some (r, cs') ∧ f_mo_range ms p0 p1 = some (r, ms') ∧ Rel (k + 1) cs' ms' C S) ∧
  (∀ {k cs ms C S}, Rel k cs ms C S → k < 512 → ∀ p0 p1 p2 : Int32, nn (FP.dmul (FP.i2d p2) (4593671619917905920 : UInt64)) = true ∧ ∃ r cs' ms' c1 s1, f_wf_put cs p0 p1 (FP.dmul (FP.i2d p2) (4593671619917905920 : UInt64)) = some ((r, cs'), c1, s1) ∧ f_mo_put ms p0 p1 (FP.dmul (FP.i2d p2) (4593671619917905920 : UInt64)) = some (r, ms') ∧ Rel (k + 1) cs' ms' (C + c1) (S + s1)) ∧
  (∀ {k cs ms C S}, Rel k cs ms C S → k < 512 → ∀ p0 : Int32, ∃ r cs' ms' c1 s1, f_wf_putText cs p0 = some ((r, cs'), c1, s1) ∧ f_mo_putText ms p0 = some (r, ms') ∧ Rel (k + 1) cs' ms' (C + c1) (S + s1)) ∧
  (∀ {k cs ms C S}, Rel k cs ms C S → k < 512 → ∀ p0 : Int32, ∃ r ms' t, f_mo_call ms p0 = some (r, ms') ∧ f_mo_thrown ms' = some t ∧ ((∃ cs' c1 s1, t = 0 ∧ f_wf_call cs p0 = some ((r, cs'), c1, s1) ∧ Rel (k + 1) cs' ms' (C + c1) (S + s1)) ∨ (t = 1 ∧ f_wf_isFor p0 (cs.1 1 5) = some 0 ∧ Rel (k + 1) cs ms' (C + 1) (S + 6)))) ∧
  (∀ {k cs ms C S}, Rel k cs ms C S → k < 512 → ∀ p0 : Int32, (p0 = 0 ∨ p0 = 1) → ∃ r ms', f_wf_size cs p0 = some r ∧ f_mo_size ms p0 = some (r, ms') ∧ Rel (k + 1) cs ms' C S) ∧
  (∀ {k cs ms C S}, Rel k cs ms C S → k < 512 → ∀ p0 p1 : Int32, ∃ r cs' ms', f_wf_look cs p0 p1 = some (r, cs') ∧ f_mo_look ms p0 p1 = some (r, ms') ∧ Rel (k + 1) cs' ms' C S) ∧
  (∀ {k cs ms C S}, Rel k cs ms C S → k < 512 → ∃ x y ms', f_wf_value cs = some x ∧ f_mo_value ms = some (y, ms') ∧ (x = y ∨ Op.cmpValue (FP.dcmp x y) .l = 0) ∧ Rel (k + 1) cs ms' C S) ∧
  (∀ {k cs ms C S}, Rel k cs ms C S → k < 512 → ∀ p0 : Int32, ∃ r ms', f_wf_letter cs p0 = some r ∧ f_mo_letter ms p0 = some (r, ms') ∧ Rel (k + 1) cs ms' C S)
theorem LRel.init {Rel : Nat → CS → GS → Nat → Nat → Prop} (h : LRel Rel) : Rel 0 cs0 ms0 0 0 := h.1
theorem LRel.room {Rel : Nat → CS → GS → Nat → Nat → Prop} (h : LRel Rel) : ∀ {k cs ms C S}, Rel k cs ms C S → C ≤ 600952 ∧ S ≤ 7078370 := h.2.1
theorem LRel.skip {Rel : Nat → CS → GS → Nat → Nat → Prop} (h : LRel Rel) : ∀ {k cs ms C S}, Rel k cs ms C S → k < 512 → Rel (k + 1) cs ms C S := h.2.2.1
theorem LRel.feed {Rel : Nat → CS → GS → Nat → Nat → Prop} (h : LRel Rel) : ∀ {k cs ms C S}, Rel k cs ms C S → k < 512 → ∀ p0 p1 p2 p3 p4 : Int32, ∃ r cs' ms', f_wf_feed cs p0 p1 p2 p3 p4 = some (r, cs') ∧ f_mo_feed ms p0 p1 p2 p3 p4 = some (r, ms') ∧ Rel (k + 1) cs' ms' C S := h.2.2.2.1
theorem LRel.end_ {Rel : Nat → CS → GS → Nat → Nat → Prop} (h : LRel Rel) : ∀ {k cs ms C S}, Rel k cs ms C S → k < 512 → ∀ p0 : Int32, ∃ r cs' ms' c1 s1, f_wf_end cs p0 = some ((r, cs'), c1, s1) ∧ f_mo_end ms p0 = some (r, ms') ∧ Rel (k + 1) cs' ms' (C + c1) (S + s1) := h.2.2.2.2.1
theorem LRel.home {Rel : Nat → CS → GS → Nat → Nat → Prop} (h : LRel Rel) : ∀ {k cs ms C S}, Rel k cs ms C S → k < 512 → ∀ p0 p1 : Int32, ∃ r cs' ms', f_wf_home cs p0 p1 = some (r, cs') ∧ f_mo_home ms p0 p1 = some (r, ms') ∧ Rel (k + 1) cs' ms' C S := h.2.2.2.2.2.1
theorem LRel.argument {Rel : Nat → CS → GS → Nat → Nat → Prop} (h : LRel Rel) : ∀ {k cs ms C S}, Rel k cs ms C S → k < 512 → ∀ p0 p1 : Int32, ∃ ms' t, f_mo_argument ms p0 p1 = some ms' ∧ f_mo_thrown ms' = some t ∧ ((∃ cs', t = 0 ∧ f_wf_argument cs p0 p1 = some cs' ∧ Rel (k + 1) cs' ms' C S) ∨ (t = 1 ∧ (¬ (p0 = 0 ∧ p1 = 0) ∧ (p0 < 1 ∨ p1 < 1)) ∧ Rel (k + 1) cs ms' (C + 1) (S + 6)) ∨ (t = 2 ∧ ((p0 = 0 ∧ p1 = 0) ∨ (1 ≤ p0 ∧ 1 ≤ p1)) ∧ f_ar_addF cs p0 p1 = some 0 ∧ Rel (k + 1) cs ms' (C + 1) (S + 6))) := h.2.2.2.2.2.2.1
theorem LRel.range {Rel : Nat → CS → GS → Nat → Nat → Prop} (h : LRel Rel) : ∀ {k cs ms C S}, Rel k cs ms C S → k < 512 → ∀ p0 p1 : Int32, ∃ r cs' ms', f_wf_range cs p0 p1 = some (r, cs') ∧ f_mo_range ms p0 p1 = some (r, ms') ∧ Rel (k + 1) cs' ms' C S := h.2.2.2.2.2.2.2.1
theorem LRel.put {Rel : Nat → CS → GS → Nat → Nat → Prop} (h : LRel Rel) : ∀ {k cs ms C S}, Rel k cs ms C S → k < 512 → ∀ p0 p1 p2 : Int32, nn (FP.dmul (FP.i2d p2) (4593671619917905920 : UInt64)) = true ∧ ∃ r cs' ms' c1 s1, f_wf_put cs p0 p1 (FP.dmul (FP.i2d p2) (4593671619917905920 : UInt64)) = some ((r, cs'), c1, s1) ∧ f_mo_put ms p0 p1 (FP.dmul (FP.i2d p2) (4593671619917905920 : UInt64)) = some (r, ms') ∧ Rel (k + 1) cs' ms' (C + c1) (S + s1) := h.2.2.2.2.2.2.2.2.1
theorem LRel.putText {Rel : Nat → CS → GS → Nat → Nat → Prop} (h : LRel Rel) : ∀ {k cs ms C S}, Rel k cs ms C S → k < 512 → ∀ p0 : Int32, ∃ r cs' ms' c1 s1, f_wf_putText cs p0 = some ((r, cs'), c1, s1) ∧ f_mo_putText ms p0 = some (r, ms') ∧ Rel (k + 1) cs' ms' (C + c1) (S + s1) := h.2.2.2.2.2.2.2.2.2.1
theorem LRel.call {Rel : Nat → CS → GS → Nat → Nat → Prop} (h : LRel Rel) : ∀ {k cs ms C S}, Rel k cs ms C S → k < 512 → ∀ p0 : Int32, ∃ r ms' t, f_mo_call ms p0 = some (r, ms') ∧ f_mo_thrown ms' = some t ∧ ((∃ cs' c1 s1, t = 0 ∧ f_wf_call cs p0 = some ((r, cs'), c1, s1) ∧ Rel (k + 1) cs' ms' (C + c1) (S + s1)) ∨ (t = 1 ∧ f_wf_isFor p0 (cs.1 1 5) = some 0 ∧ Rel (k + 1) cs ms' (C + 1) (S + 6))) := h.2.2.2.2.2.2.2.2.2.2.1
theorem LRel.size {Rel : Nat → CS → GS → Nat → Nat → Prop} (h : LRel Rel) : ∀ {k cs ms C S}, Rel k cs ms C S → k < 512 → ∀ p0 : Int32, (p0 = 0 ∨ p0 = 1) → ∃ r ms', f_wf_size cs p0 = some r ∧ f_mo_size ms p0 = some (r, ms') ∧ Rel (k + 1) cs ms' C S := h.2.2.2.2.2.2.2.2.2.2.2.1
theorem LRel.look {Rel : Nat → CS → GS → Nat → Nat → Prop} (h : LRel Rel) : ∀ {k cs ms C S}, Rel k cs ms C S → k < 512 → ∀ p0 p1 : Int32, ∃ r cs' ms', f_wf_look cs p0 p1 = some (r, cs') ∧ f_mo_look ms p0 p1 = some (r, ms') ∧ Rel (k + 1) cs' ms' C S := h.2.2.2.2.2.2.2.2.2.2.2.2.1
theorem LRel.value {Rel : Nat → CS → GS → Nat → Nat → Prop} (h : LRel Rel) : ∀ {k cs ms C S}, Rel k cs ms C S → k < 512 → ∃ x y ms', f_wf_value cs = some x ∧ f_mo_value ms = some (y, ms') ∧ (x = y ∨ Op.cmpValue (FP.dcmp x y) .l = 0) ∧ Rel (k + 1) cs ms' C S := h.2.2.2.2.2.2.2.2.2.2.2.2.2.1
theorem LRel.letter {Rel : Nat → CS → GS → Nat → Nat → Prop} (h : LRel Rel) : ∀ {k cs ms C S}, Rel k cs ms C S → k < 512 → ∀ p0 : Int32, ∃ r ms', f_wf_letter cs p0 = some r ∧ f_mo_letter ms p0 = some (r, ms') ∧ Rel (k + 1) cs ms' C S := h.2.2.2.2.2.2.2.2.2.2.2.2.2.2
theorem nI_sub6 {L a : Nat} (hL : L < 2 ^ 30) (ha : a < 2 ^ 30) : (nI L - 6 < nI a) ↔ ¬ (a + 6 ≤ L) := by
  have e := pk_sub_toInt (a := L) (b := 6) (by omega) (by decide)
  have e2 : (nI L - 6).toInt = (L : Int) - 6 := e
  rw [Int32.lt_iff_toInt_lt, e2, nI_toInt (by omega)]
  omega
theorem KPT_tx {ρ : RH} {s : State} {H : Heap} {locs : List Loc} (hT0 : TX ρ s.heap s) (hZ : rZa ρ 5 < s.heap.size ∧ rZa ρ 6 < s.heap.size) (hS : va_S (fun q => s.heap.size ≤ q) s.heap H locs) : TX ρ H s :=
  hT0.moved (State.WarmedH.refl s) (hS.2.1 _ hZ.1 (Nat.not_le.mpr hZ.1)) (hS.2.1 _ hZ.2 (Nat.not_le.mpr hZ.2))
theorem lg_cmp_self (x : Int64) : lg_cmp x x = 0 := by
  unfold lg_cmp
  simp
theorem LI.oo_m {ρ : RH} {P : Nat → Prop} {ad am : Nat → Nat} {oo B : Nat} {cs : CS} {ms : GS} {H : Heap} (h : LI ρ P ad am oo B cs ms H) (z : MA wM am H.size oo) : False := z.elim (fun ⟨i, hi, e⟩ => h.2.2.2.2.2.2.2.1 i hi e) (fun g => absurd h.oo_lt (Nat.not_lt.mpr g))
theorem d137_0 : decode code 0 = .ok ((.new 8), 3) := by decide +kernel
theorem d137_3 : decode code 3 = .ok (.dup, 1) := by decide +kernel
theorem d137_4 : decode code 4 = .ok ((.invokespecial 21), 3) := by decide +kernel
theorem d137_7 : decode code 7 = .ok ((.astore_n 1), 1) := by decide +kernel
theorem d137_8 : decode code 8 = .ok ((.new 22), 3) := by decide +kernel
theorem d137_11 : decode code 11 = .ok (.dup, 1) := by decide +kernel
theorem d137_12 : decode code 12 = .ok ((.invokespecial 24), 3) := by decide +kernel
theorem d137_15 : decode code 15 = .ok ((.astore_n 2), 1) := by decide +kernel
theorem d137_16 : decode code 16 = .ok ((.iconst 1), 1) := by decide +kernel
theorem d137_17 : decode code 17 = .ok ((.newarray .long), 2) := by decide +kernel
theorem d137_19 : decode code 19 = .ok ((.astore_n 3), 1) := by decide +kernel
theorem d137_20 : decode code 20 = .ok ((.iconst 0), 1) := by decide +kernel
theorem d137_21 : decode code 21 = .ok ((.istore 4), 2) := by decide +kernel
theorem d137_23 : decode code 23 = .ok ((.iload 4), 2) := by decide +kernel
theorem d137_25 : decode code 25 = .ok ((.aload_n 0), 1) := by decide +kernel
theorem d137_26 : decode code 26 = .ok (.arraylength, 1) := by decide +kernel
theorem d137_27 : decode code 27 = .ok ((.bipush 6), 2) := by decide +kernel
theorem d137_29 : decode code 29 = .ok (.isub, 1) := by decide +kernel
theorem d137_30 : decode code 30 = .ok ((.if_icmp .gt 584), 3) := by decide +kernel
theorem d137_33 : decode code 33 = .ok ((.aload_n 0), 1) := by decide +kernel
theorem d137_34 : decode code 34 = .ok ((.iload 4), 2) := by decide +kernel
theorem d137_36 : decode code 36 = .ok (.iaload, 1) := by decide +kernel
theorem d137_37 : decode code 37 = .ok ((.bipush 15), 2) := by decide +kernel
theorem d137_39 : decode code 39 = .ok (.iand, 1) := by decide +kernel
theorem d137_40 : decode code 40 = .ok ((.tableswitch 568 0 11 #[64, 137, 162, 199, 247, 284, 343, 368, 424, 465, 502, 543]), 64) := by decide +kernel
theorem d137_104 : decode code 104 = .ok ((.aload_n 1), 1) := by decide +kernel
theorem d137_105 : decode code 105 = .ok ((.aload_n 0), 1) := by decide +kernel
theorem d137_106 : decode code 106 = .ok ((.iload 4), 2) := by decide +kernel
theorem d137_108 : decode code 108 = .ok ((.iconst 1), 1) := by decide +kernel
theorem d137_109 : decode code 109 = .ok (.iadd, 1) := by decide +kernel
theorem d137_110 : decode code 110 = .ok (.iaload, 1) := by decide +kernel
theorem d137_111 : decode code 111 = .ok ((.aload_n 0), 1) := by decide +kernel
theorem d137_112 : decode code 112 = .ok ((.iload 4), 2) := by decide +kernel
theorem d137_114 : decode code 114 = .ok ((.iconst 2), 1) := by decide +kernel
theorem d137_115 : decode code 115 = .ok (.iadd, 1) := by decide +kernel
theorem d137_116 : decode code 116 = .ok (.iaload, 1) := by decide +kernel
theorem d137_117 : decode code 117 = .ok ((.aload_n 0), 1) := by decide +kernel
theorem d137_118 : decode code 118 = .ok ((.iload 4), 2) := by decide +kernel
theorem d137_120 : decode code 120 = .ok ((.iconst 3), 1) := by decide +kernel
theorem d137_121 : decode code 121 = .ok (.iadd, 1) := by decide +kernel
theorem d137_122 : decode code 122 = .ok (.iaload, 1) := by decide +kernel
theorem d137_123 : decode code 123 = .ok ((.aload_n 0), 1) := by decide +kernel
theorem d137_124 : decode code 124 = .ok ((.iload 4), 2) := by decide +kernel
theorem d137_126 : decode code 126 = .ok ((.iconst 4), 1) := by decide +kernel
theorem d137_127 : decode code 127 = .ok (.iadd, 1) := by decide +kernel
theorem d137_128 : decode code 128 = .ok (.iaload, 1) := by decide +kernel
theorem d137_129 : decode code 129 = .ok ((.aload_n 0), 1) := by decide +kernel
theorem d137_130 : decode code 130 = .ok ((.iload 4), 2) := by decide +kernel
theorem d137_132 : decode code 132 = .ok ((.iconst 5), 1) := by decide +kernel
theorem d137_133 : decode code 133 = .ok (.iadd, 1) := by decide +kernel
theorem d137_134 : decode code 134 = .ok (.iaload, 1) := by decide +kernel
theorem d137_135 : decode code 135 = .ok ((.invokevirtual 25), 3) := by decide +kernel
theorem d137_138 : decode code 138 = .ok ((.aload_n 2), 1) := by decide +kernel
theorem d137_139 : decode code 139 = .ok ((.aload_n 0), 1) := by decide +kernel
theorem d137_140 : decode code 140 = .ok ((.iload 4), 2) := by decide +kernel
theorem d137_142 : decode code 142 = .ok ((.iconst 1), 1) := by decide +kernel
theorem d137_143 : decode code 143 = .ok (.iadd, 1) := by decide +kernel
theorem d137_144 : decode code 144 = .ok (.iaload, 1) := by decide +kernel
theorem d137_145 : decode code 145 = .ok ((.aload_n 0), 1) := by decide +kernel
theorem d137_146 : decode code 146 = .ok ((.iload 4), 2) := by decide +kernel
theorem d137_148 : decode code 148 = .ok ((.iconst 2), 1) := by decide +kernel
theorem d137_149 : decode code 149 = .ok (.iadd, 1) := by decide +kernel
theorem d137_150 : decode code 150 = .ok (.iaload, 1) := by decide +kernel
theorem d137_151 : decode code 151 = .ok ((.aload_n 0), 1) := by decide +kernel
theorem d137_152 : decode code 152 = .ok ((.iload 4), 2) := by decide +kernel
theorem d137_154 : decode code 154 = .ok ((.iconst 3), 1) := by decide +kernel
theorem d137_155 : decode code 155 = .ok (.iadd, 1) := by decide +kernel
theorem d137_156 : decode code 156 = .ok (.iaload, 1) := by decide +kernel
theorem d137_157 : decode code 157 = .ok ((.aload_n 0), 1) := by decide +kernel
theorem d137_158 : decode code 158 = .ok ((.iload 4), 2) := by decide +kernel
theorem d137_160 : decode code 160 = .ok ((.iconst 4), 1) := by decide +kernel
theorem d137_161 : decode code 161 = .ok (.iadd, 1) := by decide +kernel
theorem d137_162 : decode code 162 = .ok (.iaload, 1) := by decide +kernel
theorem d137_163 : decode code 163 = .ok ((.aload_n 0), 1) := by decide +kernel
theorem d137_164 : decode code 164 = .ok ((.iload 4), 2) := by decide +kernel
theorem d137_166 : decode code 166 = .ok ((.iconst 5), 1) := by decide +kernel
theorem d137_167 : decode code 167 = .ok (.iadd, 1) := by decide +kernel
theorem d137_168 : decode code 168 = .ok (.iaload, 1) := by decide +kernel
theorem d137_169 : decode code 169 = .ok ((.invokevirtual 29), 3) := by decide +kernel
theorem d137_172 : decode code 172 = .ok ((.if_icmp .eq 436), 3) := by decide +kernel
theorem d137_175 : decode code 175 = .ok ((.iconst 0), 1) := by decide +kernel
theorem d137_176 : decode code 176 = .ok (.ireturn, 1) := by decide +kernel
theorem d137_177 : decode code 177 = .ok ((.aload_n 1), 1) := by decide +kernel
theorem d137_178 : decode code 178 = .ok ((.aload_n 0), 1) := by decide +kernel
theorem d137_179 : decode code 179 = .ok ((.iload 4), 2) := by decide +kernel
theorem d137_181 : decode code 181 = .ok ((.iconst 1), 1) := by decide +kernel
theorem d137_182 : decode code 182 = .ok (.iadd, 1) := by decide +kernel
theorem d137_183 : decode code 183 = .ok (.iaload, 1) := by decide +kernel
theorem d137_184 : decode code 184 = .ok ((.invokevirtual 30), 3) := by decide +kernel
theorem d137_187 : decode code 187 = .ok ((.aload_n 2), 1) := by decide +kernel
theorem d137_188 : decode code 188 = .ok ((.aload_n 0), 1) := by decide +kernel
theorem d137_189 : decode code 189 = .ok ((.iload 4), 2) := by decide +kernel
theorem d137_191 : decode code 191 = .ok ((.iconst 1), 1) := by decide +kernel
theorem d137_192 : decode code 192 = .ok (.iadd, 1) := by decide +kernel
theorem d137_193 : decode code 193 = .ok (.iaload, 1) := by decide +kernel
theorem d137_194 : decode code 194 = .ok ((.invokevirtual 34), 3) := by decide +kernel
theorem d137_197 : decode code 197 = .ok ((.if_icmp .eq 411), 3) := by decide +kernel
theorem d137_200 : decode code 200 = .ok ((.iconst 0), 1) := by decide +kernel
theorem d137_201 : decode code 201 = .ok (.ireturn, 1) := by decide +kernel
theorem d137_202 : decode code 202 = .ok ((.aload_n 1), 1) := by decide +kernel
theorem d137_203 : decode code 203 = .ok ((.aload_n 0), 1) := by decide +kernel
theorem d137_204 : decode code 204 = .ok ((.iload 4), 2) := by decide +kernel
theorem d137_206 : decode code 206 = .ok ((.iconst 1), 1) := by decide +kernel
theorem d137_207 : decode code 207 = .ok (.iadd, 1) := by decide +kernel
theorem d137_208 : decode code 208 = .ok (.iaload, 1) := by decide +kernel
theorem d137_209 : decode code 209 = .ok ((.aload_n 0), 1) := by decide +kernel
theorem d137_210 : decode code 210 = .ok ((.iload 4), 2) := by decide +kernel
theorem d137_212 : decode code 212 = .ok ((.iconst 2), 1) := by decide +kernel
theorem d137_213 : decode code 213 = .ok (.iadd, 1) := by decide +kernel
theorem d137_214 : decode code 214 = .ok (.iaload, 1) := by decide +kernel
theorem d137_215 : decode code 215 = .ok ((.invokevirtual 35), 3) := by decide +kernel
theorem d137_218 : decode code 218 = .ok ((.aload_n 2), 1) := by decide +kernel
theorem d137_219 : decode code 219 = .ok ((.aload_n 0), 1) := by decide +kernel
theorem d137_220 : decode code 220 = .ok ((.iload 4), 2) := by decide +kernel
theorem d137_222 : decode code 222 = .ok ((.iconst 1), 1) := by decide +kernel
theorem d137_223 : decode code 223 = .ok (.iadd, 1) := by decide +kernel
theorem d137_224 : decode code 224 = .ok (.iaload, 1) := by decide +kernel
theorem d137_225 : decode code 225 = .ok ((.aload_n 0), 1) := by decide +kernel
theorem d137_226 : decode code 226 = .ok ((.iload 4), 2) := by decide +kernel
theorem d137_228 : decode code 228 = .ok ((.iconst 2), 1) := by decide +kernel
theorem d137_229 : decode code 229 = .ok (.iadd, 1) := by decide +kernel
theorem d137_230 : decode code 230 = .ok (.iaload, 1) := by decide +kernel
theorem d137_231 : decode code 231 = .ok ((.invokevirtual 39), 3) := by decide +kernel
theorem d137_234 : decode code 234 = .ok ((.if_icmp .eq 374), 3) := by decide +kernel
theorem d137_237 : decode code 237 = .ok ((.iconst 0), 1) := by decide +kernel
theorem d137_238 : decode code 238 = .ok (.ireturn, 1) := by decide +kernel
theorem d137_239 : decode code 239 = .ok ((.aload_n 1), 1) := by decide +kernel
theorem d137_240 : decode code 240 = .ok ((.aload_n 0), 1) := by decide +kernel
theorem d137_241 : decode code 241 = .ok ((.iload 4), 2) := by decide +kernel
theorem d137_243 : decode code 243 = .ok ((.iconst 1), 1) := by decide +kernel
theorem d137_244 : decode code 244 = .ok (.iadd, 1) := by decide +kernel
theorem d137_245 : decode code 245 = .ok (.iaload, 1) := by decide +kernel
theorem d137_246 : decode code 246 = .ok ((.aload_n 0), 1) := by decide +kernel
theorem d137_247 : decode code 247 = .ok ((.iload 4), 2) := by decide +kernel
theorem d137_249 : decode code 249 = .ok ((.iconst 2), 1) := by decide +kernel
theorem d137_250 : decode code 250 = .ok (.iadd, 1) := by decide +kernel
theorem d137_251 : decode code 251 = .ok (.iaload, 1) := by decide +kernel
theorem d137_252 : decode code 252 = .ok ((.invokestatic 40), 3) := by decide +kernel
theorem d137_255 : decode code 255 = .ok ((.istore 5), 2) := by decide +kernel
theorem d137_257 : decode code 257 = .ok ((.aload_n 2), 1) := by decide +kernel
theorem d137_258 : decode code 258 = .ok ((.aload_n 0), 1) := by decide +kernel
theorem d137_259 : decode code 259 = .ok ((.iload 4), 2) := by decide +kernel
theorem d137_261 : decode code 261 = .ok ((.iconst 1), 1) := by decide +kernel
theorem d137_262 : decode code 262 = .ok (.iadd, 1) := by decide +kernel
theorem d137_263 : decode code 263 = .ok (.iaload, 1) := by decide +kernel
theorem d137_264 : decode code 264 = .ok ((.aload_n 0), 1) := by decide +kernel
theorem d137_265 : decode code 265 = .ok ((.iload 4), 2) := by decide +kernel
theorem d137_267 : decode code 267 = .ok ((.iconst 2), 1) := by decide +kernel
theorem d137_268 : decode code 268 = .ok (.iadd, 1) := by decide +kernel
theorem d137_269 : decode code 269 = .ok (.iaload, 1) := by decide +kernel
theorem d137_270 : decode code 270 = .ok ((.invokevirtual 45), 3) := by decide +kernel
theorem d137_273 : decode code 273 = .ok ((.aload_n 2), 1) := by decide +kernel
theorem d137_274 : decode code 274 = .ok ((.invokevirtual 46), 3) := by decide +kernel
theorem d137_277 : decode code 277 = .ok ((.iload 5), 2) := by decide +kernel
theorem d137_279 : decode code 279 = .ok ((.if_icmp .eq 5), 3) := by decide +kernel
theorem d137_282 : decode code 282 = .ok ((.iconst 0), 1) := by decide +kernel
theorem d137_283 : decode code 283 = .ok (.ireturn, 1) := by decide +kernel
theorem d137_284 : decode code 284 = .ok ((.goto 324), 3) := by decide +kernel
theorem d137_287 : decode code 287 = .ok ((.aload_n 1), 1) := by decide +kernel
theorem d137_288 : decode code 288 = .ok ((.aload_n 0), 1) := by decide +kernel
theorem d137_289 : decode code 289 = .ok ((.iload 4), 2) := by decide +kernel
theorem d137_291 : decode code 291 = .ok ((.iconst 1), 1) := by decide +kernel
theorem d137_292 : decode code 292 = .ok (.iadd, 1) := by decide +kernel
theorem d137_293 : decode code 293 = .ok (.iaload, 1) := by decide +kernel
theorem d137_294 : decode code 294 = .ok ((.aload_n 0), 1) := by decide +kernel
theorem d137_295 : decode code 295 = .ok ((.iload 4), 2) := by decide +kernel
theorem d137_297 : decode code 297 = .ok ((.iconst 2), 1) := by decide +kernel
theorem d137_298 : decode code 298 = .ok (.iadd, 1) := by decide +kernel
theorem d137_299 : decode code 299 = .ok (.iaload, 1) := by decide +kernel
theorem d137_300 : decode code 300 = .ok ((.invokevirtual 50), 3) := by decide +kernel
theorem d137_303 : decode code 303 = .ok ((.aload_n 2), 1) := by decide +kernel
theorem d137_304 : decode code 304 = .ok ((.aload_n 0), 1) := by decide +kernel
theorem d137_305 : decode code 305 = .ok ((.iload 4), 2) := by decide +kernel
theorem d137_307 : decode code 307 = .ok ((.iconst 1), 1) := by decide +kernel
theorem d137_308 : decode code 308 = .ok (.iadd, 1) := by decide +kernel
theorem d137_309 : decode code 309 = .ok (.iaload, 1) := by decide +kernel
theorem d137_310 : decode code 310 = .ok ((.aload_n 0), 1) := by decide +kernel
theorem d137_311 : decode code 311 = .ok ((.iload 4), 2) := by decide +kernel
theorem d137_313 : decode code 313 = .ok ((.iconst 2), 1) := by decide +kernel
theorem d137_314 : decode code 314 = .ok (.iadd, 1) := by decide +kernel
theorem d137_315 : decode code 315 = .ok (.iaload, 1) := by decide +kernel
theorem d137_316 : decode code 316 = .ok ((.invokevirtual 53), 3) := by decide +kernel
theorem d137_319 : decode code 319 = .ok ((.if_icmp .eq 289), 3) := by decide +kernel
theorem d137_322 : decode code 322 = .ok ((.iconst 0), 1) := by decide +kernel
theorem d137_323 : decode code 323 = .ok (.ireturn, 1) := by decide +kernel
theorem d137_324 : decode code 324 = .ok ((.aload_n 1), 1) := by decide +kernel
theorem d137_325 : decode code 325 = .ok ((.aload_n 0), 1) := by decide +kernel
theorem d137_326 : decode code 326 = .ok ((.iload 4), 2) := by decide +kernel
theorem d137_328 : decode code 328 = .ok ((.iconst 1), 1) := by decide +kernel
theorem d137_329 : decode code 329 = .ok (.iadd, 1) := by decide +kernel
theorem d137_330 : decode code 330 = .ok (.iaload, 1) := by decide +kernel
theorem d137_331 : decode code 331 = .ok ((.aload_n 0), 1) := by decide +kernel
theorem d137_332 : decode code 332 = .ok ((.iload 4), 2) := by decide +kernel
theorem d137_334 : decode code 334 = .ok ((.iconst 2), 1) := by decide +kernel
theorem d137_335 : decode code 335 = .ok (.iadd, 1) := by decide +kernel
theorem d137_336 : decode code 336 = .ok (.iaload, 1) := by decide +kernel
theorem d137_337 : decode code 337 = .ok ((.aload_n 0), 1) := by decide +kernel
theorem d137_338 : decode code 338 = .ok ((.iload 4), 2) := by decide +kernel
theorem d137_340 : decode code 340 = .ok ((.iconst 3), 1) := by decide +kernel
theorem d137_341 : decode code 341 = .ok (.iadd, 1) := by decide +kernel
theorem d137_342 : decode code 342 = .ok (.iaload, 1) := by decide +kernel
theorem d137_343 : decode code 343 = .ok (.i2d, 1) := by decide +kernel
theorem d137_344 : decode code 344 = .ok ((.ldc2_w 54), 3) := by decide +kernel
theorem d137_347 : decode code 347 = .ok (.dmul, 1) := by decide +kernel
theorem d137_348 : decode code 348 = .ok ((.invokevirtual 56), 3) := by decide +kernel
theorem d137_351 : decode code 351 = .ok ((.aload_n 2), 1) := by decide +kernel
theorem d137_352 : decode code 352 = .ok ((.aload_n 0), 1) := by decide +kernel
theorem d137_353 : decode code 353 = .ok ((.iload 4), 2) := by decide +kernel
theorem d137_355 : decode code 355 = .ok ((.iconst 1), 1) := by decide +kernel
theorem d137_356 : decode code 356 = .ok (.iadd, 1) := by decide +kernel
theorem d137_357 : decode code 357 = .ok (.iaload, 1) := by decide +kernel
theorem d137_358 : decode code 358 = .ok ((.aload_n 0), 1) := by decide +kernel
theorem d137_359 : decode code 359 = .ok ((.iload 4), 2) := by decide +kernel
theorem d137_361 : decode code 361 = .ok ((.iconst 2), 1) := by decide +kernel
theorem d137_362 : decode code 362 = .ok (.iadd, 1) := by decide +kernel
theorem d137_363 : decode code 363 = .ok (.iaload, 1) := by decide +kernel
theorem d137_364 : decode code 364 = .ok ((.aload_n 0), 1) := by decide +kernel
theorem d137_365 : decode code 365 = .ok ((.iload 4), 2) := by decide +kernel
theorem d137_367 : decode code 367 = .ok ((.iconst 3), 1) := by decide +kernel
theorem d137_368 : decode code 368 = .ok (.iadd, 1) := by decide +kernel
theorem d137_369 : decode code 369 = .ok (.iaload, 1) := by decide +kernel
theorem d137_370 : decode code 370 = .ok (.i2d, 1) := by decide +kernel
theorem d137_371 : decode code 371 = .ok ((.ldc2_w 54), 3) := by decide +kernel
theorem d137_374 : decode code 374 = .ok (.dmul, 1) := by decide +kernel
theorem d137_375 : decode code 375 = .ok ((.invokevirtual 60), 3) := by decide +kernel
theorem d137_378 : decode code 378 = .ok ((.if_icmp .eq 230), 3) := by decide +kernel
theorem d137_381 : decode code 381 = .ok ((.iconst 0), 1) := by decide +kernel
theorem d137_382 : decode code 382 = .ok (.ireturn, 1) := by decide +kernel
theorem d137_383 : decode code 383 = .ok ((.aload_n 1), 1) := by decide +kernel
theorem d137_384 : decode code 384 = .ok ((.aload_n 0), 1) := by decide +kernel
theorem d137_385 : decode code 385 = .ok ((.iload 4), 2) := by decide +kernel
theorem d137_387 : decode code 387 = .ok ((.iconst 1), 1) := by decide +kernel
theorem d137_388 : decode code 388 = .ok (.iadd, 1) := by decide +kernel
theorem d137_389 : decode code 389 = .ok (.iaload, 1) := by decide +kernel
theorem d137_390 : decode code 390 = .ok ((.invokevirtual 61), 3) := by decide +kernel
theorem d137_393 : decode code 393 = .ok ((.aload_n 2), 1) := by decide +kernel
theorem d137_394 : decode code 394 = .ok ((.aload_n 0), 1) := by decide +kernel
theorem d137_395 : decode code 395 = .ok ((.iload 4), 2) := by decide +kernel
theorem d137_397 : decode code 397 = .ok ((.iconst 1), 1) := by decide +kernel
theorem d137_398 : decode code 398 = .ok (.iadd, 1) := by decide +kernel
theorem d137_399 : decode code 399 = .ok (.iaload, 1) := by decide +kernel
theorem d137_400 : decode code 400 = .ok ((.invokevirtual 64), 3) := by decide +kernel
theorem d137_403 : decode code 403 = .ok ((.if_icmp .eq 205), 3) := by decide +kernel
theorem d137_406 : decode code 406 = .ok ((.iconst 0), 1) := by decide +kernel
theorem d137_407 : decode code 407 = .ok (.ireturn, 1) := by decide +kernel
theorem d137_408 : decode code 408 = .ok ((.aload_n 1), 1) := by decide +kernel
theorem d137_409 : decode code 409 = .ok ((.aload_n 0), 1) := by decide +kernel
theorem d137_410 : decode code 410 = .ok ((.iload 4), 2) := by decide +kernel
theorem d137_412 : decode code 412 = .ok ((.iconst 1), 1) := by decide +kernel
theorem d137_413 : decode code 413 = .ok (.iadd, 1) := by decide +kernel
theorem d137_414 : decode code 414 = .ok (.iaload, 1) := by decide +kernel
theorem d137_415 : decode code 415 = .ok ((.aload_n 3), 1) := by decide +kernel
theorem d137_416 : decode code 416 = .ok ((.invokestatic 65), 3) := by decide +kernel
theorem d137_419 : decode code 419 = .ok ((.istore 5), 2) := by decide +kernel
theorem d137_421 : decode code 421 = .ok ((.aload_n 2), 1) := by decide +kernel
theorem d137_422 : decode code 422 = .ok ((.aload_n 0), 1) := by decide +kernel
theorem d137_423 : decode code 423 = .ok ((.iload 4), 2) := by decide +kernel
theorem d137_425 : decode code 425 = .ok ((.iconst 1), 1) := by decide +kernel
theorem d137_426 : decode code 426 = .ok (.iadd, 1) := by decide +kernel
theorem d137_427 : decode code 427 = .ok (.iaload, 1) := by decide +kernel
theorem d137_428 : decode code 428 = .ok ((.invokevirtual 68), 3) := by decide +kernel
theorem d137_431 : decode code 431 = .ok ((.istore 6), 2) := by decide +kernel
theorem d137_433 : decode code 433 = .ok ((.aload_n 2), 1) := by decide +kernel
theorem d137_434 : decode code 434 = .ok ((.invokevirtual 46), 3) := by decide +kernel
theorem d137_437 : decode code 437 = .ok ((.iload 5), 2) := by decide +kernel
theorem d137_439 : decode code 439 = .ok ((.if_icmp .eq 5), 3) := by decide +kernel
theorem d137_442 : decode code 442 = .ok ((.iconst 0), 1) := by decide +kernel
theorem d137_443 : decode code 443 = .ok (.ireturn, 1) := by decide +kernel
theorem d137_444 : decode code 444 = .ok ((.iload 5), 2) := by decide +kernel
theorem d137_446 : decode code 446 = .ok ((.ifCond .ne 15), 3) := by decide +kernel
theorem d137_449 : decode code 449 = .ok ((.aload_n 3), 1) := by decide +kernel
theorem d137_450 : decode code 450 = .ok ((.iconst 0), 1) := by decide +kernel
theorem d137_451 : decode code 451 = .ok (.laload, 1) := by decide +kernel
theorem d137_452 : decode code 452 = .ok ((.iload 6), 2) := by decide +kernel
theorem d137_454 : decode code 454 = .ok (.i2l, 1) := by decide +kernel
theorem d137_455 : decode code 455 = .ok (.lcmp, 1) := by decide +kernel
theorem d137_456 : decode code 456 = .ok ((.ifCond .eq 5), 3) := by decide +kernel
theorem d137_459 : decode code 459 = .ok ((.iconst 0), 1) := by decide +kernel
theorem d137_460 : decode code 460 = .ok (.ireturn, 1) := by decide +kernel
theorem d137_461 : decode code 461 = .ok ((.goto 147), 3) := by decide +kernel
theorem d137_464 : decode code 464 = .ok ((.aload_n 1), 1) := by decide +kernel
theorem d137_465 : decode code 465 = .ok ((.aload_n 0), 1) := by decide +kernel
theorem d137_466 : decode code 466 = .ok ((.iload 4), 2) := by decide +kernel
theorem d137_468 : decode code 468 = .ok ((.iconst 1), 1) := by decide +kernel
theorem d137_469 : decode code 469 = .ok (.iadd, 1) := by decide +kernel
theorem d137_470 : decode code 470 = .ok (.iaload, 1) := by decide +kernel
theorem d137_471 : decode code 471 = .ok ((.ifCond .eq 7), 3) := by decide +kernel
theorem d137_474 : decode code 474 = .ok ((.iconst 1), 1) := by decide +kernel
theorem d137_475 : decode code 475 = .ok ((.goto 4), 3) := by decide +kernel
theorem d137_478 : decode code 478 = .ok ((.iconst 0), 1) := by decide +kernel
theorem d137_479 : decode code 479 = .ok ((.invokevirtual 69), 3) := by decide +kernel
theorem d137_482 : decode code 482 = .ok ((.aload_n 2), 1) := by decide +kernel
theorem d137_483 : decode code 483 = .ok ((.aload_n 0), 1) := by decide +kernel
theorem d137_484 : decode code 484 = .ok ((.iload 4), 2) := by decide +kernel
theorem d137_486 : decode code 486 = .ok ((.iconst 1), 1) := by decide +kernel
theorem d137_487 : decode code 487 = .ok (.iadd, 1) := by decide +kernel
theorem d137_488 : decode code 488 = .ok (.iaload, 1) := by decide +kernel
theorem d137_489 : decode code 489 = .ok ((.ifCond .eq 7), 3) := by decide +kernel
theorem d137_492 : decode code 492 = .ok ((.iconst 1), 1) := by decide +kernel
theorem d137_493 : decode code 493 = .ok ((.goto 4), 3) := by decide +kernel
theorem d137_496 : decode code 496 = .ok ((.iconst 0), 1) := by decide +kernel
theorem d137_497 : decode code 497 = .ok ((.invokevirtual 73), 3) := by decide +kernel
theorem d137_500 : decode code 500 = .ok ((.if_icmp .eq 108), 3) := by decide +kernel
theorem d137_503 : decode code 503 = .ok ((.iconst 0), 1) := by decide +kernel
theorem d137_504 : decode code 504 = .ok (.ireturn, 1) := by decide +kernel
theorem d137_505 : decode code 505 = .ok ((.aload_n 1), 1) := by decide +kernel
theorem d137_506 : decode code 506 = .ok ((.aload_n 0), 1) := by decide +kernel
theorem d137_507 : decode code 507 = .ok ((.iload 4), 2) := by decide +kernel
theorem d137_509 : decode code 509 = .ok ((.iconst 1), 1) := by decide +kernel
theorem d137_510 : decode code 510 = .ok (.iadd, 1) := by decide +kernel
theorem d137_511 : decode code 511 = .ok (.iaload, 1) := by decide +kernel
theorem d137_512 : decode code 512 = .ok ((.aload_n 0), 1) := by decide +kernel
theorem d137_513 : decode code 513 = .ok ((.iload 4), 2) := by decide +kernel
theorem d137_515 : decode code 515 = .ok ((.iconst 2), 1) := by decide +kernel
theorem d137_516 : decode code 516 = .ok (.iadd, 1) := by decide +kernel
theorem d137_517 : decode code 517 = .ok (.iaload, 1) := by decide +kernel
theorem d137_518 : decode code 518 = .ok ((.invokevirtual 74), 3) := by decide +kernel
theorem d137_521 : decode code 521 = .ok ((.aload_n 2), 1) := by decide +kernel
theorem d137_522 : decode code 522 = .ok ((.aload_n 0), 1) := by decide +kernel
theorem d137_523 : decode code 523 = .ok ((.iload 4), 2) := by decide +kernel
theorem d137_525 : decode code 525 = .ok ((.iconst 1), 1) := by decide +kernel
theorem d137_526 : decode code 526 = .ok (.iadd, 1) := by decide +kernel
theorem d137_527 : decode code 527 = .ok (.iaload, 1) := by decide +kernel
theorem d137_528 : decode code 528 = .ok ((.aload_n 0), 1) := by decide +kernel
theorem d137_529 : decode code 529 = .ok ((.iload 4), 2) := by decide +kernel
theorem d137_531 : decode code 531 = .ok ((.iconst 2), 1) := by decide +kernel
theorem d137_532 : decode code 532 = .ok (.iadd, 1) := by decide +kernel
theorem d137_533 : decode code 533 = .ok (.iaload, 1) := by decide +kernel
theorem d137_534 : decode code 534 = .ok ((.invokevirtual 78), 3) := by decide +kernel
theorem d137_537 : decode code 537 = .ok ((.if_icmp .eq 71), 3) := by decide +kernel
theorem d137_540 : decode code 540 = .ok ((.iconst 0), 1) := by decide +kernel
theorem d137_541 : decode code 541 = .ok (.ireturn, 1) := by decide +kernel
theorem d137_542 : decode code 542 = .ok ((.aload_n 1), 1) := by decide +kernel
theorem d137_543 : decode code 543 = .ok ((.invokevirtual 79), 3) := by decide +kernel
theorem d137_546 : decode code 546 = .ok ((.dstore 5), 2) := by decide +kernel
theorem d137_548 : decode code 548 = .ok ((.aload_n 2), 1) := by decide +kernel
theorem d137_549 : decode code 549 = .ok ((.invokevirtual 83), 3) := by decide +kernel
theorem d137_552 : decode code 552 = .ok ((.dstore 7), 2) := by decide +kernel
theorem d137_554 : decode code 554 = .ok ((.dload 5), 2) := by decide +kernel
theorem d137_556 : decode code 556 = .ok ((.dload 7), 2) := by decide +kernel
theorem d137_558 : decode code 558 = .ok ((.dcmp .l), 1) := by decide +kernel
theorem d137_559 : decode code 559 = .ok ((.ifCond .eq 21), 3) := by decide +kernel
theorem d137_562 : decode code 562 = .ok ((.dload 5), 2) := by decide +kernel
theorem d137_564 : decode code 564 = .ok ((.dload 5), 2) := by decide +kernel
theorem d137_566 : decode code 566 = .ok ((.dcmp .l), 1) := by decide +kernel
theorem d137_567 : decode code 567 = .ok ((.ifCond .eq 11), 3) := by decide +kernel
theorem d137_570 : decode code 570 = .ok ((.dload 7), 2) := by decide +kernel
theorem d137_572 : decode code 572 = .ok ((.dload 7), 2) := by decide +kernel
theorem d137_574 : decode code 574 = .ok ((.dcmp .l), 1) := by decide +kernel
theorem d137_575 : decode code 575 = .ok ((.ifCond .ne 5), 3) := by decide +kernel
theorem d137_578 : decode code 578 = .ok ((.iconst 0), 1) := by decide +kernel
theorem d137_579 : decode code 579 = .ok (.ireturn, 1) := by decide +kernel
theorem d137_580 : decode code 580 = .ok ((.goto 28), 3) := by decide +kernel
theorem d137_583 : decode code 583 = .ok ((.aload_n 1), 1) := by decide +kernel
theorem d137_584 : decode code 584 = .ok ((.aload_n 0), 1) := by decide +kernel
theorem d137_585 : decode code 585 = .ok ((.iload 4), 2) := by decide +kernel
theorem d137_587 : decode code 587 = .ok ((.iconst 1), 1) := by decide +kernel
theorem d137_588 : decode code 588 = .ok (.iadd, 1) := by decide +kernel
theorem d137_589 : decode code 589 = .ok (.iaload, 1) := by decide +kernel
theorem d137_590 : decode code 590 = .ok ((.invokevirtual 84), 3) := by decide +kernel
theorem d137_593 : decode code 593 = .ok ((.aload_n 2), 1) := by decide +kernel
theorem d137_594 : decode code 594 = .ok ((.aload_n 0), 1) := by decide +kernel
theorem d137_595 : decode code 595 = .ok ((.iload 4), 2) := by decide +kernel
theorem d137_597 : decode code 597 = .ok ((.iconst 1), 1) := by decide +kernel
theorem d137_598 : decode code 598 = .ok (.iadd, 1) := by decide +kernel
theorem d137_599 : decode code 599 = .ok (.iaload, 1) := by decide +kernel
theorem d137_600 : decode code 600 = .ok ((.invokevirtual 87), 3) := by decide +kernel
theorem d137_603 : decode code 603 = .ok ((.if_icmp .eq 5), 3) := by decide +kernel
theorem d137_606 : decode code 606 = .ok ((.iconst 0), 1) := by decide +kernel
theorem d137_607 : decode code 607 = .ok (.ireturn, 1) := by decide +kernel
theorem d137_608 : decode code 608 = .ok ((.iinc 4 6), 3) := by decide +kernel
theorem d137_611 : decode code 611 = .ok ((.goto (-588)), 3) := by decide +kernel
theorem d137_614 : decode code 614 = .ok ((.iconst 1), 1) := by decide +kernel
theorem d137_615 : decode code 615 = .ok (.ireturn, 1) := by decide +kernel
