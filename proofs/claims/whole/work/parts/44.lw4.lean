set_option maxHeartbeats 2000000 in
theorem lw_loop {p : Program} {l : Launch} {e : Env} {s : State} {m : MethodId} {below : List Frame} {meth : Method} {c : Code} {ρ : RH} {w0 : Cond} {P : Nat → Prop} {ad am : Nat → Nat} {oo b L : Nat} {xs : Nat → Int32} {Rel : Nat → CS → GS → Nat → Nat → Prop} (hfl : l.flags = pinnedFlags ++ [noTraceFlag]) (X : CX p s m c #[Value.ref b] "WordFunctionsLaw" code 9 ρ w0) (hx : p.tables.exec = Jvm.exec) (hb : c.code = code) (hr0 : meth.sig.returnType = ret) (hlk : meth.locks = false) (hL : L ≤ 3072) (hX : va_X b L xs s s.heap) (hbl : b < s.heap.size) (hT0 : TX ρ s.heap s) (hZ : rZa ρ 5 < s.heap.size ∧ rZa ρ 6 < s.heap.size) (hRel : LRel Rel) : ∀ (n k C S : Nat) (cs : CS) (ms : GS) (H : Heap) (locs : List Loc) (ls : Array Slot), 513 - k = n → 6 * k ≤ L → Rel k cs ms C S → va_S (fun q => s.heap.size ≤ q) s.heap H locs → LI ρ P ad am oo s.heap.size cs ms H → lv_has ls 9 [(4, .int (nI (6 * k))), (3, .ref oo), (2, .ref (am 0)), (1, .ref (ad 0)), (0, .ref b)] → W p l e room_1 s m #[Value.ref b] below meth c H locs (72 + C) (214664 + S) (lw_Z below #[Value.ref b] s) (F0 m 23 ls []) := by
  intro n
  induction n with
  | zero => intro k C S cs ms H locs ls hn hk; omega
  | succ n ih =>
    intro k C S cs ms H locs ls hn hk hr hS hI hl
    have hroom := hRel.room hr
    have kk : ∀ (cs' : CS) (ms' : GS) (C' S' : Nat) (H1 : Heap) (locs1 : List Loc) (ls1 : Array Slot), 6 * k + 6 ≤ L → Rel (k + 1) cs' ms' C' S' → LI ρ P ad am oo s.heap.size cs' ms' H1 → va_S (fun q => s.heap.size ≤ q) s.heap H1 locs1 → lv_has ls1 9 [(4, .int (nI (6 * k))), (3, .ref oo), (2, .ref (am 0)), (1, .ref (ad 0)), (0, .ref b)] → W p l e room_1 s m #[Value.ref b] below meth c H1 locs1 (72 + C') (214664 + S') (lw_Z below #[Value.ref b] s) (F0 m 608 ls1 []) := by
      intro cs' ms' C' S' H1 locs1 ls1 hkL hr1 hI1 hS1 hl
      refine lv_iinc (pc := 608) (v := (nI (6 * (k + 1)))) (lv' := [(4, .int (nI (6 * (k + 1)))), (3, .ref oo), (2, .ref (am 0)), (1, .ref (ad 0)), (0, .ref b)]) hx hb d137_608 hl (k := 0) rfl ((by rw [show 6 * (k + 1) = 6 * k + 6 by omega]; exact nI_add (6 * k) 6)) (by decide) rfl (fun ls hl => ?_)
      refine lv_goto (pc := 611) (tgt := 23) hx hb d137_611 (by decide) ?_
      exact ih (k + 1) C' S' cs' ms' H1 locs1 _ (by omega) (by omega) hr1 hS1 hI1 (lv_sub hl [0, 1, 2, 3, 4] rfl)
    refine lv_iload (pc := 23) hx hb d137_23 (lv_at hl 0 rfl) ?_
    refine lv_aload_n (pc := 25) hx hb d137_25 rfl (lv_at hl 4 rfl) ?_
    refine va_slen (pc := 26) X.1.1 X.1.2.1 hX hbl (Nat.not_le.mpr hbl) hS d137_26 ?_
    refine lv_bipush (pc := 27) (v := 6) hx hb d137_27 (by decide) ?_
    refine lv_isub (pc := 29) hx hb d137_29 ?_
    refine lv_icmp_gt (pc := 30) (tgt := 614) hx hb d137_30 (by decide) (fun c30 => ?_) (fun c30 => ?_)
    · skip
      refine lv_iconst (pc := 614) (v := 1) hx hb d137_614 (by decide) ?_
      refine va_forget hS.2.2 ?_
      refine W.widen (show 72 + C ≤ 601024 by omega) (show 214664 + S ≤ 7293034 by omega) ?_
      exact lw_ret (pc := 615) hx hb hr0 hlk d137_615
    · skip
      have hkL : 6 * k + 6 ≤ L := Classical.byContradiction fun z => c30 ((nI_sub6 (by omega) (by omega)).mpr z)
      refine lv_aload_n (pc := 33) hx hb d137_33 rfl (lv_at hl 4 rfl) ?_
      refine lv_iload (pc := 34) hx hb d137_34 (lv_at hl 0 rfl) ?_
      refine va_sld (pc := 36) X.1.1 X.1.2.1 hX hbl (Nat.not_le.mpr hbl) hS (nI_in (show 6 * k + 0 < L by omega) (by omega)) d137_36 ?_
      refine lv_bipush (pc := 37) (v := 15) hx hb d137_37 (by decide) ?_
      refine lv_iand (pc := 39) hx hb d137_39 ?_
      by_cases c40_0 : ((xs (nI (6 * k)).toNatClampNeg) &&& 15) = 0
      · refine lv_tableIn (pc := 40) (off := 64) (tgt := 104) hx hb d137_40 (by rw [c40_0]; decide) (by rw [c40_0]; decide) (by rw [c40_0]; rfl) (by decide) ?_
        exact lw_case0 hfl X hx hb hL hkL hX hbl hT0 hZ hRel hr hS hI hl (fun a1 a2 a3 a4 a5 a6 a7 h1 h2 h3 h4 => kk a1 a2 a3 a4 a5 a6 a7 hkL h1 h2 h3 h4)
      by_cases c40_1 : ((xs (nI (6 * k)).toNatClampNeg) &&& 15) = 1
      · refine lv_tableIn (pc := 40) (off := 137) (tgt := 177) hx hb d137_40 (by rw [c40_1]; decide) (by rw [c40_1]; decide) (by rw [c40_1]; rfl) (by decide) ?_
        exact lw_case1 hfl X hx hb hL hkL hX hbl hT0 hZ hRel hr hS hI hl (fun a1 a2 a3 a4 a5 a6 a7 h1 h2 h3 h4 => kk a1 a2 a3 a4 a5 a6 a7 hkL h1 h2 h3 h4)
      by_cases c40_2 : ((xs (nI (6 * k)).toNatClampNeg) &&& 15) = 2
      · refine lv_tableIn (pc := 40) (off := 162) (tgt := 202) hx hb d137_40 (by rw [c40_2]; decide) (by rw [c40_2]; decide) (by rw [c40_2]; rfl) (by decide) ?_
        exact lw_case2 hfl X hx hb hL hkL hX hbl hT0 hZ hRel hr hS hI hl (fun a1 a2 a3 a4 a5 a6 a7 h1 h2 h3 h4 => kk a1 a2 a3 a4 a5 a6 a7 hkL h1 h2 h3 h4)
      by_cases c40_3 : ((xs (nI (6 * k)).toNatClampNeg) &&& 15) = 3
      · refine lv_tableIn (pc := 40) (off := 199) (tgt := 239) hx hb d137_40 (by rw [c40_3]; decide) (by rw [c40_3]; decide) (by rw [c40_3]; rfl) (by decide) ?_
        exact lw_case3 hfl X hx hb hL hkL hX hbl hT0 hZ hRel hr hS hI hl (fun a1 a2 a3 a4 a5 a6 a7 h1 h2 h3 h4 => kk a1 a2 a3 a4 a5 a6 a7 hkL h1 h2 h3 h4)
      by_cases c40_4 : ((xs (nI (6 * k)).toNatClampNeg) &&& 15) = 4
      · refine lv_tableIn (pc := 40) (off := 247) (tgt := 287) hx hb d137_40 (by rw [c40_4]; decide) (by rw [c40_4]; decide) (by rw [c40_4]; rfl) (by decide) ?_
        exact lw_case4 hfl X hx hb hL hkL hX hbl hT0 hZ hRel hr hS hI hl (fun a1 a2 a3 a4 a5 a6 a7 h1 h2 h3 h4 => kk a1 a2 a3 a4 a5 a6 a7 hkL h1 h2 h3 h4)
      by_cases c40_5 : ((xs (nI (6 * k)).toNatClampNeg) &&& 15) = 5
      · refine lv_tableIn (pc := 40) (off := 284) (tgt := 324) hx hb d137_40 (by rw [c40_5]; decide) (by rw [c40_5]; decide) (by rw [c40_5]; rfl) (by decide) ?_
        exact lw_case5 hfl X hx hb hL hkL hX hbl hT0 hZ hRel hr hS hI hl (fun a1 a2 a3 a4 a5 a6 a7 h1 h2 h3 h4 => kk a1 a2 a3 a4 a5 a6 a7 hkL h1 h2 h3 h4)
      by_cases c40_6 : ((xs (nI (6 * k)).toNatClampNeg) &&& 15) = 6
      · refine lv_tableIn (pc := 40) (off := 343) (tgt := 383) hx hb d137_40 (by rw [c40_6]; decide) (by rw [c40_6]; decide) (by rw [c40_6]; rfl) (by decide) ?_
        exact lw_case6 hfl X hx hb hL hkL hX hbl hT0 hZ hRel hr hS hI hl (fun a1 a2 a3 a4 a5 a6 a7 h1 h2 h3 h4 => kk a1 a2 a3 a4 a5 a6 a7 hkL h1 h2 h3 h4)
      by_cases c40_7 : ((xs (nI (6 * k)).toNatClampNeg) &&& 15) = 7
      · refine lv_tableIn (pc := 40) (off := 368) (tgt := 408) hx hb d137_40 (by rw [c40_7]; decide) (by rw [c40_7]; decide) (by rw [c40_7]; rfl) (by decide) ?_
        exact lw_case7 hfl X hx hb hL hkL hX hbl hT0 hZ hRel hr hS hI hl (fun a1 a2 a3 a4 a5 a6 a7 h1 h2 h3 h4 => kk a1 a2 a3 a4 a5 a6 a7 hkL h1 h2 h3 h4)
      by_cases c40_8 : ((xs (nI (6 * k)).toNatClampNeg) &&& 15) = 8
      · refine lv_tableIn (pc := 40) (off := 424) (tgt := 464) hx hb d137_40 (by rw [c40_8]; decide) (by rw [c40_8]; decide) (by rw [c40_8]; rfl) (by decide) ?_
        exact lw_case8 hfl X hx hb hL hkL hX hbl hT0 hZ hRel hr hS hI hl (fun a1 a2 a3 a4 a5 a6 a7 h1 h2 h3 h4 => kk a1 a2 a3 a4 a5 a6 a7 hkL h1 h2 h3 h4)
      by_cases c40_9 : ((xs (nI (6 * k)).toNatClampNeg) &&& 15) = 9
      · refine lv_tableIn (pc := 40) (off := 465) (tgt := 505) hx hb d137_40 (by rw [c40_9]; decide) (by rw [c40_9]; decide) (by rw [c40_9]; rfl) (by decide) ?_
        exact lw_case9 hfl X hx hb hL hkL hX hbl hT0 hZ hRel hr hS hI hl (fun a1 a2 a3 a4 a5 a6 a7 h1 h2 h3 h4 => kk a1 a2 a3 a4 a5 a6 a7 hkL h1 h2 h3 h4)
      by_cases c40_10 : ((xs (nI (6 * k)).toNatClampNeg) &&& 15) = 10
      · refine lv_tableIn (pc := 40) (off := 502) (tgt := 542) hx hb d137_40 (by rw [c40_10]; decide) (by rw [c40_10]; decide) (by rw [c40_10]; rfl) (by decide) ?_
        exact lw_case10 hfl X hx hb hL hkL hX hbl hT0 hZ hRel hr hS hI hl (fun a1 a2 a3 a4 a5 a6 a7 h1 h2 h3 h4 => kk a1 a2 a3 a4 a5 a6 a7 hkL h1 h2 h3 h4)
      by_cases c40_11 : ((xs (nI (6 * k)).toNatClampNeg) &&& 15) = 11
      · refine lv_tableIn (pc := 40) (off := 543) (tgt := 583) hx hb d137_40 (by rw [c40_11]; decide) (by rw [c40_11]; decide) (by rw [c40_11]; rfl) (by decide) ?_
        exact lw_case11 hfl X hx hb hL hkL hX hbl hT0 hZ hRel hr hS hI hl (fun a1 a2 a3 a4 a5 a6 a7 h1 h2 h3 h4 => kk a1 a2 a3 a4 a5 a6 a7 hkL h1 h2 h3 h4)
      refine lv_tableOut (pc := 40) (tgt := 608) hx hb d137_40 (sw_out 12 (by decide) (by
        intro i hi
        match i, hi with
        | 0, _ => exact fun z => c40_0 (Int32.toInt_inj.mp (by rw [z]; decide))
        | 1, _ => exact fun z => c40_1 (Int32.toInt_inj.mp (by rw [z]; decide))
        | 2, _ => exact fun z => c40_2 (Int32.toInt_inj.mp (by rw [z]; decide))
        | 3, _ => exact fun z => c40_3 (Int32.toInt_inj.mp (by rw [z]; decide))
        | 4, _ => exact fun z => c40_4 (Int32.toInt_inj.mp (by rw [z]; decide))
        | 5, _ => exact fun z => c40_5 (Int32.toInt_inj.mp (by rw [z]; decide))
        | 6, _ => exact fun z => c40_6 (Int32.toInt_inj.mp (by rw [z]; decide))
        | 7, _ => exact fun z => c40_7 (Int32.toInt_inj.mp (by rw [z]; decide))
        | 8, _ => exact fun z => c40_8 (Int32.toInt_inj.mp (by rw [z]; decide))
        | 9, _ => exact fun z => c40_9 (Int32.toInt_inj.mp (by rw [z]; decide))
        | 10, _ => exact fun z => c40_10 (Int32.toInt_inj.mp (by rw [z]; decide))
        | 11, _ => exact fun z => c40_11 (Int32.toInt_inj.mp (by rw [z]; decide))
        | i + 12, q => exact absurd q (by omega))) (by decide) ?_
      exact kk _ _ _ _ _ _ _ hkL (hRel.skip hr (by omega)) hI hS hl
