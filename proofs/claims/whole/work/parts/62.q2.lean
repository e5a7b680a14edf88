theorem ww_true {m : GS} (h0 : Txt 27 13 [] m) : Tr (f_mo_writeWord m (1414681925 : Int64)) (fun r => Txt 27 13 [84, 82, 85, 69] r ∧ Ch [27] [13] m r) := by
  show Tr (mo_writeWord_3 (19999999 + 1) m (1414681925 : Int64) 56) _
  refine Tr_jbf (by decide) (Tr_jbt (by decide) (Tr_jn ?_))
  show Tr (mo_writeWord_3 (19999998 + 1) m (1414681925 : Int64) (48)) _
  refine Tr_jbf (by decide) (Tr_jbt (by decide) (Tr_jn ?_))
  show Tr (mo_writeWord_3 (19999997 + 1) m (1414681925 : Int64) (40)) _
  refine Tr_jbf (by decide) (Tr_jbt (by decide) (Tr_jn ?_))
  show Tr (mo_writeWord_3 (19999996 + 1) m (1414681925 : Int64) (32)) _
  refine Tr_jbf (by decide) (Tr_jbt (by decide) (Tr_jn ?_))
  show Tr (mo_writeWord_3 (19999995 + 1) m (1414681925 : Int64) (24)) _
  refine Tr_jbf (by decide) (Tr_jbf (by decide) ?_)
  refine Tr_jc (write_m (c := 84) h0 (by simp)) (fun m1 ⟨a1, b1⟩ => Tr_jn ?_)
  show Tr (mo_writeWord_3 (19999994 + 1) m1 (1414681925 : Int64) (16)) _
  refine Tr_jbf (by decide) (Tr_jbf (by decide) ?_)
  refine Tr_jc (write_m (c := 82) a1 (by simp)) (fun m2 ⟨a2, b2⟩ => Tr_jn ?_)
  have b2 := Ch_trans b1 b2 (fun _ z => z) (fun _ z => z)
  show Tr (mo_writeWord_3 (19999993 + 1) m2 (1414681925 : Int64) (8)) _
  refine Tr_jbf (by decide) (Tr_jbf (by decide) ?_)
  refine Tr_jc (write_m (c := 85) a2 (by simp)) (fun m3 ⟨a3, b3⟩ => Tr_jn ?_)
  have b3 := Ch_trans b2 b3 (fun _ z => z) (fun _ z => z)
  show Tr (mo_writeWord_3 (19999992 + 1) m3 (1414681925 : Int64) (0)) _
  refine Tr_jbf (by decide) (Tr_jbf (by decide) ?_)
  refine Tr_jc (write_m (c := 69) a3 (by simp)) (fun m4 ⟨a4, b4⟩ => Tr_jn ?_)
  have b4 := Ch_trans b3 b4 (fun _ z => z) (fun _ z => z)
  show Tr (mo_writeWord_3 (19999991 + 1) m4 (1414681925 : Int64) (-8)) _
  exact Tr_jbt (by decide) (Tr_some ⟨a4, b4⟩)
theorem ww_false {m : GS} (h0 : Txt 27 13 [] m) : Tr (f_mo_writeWord m (301743231813 : Int64)) (fun r => Txt 27 13 [70, 65, 76, 83, 69] r ∧ Ch [27] [13] m r) := by
  show Tr (mo_writeWord_3 (19999999 + 1) m (301743231813 : Int64) 56) _
  refine Tr_jbf (by decide) (Tr_jbt (by decide) (Tr_jn ?_))
  show Tr (mo_writeWord_3 (19999998 + 1) m (301743231813 : Int64) (48)) _
  refine Tr_jbf (by decide) (Tr_jbt (by decide) (Tr_jn ?_))
  show Tr (mo_writeWord_3 (19999997 + 1) m (301743231813 : Int64) (40)) _
  refine Tr_jbf (by decide) (Tr_jbt (by decide) (Tr_jn ?_))
  show Tr (mo_writeWord_3 (19999996 + 1) m (301743231813 : Int64) (32)) _
  refine Tr_jbf (by decide) (Tr_jbf (by decide) ?_)
  refine Tr_jc (write_m (c := 70) h0 (by simp)) (fun m1 ⟨a1, b1⟩ => Tr_jn ?_)
  show Tr (mo_writeWord_3 (19999995 + 1) m1 (301743231813 : Int64) (24)) _
  refine Tr_jbf (by decide) (Tr_jbf (by decide) ?_)
  refine Tr_jc (write_m (c := 65) a1 (by simp)) (fun m2 ⟨a2, b2⟩ => Tr_jn ?_)
  have b2 := Ch_trans b1 b2 (fun _ z => z) (fun _ z => z)
  show Tr (mo_writeWord_3 (19999994 + 1) m2 (301743231813 : Int64) (16)) _
  refine Tr_jbf (by decide) (Tr_jbf (by decide) ?_)
  refine Tr_jc (write_m (c := 76) a2 (by simp)) (fun m3 ⟨a3, b3⟩ => Tr_jn ?_)
  have b3 := Ch_trans b2 b3 (fun _ z => z) (fun _ z => z)
  show Tr (mo_writeWord_3 (19999993 + 1) m3 (301743231813 : Int64) (8)) _
  refine Tr_jbf (by decide) (Tr_jbf (by decide) ?_)
  refine Tr_jc (write_m (c := 83) a3 (by simp)) (fun m4 ⟨a4, b4⟩ => Tr_jn ?_)
  have b4 := Ch_trans b3 b4 (fun _ z => z) (fun _ z => z)
  show Tr (mo_writeWord_3 (19999992 + 1) m4 (301743231813 : Int64) (0)) _
  refine Tr_jbf (by decide) (Tr_jbf (by decide) ?_)
  refine Tr_jc (write_m (c := 69) a4 (by simp)) (fun m5 ⟨a5, b5⟩ => Tr_jn ?_)
  have b5 := Ch_trans b4 b5 (fun _ z => z) (fun _ z => z)
  show Tr (mo_writeWord_3 (19999991 + 1) m5 (301743231813 : Int64) (-8)) _
  exact Tr_jbt (by decide) (Tr_some ⟨a5, b5⟩)
theorem DV_1000 : DV 4652007308841189376 (1000 * UU) := by
  have h := DV_k (k := 1000) (by decide)
  have e : FP.i2d (nI 1000) = 4652007308841189376 := by decide +kernel
  rw [e] at h
  exact h
theorem DV_half : ∃ z, DV 4602678819172646912 z ∧ 2 * z = UU := ⟨_, ⟨DFin_c (by decide +kernel), rfl⟩, by unfold UU; decide +kernel⟩
theorem DV_e12 : ∃ z, DV 4786511204640096256 z ∧ 4294967296 * UU ≤ z := ⟨_, ⟨DFin_c (by decide +kernel), rfl⟩, by unfold UU; decide +kernel⟩
theorem one64_two : FP.Core.one64 = 2 * 2 ^ 1073 := by
  show 2 ^ 1074 = _
  rw [Nat.pow_succ, Nat.mul_comm]
theorem UU_abs (n : Nat) : ((n : Int) * UU).natAbs = n * 2 ^ 1074 := by
  rw [Int.natAbs_mul]
  rfl
/-- a number's size, in thousandths -/
theorem milli {a : UInt64} {z : Int} {X : Nat} (ha : DV a z) (hz : 8 * z = (X : Int) * UU) (hX : X ≤ 2147483648) : DV (FP.dmul a 4652007308841189376) ((125 * X : Nat) * UU) ∧ (∃ y, DV (FP.dadd (FP.dmul a 4652007308841189376) 4602678819172646912) y) ∧ FP.d2l (FP.dadd (FP.dmul a 4652007308841189376) 4602678819172646912) = lN (125 * X) := by
  have hU := UU_pos
  have h1 : DV (FP.dmul a 4652007308841189376) ((125 * X : Nat) * UU) := by
    refine DV_mul ha DV_1000 ?_ (c := 125 * X) (q := 0) (by omega) (by decide) (by decide) (UU_abs _)
    have e1 : z * (1000 * UU) = 125 * (8 * z) * UU := by
      rw [← Int.mul_assoc, Int.mul_comm z 1000]
      have : 125 * (8 * z) = 1000 * z := by omega
      rw [this]
    rw [e1, hz]
    have e2 : ((125 * X : Nat) : Int) = 125 * (X : Int) := by omega
    rw [e2, ← Int.mul_assoc]
  obtain ⟨zh, h2, h3⟩ := DV_half
  have hzh : zh = ((2 ^ 1073 : Nat) : Int) := by
    have e : UU = 2 * ((2 ^ 1073 : Nat) : Int) := by
      show (FP.Core.one64 : Int) = _
      rw [one64_two]
      exact Int.natCast_mul _ _
    omega
  have h4 : DV (FP.dadd (FP.dmul a 4652007308841189376) 4602678819172646912) ((125 * X : Nat) * UU + zh) := by
    refine DV_add h1 h2 (c := 2 * (125 * X) + 1) (q := -1) (by omega) (by decide) (by decide) ?_
    have e : ((125 * X : Nat) : Int) * UU + zh = (((2 * (125 * X) + 1) * 2 ^ 1073 : Nat) : Int) := by
      have e1 : ((125 * X : Nat) : Int) * UU = (((125 * X) * (2 * 2 ^ 1073) : Nat) : Int) := by
        rw [← one64_two]
        exact (Int.natCast_mul _ _).symm
      have e3 : (125 * X) * (2 * 2 ^ 1073) = 2 * (125 * X) * 2 ^ 1073 := by
        rw [← Nat.mul_assoc, Nat.mul_comm (125 * X) 2]
      rw [e1, e3, hzh, Nat.add_mul, Nat.one_mul]
      exact (Int.natCast_add _ _).symm
    rw [e]
    rfl
  refine ⟨h1, ⟨_, h4⟩, ?_⟩
  have ht : Int.tdiv ((125 * X : Nat) * UU + zh) UU = (125 * X : Nat) := by
    have hn : (0 : Int) ≤ (125 * X : Nat) * UU + zh := by
      have := Int.mul_nonneg (show (0 : Int) ≤ ((125 * X : Nat) : Int) by omega) (show (0 : Int) ≤ UU by omega)
      omega
    rw [Int.tdiv_eq_ediv_of_nonneg hn, Int.add_comm, Int.add_mul_ediv_right _ _ (by omega), Int.ediv_eq_zero_of_lt (by omega) (by omega), Int.zero_add]
  have h5 := d2l_DV h4 (by rw [ht]; omega) (by rw [ht]; omega)
  rw [ht] at h5
  exact lN_inj h5 (by omega)
theorem digs_le : ∀ k v : Nat, v < 10 ^ (k + 1) → (digs v).length ≤ k + 1
  | 0, v, hv => by rw [digs_lt (by simpa using hv)]; exact Nat.le_refl _
  | k + 1, v, hv => by
    by_cases h : v < 10
    · rw [digs_lt h]; show 1 ≤ _; omega
    · rw [digs_ge h, List.length_append]
      have := digs_le k (v / 10) ((Nat.div_lt_iff_lt_mul (by decide)).mpr (by rw [← Nat.pow_succ]; exact hv))
      show _ + 1 ≤ _
      omega
theorem frac_ok {r : Nat} (hr : r < 1000) : (frac r).length ≤ 4 ∧ ∀ c ∈ frac r, c < 256 := by
  unfold frac
  split
  · exact ⟨by decide, fun c h => by cases h⟩
  · split
    · refine ⟨by simp, fun c h => ?_⟩
      simp at h
      omega
    · split
      · refine ⟨by simp, fun c h => ?_⟩
        simp at h
        omega
      · refine ⟨by simp, fun c h => ?_⟩
        simp at h
        omega
theorem wtxt_ok {neg : Bool} {N : Nat} (hN : N < 1000000000000) : okT (wtxt neg N) := by
  obtain ⟨f1, f2⟩ := frac_ok (r := N % 1000) (by omega)
  have hd := digs_le 8 (N / 1000) (by show N / 1000 < 1000000000; omega)
  refine ⟨?_, fun c hc => ?_⟩
  · unfold wtxt
    rw [List.length_append, List.length_append]
    have : (if neg then ([45] : TT) else []).length ≤ 1 := by cases neg <;> decide
    omega
  · unfold wtxt at hc
    rcases List.mem_append.mp hc with h | h
    · cases neg
      · cases h
      · simp at h
        omega
    · rcases List.mem_append.mp h with h | h
      · exact digs_256 _ c h
      · exact f2 c h
/-- a value's text: the class's, and the reference's of the value taken -/
theorem textOf_ok {n u h : Nat} {cs0 cs : CS} {ms0 ms : GS} {v : VV} (I : CI n u h cs0 ms0 cs ms) (hv : okV v) (hT : Taken v ms) : Sm 4 40 (f_ar_textOf cs v) (f_mo_textTaken ms) (fun a m => CI n u h cs0 ms0 a.2 m ∧ okT a.1 ∧ Txt 27 13 a.1 m ∧ Ch [22, 27] [13] ms m) := by
  obtain ⟨t1, t2, t3⟩ := hT
  rcases hv with rfl | ⟨x, rfl⟩ | ⟨t, rfl, ht⟩ | htr | ⟨e, e1, e8, rfl⟩
  · have n4 : ¬ ms.1 0 20 = 4 := by rw [t1]; decide
    have n3 : ¬ ms.1 0 20 = 3 := by rw [t1]; decide
    have n1 : ¬ ms.1 0 20 = 1 := by rw [t1]; decide
    exact Sm_Lbf (by decide) (Sm_Lbf (by decide) (Sm_Lbf (by decide) (Sm_Lbf (by decide) (Sm_bf n4 (Sm_bf n3 (Sm_bf n1 (Sm_end ⟨I, okT_nil, t3, Ch_refl⟩)))))))
  · have n4 : ¬ ms.1 0 20 = 4 := by rw [t1]; exact (show ¬ (1 : Int32) = 4 by decide)
    have n3 : ¬ ms.1 0 20 = 3 := by rw [t1]; exact (show ¬ (1 : Int32) = 3 by decide)
    obtain ⟨z, hz, h8⟩ := DV_x8 x
    generalize hvv : FP.dmul (FP.i2d x) d125 = v at *
    have t2 : ms.2.1 0 21 = v := t2
    have hx1 := x.toInt_lt
    have hx2 := x.le_toInt
    obtain ⟨p1, p2, p3, p4⟩ := x8_pos h8
    obtain ⟨B, hB, hB2⟩ := DV_e12
    have h0 : DV FP.dconst0 0 := DV_0
    refine Sm_Lbt rfl (Sm_bf n4 (Sm_bf n3 (Sm_bt t1 ?_)))
    -- the end, of the size w
    have go : ∀ (w : UInt64) (zw : Int) (X : Nat) (neg : Bool), DV w zw → 8 * zw = (X : Int) * UU → X ≤ 2147483648 → zw < 4294967296 * UU → (neg = true ↔ ¬ 0 ≤ z) → (neg = true → 0 < X) → f_mo_absolute (ms.2.1 0 21) = some w → Sm 4 40 (jd (ar_written_12 cs v w) (fun q1 => some ((q1.1, q1.2), 0, 0))) (jc (f_mo_absolute (ms.2.1 0 21)) (fun q10 => jb ((Op.cmpValue (FP.dcmp q10 (4786511204640096256 : UInt64)) .l) < 0) (jc (f_mo_absolute (ms.2.1 0 21)) (fun q11 => jg (nn (FP.dmul q11 (4652007308841189376 : UInt64))) (jg (nn (FP.dadd (FP.dmul q11 (4652007308841189376 : UInt64)) (4602678819172646912 : UInt64))) (jn (FP.d2l (FP.dadd (FP.dmul q11 (4652007308841189376 : UInt64)) (4602678819172646912 : UInt64))) (fun v14 => jb (0 ≤ (Op.cmpValue (FP.dcmp (ms.2.1 0 21) FP.dconst0) .g)) (mo_textTaken_114 ms v14) (jb ((lg_cmp v14 0) ≤ 0) (mo_textTaken_114 ms v14) (jc (f_mo_write ms 45) (fun q15 => mo_textTaken_114 q15 v14)))))))) (jc (f_mo_fail ms 3) (fun q16 => some q16)))) (fun a m => CI n u h cs0 ms0 a.2 m ∧ okT a.1 ∧ Txt 27 13 a.1 m ∧ Ch [22, 27] [13] ms m) := by
      intro w zw X neg hw hw8 hX hlt hneg hpos habs
      obtain ⟨m1, ⟨y, m2⟩, m3⟩ := milli hw hw8 hX
      have hN : 125 * X < 1000000000000 := by omega
      have hclt := (cv_lt (op := .l) hw hB).mpr (by omega)
      have hc : TA 4 40 (ar_written_12 cs v w) (fun a => a = (wtxt neg (125 * X), cs)) := by
        refine TA_jbt hclt (TA_jg (nn_DV m1) (TA_jg (nn_DV m2) (TA_jn ?_)))
        rw [m3]
        cases neg
        · refine TA_jbt ((cv_ge hz h0).mpr (Int.not_lt.mp (fun q => by
            have := hneg.mpr (by omega)
            cases this))) ?_
          exact w64 (neg := false) hN
        · refine TA_jbf (fun q => (hneg.mp rfl) ((cv_ge hz h0).mp q)) (TA_jbf (fun q => ?_) ?_)
          · have := (lc_eq (a := 125 * X) (b := 0) (by omega) (by decide)).mp q
            have := hpos rfl
            omega
          · exact w64 (neg := true) hN
      refine Sm_LdT hc (fun b hb => ?_)
      subst hb
      refine Sm_c habs (Sm_bt hclt (Sm_c habs (Sm_g (nn_DV m1) (Sm_g (nn_DV m2) (Sm_n ?_)))))
      rw [m3, t2]
      cases neg
      · refine Sm_bt ((cv_ge hz h0).mpr (Int.not_lt.mp (fun q => by
          have := hneg.mpr (by omega)
          cases this))) ?_
        refine TA_some (Nat.zero_le _) (Nat.zero_le _) (Tr_mono (tt114 hN t3 (Nat.zero_le _)) (fun m ⟨k1, k2⟩ => ⟨CI_ref I k2 (by decide) (by decide) (by decide), wtxt_ok hN, k1, Ch_mono k2 (by decide) (by decide)⟩))
      · refine Sm_bf (fun q => (hneg.mp rfl) ((cv_ge hz h0).mp q)) (Sm_bf (fun q => ?_) ?_)
        · have := (lc_le (a := 125 * X) (b := 0) (by omega) (by decide)).mp q
          have := hpos rfl
          omega
        · refine Sm_cT (write_m (t := []) (c := 45) t3 (by decide)) (fun m1 ⟨a1, b1⟩ => ?_)
          refine TA_some (Nat.zero_le _) (Nat.zero_le _) (Tr_mono (tt114 (t := [] ++ [45]) hN a1 (by decide)) (fun m ⟨k1, k2⟩ => ?_))
          have k2 := Ch_trans b1 k2 (fun _ z => z) (fun _ z => z)
          exact ⟨CI_ref I k2 (by decide) (by decide) (by decide), wtxt_ok hN, k1, Ch_mono k2 (by decide) (by decide)⟩
    unfold f_ar_written
    by_cases hn : 0 ≤ x.toInt
    · have ec : (0 : Int32) ≤ Op.cmpValue (FP.dcmp v FP.dconst0) .g := (cv_ge hz h0).mpr (p1.mpr hn)
      show Sm 4 40 (jd (jb (0 ≤ Op.cmpValue (FP.dcmp v FP.dconst0) .g) _ _) _) _ _
      unfold jb
      rw [if_pos ec]
      refine go v z x.toInt.natAbs false hz (by rw [h8]; congr 1; omega) (by omega) p3 ⟨fun q => (by cases q), fun q => absurd (p1.mpr hn) q⟩ (fun q => (by cases q)) ?_
      rw [t2]
      exact e_bt ec rfl
    · have ec : ¬ (0 : Int32) ≤ Op.cmpValue (FP.dcmp v FP.dconst0) .g := fun q => hn (p1.mp ((cv_ge hz h0).mp q))
      show Sm 4 40 (jd (jb (0 ≤ Op.cmpValue (FP.dcmp v FP.dconst0) .g) _ _) _) _ _
      unfold jb
      rw [if_neg ec]
      refine go (FP.dneg v) (-z) x.toInt.natAbs true (DV_neg hz) ?_ (by omega) (by omega) ⟨fun _ q => hn (p1.mp q), fun _ => rfl⟩ (fun _ => by omega) ?_
      · have e3 : ((x.toInt.natAbs : Nat) : Int) = -x.toInt := by omega
        rw [e3, Int.neg_mul, ← h8]
        omega
      · rw [t2]
        exact e_bf ec rfl
  · have n4 : ¬ ms.1 0 20 = 4 := by rw [t1]; exact (show ¬ (2 : Int32) = 4 by decide)
    have n3 : ¬ ms.1 0 20 = 3 := by rw [t1]; exact (show ¬ (2 : Int32) = 3 by decide)
    have n1 : ¬ ms.1 0 20 = 1 := by rw [t1]; exact (show ¬ (2 : Int32) = 1 by decide)
    exact Sm_Lbf (show ¬ (2 : Int32) = 1 by decide) (Sm_Lbt rfl (Sm_bf n4 (Sm_bf n3 (Sm_bf n1 (Sm_end ⟨I, ht, t3, Ch_refl⟩)))))
  · have v1 : v.1 = 3 := by rcases htr with rfl | rfl <;> rfl
    have n4 : ¬ ms.1 0 20 = 4 := by rw [t1, v1]; decide
    have n3 : ms.1 0 20 = 3 := by rw [t1, v1]
    have n1 : ∀ {m : GS}, Ch [27] [13] ms m → ¬ m.1 0 20 = 1 := fun hm => by rw [hm.1 20 (by decide), t1, v1]; decide
    refine Sm_Lbf (by rw [v1]; decide) (Sm_Lbf (by rw [v1]; decide) (Sm_Lbt v1 (Sm_bf n4 (Sm_bt n3 ?_))))
    rcases htr with rfl | rfl
    · have e0 : Op.cmpValue (FP.dcmp 0 FP.dconst0) .l = 0 := by decide +kernel
      refine Sm_Lbt e0 (Sm_bt (by rw [t2]; exact e0) (Sm_cT (ww_false t3) (fun m ⟨a, b⟩ => Sm_bf (n1 b) ?_)))
      exact Sm_end ⟨CI_ref I b (by decide) (by decide) (by decide), (show okT TX8 from ⟨by decide, by decide⟩), a, Ch_mono b (by decide) (by decide)⟩
    · have e0 : ¬ Op.cmpValue (FP.dcmp 4607182418800017408 FP.dconst0) .l = 0 := by decide +kernel
      refine Sm_Lbf e0 (Sm_bf (by rw [t2]; exact e0) (Sm_cT (ww_true t3) (fun m ⟨a, b⟩ => Sm_bf (n1 b) ?_)))
      exact Sm_end ⟨CI_ref I b (by decide) (by decide) (by decide), (show okT TX7 from ⟨by decide, by decide⟩), a, Ch_mono b (by decide) (by decide)⟩
  · have n4 : ms.1 0 20 = 4 := t1
    refine Sm_Lbf (show ¬ (4 : Int32) = 1 by decide) (Sm_Lbf (show ¬ (4 : Int32) = 2 by decide) (Sm_Lbf (show ¬ (4 : Int32) = 3 by decide) (Sm_Lbt rfl (Sm_bt n4 ?_))))
    have ed : FP.d2i (FP.i2d (nI e)) = nI e := FP.Core.d2i_i2d _
    rw [t2]
    show Sm 4 40 (jc (f_ar_fail cs (FP.d2i (FP.i2d (nI e)))) _) (jc (f_mo_fail ms (FP.d2i (FP.i2d (nI e)))) _) _
    rw [ed]
    refine Sm_j0 (fail_ok I e1 e8) (fun a m ⟨c1, c2, c3⟩ => ?_)
    have n3 : ¬ m.1 0 20 = 3 := by rw [c3.1 20 (by decide), t1]; exact (show ¬ (4 : Int32) = 3 by decide)
    have n1 : ¬ m.1 0 20 = 1 := by rw [c3.1 20 (by decide), t1]; exact (show ¬ (4 : Int32) = 1 by decide)
    exact Sm_bf n3 (Sm_bf n1 (Sm_end ⟨c1, okT_nil, Txt_ch t3 c3 (by decide) (by decide) (by decide), Ch_mono c3 (by decide) (by decide)⟩))
/-- an argument's text, of both -/
theorem t_text {n u h i : Nat} {cs0 cs : CS} {ms0 ms : GS} (I : CI n u h cs0 ms0 cs ms) (hi : i < n) : Sm 4 40 (f_ar_text cs (nI i)) (f_mo_textOf ms (nI i)) (fun a m => CI n u h cs0 ms0 a.2 m ∧ okT a.1 ∧ Txt 27 13 a.1 m ∧ Ch [20, 21, 22, 27] [13] ms m) := by
  refine Sm_Lc (nth_c I.1 hi (k := 0) (by decide)) (Sm_cT (takeOf_m I hi) (fun m ⟨m1, m2, m3⟩ => ?_))
  refine Sm_jj (textOf_ok m1 (av_ok I.1 hi 0) m2) (fun a b ⟨b1, b2, b3, b4⟩ => Sm_end ⟨b1, b2, b3, Ch_trans (Ch_mono m3 (by decide) (by decide)) b4 (by decide) (by decide)⟩)
