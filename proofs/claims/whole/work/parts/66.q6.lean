/-! ### numbers of arguments -/
def numC (cs : CS) (v : VV) : Option (UInt64 × CS) := jb (v.1 = 4) (jc (f_ar_fail cs (FP.d2i v.2.1)) (fun q5 => some (FP.dconst0, q5))) (jb (v.1 = 2) (jc (f_ar_said cs v.2.2) (fun q4 => some (q4.1, q4.2))) (some (v.2.1, cs)))
/-- taken, and perhaps said already -/
def TakenN (v : VV) (m : GS) : Prop := m.1 0 20 = v.1 ∧ (¬ v.1 = 2 → m.2.1 0 21 = v.2.1) ∧ Txt 27 13 v.2.2 m
theorem Taken_N {v : VV} {m : GS} (h : Taken v m) : TakenN v m := ⟨h.1, fun _ => h.2.1, h.2.2⟩
theorem FR_0 {n u h : Nat} {cs0 cs : CS} {ms0 ms : GS} (I : CI n u h cs0 ms0 cs ms) : cs.1 1 6 = 0 ↔ ms.1 0 22 = 0 := by
  obtain ⟨e, e1, e2, e3⟩ := I.2.1
  rw [e2, e3]
/-- the number, if there is no fault -/
theorem taken_40 {n u h : Nat} {cs0 cs : CS} {ms0 ms : GS} (I : CI n u h cs0 ms0 cs ms) (hN : NG (ms.2.1 0 21)) : Tr (mo_numberTaken_40 ms) (fun b => b.2 = ms ∧ NG b.1 ∧ (cs.1 1 6 = 0 → b.1 = ms.2.1 0 21)) := by
  by_cases h0 : ms.1 0 22 = 0
  · exact Tr_jbt h0 (Tr_some ⟨rfl, hN, fun _ => rfl⟩)
  · exact Tr_jbf h0 (Tr_some ⟨rfl, NG_0, fun q => absurd ((FR_0 I).mp q) h0⟩)
theorem num_ok {n u h : Nat} {cs0 cs : CS} {ms0 ms : GS} {v : VV} (I : CI n u h cs0 ms0 cs ms) (hv : okV v) (hT : TakenN v ms) : Tr (numC cs v) (fun a => NG a.1 ∧ Tr (f_mo_numberTaken ms) (fun b => CI n u h cs0 ms0 a.2 b.2 ∧ NG b.1 ∧ (a.2.1 1 6 = 0 → b.1 = a.1) ∧ Ch [21, 22] [] ms b.2)) := by
  obtain ⟨t1, t2, t3⟩ := hT
  have plain : ¬ v.1 = 4 → ¬ v.1 = 2 → NG v.2.1 → Tr (numC cs v) (fun a => NG a.1 ∧ Tr (f_mo_numberTaken ms) (fun b => CI n u h cs0 ms0 a.2 b.2 ∧ NG b.1 ∧ (a.2.1 1 6 = 0 → b.1 = a.1) ∧ Ch [21, 22] [] ms b.2)) := fun v4 v2 hN => by
    refine Tr_jbf v4 (Tr_jbf v2 (Tr_some ⟨hN, ?_⟩))
    refine Tr_jbf (by rw [t1]; exact v4) (Tr_jbf (by rw [t1]; exact v2) ?_)
    have e := t2 v2
    exact Tr_mono (taken_40 I (by rw [e]; exact hN)) (fun b ⟨b1, b2, b3⟩ => ⟨by rw [b1]; exact I, b2, fun q => (b3 q).trans e, by rw [b1]; exact Ch_refl⟩)
  rcases hv with rfl | ⟨x, rfl⟩ | ⟨t, rfl, ht⟩ | htr | ⟨e, e1, e8, rfl⟩
  · exact plain (by decide) (by decide) NG_0
  · exact plain (show ¬ (1 : Int32) = 4 by decide) (show ¬ (1 : Int32) = 2 by decide) (NG_x8 x)
  · refine Tr_jbf (show ¬ (2 : Int32) = 4 by decide) (Tr_jbt rfl ?_)
    have n4 : ¬ ms.1 0 20 = 4 := by rw [t1]; exact (show ¬ (2 : Int32) = 4 by decide)
    obtain ⟨c1, c2⟩ := c_said (cs := cs) ht
    rcases m_says ht t3 with ⟨q, e, m', hN, m1, m2, m3⟩ | ⟨hN, m1⟩
    · refine Tr_jce (c1 q e hN) (Tr_some ⟨nW_NG hN, ?_⟩)
      refine Tr_jbf n4 (Tr_jbt t1 (Tr_jce m1 (Tr_jbf (show ¬ (1 : Int32) = 0 by decide) ?_)))
      have I' : CI n u h cs0 ms0 cs m' := CI_ref I m3 (by decide) (by decide) (by decide)
      exact Tr_mono (taken_40 I' (by rw [m2]; exact nW_NG hN)) (fun b ⟨b1, b2, b3⟩ => ⟨by rw [b1]; exact I', b2, fun q => (b3 q).trans m2, by rw [b1]; exact Ch_mono m3 (by decide) (by decide)⟩)
    · obtain ⟨a, ea, m, em, h1, h2, h3⟩ := fail_ok I (e := 3) (by decide) (by decide)
      have hb : bad cs = some (FP.dconst0, a) := e_c ea rfl
      refine Tr_jce ((c2 hN).trans hb) (Tr_some ⟨NG_0, ?_⟩)
      refine Tr_jbf n4 (Tr_jbt t1 (Tr_jce m1 (Tr_jbt rfl (Tr_jce em ?_))))
      have hm0 : ¬ m.1 0 22 = 0 := fun q => h2 ((FR_0 h1).mpr q)
      exact Tr_jbf hm0 (Tr_some ⟨h1, NG_0, fun q => absurd q h2, Ch_mono h3 (by decide) (by decide)⟩)
  · have v1 : v.1 = 3 := by rcases htr with rfl | rfl <;> rfl
    refine plain (by rw [v1]; decide) (by rw [v1]; decide) ?_
    rcases htr with rfl | rfl
    · exact NG_0
    · exact NG_1
  · have ed : FP.d2i (FP.i2d (nI e)) = nI e := FP.Core.d2i_i2d _
    obtain ⟨a, ea, m, em, h1, h2, h3⟩ := fail_ok I e1 e8
    refine Tr_jbt rfl (Tr_jce (show f_ar_fail cs (FP.d2i (FP.i2d (nI e))) = _ by rw [ed]; exact ea) (Tr_some ⟨NG_0, ?_⟩))
    have t2 := t2 (show ¬ (4 : Int32) = 2 by decide)
    refine Tr_jbt t1 ?_
    rw [t2]
    refine Tr_jce (show f_mo_fail ms (FP.d2i (FP.i2d (nI e))) = _ by rw [ed]; exact em) ?_
    have hm0 : ¬ m.1 0 22 = 0 := fun q => h2 ((FR_0 h1).mpr q)
    exact Tr_jbf hm0 (Tr_some ⟨h1, NG_0, fun q => absurd q h2, Ch_mono h3 (by decide) (by decide)⟩)
theorem t_num {n u h i : Nat} {cs0 cs : CS} {ms0 ms : GS} (I : CI n u h cs0 ms0 cs ms) (hi : i < n) : Tr (f_ar_number cs (nI i)) (fun a => NG a.1 ∧ Tr (f_mo_number ms (nI i)) (fun b => CI n u h cs0 ms0 a.2 b.2 ∧ NG b.1 ∧ (a.2.1 1 6 = 0 → b.1 = a.1) ∧ Ch [20, 21, 22, 27] [13] ms b.2)) := by
  obtain ⟨m, em, m1, m2, m3⟩ := takeOf_m I hi
  have hn := nth_c I.1 hi (k := 0) (by decide)
  refine Tr_jce hn ?_
  refine Tr_mono (num_ok m1 (av_ok I.1 hi 0) (Taken_N m2)) (fun a ⟨a1, b, eb, b1, b2, b3, b4⟩ => ⟨a1, ?_⟩)
  exact Tr_jce em (Tr_jce eb (Tr_some ⟨b1, b2, b3, Ch_trans (Ch_mono m3 (by decide) (by decide)) b4 (by decide) (by decide)⟩))
theorem tdiv_mul (w : Int) : Int.tdiv (w * UU) UU = w := Int.mul_tdiv_cancel _ (by have := UU_pos; omega)
theorem tdiv_bound {z k : Int} (h1 : -(k * UU) ≤ z) (h2 : z ≤ k * UU) : -k ≤ Int.tdiv z UU ∧ Int.tdiv z UU ≤ k := by
  have hU := UU_pos
  have e := Int.mul_tdiv_add_tmod z UU
  have m1 := Int.tmod_lt_of_pos z hU
  have m2 := Int.lt_tmod_of_pos z hU
  rw [Int.mul_comm] at e
  constructor
  · refine Int.not_lt.mp fun g => ?_
    have := Int.mul_le_mul_of_nonneg_right (show Int.tdiv z UU ≤ -k - 1 by omega) (show (0 : Int) ≤ UU by omega)
    have e2 : (-k - 1) * UU = -(k * UU) - UU := by rw [Int.sub_mul, Int.neg_mul, Int.one_mul]
    omega
  · refine Int.not_lt.mp fun g => ?_
    have := Int.mul_le_mul_of_nonneg_right (show k + 1 ≤ Int.tdiv z UU by omega) (show (0 : Int) ≤ UU by omega)
    have e2 : (k + 1) * UU = k * UU + UU := by rw [Int.add_mul, Int.one_mul]
    omega
theorem DV_2p31 : DV 4746794007248502784 (2147483648 * UU) := by
  have h := DV_l2d (x := 2147483648) (by decide)
  have e : FP.l2d (2147483648 : Int64) = 4746794007248502784 := by decide +kernel
  rw [e] at h
  exact h
theorem DV_2p31m : DV 4746794007244308480 (2147483647 * UU) := by
  have h := DV_l2d (x := 2147483647) (by decide)
  have e : FP.l2d (2147483647 : Int64) = 4746794007244308480 := by decide +kernel
  rw [e] at h
  exact h
theorem DV_2p53 : DV 4845873199050653696 (9007199254740992 * UU) := by
  have h := DV_l2d (x := 9007199254740992) (by decide)
  have e : FP.l2d (9007199254740992 : Int64) = 4845873199050653696 := by decide +kernel
  rw [e] at h
  exact h
theorem abs_DV {v : UInt64} {z : Int} (hv : DV v z) : ∃ a, f_mo_absolute v = some a ∧ DV a (if 0 ≤ z then z else -z) := by
  have h0 : DV FP.dconst0 0 := DV_0
  by_cases h : 0 ≤ z
  · rw [if_pos h]
    exact ⟨v, e_bt ((cv_ge hv h0).mpr h) rfl, hv⟩
  · rw [if_neg h]
    exact ⟨_, e_bf (fun q => h ((cv_ge hv h0).mp q)) rfl, DV_neg hv⟩
/-- a number cut to whole -/
theorem cut_NG {v : UInt64} {z : Int} (hv : DV v z) (h1 : -(1000000000 * UU) ≤ z) (h2 : z ≤ 1000000000 * UU) : ∃ c, f_mo_cut v = some c ∧ DV c (Int.tdiv z UU * UU) ∧ -1000000000 ≤ Int.tdiv z UU ∧ Int.tdiv z UU ≤ 1000000000 ∧ (FP.d2i v).toInt = Int.tdiv z UU ∧ FP.d2i c = FP.d2i v := by
  have hU := UU_pos
  obtain ⟨b1, b2⟩ := tdiv_bound h1 h2
  obtain ⟨a, ea, ha⟩ := abs_DV hv
  have hl : (FP.d2l v).toInt = Int.tdiv z UU := d2l_DV hv (by omega) (by omega)
  have hi : (FP.d2i v).toInt = Int.tdiv z UU := d2i_DV hv (by omega) (by omega)
  have hc : DV (FP.l2d (FP.d2l v)) (Int.tdiv z UU * UU) := by
    have := DV_l2d (x := FP.d2l v) (by rw [hl]; omega)
    rw [hl] at this
    exact this
  refine ⟨FP.l2d (FP.d2l v), e_c ea (e_bf (fun q => ?_) rfl), hc, b1, b2, hi, ?_⟩
  · have := (cv_ge ha DV_2p53).mp q
    split at this <;> omega
  · apply Int32.toInt_inj.mp
    rw [d2i_DV hc (by rw [tdiv_mul]; omega) (by rw [tdiv_mul]; omega), tdiv_mul, hi]
def iB (x : Int32) : Prop := -1000000000 ≤ x.toInt ∧ x.toInt ≤ 1000000000
theorem t_whole {n u h i : Nat} {cs0 cs : CS} {ms0 ms : GS} (I : CI n u h cs0 ms0 cs ms) (hi : i < n) : Tr (f_ar_whole cs (nI i)) (fun a => Tr (f_mo_whole1 ms (nI i)) (fun b => CI n u h cs0 ms0 a.2 b.2 ∧ iB a.1 ∧ iB b.1 ∧ (a.2.1 1 6 = 0 → b.1 = a.1) ∧ Ch [20, 21, 22, 27] [13] ms b.2)) := by
  have hU := UU_pos
  have h0 : DV FP.dconst0 0 := DV_0
  refine Tr_jc (t_num I hi) (fun a ⟨⟨z, a1, a2, a3, a4⟩, b, eb, b1, ⟨y, b2, b3, b4, b5⟩, b6, b7⟩ => ?_)
  obtain ⟨c, ec, c1, c2, c3, c4, c5⟩ := cut_NG b2 b3 b4
  obtain ⟨-, -, -, k2, k3, k4, -⟩ := cut_NG a1 a2 a3
  have hm : Tr (f_mo_whole1 ms (nI i)) (fun r => r = (FP.d2i b.1, b.2)) := by
    obtain ⟨q3, e3, h3⟩ := abs_DV c1
    refine Tr_jce eb (Tr_jce ec (Tr_jce e3 (Tr_jbt ((cv_le h3 DV_2p31m).mpr ?_) (Tr_some (by rw [c5])))))
    have w1 := Int.mul_le_mul_of_nonneg_right c3 (show (0 : Int) ≤ UU by omega)
    have w2 := Int.mul_le_mul_of_nonneg_right c2 (show (0 : Int) ≤ UU by omega)
    split <;> omega
  have fin : ∀ w zw, DV w zw → zw < 2147483648 * UU → Tr (ar_whole_18 a.2 a.1 w) (fun r => Tr (f_mo_whole1 ms (nI i)) (fun b' => CI n u h cs0 ms0 r.2 b'.2 ∧ iB r.1 ∧ iB b'.1 ∧ (r.2.1 1 6 = 0 → b'.1 = r.1) ∧ Ch [20, 21, 22, 27] [13] ms b'.2)) := fun w zw hw hlt => by
    refine Tr_jbt ((cv_lt hw DV_2p31).mpr hlt) (Tr_some (Tr_mono hm (fun r hr => ?_)))
    subst hr
    exact ⟨b1, ⟨by rw [k4]; exact k2, by rw [k4]; exact k3⟩, ⟨by show _ ≤ (FP.d2i b.1).toInt; rw [c4]; exact c2, by show (FP.d2i b.1).toInt ≤ _; rw [c4]; exact c3⟩, fun q => by show FP.d2i b.1 = FP.d2i a.1; rw [b6 q], b7⟩
  exact Tr_jb (fun q => fin _ _ a1 (by omega)) (fun q => fin _ _ (DV_neg a1) (by omega))
theorem t_wholeOr {n u h i : Nat} {cs0 cs : CS} {ms0 ms : GS} (I : CI n u h cs0 ms0 cs ms) (h31 : i < 30) (p1 : Int32) (hp : iB p1) : Tr (f_ar_wholeOr cs (nI i) p1) (fun a => Tr (f_mo_whole2 ms (nI i) p1) (fun b => CI n u h cs0 ms0 a.2 b.2 ∧ iB a.1 ∧ iB b.1 ∧ (a.2.1 1 6 = 0 → b.1 = a.1) ∧ Ch [20, 21, 22, 27] [13] ms b.2)) := by
  by_cases hi : i < n
  · have e1 := out_c I.1 hi
    have e2 := isOut_m I.1 hi
    have e3 := given_m I.1 (show i < 2 ^ 31 by omega)
    rw [if_pos hi] at e3
    by_cases g : aR cs i = 0
    · rw [if_pos g] at e1 e2
      exact Tr_jce e1 (Tr_jbf (by decide) (Tr_some (Tr_jce e3 (Tr_jbf (by decide) (Tr_jce e2 (Tr_jbf (by decide) (Tr_some ⟨I, hp, hp, fun _ => rfl, Ch_refl⟩)))))))
    · rw [if_neg g] at e1 e2
      refine Tr_jce e1 (Tr_jbt rfl (Tr_jc (t_whole I hi) (fun a ⟨b, eb, hb⟩ => Tr_some ?_)))
      exact Tr_jce e3 (Tr_jbf (by decide) (Tr_jce e2 (Tr_jbt rfl (Tr_jce eb (Tr_some hb)))))
  · have e1 := out_no I.1 (show n ≤ i by omega) (by omega)
    have e3 := given_m I.1 (show i < 2 ^ 31 by omega)
    rw [if_neg hi] at e3
    exact Tr_jce e1 (Tr_jbf (by decide) (Tr_some (Tr_jce e3 (Tr_jbt rfl (Tr_some ⟨I, hp, hp, fun _ => rfl, Ch_refl⟩)))))
theorem t_truth {n u h i : Nat} {cs0 cs : CS} {ms0 ms : GS} (I : CI n u h cs0 ms0 cs ms) (hi : i < n) : Tr (f_ar_truth cs (nI i)) (fun a => Tr (f_mo_truth1 ms (nI i)) (fun b => CI n u h cs0 ms0 a.2 b.2 ∧ (a.1 = 0 ∨ a.1 = 1) ∧ (b.1 = 0 ∨ b.1 = 1) ∧ (a.2.1 1 6 = 0 → b.1 = a.1) ∧ Ch [20, 21, 22, 27] [13] ms b.2)) := by
  refine Tr_jc (t_num I hi) (fun a ⟨a1, b, eb, b1, b2, b6, b7⟩ => ?_)
  refine Tr_jb (fun q => Tr_some (Tr_jce eb (Tr_jb (fun r => Tr_some ⟨b1, Or.inl rfl, Or.inl rfl, fun _ => rfl, b7⟩) (fun r => Tr_some ⟨b1, Or.inl rfl, Or.inr rfl, fun w => absurd (by rw [b6 w]; exact q) r, b7⟩)))) (fun q => Tr_some (Tr_jce eb (Tr_jb (fun r => Tr_some ⟨b1, Or.inr rfl, Or.inl rfl, fun w => absurd (by rw [b6 w] at r; exact r) q, b7⟩) (fun r => Tr_some ⟨b1, Or.inr rfl, Or.inr rfl, fun _ => rfl, b7⟩))))
theorem isB_01 {x : Int32} (h : x = 0 ∨ x = 1) : isB x = true := by rcases h with rfl | rfl <;> rfl
theorem t_truthOr {n u h i : Nat} {cs0 cs : CS} {ms0 ms : GS} (I : CI n u h cs0 ms0 cs ms) (h31 : i < 30) (p1 : Int32) (hp : p1 = 0 ∨ p1 = 1) : Tr (f_ar_truthOr cs (nI i) p1) (fun a => Tr (f_mo_truth2 ms (nI i) p1) (fun b => CI n u h cs0 ms0 a.2 b.2 ∧ (a.1 = 0 ∨ a.1 = 1) ∧ (b.1 = 0 ∨ b.1 = 1) ∧ (a.2.1 1 6 = 0 → b.1 = a.1) ∧ Ch [20, 21, 22, 27] [13] ms b.2)) := by
  by_cases hi : i < n
  · have e1 := out_c I.1 hi
    have e2 := isOut_m I.1 hi
    have e3 := given_m I.1 (show i < 2 ^ 31 by omega)
    rw [if_pos hi] at e3
    by_cases g : aR cs i = 0
    · rw [if_pos g] at e1 e2
      exact Tr_jce e1 (Tr_jbf (by decide) (Tr_jg (isB_01 hp) (Tr_some (Tr_jce e3 (Tr_jbf (by decide) (Tr_jce e2 (Tr_jbf (by decide) (Tr_jg (isB_01 hp) (Tr_some ⟨I, hp, hp, fun _ => rfl, Ch_refl⟩)))))))))
    · rw [if_neg g] at e1 e2
      refine Tr_jce e1 (Tr_jbt rfl (Tr_jc (t_truth I hi) (fun a ⟨b, eb, hb⟩ => Tr_jg (isB_01 hb.2.1) (Tr_some ?_))))
      exact Tr_jce e3 (Tr_jbf (by decide) (Tr_jce e2 (Tr_jbt rfl (Tr_jce eb (Tr_jg (isB_01 hb.2.2.1) (Tr_some hb))))))
  · have e1 := out_no I.1 (show n ≤ i by omega) (by omega)
    have e3 := given_m I.1 (show i < 2 ^ 31 by omega)
    rw [if_neg hi] at e3
    exact Tr_jce e1 (Tr_jbf (by decide) (Tr_jg (isB_01 hp) (Tr_some (Tr_jce e3 (Tr_jbt rfl (Tr_jg (isB_01 hp) (Tr_some ⟨I, hp, hp, fun _ => rfl, Ch_refl⟩)))))))
/-! days -/
theorem DInt_fin {i : Int} {a : UInt64} (h : FP.Core.DInt i a) : FP.Core.DFin a := by
  unfold FP.Core.DInt at h
  cases e : FP.Core.val64 a with
  | nan => rw [e] at h; exact h.elim
  | inf s => rw [e] at h; exact h.elim
  | fin s c q => exact ⟨s, c, q, e⟩
theorem DInt_DV {i : Int} {a : UInt64} (h : FP.Core.DInt i a) : DV a (i * UU) := ⟨DInt_fin h, FP.Core.DInt_zval h⟩
theorem floor_NG {v : UInt64} {z : Int} (hv : DV v z) (h1 : -(1000000000 * UU) ≤ z) (h2 : z ≤ 1000000000 * UU) : ∃ c, f_mo_floor v = some c ∧ DV c (z / UU * UU) ∧ -1000000001 ≤ z / UU ∧ z / UU ≤ 1000000000 := by
  have hU := UU_pos
  obtain ⟨b1, b2⟩ := tdiv_bound h1 h2
  obtain ⟨a, ea, ha⟩ := abs_DV hv
  have hl : (FP.d2l v).toInt = Int.tdiv z UU := d2l_DV hv (by omega) (by omega)
  have hD : FP.Core.DInt (Int.tdiv z UU) (FP.l2d (FP.d2l v)) := by
    have := FP.Core.l2d_int (a := FP.d2l v) (by rw [hl]; omega)
    rw [hl] at this
    exact this
  have ec : f_mo_cut v = some (FP.l2d (FP.d2l v)) := e_c ea (e_bf (fun q => by
    have := (cv_ge ha DV_2p53).mp q
    split at this <;> omega) rfl)
  have hc := DInt_DV hD
  have e := Int.mul_tdiv_add_tmod z UU
  have m1 := Int.tmod_lt_of_pos z hU
  have m2 := Int.lt_tmod_of_pos z hU
  have f1 := Int.mul_ediv_add_emod z UU
  have f2 := Int.emod_nonneg z (show UU ≠ 0 by omega)
  have f3 := Int.emod_lt_of_pos z hU
  rw [Int.mul_comm] at e f1
  by_cases g : Int.tdiv z UU * UU ≤ z
  · have ef : z / UU = Int.tdiv z UU := by
      have e1 : z = z.tmod UU + Int.tdiv z UU * UU := by omega
      rw [e1, Int.add_mul_ediv_right _ _ (by omega), Int.ediv_eq_zero_of_lt (by omega) (by omega), Int.zero_add]
      rw [← e1]
    rw [ef]
    exact ⟨_, e_c ec (e_bt ((cv_le hc hv).mpr g) rfl), hc, by omega, by omega⟩
  · have ef : z / UU = Int.tdiv z UU - 1 := by
      have e1 : z = (z.tmod UU + UU) + (Int.tdiv z UU - 1) * UU := by rw [Int.sub_mul, Int.one_mul]; omega
      rw [e1, Int.add_mul_ediv_right _ _ (by omega), Int.ediv_eq_zero_of_lt (by omega) (by omega), Int.zero_add]
      rw [← e1]
    have hone : FP.Core.DInt 1 FP.dconst1 := FP.Core.dint_one
    have hs := FP.Core.dsub_int hD hone (by omega)
    rw [ef]
    exact ⟨_, e_c ec (e_bf (fun q => g ((cv_le hc hv).mp q)) (e_g (nn_DV (DInt_DV hs)) rfl)), DInt_DV hs, by omega, by omega⟩
theorem DV_day : DV 4703607666558107648 (2958465 * UU) := by
  have h := DV_k (k := 2958465) (by decide)
  have e : FP.i2d (nI 2958465) = 4703607666558107648 := by decide +kernel
  rw [e] at h
  exact h
theorem DV_day1 : DV 4703607668705591296 (2958466 * UU) := by
  have h := DV_k (k := 2958466) (by decide)
  have e : FP.i2d (nI 2958466) = 4703607668705591296 := by decide +kernel
  rw [e] at h
  exact h
theorem nI_of_toInt {x : Int32} {d : Nat} (h : x.toInt = d) (hd : d < 2 ^ 31) : x = nI d := Int32.toInt_inj.mp (by rw [h, nI_toInt hd])
/-- the class's day of a number -/
def dayC (cs : CS) (v : UInt64) : Option (Int32 × CS) := jc (f_ca_hasDay v) (fun q2 => jb (q2 = 0) (jc (f_ar_fail cs 6) (fun q3 => some (0, q3))) (some ((FP.d2i v), cs)))
/-- whether a number has a day, and which -/
theorem hasDay_c {v : UInt64} {z : Int} (hv : DV v z) (h1 : -(1000000000 * UU) ≤ z) (h2 : z ≤ 1000000000 * UU) : (∃ d : Nat, d ≤ 2958465 ∧ 0 ≤ z ∧ z / UU = (d : Int) ∧ f_ca_hasDay v = some 1 ∧ FP.d2i v = nI d) ∨ (¬ (0 ≤ z / UU ∧ z / UU ≤ 2958465) ∧ f_ca_hasDay v = some 0) := by
  have hU := UU_pos
  have h0 : DV FP.dconst0 0 := DV_0
  by_cases g : 0 ≤ z
  · have e1 : Int.tdiv z UU = z / UU := Int.tdiv_eq_ediv_of_nonneg g
    have n0 : 0 ≤ z / UU := Int.ediv_nonneg g (by omega)
    have f1 := Int.mul_ediv_add_emod z UU
    have f2 := Int.emod_nonneg z (show UU ≠ 0 by omega)
    have f3 := Int.emod_lt_of_pos z hU
    rw [Int.mul_comm] at f1
    by_cases g2 : z < 2958466 * UU
    · have hd : z / UU ≤ 2958465 := Int.le_of_lt_add_one (Int.ediv_lt_of_lt_mul hU (by omega))
      refine Or.inl ⟨(z / UU).toNat, by omega, g, by omega, e_bf (fun q => by have := (cv_lt hv h0).mp q; omega) (e_bf (fun q => by have := (cv_ge hv DV_day1).mp q; omega) rfl), ?_⟩
      refine nI_of_toInt ?_ (by omega)
      rw [d2i_DV hv (by omega) (by omega), e1]
      omega
    · refine Or.inr ⟨fun q => ?_, e_bf (fun q => by have := (cv_lt hv h0).mp q; omega) (e_bt ((cv_ge hv DV_day1).mpr (by omega)) rfl)⟩
      have := Int.mul_le_mul_of_nonneg_right q.2 (show (0 : Int) ≤ UU by omega)
      omega
  · refine Or.inr ⟨fun q => ?_, e_bt ((cv_lt hv h0).mpr (by omega)) rfl⟩
    have f1 := Int.mul_ediv_add_emod z UU
    have f2 := Int.emod_nonneg z (show UU ≠ 0 by omega)
    have := Int.mul_nonneg q.1 (show (0 : Int) ≤ UU by omega)
    rw [Int.mul_comm] at f1
    omega
/-- the reference's day of the number taken, beside the class's -/
theorem day_ok {n u h : Nat} {cs0 cs : CS} {ms0 ms : GS} {v : VV} (I : CI n u h cs0 ms0 cs ms) (hv : okV v) (hT : TakenN v ms) : Tr (numC cs v) (fun a => Tr (dayC a.2 a.1) (fun r => Tr (f_mo_dayTaken ms) (fun b => CI n u h cs0 ms0 r.2 b.2 ∧ (∃ d : Nat, d ≤ 2958465 ∧ r.1 = nI d ∧ (r.2.1 1 6 = 0 → b.1 = nI d ∧ a.2.1 1 6 = 0)) ∧ (∃ d : Nat, d ≤ 2958465 ∧ b.1 = nI d) ∧ (r.2.1 1 6 = 0 → r.2 = a.2) ∧ Ch [21, 22] [] ms b.2))) := by
  have hU := UU_pos
  refine Tr_mono (num_ok I hv hT) (fun a ⟨⟨z, a1, a2, a3, a4⟩, b, eb, b1, ⟨y, b2, b3, b4, b5⟩, b6, b7⟩ => ?_)
  obtain ⟨fl, ef, f1, f2, f3⟩ := floor_NG b2 b3 b4
  have h0 : DV FP.dconst0 0 := DV_0
  have hF := FR_0 b1
  by_cases hf : a.2.1 1 6 = 0
  · have hb := b6 hf
    have hm : b.2.1 0 22 = 0 := hF.mp hf
    have hyz : y = z := by
      have := b2.2
      rw [hb] at this
      exact this.symm.trans a1.2
    subst hyz
    rcases hasDay_c a1 a2 a3 with ⟨d, d1, d2, d3, d4, d5⟩ | ⟨d1, d2⟩
    · refine Tr_jce d4 (Tr_jbf (by decide) (Tr_some ?_))
      rw [d5]
      have e35 : mo_dayTaken_35 b.2 fl = some (nI d, b.2) := by
        refine e_bt hm ?_
        have : FP.d2i fl = nI d := nI_of_toInt (by rw [d2i_DV f1 (by rw [tdiv_mul]; omega) (by rw [tdiv_mul]; omega), tdiv_mul]; exact d3) (by omega)
        rw [this]
      refine ⟨(nI d, b.2), e_c eb (e_c ef (e_bt hm (e_bf (fun q => ?_) (e_bt ((cv_le f1 DV_day).mpr ?_) e35)))), b1, ⟨d, d1, rfl, fun _ => ⟨rfl, hf⟩⟩, ⟨d, d1, rfl⟩, fun _ => rfl, b7⟩
      · have := (cv_lt f1 h0).mp q
        rw [d3] at this
        have := Int.mul_nonneg (show (0 : Int) ≤ (d : Int) by omega) (show (0 : Int) ≤ UU by omega)
        omega
      · rw [d3]
        exact Int.mul_le_mul_of_nonneg_right (by omega) (by omega)
    · obtain ⟨cf, ec, m, em, k1, k2, k3⟩ := fail_ok b1 (e := 6) (by decide) (by decide)
      refine Tr_jce d2 (Tr_jbt rfl (Tr_jce ec (Tr_some ?_)))
      have km : ¬ m.1 0 22 = 0 := fun q => k2 ((FR_0 k1).mpr q)
      have e29 : mo_dayTaken_29 b.2 fl = some (0, m) := e_c em (e_bf km rfl)
      refine ⟨(0, m), e_c eb (e_c ef (e_bt hm ?_)), k1, ⟨0, by decide, rfl, fun q => absurd q k2⟩, ⟨0, by decide, rfl⟩, fun q => absurd q k2, Ch_trans b7 k3 (by decide) (by decide)⟩
      by_cases q : Op.cmpValue (FP.dcmp fl FP.dconst0) .g < 0
      · exact e_bt q e29
      · refine e_bf q (e_bf (fun q2 => d1 ⟨?_, ?_⟩) e29)
        · have := fun w => q ((cv_lt f1 h0).mpr w)
          refine Int.not_lt.mp fun w => this ?_
          have := Int.mul_le_mul_of_nonneg_right (show y / UU ≤ -1 by omega) (show (0 : Int) ≤ UU by omega)
          omega
        · have := (cv_le f1 DV_day).mp q2
          exact Int.le_of_mul_le_mul_right this hU
  · have hm : ¬ b.2.1 0 22 = 0 := fun q => hf (hF.mpr q)
    have e35 : mo_dayTaken_35 b.2 fl = some (0, b.2) := e_bf hm rfl
    have em : f_mo_dayTaken ms = some (0, b.2) := e_c eb (e_c ef (e_bf hm e35))
    rcases hasDay_c a1 a2 a3 with ⟨d, d1, d2, d3, d4, d5⟩ | ⟨d1, d2⟩
    · refine Tr_jce d4 (Tr_jbf (by decide) (Tr_some ⟨_, em, b1, ⟨d, d1, d5, fun q => absurd q hf⟩, ⟨0, by decide, rfl⟩, fun q => absurd q hf, b7⟩))
    · obtain ⟨e, e1, e2, e3⟩ := b1.2.1
      have ef2 : f_ar_fail a.2 6 = some a.2 := e_bf hf rfl
      exact Tr_jce d2 (Tr_jbt rfl (Tr_jce ef2 (Tr_some ⟨_, em, b1, ⟨0, by decide, rfl, fun q => absurd q hf⟩, ⟨0, by decide, rfl⟩, fun q => absurd q hf, b7⟩)))
theorem t_day {n u h i : Nat} {cs0 cs : CS} {ms0 ms : GS} (I : CI n u h cs0 ms0 cs ms) (hi : i < n) : Tr (f_ar_day cs (nI i)) (fun r => Tr (f_mo_dayOf ms (nI i)) (fun b => CI n u h cs0 ms0 r.2 b.2 ∧ (∃ d : Nat, d ≤ 2958465 ∧ r.1 = nI d ∧ (r.2.1 1 6 = 0 → b.1 = nI d)) ∧ (∃ d : Nat, d ≤ 2958465 ∧ b.1 = nI d) ∧ Ch [20, 21, 22, 27] [13] ms b.2)) := by
  obtain ⟨m, em, m1, m2, m3⟩ := takeOf_m I hi
  have hn := nth_c I.1 hi (k := 0) (by decide)
  obtain ⟨a, ea, r, er, b, eb, b1, ⟨d, d1, d2, d3⟩, b3, b4, b5⟩ := day_ok m1 (av_ok I.1 hi 0) (Taken_N m2)
  refine ⟨r, e_c (e_c hn ea) er, b, e_c em (e_c eb rfl), b1, ⟨d, d1, d2, fun q => (d3 q).1⟩, b3, Ch_trans (Ch_mono m3 (by decide) (by decide)) b5 (by decide) (by decide)⟩
