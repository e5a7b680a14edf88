/-! ### DATEDIF -/
theorem isWord1 {t : TT} {c : Nat} (ht : okT t) (hc : c < 256) : f_da_isWord t [c] = some (b01 (decide (t.length = 1) && decide (grC (t.getD 0 0) = c))) := by
  have htl := ht.1
  have h0 := okT_at ht 0
  have g0 := grC_lt h0
  refine e_c rfl (e_c rfl ?_)
  by_cases hl : t.length = 1
  · rw [decide_eq_true hl, Bool.true_and]
    refine e_bt (by rw [hl]; rfl) ?_
    show da_isWord_15 (19999998 + 1 + 1) t [c] 0 = _
    refine e_c rfl (e_bf (show ¬ nI 1 ≤ 0 by decide) (e_c (charAt_ok (k := 0) (by omega) htl) (e_c (great_c h0) (e_c (charAt_ok (t := [c]) (k := 0) (show 0 < 1 by decide) (show 1 ≤ 255 by decide)) ?_))))
    by_cases hg : grC (t.getD 0 0) = c
    · rw [decide_eq_true hg]
      exact e_bt (by rw [hg]; rfl) (e_n (e_c rfl (e_bt (show nI 1 ≤ 0 + 1 by decide) rfl)))
    · rw [decide_eq_false hg]
      exact e_bf (fun z => hg ((nI_eq (by omega) (by omega)).mp z)) rfl
  · rw [decide_eq_false hl, Bool.false_and]
    exact e_bf (fun z => hl ((nI_eq (b := 1) (by omega) (by decide)).mp z)) rfl
theorem isWord2 {t : TT} {c e : Nat} (ht : okT t) (hc : c < 256) (he : e < 256) : f_da_isWord t [c, e] = some (b01 (decide (t.length = 2) && (decide (grC (t.getD 0 0) = c) && decide (grC (t.getD 1 0) = e)))) := by
  have htl := ht.1
  have h0 := okT_at ht 0
  have g0 := grC_lt h0
  have h1 := okT_at ht 1
  have g1 := grC_lt h1
  refine e_c rfl (e_c rfl ?_)
  by_cases hl : t.length = 2
  · rw [decide_eq_true hl, Bool.true_and]
    refine e_bt (by rw [hl]; rfl) ?_
    show da_isWord_15 (19999997 + 1 + 1 + 1) t [c, e] 0 = _
    refine e_c rfl (e_bf (show ¬ nI 2 ≤ 0 by decide) (e_c (charAt_ok (k := 0) (by omega) htl) (e_c (great_c h0) (e_c (charAt_ok (t := [c, e]) (k := 0) (show 0 < 2 by decide) (show 2 ≤ 255 by decide)) ?_))))
    by_cases hg : grC (t.getD 0 0) = c
    · rw [decide_eq_true hg, Bool.true_and]
      refine e_bt (by rw [hg]; rfl) (e_n ?_)
      refine e_c rfl (e_bf (show ¬ nI 2 ≤ 0 + 1 by decide) (e_c (charAt_ok (k := 1) (by omega) htl) (e_c (great_c h1) (e_c (charAt_ok (t := [c, e]) (k := 1) (show 1 < 2 by decide) (show 2 ≤ 255 by decide)) ?_))))
      by_cases hg1 : grC (t.getD 1 0) = e
      · rw [decide_eq_true hg1]
        exact e_bt (by rw [hg1]; rfl) (e_n (e_c rfl (e_bt (show nI 2 ≤ 0 + 1 + 1 by decide) rfl)))
      · rw [decide_eq_false hg1]
        exact e_bf (fun z => hg1 ((nI_eq (by omega) (by omega)).mp z)) rfl
    · rw [decide_eq_false hg, Bool.false_and]
      exact e_bf (fun z => hg ((nI_eq (by omega) (by omega)).mp z)) rfl
  · rw [decide_eq_false hl, Bool.false_and]
    exact e_bf (fun z => hl ((nI_eq (b := 2) (by omega) (by decide)).mp z)) rfl
/-- which of the six ways a text says, or 0 -/
def wayT (t : TT) : Nat :=
  if t.length = 1 then (if grC (t.getD 0 0) = 89 then 1 else if grC (t.getD 0 0) = 77 then 2 else if grC (t.getD 0 0) = 68 then 3 else 0)
  else if t.length = 2 then (if grC (t.getD 0 0) = 89 ∧ grC (t.getD 1 0) = 77 then 4 else if grC (t.getD 0 0) = 77 ∧ grC (t.getD 1 0) = 68 then 5 else if grC (t.getD 0 0) = 89 ∧ grC (t.getD 1 0) = 68 then 6 else 0) else 0
/-- the reference's way to it -/
theorem way_m {t : TT} {m : GS} {x1 x2 : Int32} (ht : okT t) (hT : Txt 27 13 t m) : jb ((m.1 0 27) ≤ 0) (mo_difference_37 m x1 x2 0) (jg (inb 0 256) (jc (f_mo_great (m.1 13 (0 : Int32).toNatClampNeg)) (fun q16 => mo_difference_37 m x1 x2 q16))) = mo_difference_168 m x1 x2 (nI (wayT t)) := by
  have htl := ht.1
  have h0 := okT_at ht 0
  have g0 := grC_lt h0
  have h1 := okT_at ht 1
  have g1 := grC_lt h1
  have c0 : (0 : Int32).toNatClampNeg = 0 := rfl
  have c1 : (1 : Int32).toNatClampNeg = 1 := rfl
  have cmp : ∀ a b : Nat, a < 256 → b < 256 → (nI a = nI b ↔ a = b) := fun a b p q => nI_eq (by omega) (by omega)
  unfold wayT
  rw [hT.1]
  by_cases l0 : t.length = 0
  · rw [if_neg (by omega), if_neg (by omega), l0]
    refine e_bt (by decide) (e_bt (by rw [hT.1, l0]; decide) (e_bf (by rw [hT.1, l0]; decide) (e_bf (by rw [hT.1, l0]; decide) rfl)))
  · have e0 : f_mo_great (m.1 13 (0 : Int32).toNatClampNeg) = some (nI (grC (t.getD 0 0))) := by rw [c0, hT.2 0 (by omega)]; exact great_m h0
    refine e_bf (nI_ge (a := 0) (by omega) (by omega)) (e_g (by decide) (e_c e0 ?_))
    by_cases l1 : t.length = 1
    · rw [if_pos l1]
      refine e_bt (by rw [hT.1, l1]; decide) (e_bt (by rw [hT.1, l1]; rfl) ?_)
      by_cases a : grC (t.getD 0 0) = 89
      · rw [if_pos a]; exact e_bt (by rw [a]; rfl) rfl
      · rw [if_neg a]
        refine e_bf (fun z => a ((cmp _ 89 g0 (by decide)).mp z)) ?_
        by_cases b : grC (t.getD 0 0) = 77
        · rw [if_pos b]; exact e_bt (by rw [b]; rfl) rfl
        · rw [if_neg b]
          refine e_bf (fun z => b ((cmp _ 77 g0 (by decide)).mp z)) ?_
          by_cases c : grC (t.getD 0 0) = 68
          · rw [if_pos c]; exact e_bt (by rw [c]; rfl) rfl
          · rw [if_neg c]; exact e_bf (fun z => c ((cmp _ 68 g0 (by decide)).mp z)) rfl
    · rw [if_neg l1]
      have e1 : f_mo_great (m.1 13 (1 : Int32).toNatClampNeg) = some (nI (grC (t.getD 1 0))) := by rw [c1, hT.2 1 (by omega)]; exact great_m h1
      refine e_bf (by rw [hT.1]; exact nI_ge (a := 1) (by omega) (by omega)) (e_g (by decide) (e_c e1 (e_bf (by rw [hT.1]; exact fun z => l1 ((nI_eq (b := 1) (by omega) (by decide)).mp z)) ?_)))
      by_cases l2 : t.length = 2
      · rw [if_pos l2]
        refine e_bt (by rw [hT.1, l2]; rfl) ?_
        have n89 : ¬ grC (t.getD 0 0) = 89 → ¬ nI (grC (t.getD 0 0)) = 89 := fun a z => a ((cmp _ 89 g0 (by decide)).mp z)
        have n77 : ¬ grC (t.getD 0 0) = 77 → ¬ nI (grC (t.getD 0 0)) = 77 := fun a z => a ((cmp _ 77 g0 (by decide)).mp z)
        have m77 : ¬ grC (t.getD 1 0) = 77 → ¬ nI (grC (t.getD 1 0)) = 77 := fun a z => a ((cmp _ 77 g1 (by decide)).mp z)
        have m68 : ¬ grC (t.getD 1 0) = 68 → ¬ nI (grC (t.getD 1 0)) = 68 := fun a z => a ((cmp _ 68 g1 (by decide)).mp z)
        by_cases a : grC (t.getD 0 0) = 89
        · have a' : nI (grC (t.getD 0 0)) = 89 := by rw [a]; rfl
          have nb : ¬ grC (t.getD 0 0) = 77 := by omega
          refine e_bt a' ?_
          by_cases b : grC (t.getD 1 0) = 77
          · rw [if_pos ⟨a, b⟩]; exact e_bt (by rw [b]; rfl) rfl
          · rw [if_neg (fun z => b z.2), if_neg (fun z => nb z.1)]
            refine e_bf (m77 b) (e_bf (n77 nb) (e_bt a' ?_))
            by_cases c : grC (t.getD 1 0) = 68
            · rw [if_pos ⟨a, c⟩]; exact e_bt (by rw [c]; rfl) rfl
            · rw [if_neg (fun z => c z.2)]; exact e_bf (m68 c) rfl
        · rw [if_neg (fun z => a z.1)]
          refine e_bf (n89 a) ?_
          by_cases b : grC (t.getD 0 0) = 77
          · refine e_bt (by rw [b]; rfl) ?_
            by_cases c : grC (t.getD 1 0) = 68
            · rw [if_pos ⟨b, c⟩]; exact e_bt (by rw [c]; rfl) rfl
            · rw [if_neg (fun z => c z.2), if_neg (fun z => a z.1)]
              exact e_bf (m68 c) (e_bf (n89 a) rfl)
          · rw [if_neg (fun z => b z.1), if_neg (fun z => a z.1)]
            exact e_bf (n77 b) (e_bf (n89 a) rfl)
      · rw [if_neg l2]
        exact e_bf (by rw [hT.1]; exact fun z => l2 ((nI_eq (b := 2) (by omega) (by decide)).mp z)) rfl
/-- the class's way to it -/
theorem way_c {t : TT} {st : CS} {x1 x2 x4 : Int32} (ht : okT t) {C S : Nat} {R : VV × CS → Prop} (hr : ∀ w : Nat, w = wayT t → TA C S (if w = 1 then jd (f_vl_ofNumber (FP.i2d (x4 / 12))) (fun q21 => some ((q21, st), 0, 0)) else if w = 2 then jd (f_vl_ofNumber (FP.i2d x4)) (fun q19 => some ((q19, st), 0, 0)) else if w = 3 then jd (f_vl_ofNumber (FP.i2d (x2 - x1))) (fun q17 => some ((q17, st), 0, 0)) else if w = 4 then jd (f_vl_ofNumber (FP.i2d (x4 - x4 / 12 * 12))) (fun q15 => some ((q15, st), 0, 0)) else if w = 5 then jc (f_da_over x1 x4) (fun q12 => jd (f_vl_ofNumber (FP.i2d (x2 - q12))) (fun q13 => some ((q13, st), 0, 0))) else if w = 6 then jc (f_da_over x1 (x4 - (x4 - x4 / 12 * 12))) (fun q9 => jd (f_vl_ofNumber (FP.i2d (x2 - q9))) (fun q10 => some ((q10, st), 0, 0))) else jd (f_vl_ofError 6) (fun q7 => some ((q7, st), 0, 0))) R) : TA C S (da_difference_63 st x1 x2 t x4) R := by
  have h := hr (wayT t) rfl
  have a1 := isWord1 (c := 89) ht (by decide)
  have a2 := isWord1 (c := 77) ht (by decide)
  have a3 := isWord1 (c := 68) ht (by decide)
  have a4 := isWord2 (c := 89) (e := 77) ht (by decide) (by decide)
  have a5 := isWord2 (c := 77) (e := 68) ht (by decide) (by decide)
  have a6 := isWord2 (c := 89) (e := 68) ht (by decide) (by decide)
  have no : ∀ b : Bool, ¬ b = true → b01 b = 0 := fun b hb => b01_f hb
  have yes : ∀ b : Bool, b = true → ¬ b01 b = 0 := fun b hb => by rw [hb]; decide
  unfold wayT at h
  by_cases l1 : t.length = 1
  · have l2 : ¬ t.length = 2 := by omega
    rw [if_pos l1] at h
    rw [decide_eq_true l1, Bool.true_and] at a1 a2 a3
    rw [decide_eq_false l2, Bool.false_and] at a4 a5 a6
    by_cases g1 : grC (t.getD 0 0) = 89
    · rw [if_pos g1, if_pos rfl] at h
      exact TA_jce a1 (TA_jbf (yes _ (decide_eq_true g1)) h)
    · rw [if_neg g1] at h
      refine TA_jce a1 (TA_jbt (no _ (by rw [decide_eq_false g1]; decide)) ?_)
      by_cases g2 : grC (t.getD 0 0) = 77
      · rw [if_pos g2, if_neg (by decide), if_pos rfl] at h
        exact TA_jce a2 (TA_jbf (yes _ (decide_eq_true g2)) h)
      · rw [if_neg g2] at h
        refine TA_jce a2 (TA_jbt (no _ (by rw [decide_eq_false g2]; decide)) ?_)
        by_cases g3 : grC (t.getD 0 0) = 68
        · rw [if_pos g3, if_neg (by decide), if_neg (by decide), if_pos rfl] at h
          exact TA_jce a3 (TA_jbf (yes _ (decide_eq_true g3)) h)
        · rw [if_neg g3] at h
          exact TA_jce a3 (TA_jbt (no _ (by rw [decide_eq_false g3]; decide)) (TA_jce a4 (TA_jbt rfl (TA_jce a5 (TA_jbt rfl (TA_jce a6 (TA_jbt rfl h)))))))
  · rw [if_neg l1] at h
    rw [decide_eq_false l1, Bool.false_and] at a1 a2 a3
    by_cases l2 : t.length = 2
    · rw [if_pos l2] at h
      rw [decide_eq_true l2, Bool.true_and] at a4 a5 a6
      refine TA_jce a1 (TA_jbt rfl (TA_jce a2 (TA_jbt rfl (TA_jce a3 (TA_jbt rfl ?_)))))
      by_cases g4 : grC (t.getD 0 0) = 89 ∧ grC (t.getD 1 0) = 77
      · rw [if_pos g4, if_neg (by decide), if_neg (by decide), if_neg (by decide), if_pos rfl] at h
        exact TA_jce a4 (TA_jbf (yes _ (by rw [decide_eq_true g4.1, decide_eq_true g4.2]; rfl)) h)
      · rw [if_neg g4] at h
        refine TA_jce a4 (TA_jbt (no _ (fun z => g4 (by simpa using z))) ?_)
        by_cases g5 : grC (t.getD 0 0) = 77 ∧ grC (t.getD 1 0) = 68
        · rw [if_pos g5, if_neg (by decide), if_neg (by decide), if_neg (by decide), if_neg (by decide), if_pos rfl] at h
          exact TA_jce a5 (TA_jbf (yes _ (by rw [decide_eq_true g5.1, decide_eq_true g5.2]; rfl)) h)
        · rw [if_neg g5] at h
          refine TA_jce a5 (TA_jbt (no _ (fun z => g5 (by simpa using z))) ?_)
          by_cases g6 : grC (t.getD 0 0) = 89 ∧ grC (t.getD 1 0) = 68
          · rw [if_pos g6, if_neg (by decide), if_neg (by decide), if_neg (by decide), if_neg (by decide), if_neg (by decide), if_pos rfl] at h
            exact TA_jce a6 (TA_jbf (yes _ (by rw [decide_eq_true g6.1, decide_eq_true g6.2]; rfl)) h)
          · rw [if_neg g6] at h
            exact TA_jce a6 (TA_jbt (no _ (fun z => g6 (by simpa using z))) h)
    · rw [if_neg l2] at h
      rw [decide_eq_false l2, Bool.false_and] at a4 a5 a6
      exact TA_jce a1 (TA_jbt rfl (TA_jce a2 (TA_jbt rfl (TA_jce a3 (TA_jbt rfl (TA_jce a4 (TA_jbt rfl (TA_jce a5 (TA_jbt rfl (TA_jce a6 (TA_jbt rfl h)))))))))))
/-- the day on which so many months are over -/
def ov (m : Nat) (d : Nat) (k : Int) : Int := if fD ((m : Int) + k + 1) < fD ((m : Int) + k) + ((d : Int) - fD (m : Int)) then fD ((m : Int) + k + 1) else fD ((m : Int) + k) + ((d : Int) - fD (m : Int))
theorem over_c {d m : Nat} {k : Int} (hd : d ≤ 2958466) (h1 : fD (m : Int) ≤ (d : Int)) (h2 : (d : Int) < fD ((m : Int) + 1)) (k1 : -300000 ≤ k) (k2 : k ≤ 300000) : f_da_over (nI d) (iZ k) = some (iZ (ov m d k)) := by
  obtain ⟨m', e, q1, q2, q3, q4⟩ := monthOf_c hd
  have : (m' : Int) = (m : Int) := fD_uniq q1 q2 h1 h2
  have hm : m' = m := by omega
  subst hm
  have hb := fD_bd (m := (m' : Int) + k) (by omega) (by omega)
  have hb1 := fD_bd (m := (m' : Int) + k + 1) (by omega) (by omega)
  have hup := fD_up (m' : Int)
  refine e_c e (e_c (a := iZ (fD (m' : Int))) (by rw [iZ_nI]; exact firstOf_c (by omega) (by omega)) (e_n ?_))
  have e1 : nI m' + iZ k + 1 = iZ ((m' : Int) + k + 1) := by
    rw [iZ_nI]
    show iZ (m' : Int) + iZ k + iZ 1 = _
    rw [iZ_add, iZ_add]
  have e2 : nI m' + iZ k = iZ ((m' : Int) + k) := by rw [iZ_nI, iZ_add]
  rw [e1, e2]
  refine e_c (firstOf_c (by omega) (by omega)) (e_c (firstOf_c (by omega) (by omega)) ?_)
  rw [iZ_nI d, iZ_sub, iZ_add]
  unfold ov
  by_cases g : fD ((m' : Int) + k + 1) < fD ((m' : Int) + k) + ((d : Int) - fD (m' : Int))
  · rw [if_pos g]
    exact e_c (e_bt ((iZ_ltI (by omega) (by omega) (by omega) (by omega)).mpr g) rfl) rfl
  · rw [if_neg g]
    exact e_c (e_bf (fun z => g ((iZ_ltI (by omega) (by omega) (by omega) (by omega)).mp z)) rfl) rfl
theorem over_m {d m t : Nat} {k : Int} {M : GS} (hd : d ≤ 2958466) (hm1 : 20000 ≤ m) (hm2 : m ≤ 130000) (h1 : fD (m : Int) ≤ (d : Int)) (h2 : (d : Int) < fD ((m : Int) + 1)) (k1 : -300000 ≤ k) (k2 : k ≤ 300000) (ht : (t : Int) = (d : Int) - fD (m : Int) + 1) : f_mo_monthsOver M (nI (m / 12)) (nI (m % 12 + 1)) (nI t) (iZ k) = some (jZ (ov m d k)) := by
  have hb := fD_bd (m := (m : Int) + k) (by omega) (by omega)
  have hb1 := fD_bd (m := (m : Int) + k + 1) (by omega) (by omega)
  have hup := fD_up (m : Int)
  have eA : ((((12 : Int64) * (nI (m / 12)).toInt64) + (nI (m % 12 + 1)).toInt64) - 1) + (iZ k).toInt64 = jZ ((m : Int) + k) := by
    rw [nI_l (by omega), nI_l (by omega), iZ_j (by omega) (by omega), jZ_lN, jZ_lN]
    show jZ 12 * jZ ((m / 12 : Nat) : Int) + jZ ((m % 12 + 1 : Nat) : Int) - jZ 1 + jZ k = _
    rw [jZ_mul, jZ_add, jZ_sub, jZ_add]
    congr 1
    omega
  have eB : (((12 : Int64) * (nI (m / 12)).toInt64) + (nI (m % 12 + 1)).toInt64) + (iZ k).toInt64 = jZ ((m : Int) + k + 1) := by
    rw [nI_l (by omega), nI_l (by omega), iZ_j (by omega) (by omega), jZ_lN, jZ_lN]
    show jZ 12 * jZ ((m / 12 : Nat) : Int) + jZ ((m % 12 + 1 : Nat) : Int) + jZ k = _
    rw [jZ_mul, jZ_add, jZ_add]
    congr 1
    omega
  unfold f_mo_monthsOver
  rw [eA, eB]
  refine e_c (monthFirst_m (by omega) (by omega)) (e_c (monthFirst_m (by omega) (by omega)) ?_)
  have eC : jZ (fD ((m : Int) + k)) + (nI t).toInt64 - 1 = jZ (fD ((m : Int) + k) + ((d : Int) - fD (m : Int))) := by
    rw [nI_l (by omega), jZ_lN]
    show jZ (fD ((m : Int) + k)) + jZ (t : Int) - jZ 1 = _
    rw [jZ_add, jZ_sub]
    congr 1
    omega
  rw [eC]
  obtain ⟨-, -, c⟩ := lcmp_j (a := fD ((m : Int) + k) + ((d : Int) - fD (m : Int))) (b := fD ((m : Int) + k + 1)) (by omega) (by omega) (by omega) (by omega)
  unfold ov
  by_cases g : fD ((m : Int) + k + 1) < fD ((m : Int) + k) + ((d : Int) - fD (m : Int))
  · rw [if_pos g]
    exact e_bt (c.mpr (by omega)) rfl
  · rw [if_neg g]
    by_cases g2 : fD ((m : Int) + k + 1) ≤ fD ((m : Int) + k) + ((d : Int) - fD (m : Int))
    · rw [show fD ((m : Int) + k) + ((d : Int) - fD (m : Int)) = fD ((m : Int) + k + 1) by omega]
      exact e_bt ((lcmp_j (by omega) (by omega) (by omega) (by omega)).2.2.mpr (Int.le_refl _)) rfl
    · exact e_bf (fun z => g2 (c.mp z)) rfl
/-- what both tell of days a and b, k whole months apart -/
def dif (ma a b k w : Nat) : Int := if w = 1 then ((k / 12 : Nat) : Int) else if w = 2 then (k : Int) else if w = 3 then (b : Int) - (a : Int) else if w = 4 then ((k % 12 : Nat) : Int) else if w = 5 then (b : Int) - ov ma a (k : Int) else (b : Int) - ov ma a ((12 * (k / 12) : Nat) : Int)
theorem ov_bd {d m : Nat} {k : Int} (hd : d ≤ 2958466) (hm1 : 20000 ≤ m) (hm2 : m ≤ 130000) (h1 : fD (m : Int) ≤ (d : Int)) (h2 : (d : Int) < fD ((m : Int) + 1)) (k1 : -300000 ≤ k) (k2 : k ≤ 300000) : -50000000 ≤ ov m d k ∧ ov m d k ≤ 50000000 := by
  have hb := fD_bd (m := (m : Int) + k) (by omega) (by omega)
  have hb1 := fD_bd (m := (m : Int) + k + 1) (by omega) (by omega)
  have hup := fD_up (m : Int)
  unfold ov
  split <;> omega
theorem x_datedif {n u h : Nat} {cs0 cs : CS} {ms0 ms : GS} (I : CI n u h cs0 ms0 cs ms) (hn : 2 < n) : Sm 900 13000 (f_da_difference cs) (f_mo_difference ms) (XE n u h cs0 ms0) := by
  obtain ⟨⟨x, c1⟩, ex, ⟨x', m1⟩, em, a1, a0, ⟨a, ha, rfl, a3⟩, ⟨a', ha', rfl⟩, a5⟩ := k_day I (i := 0) (by omega)
  dsimp only at *
  obtain ⟨⟨y, c2⟩, ey, ⟨y', m2⟩, em2, b1, b0, ⟨b, hb, rfl, b3⟩, ⟨b', hb', rfl⟩, b5⟩ := k_day a1 (i := 1) (by omega)
  dsimp only at *
  refine Sm_Lc ex (Sm_c em (Sm_Lc ey (Sm_c em2 ?_)))
  refine Sm_jj (k_text b1 (i := 2) hn) (fun ⟨t, c3⟩ m3 ⟨d1, d0, d2, d3, d4⟩ => ?_)
  dsimp only at *
  refine Sm_R (way_m d2 d3) ?_
  have hv : c3.1 1 6 = 0 → nI a' = nI a ∧ nI b' = nI b := fun z => ⟨a3 (b0 (d0 z)), b3 (d0 z)⟩
  have R186 : ∀ z, ¬ m3.1 0 22 = 0 → Tr (mo_difference_186 m3 (nI a') (nI b') z) (fun m => Ch SF0 SC m3 m) := fun z he => Tr_jbf he (Tr_some Ch_refl)
  have Y0 : ¬ m3.1 0 22 = 0 → Tr (mo_difference_168 m3 (nI a') (nI b') (nI (wayT t))) (fun m => Ch SF0 SC m3 m) := fun he => Tr_jb (fun _ => Tr_jce (fail_skip he) (R186 _ he)) (fun _ => Tr_jb (fun _ => Tr_jce (fail_skip he) (R186 _ he)) (fun _ => R186 _ he))
  have E0 : ∀ {p q z : Int32}, Tr (mo_difference_180 m3 p q z) (fun m => XE n u h cs0 ms0 (er 6, c3) m) := fun {p q z} => Tr_jc (XE_err d1 (e := 6) (by decide) (by decide)) (fun m ⟨k1, k2, k3⟩ => Tr_jbf k3 (Tr_some k1))
  by_cases hab : a ≤ b
  · have hle : nI a ≤ nI b := nI_le hab (by omega)
    obtain ⟨ma, p1, p2, p3, p4, p5⟩ := monthOf_c (d := a) (by omega)
    obtain ⟨mb, q1, q2, q3, q4, q5⟩ := monthOf_c (d := b) (by omega)
    have p6 := dayInMonth_c (d := a) (by omega) p2 p3
    have q6 := dayInMonth_c (d := b) (by omega) q2 q3
    have upa := fD_up (ma : Int)
    have upb := fD_up (mb : Int)
    have hmab : ma ≤ mb := by
      refine Nat.le_of_not_lt fun z => ?_
      have := fD_mono (a := (mb : Int) + 1) (b := (ma : Int)) (by omega)
      omega
    have hba := fD_bd (m := (ma : Int)) (by omega) (by omega)
    have hbb := fD_bd (m := (mb : Int)) (by omega) (by omega)
    -- whole months
    obtain ⟨k, hk1, hkX, hkO, hkO1⟩ : ∃ k : Nat, k ≤ mb - ma ∧ (∀ {C S : Nat} {R : VV × CS → Prop}, TA C S (da_difference_63 c3 (nI a) (nI b) t (nI k)) R → TA C S (jb (iZ ((a : Int) - fD (ma : Int) + 1) ≤ iZ ((b : Int) - fD (mb : Int) + 1)) (da_difference_63 c3 (nI a) (nI b) t (nI mb - nI ma)) (jn ((nI mb - nI ma) + (-1)) (fun v32 => da_difference_63 c3 (nI a) (nI b) t v32))) R) ∧ ov ma a (k : Int) ≤ (b : Int) ∧ ∀ j : Nat, k < j → j ≤ mb - ma + 1 → (b : Int) < ov ma a (j : Int) := by
      have hK : nI mb - nI ma = nI (mb - ma) := nI_sub hmab
      have eK : (ma : Int) + ((mb - ma : Nat) : Int) = (mb : Int) := by omega
      have top : (b : Int) < ov ma a ((mb - ma + 1 : Nat) : Int) := by
        unfold ov
        rw [show (ma : Int) + ((mb - ma + 1 : Nat) : Int) = (mb : Int) + 1 by omega]
        have := fD_up ((mb : Int) + 1)
        split <;> omega
      by_cases g : (a : Int) - fD (ma : Int) + 1 ≤ (b : Int) - fD (mb : Int) + 1
      · refine ⟨mb - ma, Nat.le_refl _, fun q => TA_jbt ((iZ_leI (by omega) (by omega) (by omega) (by omega)).mpr g) (by rw [hK]; exact q), ?_, fun j j1 j2 => ?_⟩
        · unfold ov
          rw [eK]
          split <;> omega
        · rw [show j = mb - ma + 1 by omega]; exact top
      · have hpos : 1 ≤ mb - ma := by
          refine Nat.le_of_not_lt fun z => g ?_
          have e : ma = mb := by omega
          rw [e]; omega
        refine ⟨mb - ma - 1, by omega, fun q => TA_jbf (fun z => g ((iZ_leI (by omega) (by omega) (by omega) (by omega)).mp z)) (TA_jn ?_), ?_, fun j j1 j2 => ?_⟩
        · rw [hK, i_m1, nI_pre (by omega)]
          exact q
        · unfold ov
          rw [show (ma : Int) + ((mb - ma - 1 : Nat) : Int) + 1 = (mb : Int) by omega]
          split <;> omega
        · have hj : j = mb - ma ∨ j = mb - ma + 1 := by omega
          rcases hj with rfl | rfl
          · unfold ov
            rw [eK]
            split <;> omega
          · exact top
    have hk300 : k ≤ 110000 := by omega
    have hX : ∀ {R : VV × CS → Prop}, TA (900 - 4) (13000 - 40) (da_difference_63 c3 (nI a) (nI b) t (nI k)) R → TA (900 - 4) (13000 - 40) (jb (nI a ≤ nI b) (jc (f_ca_monthOf (nI b)) (fun q27 => jc (f_ca_monthOf (nI a)) (fun q28 => jn (q27 - q28) (fun v29 => jc (f_ca_dayInMonth (nI b)) (fun q30 => jc (f_ca_dayInMonth (nI a)) (fun q31 => jb (q31 ≤ q30) (da_difference_63 c3 (nI a) (nI b) t v29) (jn (v29 + (-1)) (fun v32 => da_difference_63 c3 (nI a) (nI b) t v32)))))))) (jd (f_vl_ofError 6) (fun q33 => some ((q33, c3), 0, 0)))) R := fun q => TA_jbt hle (TA_jce q1 (TA_jce p1 (TA_jn (TA_jce q6 (TA_jce p6 (hkX q))))))
    have d12 : nI k / 12 = nI (k / 12) := nI_div (b := 12) (by omega) (by decide)
    have m12 : nI k - nI k / 12 * 12 = nI (k % 12) := nI_mod (b := 12) (by omega) (by decide)
    have eab : nI b - nI a = iZ ((b : Int) - (a : Int)) := by rw [iZ_nI, iZ_nI, iZ_sub]
    have o5 := ov_bd (k := (k : Int)) (by omega) p4 p5 p2 p3 (by omega) (by omega)
    have o6 := ov_bd (k := ((12 * (k / 12) : Nat) : Int)) (by omega) p4 p5 p2 p3 (by omega) (by omega)
    by_cases hw : wayT t = 0
    · refine Sm_fin d1 (V := er 6) (hX (way_c d2 (fun w hwe => ?_))) Y0 (fun hf he => ?_)
      · rw [hwe, hw]
        exact TA_vl rfl
      · obtain ⟨v1, v2⟩ := hv hf
        rw [v1, v2, hw]
        exact Tr_jbf (nI_nlt hab (by omega)) (Tr_jbt rfl E0)
    · have hw6 : wayT t ≤ 6 := by
        unfold wayT
        split
        · split
          · decide
          · split
            · decide
            · split <;> decide
        · split
          · split
            · decide
            · split
              · decide
              · split <;> decide
          · decide
      generalize hwg : wayT t = w at *
      have hwc : w = 1 ∨ w = 2 ∨ w = 3 ∨ w = 4 ∨ w = 5 ∨ w = 6 := by omega
      have hdb : -60000000 ≤ dif ma a b k w ∧ dif ma a b k w ≤ 60000000 := by
        rcases hwc with rfl | rfl | rfl | rfl | rfl | rfl
        · show -60000000 ≤ ((k / 12 : Nat) : Int) ∧ ((k / 12 : Nat) : Int) ≤ 60000000
          omega
        · show -60000000 ≤ (k : Int) ∧ (k : Int) ≤ 60000000
          omega
        · show -60000000 ≤ (b : Int) - (a : Int) ∧ (b : Int) - (a : Int) ≤ 60000000
          omega
        · show -60000000 ≤ ((k % 12 : Nat) : Int) ∧ ((k % 12 : Nat) : Int) ≤ 60000000
          omega
        · show -60000000 ≤ (b : Int) - ov ma a (k : Int) ∧ (b : Int) - ov ma a (k : Int) ≤ 60000000
          omega
        · show -60000000 ≤ (b : Int) - ov ma a ((12 * (k / 12) : Nat) : Int) ∧ (b : Int) - ov ma a ((12 * (k / 12) : Nat) : Int) ≤ 60000000
          omega
      refine Sm_fin d1 (V := (1, FP.i2d (iZ (dif ma a b k w)), [])) (hX (way_c d2 (fun w' hwe => ?_))) Y0 (fun hf he => ?_)
      · rw [hwe, hwg]
        rcases hwc with rfl | rfl | rfl | rfl | rfl | rfl
        · rw [if_pos rfl, d12, iZ_nI]; exact TA_vl rfl
        · rw [if_neg (by decide), if_pos rfl, iZ_nI]; exact TA_vl rfl
        · rw [if_neg (by decide), if_neg (by decide), if_pos rfl, eab]; exact TA_vl rfl
        · rw [if_neg (by decide), if_neg (by decide), if_neg (by decide), if_pos rfl, m12, iZ_nI]; exact TA_vl rfl
        · rw [if_neg (by decide), if_neg (by decide), if_neg (by decide), if_neg (by decide), if_pos rfl]
          refine TA_jce (a := iZ (ov ma a (k : Int))) (by rw [iZ_nI k]; exact over_c (by omega) p2 p3 (by omega) (by omega)) ?_
          rw [iZ_nI b, iZ_sub]
          exact TA_vl rfl
        · rw [if_neg (by decide), if_neg (by decide), if_neg (by decide), if_neg (by decide), if_neg (by decide), if_pos rfl]
          have e12 : nI k - (nI k - nI k / 12 * 12) = iZ ((12 * (k / 12) : Nat) : Int) := by
            rw [m12, nI_sub (Nat.mod_le _ _), iZ_nI]
            congr 1
            omega
          rw [e12]
          refine TA_jce (over_c (by omega) p2 p3 (by omega) (by omega)) ?_
          rw [iZ_nI b, iZ_sub]
          exact TA_vl rfl
      · obtain ⟨v1, v2⟩ := hv hf
        rw [v1, v2]
        obtain ⟨M1, eM1, D1, hch1⟩ := dateOf_m (d := b) (by omega) m3
        obtain ⟨M2, eM2, D2, hch2⟩ := dateOf_m (d := a) (by omega) M1
        obtain ⟨tb, tb1, tb2, tb3, tb4, tb5, tb6⟩ := DT_month D1 q2 q3
        obtain ⟨ta, ta1, ta2, ta3, ta4, ta5, ta6⟩ := DT_month D2 p2 p3
        have IM := CI_ref d1 (Ch_trans hch1 hch2 (fun _ z => z) (fun _ z => z)) (by decide) (by decide) (by decide)
        refine Tr_jbf (nI_nlt hab (by omega)) (Tr_jbf (fun z => hw ((nI_eq (b := 0) (by omega) (by decide)).mp z)) (Tr_jbt he (Tr_jce eM1 (Tr_jn (Tr_jce eM2 (Tr_jn ?_))))))
        have e8 : (12 * (M1.1 0 42)) + (M1.1 0 43) - 12 * (M2.1 0 42) - (M2.1 0 43) + 1 = nI (mb - ma + 1) := by
          rw [tb1, tb2, ta1, ta2, iZ_nI, iZ_nI, iZ_nI, iZ_nI, iZ_nI]
          show iZ 12 * iZ ((mb / 12 : Nat) : Int) + iZ ((mb % 12 + 1 : Nat) : Int) - iZ 12 * iZ ((ma / 12 : Nat) : Int) - iZ ((ma % 12 + 1 : Nat) : Int) + iZ 1 = _
          rw [iZ_mul, iZ_mul, iZ_add, iZ_sub, iZ_sub, iZ_add]
          congr 1
          omega
        rw [e8]
        have ovm : ∀ z : Int, -300000 ≤ z → z ≤ 300000 → f_mo_monthsOver M2 (M2.1 0 42) (M2.1 0 43) (M2.1 0 44) (iZ z) = some (jZ (ov ma a z)) := fun z z1 z2 => by
          rw [ta1, ta2, ta3]
          exact over_m (by omega) p4 p5 p2 p3 z1 z2 ta4
        have loop : ∀ (j x fu : Nat), k + j = x → j + 1 < fu → x ≤ mb - ma + 1 → Tr (mo_difference_237 fu M2 (nI a) (nI b) (nI w) (nI x)) (fun m => XE n u h cs0 ms0 ((1, FP.i2d (iZ (dif ma a b k w)), []), c3) m) := by
          intro j
          induction j with
          | zero =>
            intro x fu hx hfu hxl
            obtain ⟨g, rfl⟩ : ∃ g, fu = g + 1 := ⟨fu - 1, by omega⟩
            obtain rfl : x = k := by omega
            have c5 := (lcmp_j (a := ov ma a (x : Int)) (b := (b : Int)) (by omega) (by omega) (by omega) (by omega)).2.1
            refine Tr_jce (a := jZ (ov ma a (x : Int))) (by rw [iZ_nI x]; exact ovm _ (by omega) (by omega)) (Tr_jbt (by rw [nI_l (by omega), jZ_lN]; exact c5.mpr hkO) ?_)
            have ans : ∀ (v : UInt64), FP.i2d (iZ (dif ma a b x w)) = v → Tr (mo_difference_366 M2 v) (fun m => XE n u h cs0 ms0 ((1, FP.i2d (iZ (dif ma a b x w)), []), c3) m) := fun v hv => Tr_jc (XE_num IM (fun _ => hv)) (fun m hm => Tr_some hm)
            have w5 : ∀ q : Int, -50000000 ≤ q → q ≤ 50000000 → dif ma a b x w = (b : Int) - q → FP.i2d (iZ (dif ma a b x w)) = FP.l2d ((nI b).toInt64 - jZ q) := fun q z1 z2 hq => by
              rw [hq, nI_l (by omega), jZ_lN, jZ_sub]
              exact num_eq (by omega) (by omega)
            have h299 : ∀ (z q : Int), -300000 ≤ z → z ≤ 300000 → q = ov ma a z → -50000000 ≤ q → q ≤ 50000000 → (w = 5 ∨ w = 6 → dif ma a b x w = (b : Int) - q) → Tr (mo_difference_299 M2 (nI a) (nI b) (nI w) (nI x) (M2.1 0 42) (M2.1 0 43) (M2.1 0 44) (iZ z)) (fun m => XE n u h cs0 ms0 ((1, FP.i2d (iZ (dif ma a b x w)), []), c3) m) := fun z q z1 z2 hq z3 z4 z5 => by
              refine Tr_jce (ovm z z1 z2) ?_
              rw [← hq]
              rcases hwc with rfl | rfl | rfl | rfl | rfl | rfl
              · refine Tr_jbt rfl (ans _ ?_)
                rw [d12, iZ_nI]
                rfl
              · refine Tr_jbf (by decide) (Tr_jbt rfl (ans _ ?_))
                rw [iZ_nI]
                rfl
              · refine Tr_jbf (by decide) (Tr_jbf (by decide) (Tr_jbt rfl (ans _ ?_)))
                rw [eab]
                rfl
              · refine Tr_jbf (by decide) (Tr_jbf (by decide) (Tr_jbf (by decide) (Tr_jbt rfl (ans _ ?_))))
                rw [m12, iZ_nI]
                rfl
              · exact Tr_jbf (by decide) (Tr_jbf (by decide) (Tr_jbf (by decide) (Tr_jbf (by decide) (ans _ (w5 q z3 z4 (z5 (Or.inl rfl)))))))
              · exact Tr_jbf (by decide) (Tr_jbf (by decide) (Tr_jbf (by decide) (Tr_jbf (by decide) (ans _ (w5 q z3 z4 (z5 (Or.inr rfl)))))))
            by_cases hw5 : w = 5
            · refine Tr_jbt (by rw [hw5]; rfl) ?_
              have := h299 (x : Int) _ (by omega) (by omega) rfl o5.1 o5.2 (fun _ => by rw [hw5]; rfl)
              rw [← iZ_nI] at this
              exact this
            · refine Tr_jbf (fun z => hw5 ((nI_eq (b := 5) (by omega) (by decide)).mp z)) ?_
              have e12 : nI x / 12 * 12 = iZ ((12 * (x / 12) : Nat) : Int) := by
                rw [d12]
                show nI (x / 12) * nI 12 = _
                rw [nI_mul, iZ_nI, Nat.mul_comm]
              rw [e12]
              refine h299 _ _ (by omega) (by omega) rfl o6.1 o6.2 (fun z => ?_)
              have : w = 6 := by omega
              rw [this]; rfl
          | succ j ih =>
            intro x fu hx hfu hxl
            obtain ⟨g, rfl⟩ : ∃ g, fu = g + 1 := ⟨fu - 1, by omega⟩
            have hbig := hkO1 x (by omega) hxl
            have hob := ov_bd (k := (x : Int)) (by omega) p4 p5 p2 p3 (by omega) (by omega)
            have c5 := (lcmp_j (a := ov ma a (x : Int)) (b := (b : Int)) (by omega) (by omega) (by omega) (by omega)).2.1
            refine Tr_jce (a := jZ (ov ma a (x : Int))) (by rw [iZ_nI x]; exact ovm _ (by omega) (by omega)) (Tr_jbf (fun z => ?_) (Tr_jn ?_))
            · rw [nI_l (by omega), jZ_lN] at z
              have := c5.mp z
              omega
            · rw [i_m1, nI_pre (by omega)]
              exact ih (x - 1) g (by omega) (by omega) (by omega)
        exact loop (mb - ma + 1 - k) (mb - ma + 1) FU (by omega) (FU_lt (by omega)) (Nat.le_refl _)
  · refine Sm_fin d1 (V := er 6) (TA_jbf (nI_ge (by omega) (by omega)) (TA_vl rfl)) Y0 (fun hf he => ?_)
    obtain ⟨v1, v2⟩ := hv hf
    rw [v1, v2]
    exact Tr_jbt (nI_lt (by omega) (by omega)) E0
