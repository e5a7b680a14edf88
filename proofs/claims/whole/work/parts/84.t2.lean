/-! ### DATE .. DAYS -/
theorem num_eq {v : Int} (h1 : -2147483648 ≤ v) (h2 : v < 2147483648) : FP.i2d (iZ v) = FP.l2d (jZ v) := (FP.Core.i2d_l2d _).trans (by rw [iZ_j h1 h2])
theorem m1e5 : (-100000 : Int32) = iZ (-100000) := by decide
def dayV (v : Int) : VV := if 0 ≤ v ∧ v ≤ 2958465 then (1, FP.i2d (iZ v), []) else er 6
theorem lcmp_j {a b : Int} (h1 : -9223372036854775808 ≤ a) (h2 : a < 9223372036854775808) (h3 : -9223372036854775808 ≤ b) (h4 : b < 9223372036854775808) : ((lg_cmp (jZ a) (jZ b) < 0) ↔ a < b) ∧ ((lg_cmp (jZ a) (jZ b) ≤ 0) ↔ a ≤ b) ∧ ((0 ≤ lg_cmp (jZ a) (jZ b)) ↔ b ≤ a) := by
  rw [lg_cmp_lt, lg_cmp_le, lg_cmp_ge, Int64.lt_iff_toInt_lt, Int64.le_iff_toInt_le, Int64.le_iff_toInt_le, jZ_toInt h1 h2, jZ_toInt h3 h4]
  exact ⟨Iff.rfl, Iff.rfl, Iff.rfl⟩
theorem dOE_c {v : Int} {st : CS} {C S : Nat} (h1 : -2147483648 ≤ v) (h2 : v < 2147483648) (hC : 1 ≤ C := by decide) (hS : 3 ≤ S := by decide) : TA C S (jd (f_da_dateOrError (iZ v)) (fun q2 => some ((q2, st), 0, 0))) (fun r => r = (dayV v, st)) := by
  have e : ∃ x, f_da_dateOrError (iZ v) = some (x, 1, 3) ∧ x = dayV v := by
    unfold dayV
    by_cases g1 : v < 0
    · rw [if_neg (by omega)]
      exact ⟨_, e_c (e_bt ((iZ_ltI (b := 0) h1 h2 (by omega) (by omega)).mpr g1) rfl) (e_bt rfl rfl), rfl⟩
    · have n1 : ¬ iZ v < 0 := fun z => g1 ((iZ_ltI (b := 0) h1 h2 (by omega) (by omega)).mp z)
      by_cases g2 : 2958465 < v
      · rw [if_neg (by omega)]
        exact ⟨_, e_c (e_bf n1 (e_bt ((iZ_ltI (a := 2958465) (by omega) (by omega) h1 h2).mpr g2) rfl)) (e_bt rfl rfl), rfl⟩
      · rw [if_pos (by omega)]
        exact ⟨_, e_c (e_bf n1 (e_bf (fun z => g2 ((iZ_ltI (a := 2958465) (by omega) (by omega) h1 h2).mp z)) rfl)) (e_bf (by decide) rfl), rfl⟩
  obtain ⟨x, ex, hx⟩ := e
  rw [← hx]
  exact TA_mono (TA_jde (c := 0) (s := 0) ex (TA_some (Nat.le_refl _) (Nat.le_refl _) rfl)) (by omega) (by omega) (fun _ z => z.symm)
theorem ansDay_m {n u h : Nat} {cs0 cs : CS} {ms0 ms : GS} {v : Int} (I : CI n u h cs0 ms0 cs ms) (h1 : -2147483648 ≤ v) (h2 : v < 2147483648) : Tr (jc (f_mo_answerDay ms (jZ v)) (fun q2 => some q2)) (fun m => XE n u h cs0 ms0 (dayV v, cs) m) := by
  obtain ⟨c1, -, -⟩ := lcmp_j (a := v) (b := 0) (by omega) (by omega) (by omega) (by omega)
  obtain ⟨-, c2, -⟩ := lcmp_j (a := v) (b := 2958465) (by omega) (by omega) (by omega) (by omega)
  have bad : Tr (mo_answerDay_14 ms (jZ v)) (fun m => XE n u h cs0 ms0 (er 6, cs) m) := Tr_jc (XE_err I (e := 6) (by decide) (by decide)) (fun m ⟨k1, k2, k3⟩ => Tr_jc answerAny_m (fun r hr => Tr_some (XE_ch k1 hr k3 (by decide) (by decide) (by decide))))
  have fin : Tr (f_mo_answerDay ms (jZ v)) (fun m => XE n u h cs0 ms0 (dayV v, cs) m) := by
    unfold dayV
    by_cases g1 : v < 0
    · rw [if_neg (by omega)]
      exact Tr_jbt (c1.mpr g1) bad
    · by_cases g2 : v ≤ 2958465
      · rw [if_pos (by omega)]
        exact Tr_jbf (fun z => g1 (c1.mp z)) (Tr_jbt (c2.mpr g2) (Tr_jc (XE_num I (fun _ => num_eq h1 h2)) (fun m hm => Tr_some hm)))
      · rw [if_neg (by omega)]
        exact Tr_jbf (fun z => g1 (c1.mp z)) (Tr_jbf (fun z => g2 (c2.mp z)) bad)
  exact Tr_jc fin (fun m hm => Tr_some hm)
/-- a whole of an argument, as an integer -/
theorem iB_Z {x : Int32} (h : iB x) : ∃ v : Int, -1000000000 ≤ v ∧ v ≤ 1000000000 ∧ x = iZ v := ⟨x.toInt, h.1, h.2, iZ_self x⟩
theorem isFar_c {v : Int} (h1 : -1000000000 ≤ v) (h2 : v ≤ 1000000000) : f_da_isFar (iZ v) = some (if -100000 ≤ v ∧ v ≤ 100000 then 0 else 1) := by
  by_cases g1 : v < -100000
  · rw [if_neg (by omega)]
    exact e_bt ((iZ_ltI (b := -100000) (by omega) (by omega) (by omega) (by omega)).mpr g1) rfl
  · by_cases g2 : v ≤ 100000
    · rw [if_pos (by omega)]
      exact e_bf (fun z => g1 ((iZ_ltI (b := -100000) (by omega) (by omega) (by omega) (by omega)).mp z)) (e_bt ((iZ_leI (b := 100000) (by omega) (by omega) (by omega) (by omega)).mpr g2) rfl)
    · rw [if_neg (by omega)]
      exact e_bf (fun z => g1 ((iZ_ltI (b := -100000) (by omega) (by omega) (by omega) (by omega)).mp z)) (e_bf (fun z => g2 ((iZ_leI (b := 100000) (by omega) (by omega) (by omega) (by omega)).mp z)) rfl)
theorem x_date {n u h : Nat} {cs0 cs : CS} {ms0 ms : GS} (I : CI n u h cs0 ms0 cs ms) (hn : 2 < n) : Sm 900 13000 (f_da_date cs) (f_mo_date ms) (XE n u h cs0 ms0) := by
  refine Sm_j0 (k_whole I (i := 0) (by omega)) (fun ⟨x, c1⟩ ⟨x', m1⟩ ⟨a1, a0, a2, a3, a4, a5⟩ => ?_)
  refine Sm_j0 (k_whole a1 (i := 1) (by omega)) (fun ⟨y, c2⟩ ⟨y', m2⟩ ⟨b1, b0, b2, b3, b4, b5⟩ => ?_)
  refine Sm_j0 (k_whole b1 (i := 2) (by omega)) (fun ⟨w, c3⟩ ⟨w', m3⟩ ⟨d1, d0, d2, d3, d4, d5⟩ => ?_)
  dsimp only at *
  have hv : c3.1 1 6 = 0 → x' = x ∧ y' = y ∧ w' = w := fun z => ⟨a4 (b0 (d0 z)), b4 (d0 z), d4 z⟩
  obtain ⟨vx, x1, x2, rfl⟩ := iB_Z a2
  obtain ⟨vy, y1, y2, rfl⟩ := iB_Z b2
  obtain ⟨vw, w1, w2, rfl⟩ := iB_Z d2
  have R63 : ¬ m3.1 0 22 = 0 → Tr (mo_date_63 m3 x' y' w') (fun m => Ch SF0 SC m3 m) := fun he => Tr_jbf he (Tr_some Ch_refl)
  have R57 : ¬ m3.1 0 22 = 0 → Tr (mo_date_57 m3 x' y' w') (fun m => Ch SF0 SC m3 m) := fun he => Tr_jce (fail_skip he) (R63 he)
  have Y0 : ¬ m3.1 0 22 = 0 → Tr (jb (x' < 0) (mo_date_57 m3 x' y' w') (jb (9999 < x') (mo_date_57 m3 x' y' w') (jb (100000 < y') (mo_date_57 m3 x' y' w') (jb (y' < (-100000)) (mo_date_57 m3 x' y' w') (jb (100000 < w') (mo_date_57 m3 x' y' w') (jb ((-100000) ≤ w') (mo_date_63 m3 x' y' w') (mo_date_57 m3 x' y' w'))))))) (fun m => Ch SF0 SC m3 m) := fun he =>
    Tr_jb (fun _ => R57 he) (fun _ => Tr_jb (fun _ => R57 he) (fun _ => Tr_jb (fun _ => R57 he) (fun _ => Tr_jb (fun _ => R57 he) (fun _ => Tr_jb (fun _ => R57 he) (fun _ => Tr_jb (fun _ => R63 he) (fun _ => R57 he))))))
  have E0 : ∀ {a b c : Int32}, Tr (mo_date_57 m3 a b c) (fun m => XE n u h cs0 ms0 (er 6, c3) m) := fun {a b c} => Tr_jc (XE_err d1 (e := 6) (by decide) (by decide)) (fun m ⟨k1, k2, k3⟩ => Tr_jbf k3 (Tr_some k1))
  have X0 : TA 900 13000 (da_date_52 c3) (fun r => r = (er 6, c3)) := TA_vl rfl
  have lt : ∀ a b : Int, -1000000000 ≤ a → a ≤ 1000000000 → -1000000000 ≤ b → b ≤ 1000000000 → (iZ a < iZ b ↔ a < b) := fun a b p q r s => iZ_ltI (by omega) (by omega) (by omega) (by omega)
  have le : ∀ a b : Int, -1000000000 ≤ a → a ≤ 1000000000 → -1000000000 ≤ b → b ≤ 1000000000 → (iZ a ≤ iZ b ↔ a ≤ b) := fun a b p q r s => iZ_leI (by omega) (by omega) (by omega) (by omega)
  by_cases g1 : vx < 0
  · exact Sm_fin d1 (V := er 6) (TA_jbt ((lt vx 0 x1 x2 (by omega) (by omega)).mpr g1) X0) Y0 (fun hf he => by
      obtain ⟨e1, e2, e3⟩ := hv hf
      rw [e1, e2, e3]
      exact Tr_jbt ((lt vx 0 x1 x2 (by omega) (by omega)).mpr g1) E0)
  have n1 : ¬ iZ vx < 0 := fun z => g1 ((lt vx 0 x1 x2 (by omega) (by omega)).mp z)
  by_cases g2 : 9999 < vx
  · exact Sm_fin d1 (V := er 6) (TA_jbf n1 (TA_jbt ((lt 9999 vx (by omega) (by omega) x1 x2).mpr g2) X0)) Y0 (fun hf he => by
      obtain ⟨e1, e2, e3⟩ := hv hf
      rw [e1, e2, e3]
      exact Tr_jbf n1 (Tr_jbt ((lt 9999 vx (by omega) (by omega) x1 x2).mpr g2) E0))
  have n2 : ¬ 9999 < iZ vx := fun z => g2 ((lt 9999 vx (by omega) (by omega) x1 x2).mp z)
  have fy := isFar_c y1 y2
  have fw := isFar_c w1 w2
  by_cases g3 : -100000 ≤ vy ∧ vy ≤ 100000
  · rw [if_pos g3] at fy
    have n3 : ¬ 100000 < iZ vy := fun z => by have := (lt 100000 vy (by omega) (by omega) y1 y2).mp z; omega
    have n4 : ¬ iZ vy < -100000 := fun z => by rw [m1e5] at z; have := (lt vy (-100000) y1 y2 (by omega) (by omega)).mp z; omega
    by_cases g4 : -100000 ≤ vw ∧ vw ≤ 100000
    · rw [if_pos g4] at fw
      have n5 : ¬ 100000 < iZ vw := fun z => by have := (lt 100000 vw (by omega) (by omega) w1 w2).mp z; omega
      have n6 : -100000 ≤ iZ vw := (le (-100000) vw (by omega) (by omega) w1 w2).mpr g4.1
      -- the year
      obtain ⟨Y, hY1, hY2, hXY, hMY⟩ : ∃ Y : Int, 0 ≤ Y ∧ Y ≤ 20000 ∧ (∀ {R : VV × CS → Prop}, TA 900 13000 (da_date_74 c3 (iZ vy) (iZ vw) (iZ Y)) R → TA 900 13000 (jb (1900 ≤ iZ vx) (da_date_74 c3 (iZ vy) (iZ vw) (iZ vx)) (da_date_74 c3 (iZ vy) (iZ vw) (iZ vx + 1900))) R) ∧ (∀ {R : GS → Prop}, Tr (mo_date_91 m3 (iZ vy) (iZ vw) (12 : Int64) (iZ Y)) R → Tr (jb (1900 ≤ iZ vx) (mo_date_91 m3 (iZ vy) (iZ vw) (12 : Int64) (iZ vx)) (mo_date_91 m3 (iZ vy) (iZ vw) (12 : Int64) (iZ vx + 1900))) R) := by
        by_cases g : 1900 ≤ vx
        · have g' : 1900 ≤ iZ vx := (le 1900 vx (by omega) (by omega) x1 x2).mpr g
          exact ⟨vx, by omega, by omega, fun q => TA_jbt g' q, fun {R} q => Tr_jbt g' q⟩
        · have g' : ¬ 1900 ≤ iZ vx := fun z => g ((le 1900 vx (by omega) (by omega) x1 x2).mp z)
          have e : iZ vx + 1900 = iZ (vx + 1900) := iZ_add vx 1900
          refine ⟨vx + 1900, by omega, by omega, fun q => TA_jbf g' ?_, fun {R} q => Tr_jbf g' ?_⟩
          · rw [e]; exact q
          · rw [e]; exact q
      have hb := fD_bd (m := Y * 12 + vy - 1) (by omega) (by omega)
      refine Sm_fin d1 (V := dayV (fD (Y * 12 + vy - 1) + vw - 1)) (TA_jbf n1 (TA_jbf n2 (TA_jce fy (TA_jbt rfl (TA_jce fw (TA_jbt rfl (hXY ?_))))))) Y0 (fun hf he => ?_)
      · have e : iZ Y * 12 + iZ vy - 1 = iZ (Y * 12 + vy - 1) := by
          show iZ Y * iZ 12 + iZ vy - iZ 1 = _
          rw [iZ_mul, iZ_add, iZ_sub]
        unfold da_date_74
        rw [e]
        refine TA_jce (firstOf_c (by omega) (by omega)) ?_
        have e2 : iZ (fD (Y * 12 + vy - 1)) + iZ vw - 1 = iZ (fD (Y * 12 + vy - 1) + vw - 1) := by
          show iZ (fD (Y * 12 + vy - 1)) + iZ vw - iZ 1 = _
          rw [iZ_add, iZ_sub]
        rw [e2]
        exact dOE_c (by omega) (by omega)
      · obtain ⟨e1, e2, e3⟩ := hv hf
        rw [e1, e2, e3]
        refine Tr_jbf n1 (Tr_jbf n2 (Tr_jbf n3 (Tr_jbf n4 (Tr_jbf n5 (Tr_jbt n6 (Tr_jbt he (hMY ?_)))))))
        have e : (12 : Int64) * (iZ Y).toInt64 + (iZ vy).toInt64 - 1 = jZ (Y * 12 + vy - 1) := by
          rw [iZ_j (by omega) (by omega), iZ_j (by omega) (by omega)]
          show jZ 12 * jZ Y + jZ vy - jZ 1 = _
          rw [jZ_mul, jZ_add, jZ_sub, Int.mul_comm]
        unfold mo_date_91
        rw [e]
        refine Tr_jce (monthFirst_m (by omega) (by omega)) ?_
        have e2 : jZ (fD (Y * 12 + vy - 1)) + (iZ vw).toInt64 - 1 = jZ (fD (Y * 12 + vy - 1) + vw - 1) := by
          rw [iZ_j (by omega) (by omega)]
          show jZ (fD (Y * 12 + vy - 1)) + jZ vw - jZ 1 = _
          rw [jZ_add, jZ_sub]
        rw [e2]
        exact ansDay_m d1 (by omega) (by omega)
    · rw [if_neg g4] at fw
      refine Sm_fin d1 (V := er 6) (TA_jbf n1 (TA_jbf n2 (TA_jce fy (TA_jbt rfl (TA_jce fw (TA_jbf (by decide) X0)))))) Y0 (fun hf he => ?_)
      obtain ⟨e1, e2, e3⟩ := hv hf
      rw [e1, e2, e3]
      refine Tr_jbf n1 (Tr_jbf n2 (Tr_jbf n3 (Tr_jbf n4 ?_)))
      by_cases g5 : 100000 < vw
      · exact Tr_jbt ((lt 100000 vw (by omega) (by omega) w1 w2).mpr g5) E0
      · exact Tr_jbf (fun z => g5 ((lt 100000 vw (by omega) (by omega) w1 w2).mp z)) (Tr_jbf (fun z => by rw [m1e5] at z; have := (le (-100000) vw (by omega) (by omega) w1 w2).mp z; omega) E0)
  · rw [if_neg g3] at fy
    refine Sm_fin d1 (V := er 6) (TA_jbf n1 (TA_jbf n2 (TA_jce fy (TA_jbf (by decide) X0)))) Y0 (fun hf he => ?_)
    obtain ⟨e1, e2, e3⟩ := hv hf
    rw [e1, e2, e3]
    refine Tr_jbf n1 (Tr_jbf n2 ?_)
    by_cases g5 : 100000 < vy
    · exact Tr_jbt ((lt 100000 vy (by omega) (by omega) y1 y2).mpr g5) E0
    · exact Tr_jbf (fun z => g5 ((lt 100000 vy (by omega) (by omega) y1 y2).mp z)) (Tr_jbt (by rw [m1e5]; exact (lt vy (-100000) y1 y2 (by omega) (by omega)).mpr (by omega)) E0)
/-! TIME -/
theorem inTime_c {v : Int} (h1 : -1000000000 ≤ v) (h2 : v ≤ 1000000000) : f_da_isInTime (iZ v) = some (if 0 ≤ v ∧ v ≤ 32767 then 1 else 0) := by
  by_cases g1 : v < 0
  · rw [if_neg (by omega)]
    exact e_bt ((iZ_ltI (b := 0) (by omega) (by omega) (by omega) (by omega)).mpr g1) rfl
  · have n1 : ¬ iZ v < 0 := fun z => g1 ((iZ_ltI (b := 0) (by omega) (by omega) (by omega) (by omega)).mp z)
    by_cases g2 : 32767 < v
    · rw [if_neg (by omega)]
      exact e_bf n1 (e_bt ((iZ_ltI (a := 32767) (by omega) (by omega) (by omega) (by omega)).mpr g2) rfl)
    · rw [if_pos (by omega)]
      exact e_bf n1 (e_bf (fun z => g2 ((iZ_ltI (a := 32767) (by omega) (by omega) (by omega) (by omega)).mp z)) rfl)
theorem c_86400 : (4680673776000565248 : UInt64) = FP.l2d (lN 86400) := by decide +kernel
theorem x_time {n u h : Nat} {cs0 cs : CS} {ms0 ms : GS} (I : CI n u h cs0 ms0 cs ms) (hn : 2 < n) : Sm 900 13000 (f_da_time cs) (f_mo_time ms) (XE n u h cs0 ms0) := by
  refine Sm_j0 (k_whole I (i := 0) (by omega)) (fun ⟨x, c1⟩ ⟨x', m1⟩ ⟨a1, a0, a2, a3, a4, a5⟩ => ?_)
  refine Sm_j0 (k_whole a1 (i := 1) (by omega)) (fun ⟨y, c2⟩ ⟨y', m2⟩ ⟨b1, b0, b2, b3, b4, b5⟩ => ?_)
  refine Sm_j0 (k_whole b1 (i := 2) (by omega)) (fun ⟨w, c3⟩ ⟨w', m3⟩ ⟨d1, d0, d2, d3, d4, d5⟩ => ?_)
  dsimp only at *
  have hv : c3.1 1 6 = 0 → x' = x ∧ y' = y ∧ w' = w := fun z => ⟨a4 (b0 (d0 z)), b4 (d0 z), d4 z⟩
  obtain ⟨vx, x1, x2, rfl⟩ := iB_Z a2
  obtain ⟨vy, y1, y2, rfl⟩ := iB_Z b2
  obtain ⟨vw, w1, w2, rfl⟩ := iB_Z d2
  have R63 : ¬ m3.1 0 22 = 0 → Tr (mo_time_57 m3 x' y' w') (fun m => Ch SF0 SC m3 m) := fun he => Tr_jbf he (Tr_some Ch_refl)
  have R57 : ¬ m3.1 0 22 = 0 → Tr (mo_time_51 m3 x' y' w') (fun m => Ch SF0 SC m3 m) := fun he => Tr_jce (fail_skip he) (R63 he)
  have Y0 : ¬ m3.1 0 22 = 0 → Tr (jb (x' < 0) (mo_time_51 m3 x' y' w') (jb (32767 < x') (mo_time_51 m3 x' y' w') (jb (y' < 0) (mo_time_51 m3 x' y' w') (jb (32767 < y') (mo_time_51 m3 x' y' w') (jb (w' < 0) (mo_time_51 m3 x' y' w') (jb (w' ≤ 32767) (mo_time_57 m3 x' y' w') (mo_time_51 m3 x' y' w'))))))) (fun m => Ch SF0 SC m3 m) := fun he =>
    Tr_jb (fun _ => R57 he) (fun _ => Tr_jb (fun _ => R57 he) (fun _ => Tr_jb (fun _ => R57 he) (fun _ => Tr_jb (fun _ => R57 he) (fun _ => Tr_jb (fun _ => R57 he) (fun _ => Tr_jb (fun _ => R63 he) (fun _ => R57 he))))))
  have E0 : ∀ {a b c : Int32}, Tr (mo_time_51 m3 a b c) (fun m => XE n u h cs0 ms0 (er 6, c3) m) := fun {a b c} => Tr_jc (XE_err d1 (e := 6) (by decide) (by decide)) (fun m ⟨k1, k2, k3⟩ => Tr_jbf k3 (Tr_some k1))
  have X0 : TA 900 13000 (da_time_48 c3) (fun r => r = (er 6, c3)) := TA_vl rfl
  have lt : ∀ a b : Int, -1000000000 ≤ a → a ≤ 1000000000 → -1000000000 ≤ b → b ≤ 1000000000 → (iZ a < iZ b ↔ a < b) := fun a b p q r s => iZ_ltI (by omega) (by omega) (by omega) (by omega)
  have le : ∀ a b : Int, -1000000000 ≤ a → a ≤ 1000000000 → -1000000000 ≤ b → b ≤ 1000000000 → (iZ a ≤ iZ b ↔ a ≤ b) := fun a b p q r s => iZ_leI (by omega) (by omega) (by omega) (by omega)
  have fx := inTime_c x1 x2
  have fy := inTime_c y1 y2
  have fw := inTime_c w1 w2
  by_cases gx : 0 ≤ vx ∧ vx ≤ 32767
  · rw [if_pos gx] at fx
    have nx1 : ¬ iZ vx < 0 := fun z => by have := (lt vx 0 x1 x2 (by omega) (by omega)).mp z; omega
    have nx2 : ¬ 32767 < iZ vx := fun z => by have := (lt 32767 vx (by omega) (by omega) x1 x2).mp z; omega
    by_cases gy : 0 ≤ vy ∧ vy ≤ 32767
    · rw [if_pos gy] at fy
      have ny1 : ¬ iZ vy < 0 := fun z => by have := (lt vy 0 y1 y2 (by omega) (by omega)).mp z; omega
      have ny2 : ¬ 32767 < iZ vy := fun z => by have := (lt 32767 vy (by omega) (by omega) y1 y2).mp z; omega
      by_cases gw : 0 ≤ vw ∧ vw ≤ 32767
      · rw [if_pos gw] at fw
        have nw1 : ¬ iZ vw < 0 := fun z => by have := (lt vw 0 w1 w2 (by omega) (by omega)).mp z; omega
        have nw2 : iZ vw ≤ 32767 := (le vw 32767 w1 w2 (by omega) (by omega)).mpr gw.2
        obtain ⟨T, hT⟩ : ∃ T : Nat, vx * 3600 + vy * 60 + vw = (T : Int) := ⟨(vx * 3600 + vy * 60 + vw).toNat, by omega⟩
        have hT31 : T < 2 ^ 31 := by omega
        have ec : iZ vx * 3600 + iZ vy * 60 + iZ vw - (iZ vx * 3600 + iZ vy * 60 + iZ vw) / 86400 * 86400 = nI (T % 86400) := by
          have e : iZ vx * 3600 + iZ vy * 60 + iZ vw = nI T := by
            show iZ vx * iZ 3600 + iZ vy * iZ 60 + iZ vw = _
            rw [iZ_mul, iZ_mul, iZ_add, iZ_add, hT, ← iZ_nI]
          rw [e]
          exact nI_mod (b := 86400) hT31 (by decide)
        have em : (iZ vx).toInt64 * 3600 + (iZ vy).toInt64 * 60 + (iZ vw).toInt64 - ((iZ vx).toInt64 * 3600 + (iZ vy).toInt64 * 60 + (iZ vw).toInt64) / 86400 * 86400 = lN (T % 86400) := by
          have e : (iZ vx).toInt64 * 3600 + (iZ vy).toInt64 * 60 + (iZ vw).toInt64 = lN T := by
            rw [iZ_j (by omega) (by omega), iZ_j (by omega) (by omega), iZ_j (by omega) (by omega)]
            show jZ vx * jZ 3600 + jZ vy * jZ 60 + jZ vw = _
            rw [jZ_mul, jZ_mul, jZ_add, jZ_add, hT, ← jZ_lN]
          rw [e]
          exact lN_mod (b := 86400) (by omega) (by decide)
        have ed : FP.i2d (nI (T % 86400)) = FP.l2d (lN (T % 86400)) := by
          rw [iZ_nI, jZ_lN]
          exact num_eq (by omega) (by omega)
        obtain ⟨z, hz, -⟩ := DV_quot (a := T % 86400) (b := 86400) (by omega) (by decide) (by decide)
        rw [← c_86400] at hz
        refine Sm_fin d1 (V := (1, FP.ddiv (FP.l2d (lN (T % 86400))) 4680673776000565248, [])) (TA_jce fx (TA_jbf (by decide) (TA_jce fy (TA_jbf (by decide) (TA_jce fw (TA_jbf (by decide) ?_)))))) Y0 (fun hf he => ?_)
        · rw [ec, ed]
          exact TA_jg (nn_DV hz) (TA_vl rfl)
        · obtain ⟨e1, e2, e3⟩ := hv hf
          rw [e1, e2, e3]
          refine Tr_jbf nx1 (Tr_jbf nx2 (Tr_jbf ny1 (Tr_jbf ny2 (Tr_jbf nw1 (Tr_jbt nw2 (Tr_jbt he ?_))))))
          rw [em]
          exact Tr_jg (nn_DV hz) (Tr_jc (XE_num d1 (fun _ => rfl)) (fun m hm => Tr_some hm))
      · rw [if_neg gw] at fw
        refine Sm_fin d1 (V := er 6) (TA_jce fx (TA_jbf (by decide) (TA_jce fy (TA_jbf (by decide) (TA_jce fw (TA_jbt rfl X0)))))) Y0 (fun hf he => ?_)
        obtain ⟨e1, e2, e3⟩ := hv hf
        rw [e1, e2, e3]
        refine Tr_jbf nx1 (Tr_jbf nx2 (Tr_jbf ny1 (Tr_jbf ny2 ?_)))
        by_cases g : vw < 0
        · exact Tr_jbt ((lt vw 0 w1 w2 (by omega) (by omega)).mpr g) E0
        · exact Tr_jbf (fun z => g ((lt vw 0 w1 w2 (by omega) (by omega)).mp z)) (Tr_jbf (fun z => by have := (le vw 32767 w1 w2 (by omega) (by omega)).mp z; omega) E0)
    · rw [if_neg gy] at fy
      refine Sm_fin d1 (V := er 6) (TA_jce fx (TA_jbf (by decide) (TA_jce fy (TA_jbt rfl X0)))) Y0 (fun hf he => ?_)
      obtain ⟨e1, e2, e3⟩ := hv hf
      rw [e1, e2, e3]
      refine Tr_jbf nx1 (Tr_jbf nx2 ?_)
      by_cases g : vy < 0
      · exact Tr_jbt ((lt vy 0 y1 y2 (by omega) (by omega)).mpr g) E0
      · exact Tr_jbf (fun z => g ((lt vy 0 y1 y2 (by omega) (by omega)).mp z)) (Tr_jbt ((lt 32767 vy (by omega) (by omega) y1 y2).mpr (by omega)) E0)
  · rw [if_neg gx] at fx
    refine Sm_fin d1 (V := er 6) (TA_jce fx (TA_jbt rfl X0)) Y0 (fun hf he => ?_)
    obtain ⟨e1, e2, e3⟩ := hv hf
    rw [e1, e2, e3]
    by_cases g : vx < 0
    · exact Tr_jbt ((lt vx 0 x1 x2 (by omega) (by omega)).mpr g) E0
    · exact Tr_jbf (fun z => g ((lt vx 0 x1 x2 (by omega) (by omega)).mp z)) (Tr_jbt ((lt 32767 vx (by omega) (by omega) x1 x2).mpr (by omega)) E0)
/-! YEAR, MONTH, DAY -/
/-- what the reference's date is, beside the class's month -/
theorem DT_month {d m : Nat} {M : GS} (h : DT d M) (h1 : fD (m : Int) ≤ (d : Int)) (h2 : (d : Int) < fD ((m : Int) + 1)) : ∃ t : Nat, M.1 0 42 = nI (m / 12) ∧ M.1 0 43 = nI (m % 12 + 1) ∧ M.1 0 44 = nI t ∧ (t : Int) = (d : Int) - fD (m : Int) + 1 ∧ t ≤ 31 ∧ 1 ≤ t := by
  obtain ⟨y, i, t, k1, k2, k3, k4, k5, k6, k7, k8, k9⟩ := h
  have e := fD_uniq k6 k7 h1 h2
  have e1 : m / 12 = y := by omega
  have e2 : m % 12 = i := by omega
  have := fD_up (m : Int)
  rw [e] at k8
  exact ⟨t, by rw [e1]; exact k3, by rw [e2]; exact k4, k5, k8, by omega, by omega⟩
theorem x_ymd {n u h : Nat} {cs0 cs : CS} {ms0 ms : GS} (I : CI n u h cs0 ms0 cs ms) (hn : 0 < n) {p : Int32} {X : Option ((VV × CS) × Nat × Nat)} (hX : (p = 103 ∧ X = jc (f_ar_day cs 0) (fun q5 => jc (f_ca_monthOf q5.1) (fun q6 => jd (f_vl_ofNumber (FP.i2d (q6 / 12))) (fun q7 => some ((q7, q5.2), 0, 0))))) ∨ (p = 104 ∧ X = jc (f_ar_day cs 0) (fun q9 => jc (f_ca_monthOf q9.1) (fun q10 => jd (f_vl_ofNumber (FP.i2d ((q10 - q10 / 12 * 12) + 1))) (fun q11 => some ((q11, q9.2), 0, 0))))) ∨ (p = 105 ∧ X = jc (f_ar_day cs 0) (fun q13 => jc (f_ca_dayInMonth q13.1) (fun q14 => jd (f_vl_ofNumber (FP.i2d q14)) (fun q15 => some ((q15, q13.2), 0, 0)))))) : Sm 900 13000 X (f_mo_datePart ms p) (XE n u h cs0 ms0) := by
  obtain ⟨⟨x, c1⟩, ex, ⟨x', m1⟩, em, a1, a0, ⟨d, hd, rfl, a3⟩, ⟨d', hd', rfl⟩, a5⟩ := k_day I (i := 0) hn
  dsimp only at *
  obtain ⟨m, e1, e2, e3, e4, e5⟩ := monthOf_c (d := d) (by omega)
  have e6 := dayInMonth_c (d := d) (by omega) e2 e3
  have Y0 : ¬ m1.1 0 22 = 0 → Tr (f_mo_datePart ms p) (fun r => Ch SF0 SC m1 r) := fun he => Tr_jce em (Tr_jbf he (Tr_some Ch_refl))
  obtain ⟨M, eM, D, hch⟩ := dateOf_m (d := d) (by omega) m1
  obtain ⟨t, t1, t2, t3, t4, t5, t6⟩ := DT_month D e2 e3
  have IM := CI_ref a1 hch (by decide) (by decide) (by decide)
  have fin : ∀ {Z : Option GS} {v : UInt64} , (∀ {R : GS → Prop}, c1.1 1 6 = 0 → m1.1 0 22 = 0 → Tr (jc (f_mo_answerNumber M v) (fun q => some q)) R → Tr Z R) → c1.1 1 6 = 0 → m1.1 0 22 = 0 → Tr Z (fun r => XE n u h cs0 ms0 ((1, v, []), c1) r) := fun {Z v} hz hf he => hz hf he (Tr_jc (XE_num IM (fun _ => rfl)) (fun r hr => Tr_some hr))
  have hd1 : c1.1 1 6 = 0 → f_mo_dateOf m1 (nI d') = some M := fun hf => by rw [show nI d' = nI d from a3 hf]; exact eM
  rcases hX with ⟨rfl, rfl⟩ | ⟨rfl, rfl⟩ | ⟨rfl, rfl⟩
  · refine Sm_fin a1 (V := (1, FP.i2d (nI (m / 12)), [])) (TA_jce ex (TA_jce e1 ?_)) Y0 (fin (fun {R} hf he q => Tr_jce em (Tr_jbt he (Tr_jce (hd1 hf) (Tr_jbt rfl ?_)))))
    · have : nI m / 12 = nI (m / 12) := nI_div (b := 12) (by omega) (by decide)
      rw [this]
      exact TA_vl rfl
    · rw [t1]; exact q
  · refine Sm_fin a1 (V := (1, FP.i2d (nI (m % 12 + 1)), [])) (TA_jce ex (TA_jce e1 ?_)) Y0 (fin (fun {R} hf he q => Tr_jce em (Tr_jbt he (Tr_jce (hd1 hf) (Tr_jbf (by decide) (Tr_jbt rfl ?_))))))
    · have : nI m - nI m / 12 * 12 = nI (m % 12) := nI_mod (b := 12) (by omega) (by decide)
      rw [this, nI_1]
      exact TA_vl rfl
    · rw [t2]; exact q
  · refine Sm_fin a1 (V := (1, FP.i2d (nI t), [])) (TA_jce ex (TA_jce e6 ?_)) Y0 (fin (fun {R} hf he q => Tr_jce em (Tr_jbt he (Tr_jce (hd1 hf) (Tr_jbf (by decide) (Tr_jbf (by decide) ?_))))))
    · rw [← t4, ← iZ_nI]
      exact TA_vl rfl
    · rw [t3]; exact q
/-! WEEKDAY -/
theorem x_weekday {n u h : Nat} {cs0 cs : CS} {ms0 ms : GS} (I : CI n u h cs0 ms0 cs ms) (hn : 0 < n) : Sm 900 13000 (f_da_weekday cs) (f_mo_weekday ms) (XE n u h cs0 ms0) := by
  obtain ⟨⟨x, c1⟩, ex, ⟨x', m1⟩, em, a1, a0, ⟨d, hd, rfl, a3⟩, ⟨d', hd', rfl⟩, a5⟩ := k_day I (i := 0) hn
  dsimp only at *
  refine Sm_Lc ex (Sm_c em ?_)
  refine Sm_j0 (k_wholeOr a1 (i := 1) (by decide) 1 ⟨by decide, by decide⟩) (fun ⟨w, c2⟩ ⟨w', m2⟩ ⟨b1, b0, b2, b3, b4, b5⟩ => ?_)
  dsimp only at *
  have e7 : f_ma_floorMod (nI d - 2) 7 = some (nI ((d + 5) % 7)) := by
    have e : nI d - 2 = iZ ((d : Int) - 2) := by rw [iZ_nI]; exact iZ_sub _ 2
    have := floorMod_c (a := (d : Int) - 2) (b := 7) (by omega) (by omega) (by omega) (by omega)
    rw [e, iZ_nI, show (((d + 5) % 7 : Nat) : Int) = ((d : Int) - 2) % 7 by omega]
    exact this
  have R29 : ¬ m2.1 0 22 = 0 → Tr (mo_weekday_29 m2 (nI d') w') (fun m => Ch SF0 SC m2 m) := fun he => Tr_jbf he (Tr_some Ch_refl)
  have R23 : ¬ m2.1 0 22 = 0 → Tr (mo_weekday_23 m2 (nI d') w') (fun m => Ch SF0 SC m2 m) := fun he => Tr_jce (fail_skip he) (R29 he)
  have Y0 : ¬ m2.1 0 22 = 0 → Tr (jb (w' < 1) (mo_weekday_23 m2 (nI d') w') (jb (w' ≤ 3) (mo_weekday_29 m2 (nI d') w') (mo_weekday_23 m2 (nI d') w'))) (fun m => Ch SF0 SC m2 m) := fun he => Tr_jb (fun _ => R23 he) (fun _ => Tr_jb (fun _ => R29 he) (fun _ => R23 he))
  have E0 : ∀ {a b : Int32}, Tr (mo_weekday_23 m2 a b) (fun m => XE n u h cs0 ms0 (er 6, c2) m) := fun {a b} => Tr_jc (XE_err b1 (e := 6) (by decide) (by decide)) (fun m ⟨k1, k2, k3⟩ => Tr_jbf k3 (Tr_some k1))
  have hv : c2.1 1 6 = 0 → nI d' = nI d ∧ w' = w := fun z => ⟨a3 (b0 z), b4 z⟩
  have s6 : nI d + 6 - (nI d + 6) / 7 * 7 = nI ((d + 6) % 7) := by
    show nI d + nI 6 - (nI d + nI 6) / nI 7 * nI 7 = _
    rw [nI_add]
    exact nI_mod (by omega) (by decide)
  have s5 : nI d + 5 - (nI d + 5) / 7 * 7 = nI ((d + 5) % 7) := by
    show nI d + nI 5 - (nI d + nI 5) / nI 7 * nI 7 = _
    rw [nI_add]
    exact nI_mod (by omega) (by decide)
  have go : ∀ (k V : Nat), k = 1 ∨ k = 2 ∨ k = 3 → w = nI k → (∀ {R : VV × CS → Prop}, TA 900 13000 (jd (f_vl_ofNumber (FP.i2d (nI V))) (fun q => some ((q, c2), 0, 0))) R → TA 900 13000 (jb (w = 1) (jd (f_vl_ofNumber (FP.i2d (((nI ((d + 5) % 7) + 1) - (nI ((d + 5) % 7) + 1) / 7 * 7) + 1))) (fun q4 => some ((q4, c2), 0, 0))) (jb (w = 2) (jd (f_vl_ofNumber (FP.i2d (nI ((d + 5) % 7) + 1))) (fun q6 => some ((q6, c2), 0, 0))) (jb (w = 3) (jd (f_vl_ofNumber (FP.i2d (nI ((d + 5) % 7)))) (fun q8 => some ((q8, c2), 0, 0))) (jd (f_vl_ofError 6) (fun q10 => some ((q10, c2), 0, 0)))))) R) → (∀ {R : GS → Prop}, Tr (mo_weekday_82 m2 (FP.i2d (nI V))) R → Tr (jb (nI k = 1) (mo_weekday_82 m2 (FP.i2d (nI ((d + 6) % 7) + 1))) (jb (nI k = 2) (mo_weekday_82 m2 (FP.i2d (nI ((d + 5) % 7) + 1))) (mo_weekday_82 m2 (FP.i2d (nI ((d + 5) % 7)))))) R) → Sm 900 13000 (jc (f_ma_floorMod (nI d - 2) 7) (fun q3 => jb (w = 1) (jd (f_vl_ofNumber (FP.i2d (((q3 + 1) - (q3 + 1) / 7 * 7) + 1))) (fun q4 => some ((q4, c2), 0, 0))) (jb (w = 2) (jd (f_vl_ofNumber (FP.i2d (q3 + 1))) (fun q6 => some ((q6, c2), 0, 0))) (jb (w = 3) (jd (f_vl_ofNumber (FP.i2d q3)) (fun q8 => some ((q8, c2), 0, 0))) (jd (f_vl_ofError 6) (fun q10 => some ((q10, c2), 0, 0))))))) (jb (w' < 1) (mo_weekday_23 m2 (nI d') w') (jb (w' ≤ 3) (mo_weekday_29 m2 (nI d') w') (mo_weekday_23 m2 (nI d') w'))) (XE n u h cs0 ms0) := by
    intro k V hk hw hX hY
    refine Sm_fin b1 (V := (1, FP.i2d (nI V), [])) (TA_jce e7 (hX (TA_vl rfl))) Y0 (fun hf he => ?_)
    obtain ⟨v1, v2⟩ := hv hf
    rw [v1, v2, hw]
    refine Tr_jbf (nI_nlt (b := 1) (by omega) (by omega)) (Tr_jbt (nI_le (b := 3) (by omega) (by decide)) (Tr_jbt he (Tr_jn (Tr_jn ?_))))
    rw [s6, s5]
    exact hY (Tr_jc (XE_num b1 (fun _ => rfl)) (fun m hm => Tr_some hm))
  by_cases h1 : w = 1
  · refine go 1 ((d + 6) % 7 + 1) (Or.inl rfl) h1 (fun q => TA_jbt h1 ?_) (fun {R} q => Tr_jbt rfl ?_)
    · rw [nI_1]
      have : nI ((d + 5) % 7 + 1) - nI ((d + 5) % 7 + 1) / 7 * 7 = nI ((d + 6) % 7) := by
        have := nI_mod (a := (d + 5) % 7 + 1) (b := 7) (by omega) (by decide)
        rw [show ((d + 5) % 7 + 1) % 7 = (d + 6) % 7 by omega] at this
        exact this
      rw [this, nI_1]
      exact q
    · rw [nI_1]; exact q
  · by_cases h2 : w = 2
    · refine go 2 ((d + 5) % 7 + 1) (Or.inr (Or.inl rfl)) h2 (fun q => TA_jbf h1 (TA_jbt h2 ?_)) (fun {R} q => Tr_jbf (by decide) (Tr_jbt rfl ?_))
      · rw [nI_1]; exact q
      · rw [nI_1]; exact q
    · by_cases h3 : w = 3
      · exact go 3 ((d + 5) % 7) (Or.inr (Or.inr rfl)) h3 (fun q => TA_jbf h1 (TA_jbf h2 (TA_jbt h3 q))) (fun {R} q => Tr_jbf (by decide) (Tr_jbf (by decide) q))
      · refine Sm_fin b1 (V := er 6) (TA_jce e7 (TA_jbf h1 (TA_jbf h2 (TA_jbf h3 (TA_vl rfl))))) Y0 (fun hf he => ?_)
        obtain ⟨v1, v2⟩ := hv hf
        rw [v1, v2]
        by_cases hw1 : w < 1
        · exact Tr_jbt hw1 E0
        · obtain ⟨k, k1, k2, rfl⟩ := iB_one b2 hw1
          have k3 : ¬ k ≤ 3 := fun z => by
            have hk : k = 1 ∨ k = 2 ∨ k = 3 := by omega
            rcases hk with rfl | rfl | rfl
            · exact h1 rfl
            · exact h2 rfl
            · exact h3 rfl
          exact Tr_jbf hw1 (Tr_jbf (nI_ge (a := 3) (by omega) (by omega)) E0)
/-! DAYS -/
theorem x_days {n u h : Nat} {cs0 cs : CS} {ms0 ms : GS} (I : CI n u h cs0 ms0 cs ms) (hn : 1 < n) : Sm 900 13000 (f_da_days cs) (jc (f_mo_dayOf ms 0) (fun q12 => jc (f_mo_dayOf q12.2 1) (fun q13 => jc (f_mo_answerNumber q13.2 (FP.i2d (q12.1 - q13.1))) (fun q14 => some q14)))) (XE n u h cs0 ms0) := by
  obtain ⟨⟨x, c1⟩, ex, ⟨x', m1⟩, em, a1, a0, ⟨d, hd, rfl, a3⟩, ⟨d', hd', rfl⟩, a5⟩ := k_day I (i := 0) (by omega)
  dsimp only at *
  obtain ⟨⟨y, c2⟩, ey, ⟨y', m2⟩, em2, b1, b0, ⟨e, he, rfl, b3⟩, ⟨e', he', rfl⟩, b5⟩ := k_day a1 (i := 1) hn
  dsimp only at *
  exact Sm_Lc ex (Sm_c em (Sm_Lc ey (Sm_c em2 (Sm_Ld rfl (XE_ans b1 (fun hf => by
    have h1 : nI e' = nI e := b3 hf
    have h2 : nI d' = nI d := a3 (b0 hf)
    rw [h1, h2]))))))
