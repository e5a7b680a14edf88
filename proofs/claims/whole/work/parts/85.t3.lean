/-! ### WEEKNUM, EDATE, EOMONTH -/
theorem wn65 {n u h : Nat} {cs0 cs : CS} {ms0 m : GS} {d : Nat} {w : Int32} {c : Nat} {s : Int} (I : CI n u h cs0 ms0 cs m) (hd : d ≤ 2958466) (hc : (w = 1 ∧ c = 6) ∨ (¬ w = 1 ∧ c = 5)) (hs : -1000 ≤ s) (hs2 : s ≤ 2958466) : ∀ (f : Nat) (x : Int) (k : Nat), (d : Int) - x < (f : Int) → s + 1 ≤ x → x ≤ (d : Int) + 1 → (k : Int) = (x - 1 + (c : Int)) / 7 - (s + (c : Int)) / 7 + 1 → Tr (mo_weekNumber_65 (f + 1) m (nI d) w (nI k) (iZ x)) (fun r => XE n u h cs0 ms0 ((1, FP.i2d (iZ (((d : Int) + (c : Int)) / 7 - (s + (c : Int)) / 7 + 1)), []), cs) r) := by
  intro f
  induction f with
  | zero =>
    intro x k h1 h2 h3 hk
    refine Tr_jbt (by rw [iZ_nI]; exact (iZ_ltI (by omega) (by omega) (by omega) (by omega)).mpr (by omega)) ?_
    refine Tr_jc (XE_num I (fun _ => ?_)) (fun m hm => Tr_some hm)
    rw [iZ_nI, hk]
    congr 2
    omega
  | succ f ih =>
    intro x k h1 h2 h3 hk
    by_cases hx : (d : Int) < x
    · refine Tr_jbt (by rw [iZ_nI]; exact (iZ_ltI (by omega) (by omega) (by omega) (by omega)).mpr hx) ?_
      refine Tr_jc (XE_num I (fun _ => ?_)) (fun m hm => Tr_some hm)
      rw [iZ_nI, hk]
      congr 2
      omega
    · refine Tr_jbf (fun z => hx ?_) ?_
      · rw [iZ_nI] at z; exact (iZ_ltI (by omega) (by omega) (by omega) (by omega)).mp z
      · have key : Tr (mo_weekNumber_89 (mo_weekNumber_65 (f + 1)) m (nI d) w (iZ x) (nI k) (iZ x + 7000) (nI c)) (fun r => XE n u h cs0 ms0 ((1, FP.i2d (iZ (((d : Int) + (c : Int)) / 7 - (s + (c : Int)) / 7 + 1)), []), cs) r) := by
          obtain ⟨N, hN⟩ : ∃ N : Nat, x + 7000 + (c : Int) = (N : Int) := ⟨(x + 7000 + (c : Int)).toNat, by omega⟩
          have e1 : iZ x + 7000 + nI c = nI N := by
            rw [iZ_nI c]
            show iZ x + iZ 7000 + iZ (c : Int) = _
            rw [iZ_add, iZ_add, hN, ← iZ_nI]
          have e2 : nI N - nI N / 7 * 7 = nI (N % 7) := nI_mod (b := 7) (by omega) (by decide)
          have ex : iZ x + 1 = iZ (x + 1) := iZ_add x 1
          unfold mo_weekNumber_89
          rw [e1, e2]
          refine Tr_jb (fun z => ?_) (fun z => ?_)
          · have z0 : N % 7 = 0 := (nI_eq (b := 0) (by omega) (by decide)).mp z
            refine Tr_jn (Tr_jn ?_)
            rw [nI_1, ex]
            exact ih (x + 1) (k + 1) (by omega) (by omega) (by omega) (by omega)
          · have z0 : ¬ N % 7 = 0 := fun q => z (by rw [q]; rfl)
            refine Tr_jn (Tr_jn ?_)
            rw [ex]
            have := ih (x + 1) k (by omega) (by omega) (by omega) (by omega)
            rw [show nI k + 0 = nI k from nI_add k 0]
            exact this
        rcases hc with ⟨h6, rfl⟩ | ⟨h5, rfl⟩
        · exact Tr_jbt h6 key
        · exact Tr_jbf h5 key
theorem x_weeknum {n u h : Nat} {cs0 cs : CS} {ms0 ms : GS} (I : CI n u h cs0 ms0 cs ms) (hn : 0 < n) : Sm 900 13000 (f_da_weekNumber cs) (f_mo_weekNumber ms) (XE n u h cs0 ms0) := by
  obtain ⟨⟨x, c1⟩, ex, ⟨x', m1⟩, em, a1, a0, ⟨d, hd, rfl, a3⟩, ⟨d', hd', rfl⟩, a5⟩ := k_day I (i := 0) hn
  dsimp only at *
  refine Sm_Lc ex (Sm_c em ?_)
  refine Sm_j0 (k_wholeOr a1 (i := 1) (by decide) 1 ⟨by decide, by decide⟩) (fun ⟨w, c2⟩ ⟨w', m2⟩ ⟨b1, b0, b2, b3, b4, b5⟩ => ?_)
  dsimp only at *
  have R29 : ¬ m2.1 0 22 = 0 → Tr (mo_weekNumber_29 m2 (nI d') w') (fun m => Ch SF0 SC m2 m) := fun he => Tr_jbf he (Tr_some Ch_refl)
  have Y0 : ¬ m2.1 0 22 = 0 → Tr (jb (w' = 1) (mo_weekNumber_29 m2 (nI d') w') (jb (w' = 2) (mo_weekNumber_29 m2 (nI d') w') (jc (f_mo_fail m2 6) (fun q9 => mo_weekNumber_29 q9 (nI d') w')))) (fun m => Ch SF0 SC m2 m) := fun he => Tr_jb (fun _ => R29 he) (fun _ => Tr_jb (fun _ => R29 he) (fun _ => Tr_jce (fail_skip he) (R29 he)))
  have hv : c2.1 1 6 = 0 → nI d' = nI d ∧ w' = w := fun z => ⟨a3 (b0 z), b4 z⟩
  obtain ⟨m, e1, e2, e3, e4, e5⟩ := monthOf_c (d := d) (by omega)
  obtain ⟨M, eM, D, hch⟩ := dateOf_m (d := d) (by omega) m2
  obtain ⟨t, t1, t2, t3, t4, t5, t6⟩ := DT_month D e2 e3
  have IM := CI_ref b1 hch (by decide) (by decide) (by decide)
  -- the first day of the year
  have hy : (12 : Int) * ((m / 12 : Nat) : Int) = ((12 * (m / 12) : Nat) : Int) := by omega
  have hle : fD ((12 * (m / 12) : Nat) : Int) ≤ (d : Int) := by
    have := fD_mono (a := ((12 * (m / 12) : Nat) : Int)) (b := (m : Int)) (by omega)
    omega
  have hlow : -1000 ≤ fD ((12 * (m / 12) : Nat) : Int) := by
    have h1 := fD_mono (a := 22788) (b := ((12 * (m / 12) : Nat) : Int)) (by
      obtain ⟨y, i, t', k1, k2, k3, k4, k5, k6, k7, k8, k9⟩ := D
      have := fD_uniq k6 k7 e2 e3
      omega)
    have h2 : fD 22788 = -363 := by decide +kernel
    omega
  generalize hS : fD ((12 * (m / 12) : Nat) : Int) = s at *
  -- both ways
  have go : ∀ c b : Nat, (w = 1 ∧ c = 6 ∧ b = 1) ∨ (¬ w = 1 ∧ c = 5 ∧ b = 2) → w = 1 ∨ w = 2 → (∀ {R : VV × CS → Prop}, TA 900 13000 (da_weekNumber_35 c2 (nI d) w) R → TA 900 13000 (jb (w = 1) (da_weekNumber_35 c2 (nI d) w) (jb (w = 2) (da_weekNumber_35 c2 (nI d) w) (jd (f_vl_ofError 6) (fun q8 => some ((q8, c2), 0, 0))))) R) → Sm 900 13000 (jb (w = 1) (da_weekNumber_35 c2 (nI d) w) (jb (w = 2) (da_weekNumber_35 c2 (nI d) w) (jd (f_vl_ofError 6) (fun q8 => some ((q8, c2), 0, 0))))) (jb (w' = 1) (mo_weekNumber_29 m2 (nI d') w') (jb (w' = 2) (mo_weekNumber_29 m2 (nI d') w') (jc (f_mo_fail m2 6) (fun q9 => mo_weekNumber_29 q9 (nI d') w')))) (XE n u h cs0 ms0) := by
    intro c b hcb hw hX
    refine Sm_fin b1 (V := (1, FP.i2d (iZ (((d : Int) + (c : Int)) / 7 - (s + (c : Int)) / 7 + 1)), [])) (hX ?_) Y0 (fun hf he => ?_)
    · refine TA_jce e1 ?_
      have e12 : nI m - (nI m - nI m / 12 * 12) = nI (12 * (m / 12)) := by
        have h1 : nI m - nI m / 12 * 12 = nI (m % 12) := nI_mod (b := 12) (by omega) (by decide)
        rw [h1, nI_sub (Nat.mod_le _ _)]
        congr 1
        omega
      rw [e12]
      refine TA_jce (a := iZ s) (by rw [iZ_nI, ← hS]; exact firstOf_c (by omega) (by omega)) ?_
      have h61 : TA 900 13000 (da_weekNumber_61 c2 (nI d) (iZ s) (nI b)) (fun r => r = ((1, FP.i2d (iZ (((d : Int) + (c : Int)) / 7 - (s + (c : Int)) / 7 + 1)), []), c2)) := by
        unfold da_weekNumber_61
        rw [iZ_nI b, iZ_sub]
        have fm : f_ma_floorMod (iZ (s - (b : Int))) 7 = some (iZ ((s - (b : Int)) % 7)) := floorMod_c (b := 7) (by omega) (by omega) (by omega) (by omega)
        refine TA_jce fm ?_
        obtain ⟨N, hN⟩ : ∃ N : Nat, (d : Int) - s + (s - (b : Int)) % 7 = (N : Int) := ⟨((d : Int) - s + (s - (b : Int)) % 7).toNat, by omega⟩
        have e7 : (nI d - iZ s + iZ ((s - (b : Int)) % 7)) / 7 + 1 = iZ (((d : Int) + (c : Int)) / 7 - (s + (c : Int)) / 7 + 1) := by
          rw [iZ_nI d, iZ_sub, iZ_add, hN, ← iZ_nI]
          show nI N / nI 7 + nI 1 = _
          rw [nI_div (by omega) (by decide), nI_add, iZ_nI]
          congr 1
          rcases hcb with ⟨-, rfl, rfl⟩ | ⟨-, rfl, rfl⟩ <;> omega
        rw [e7]
        exact TA_vl rfl
      rcases hcb with ⟨h6, rfl, rfl⟩ | ⟨h5, rfl, rfl⟩
      · exact TA_jbt h6 h61
      · exact TA_jbf h5 h61
    · obtain ⟨v1, v2⟩ := hv hf
      rw [v1, v2]
      have h29 : Tr (mo_weekNumber_29 m2 (nI d) w) (fun r => XE n u h cs0 ms0 ((1, FP.i2d (iZ (((d : Int) + (c : Int)) / 7 - (s + (c : Int)) / 7 + 1)), []), c2) r) := by
        refine Tr_jbt he (Tr_jce eM ?_)
        have eF : (12 : Int64) * (M.1 0 42).toInt64 = jZ ((12 * (m / 12) : Nat) : Int) := by
          rw [t1, nI_l (by omega)]
          show lN 12 * lN (m / 12) = _
          rw [lN_mul, jZ_lN]
        rw [eF]
        refine Tr_jce (a := jZ s) (by rw [← hS]; exact monthFirst_m (by omega) (by omega)) (Tr_jn ?_)
        have e8 : (jZ s).toInt32 + 1 = iZ (s + 1) := by
          rw [jZ_i]
          exact iZ_add s 1
        rw [e8]
        exact wn65 (s := s) (c := c) IM (by omega) (hcb.imp (fun q => ⟨q.1, q.2.1⟩) (fun q => ⟨q.1, q.2.1⟩)) hlow (by omega) 19999999 (s + 1) 1 (by omega) (Int.le_refl _) (by omega) (by omega)
      rcases hw with hw | hw
      · exact Tr_jbt hw h29
      · exact Tr_jbf (by rw [hw]; decide) (Tr_jbt hw h29)
  by_cases h1 : w = 1
  · exact go 6 1 (Or.inl ⟨h1, rfl, rfl⟩) (Or.inl h1) (fun q => TA_jbt h1 q)
  · by_cases h2 : w = 2
    · exact go 5 2 (Or.inr ⟨h1, rfl, rfl⟩) (Or.inr h2) (fun q => TA_jbf h1 (TA_jbt h2 q))
    · refine Sm_fin b1 (V := er 6) (TA_jbf h1 (TA_jbf h2 (TA_vl rfl))) Y0 (fun hf he => ?_)
      obtain ⟨v1, v2⟩ := hv hf
      rw [v1, v2]
      exact Tr_jbf h1 (Tr_jbf h2 (Tr_jc (XE_err b1 (e := 6) (by decide) (by decide)) (fun m ⟨k1, k2, k3⟩ => Tr_jbf k3 (Tr_some k1))))
/-- EDATE (p = 0) and EOMONTH (p = 1) -/
theorem x_later {n u h : Nat} {cs0 cs : CS} {ms0 ms : GS} (I : CI n u h cs0 ms0 cs ms) (hn : 1 < n) {p : Int32} : Sm 900 13000 (f_da_monthsLater cs p) (f_mo_monthsLater ms p) (XE n u h cs0 ms0) := by
  obtain ⟨⟨x, c1⟩, ex, ⟨x', m1⟩, em, a1, a0, ⟨d, hd, rfl, a3⟩, ⟨d', hd', rfl⟩, a5⟩ := k_day I (i := 0) (by omega)
  dsimp only at *
  refine Sm_Lc ex (Sm_c em ?_)
  refine Sm_j0 (k_whole a1 (i := 1) hn) (fun ⟨w, c2⟩ ⟨w', m2⟩ ⟨b1, b0, b2, b3, b4, b5⟩ => ?_)
  dsimp only at *
  have hv : c2.1 1 6 = 0 → nI d' = nI d ∧ w' = w := fun z => ⟨a3 (b0 z), b4 z⟩
  obtain ⟨v, v1, v2, rfl⟩ := iB_Z b2
  have R32 : ¬ m2.1 0 22 = 0 → Tr (mo_monthsLater_32 m2 p (nI d') w') (fun m => Ch SF0 SC m2 m) := fun he => Tr_jbf he (Tr_some Ch_refl)
  have R26 : ¬ m2.1 0 22 = 0 → Tr (mo_monthsLater_26 m2 p (nI d') w') (fun m => Ch SF0 SC m2 m) := fun he => Tr_jce (fail_skip he) (R32 he)
  have Y0 : ¬ m2.1 0 22 = 0 → Tr (jb (100000 < w') (mo_monthsLater_26 m2 p (nI d') w') (jb ((-100000) ≤ w') (mo_monthsLater_32 m2 p (nI d') w') (mo_monthsLater_26 m2 p (nI d') w'))) (fun m => Ch SF0 SC m2 m) := fun he => Tr_jb (fun _ => R26 he) (fun _ => Tr_jb (fun _ => R32 he) (fun _ => R26 he))
  have E0 : ∀ {a b : Int32}, Tr (mo_monthsLater_26 m2 p a b) (fun m => XE n u h cs0 ms0 (er 6, c2) m) := fun {a b} => Tr_jc (XE_err b1 (e := 6) (by decide) (by decide)) (fun m ⟨k1, k2, k3⟩ => Tr_jbf k3 (Tr_some k1))
  have fw := isFar_c v1 v2
  obtain ⟨m, e1, e2, e3, e4, e5⟩ := monthOf_c (d := d) (by omega)
  have e6 := dayInMonth_c (d := d) (by omega) e2 e3
  obtain ⟨M, eM, D, hch⟩ := dateOf_m (d := d) (by omega) m2
  obtain ⟨t, t1, t2, t3, t4, t5, t6⟩ := DT_month D e2 e3
  have IM := CI_ref b1 hch (by decide) (by decide) (by decide)
  by_cases g : -100000 ≤ v ∧ v ≤ 100000
  · rw [if_pos g] at fw
    have n1 : ¬ 100000 < iZ v := fun z => by have := (iZ_ltI (a := 100000) (b := v) (by omega) (by omega) (by omega) (by omega)).mp z; omega
    have n2 : -100000 ≤ iZ v := by rw [m1e5]; exact (iZ_leI (by omega) (by omega) (by omega) (by omega)).mpr g.1
    have hb := fD_bd (m := (m : Int) + v) (by omega) (by omega)
    have hup := fD_up ((m : Int) + v)
    have hb2 := fD_bd (m := (m : Int) + v + 1) (by omega) (by omega)
    -- the day in the month
    obtain ⟨T, hT, hXT, hMT⟩ : ∃ T : Int, (1 ≤ T ∧ T ≤ 31) ∧ (∀ {R : VV × CS → Prop}, TA 900 13000 (da_monthsLater_64 c2 (iZ ((m : Int) + v)) (iZ T)) R → TA 900 13000 (jb (p = 0) (jc (f_ca_dayInMonth (nI d)) (fun q10 => jc (f_ma_min q10 (iZ (fD ((m : Int) + v + 1) - fD ((m : Int) + v)))) (fun q11 => da_monthsLater_64 c2 (iZ ((m : Int) + v)) q11))) (da_monthsLater_64 c2 (iZ ((m : Int) + v)) (iZ (fD ((m : Int) + v + 1) - fD ((m : Int) + v))))) R) ∧ (∀ {R : GS → Prop}, Tr (mo_monthsLater_127 M (jZ (fD ((m : Int) + v) + T - 1))) R → Tr (jb (p = 0) (jb ((lg_cmp (jZ (fD ((m : Int) + v) + (t : Int) - 1)) (jZ (fD ((m : Int) + v + 1)))) < 0) (mo_monthsLater_127 M (jZ (fD ((m : Int) + v) + (t : Int) - 1))) (mo_monthsLater_118 M (jZ (fD ((m : Int) + v + 1))))) (mo_monthsLater_118 M (jZ (fD ((m : Int) + v + 1))))) R) := by
      have e118 : ∀ {R : GS → Prop}, Tr (mo_monthsLater_127 M (jZ (fD ((m : Int) + v) + (fD ((m : Int) + v + 1) - fD ((m : Int) + v)) - 1))) R → Tr (mo_monthsLater_118 M (jZ (fD ((m : Int) + v + 1)))) R := fun {R} q => by
        unfold mo_monthsLater_118
        have e : jZ (fD ((m : Int) + v + 1)) - 1 = jZ (fD ((m : Int) + v) + (fD ((m : Int) + v + 1) - fD ((m : Int) + v)) - 1) := by
          show jZ (fD ((m : Int) + v + 1)) - jZ 1 = _
          rw [jZ_sub]
          congr 1
          omega
        rw [e]
        exact q
      obtain ⟨c1', -, -⟩ := lcmp_j (a := fD ((m : Int) + v) + (t : Int) - 1) (b := fD ((m : Int) + v + 1)) (by omega) (by omega) (by omega) (by omega)
      by_cases hp : p = 0
      · by_cases hlt : (t : Int) ≤ fD ((m : Int) + v + 1) - fD ((m : Int) + v)
        · refine ⟨(t : Int), by omega, fun q => TA_jbt hp (TA_jce e6 ?_), fun {R} q => Tr_jbt hp (Tr_jbt (c1'.mpr (by omega)) q)⟩
          rw [← t4]
          refine TA_jce (a := iZ (t : Int)) (e_bf (fun z => ?_) rfl) q
          have := (iZ_ltI (by omega) (by omega) (by omega) (by omega)).mp z
          omega
        · refine ⟨fD ((m : Int) + v + 1) - fD ((m : Int) + v), by omega, fun q => TA_jbt hp (TA_jce e6 ?_), fun {R} q => Tr_jbt hp (Tr_jbf (fun z => by have := c1'.mp z; omega) (e118 q))⟩
          rw [← t4]
          exact TA_jce (a := iZ (fD ((m : Int) + v + 1) - fD ((m : Int) + v))) (e_bt ((iZ_ltI (by omega) (by omega) (by omega) (by omega)).mpr (by omega)) rfl) q
      · exact ⟨fD ((m : Int) + v + 1) - fD ((m : Int) + v), by omega, fun q => TA_jbf hp q, fun {R} q => Tr_jbf hp (e118 q)⟩
    refine Sm_fin b1 (V := dayV (fD ((m : Int) + v) + T - 1)) (TA_jce fw (TA_jbt rfl (TA_jce e1 (TA_jn ?_)))) Y0 (fun hf he => ?_)
    · rw [iZ_nI m, iZ_add]
      have eL : f_ca_lengthOf (iZ ((m : Int) + v)) = some (iZ (fD ((m : Int) + v + 1) - fD ((m : Int) + v))) := by
        have e : iZ ((m : Int) + v) + 1 = iZ ((m : Int) + v + 1) := iZ_add _ 1
        unfold f_ca_lengthOf
        rw [e]
        refine e_c (firstOf_c (by omega) (by omega)) (e_c (firstOf_c (by omega) (by omega)) ?_)
        rw [iZ_sub]
      refine TA_jce eL (hXT (TA_jce (firstOf_c (by omega) (by omega)) ?_))
      have e : iZ (fD ((m : Int) + v)) + iZ T - 1 = iZ (fD ((m : Int) + v) + T - 1) := by
        show iZ (fD ((m : Int) + v)) + iZ T - iZ 1 = _
        rw [iZ_add, iZ_sub]
      rw [e]
      exact dOE_c (by omega) (by omega)
    · obtain ⟨w1, w2⟩ := hv hf
      rw [w1, w2]
      refine Tr_jbf n1 (Tr_jbt n2 (Tr_jbt he (Tr_jce eM ?_)))
      have eA : ((((12 : Int64) * (M.1 0 42).toInt64) + (M.1 0 43).toInt64) - 1) + (iZ v).toInt64 = jZ ((m : Int) + v) := by
        rw [t1, t2, nI_l (by omega), nI_l (by omega), iZ_j (by omega) (by omega), jZ_lN, jZ_lN]
        show jZ 12 * jZ ((m / 12 : Nat) : Int) + jZ ((m % 12 + 1 : Nat) : Int) - jZ 1 + jZ v = _
        rw [jZ_mul, jZ_add, jZ_sub, jZ_add]
        congr 1
        omega
      have eB : (((12 : Int64) * (M.1 0 42).toInt64) + (M.1 0 43).toInt64) + (iZ v).toInt64 = jZ ((m : Int) + v + 1) := by
        rw [t1, t2, nI_l (by omega), nI_l (by omega), iZ_j (by omega) (by omega), jZ_lN, jZ_lN]
        show jZ 12 * jZ ((m / 12 : Nat) : Int) + jZ ((m % 12 + 1 : Nat) : Int) + jZ v = _
        rw [jZ_mul, jZ_add, jZ_add]
        congr 1
        omega
      rw [eA, eB]
      refine Tr_jce (monthFirst_m (by omega) (by omega)) (Tr_jce (monthFirst_m (by omega) (by omega)) (Tr_jn ?_))
      have eC : jZ (fD ((m : Int) + v)) + (M.1 0 44).toInt64 - 1 = jZ (fD ((m : Int) + v) + (t : Int) - 1) := by
        rw [t3, nI_l (by omega), jZ_lN]
        show jZ (fD ((m : Int) + v)) + jZ (t : Int) - jZ 1 = _
        rw [jZ_add, jZ_sub]
      rw [eC]
      exact hMT (ansDay_m IM (by omega) (by omega))
  · rw [if_neg g] at fw
    refine Sm_fin b1 (V := er 6) (TA_jce fw (TA_jbf (by decide) (TA_vl rfl))) Y0 (fun hf he => ?_)
    obtain ⟨w1, w2⟩ := hv hf
    rw [w1, w2]
    by_cases g5 : 100000 < v
    · exact Tr_jbt ((iZ_ltI (a := 100000) (b := v) (by omega) (by omega) (by omega) (by omega)).mpr g5) E0
    · refine Tr_jbf (fun z => g5 ((iZ_ltI (a := 100000) (b := v) (by omega) (by omega) (by omega) (by omega)).mp z)) (Tr_jbf (fun z => ?_) E0)
      rw [m1e5] at z
      have := (iZ_leI (by omega) (by omega) (by omega) (by omega)).mp z
      omega
