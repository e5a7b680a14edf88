/-! ### the calendar, the reference -/
theorem daysOf_m {y i : Nat} (hy : y ≤ 1000000) (hi : i < 12) : f_mo_daysOf (nI y) (nI (i + 1)) = some (iZ (dN (y : Int) (i : Int))) := by
  have hl := isLeap_m hy
  have hI : i = 0 ∨ i = 1 ∨ i = 2 ∨ i = 3 ∨ i = 4 ∨ i = 5 ∨ i = 6 ∨ i = 7 ∨ i = 8 ∨ i = 9 ∨ i = 10 ∨ i = 11 := by omega
  unfold f_mo_daysOf
  rw [hl]
  rcases hI with rfl | rfl | rfl | rfl | rfl | rfl | rfl | rfl | rfl | rfl | rfl | rfl
  · rfl
  · cases h : leapB (y : Int) with
    | true =>
      have e : dN (y : Int) ((1 : Nat) : Int) = 29 := by unfold dN; rw [h]; rfl
      rw [e]; rfl
    | false =>
      have e : dN (y : Int) ((1 : Nat) : Int) = 28 := by unfold dN; rw [h]; rfl
      rw [e]; rfl
  · rfl
  · rfl
  · rfl
  · rfl
  · rfl
  · rfl
  · rfl
  · rfl
  · rfl
  · rfl
theorem leap_era (y e : Int) : leapB (y + 400 * e) = leapB y := by
  unfold leapB
  rw [show (y + 400 * e) % 4 = y % 4 by omega, show (y + 400 * e) % 100 = y % 100 by omega, show (y + 400 * e) % 400 = y % 400 by omega]
theorem fD_era (m e : Int) : fD (m + 4800 * e) = fD m + 146097 * e := by
  unfold fD lD
  rw [show (m + 4800 * e) / 12 = m / 12 + 400 * e by omega, show (m + 4800 * e) % 12 = m % 12 by omega, leap_era]
  unfold gY
  omega
theorem gY_0 : gY 0 = -693959 := by decide +kernel
theorem bl_step {y i : Int} (h0 : 0 ≤ i) (h : i < 11) : bM (i + 1) + lD y (i + 1) = bM i + lD y i + dN y i := by
  have h1 := fD_step (y := y) (i := i) h0 (by omega)
  rw [show 12 * y + i + 1 = 12 * y + (i + 1) by omega, fD_at h0 (by omega), fD_at (by omega) (by omega)] at h1
  omega
theorem bl_bd {y i : Int} (h0 : 0 ≤ i) (h : i < 12) : 0 ≤ bM i + lD y i ∧ bM i + lD y i ≤ 335 := by
  unfold lD
  rcases i12 h0 h with rfl | rfl | rfl | rfl | rfl | rfl | rfl | rfl | rfl | rfl | rfl | rfl
  all_goals
    split <;> simp [bM]
theorem mf80 {r : Nat} {e : Int} (hr : r < 4800) : ∀ (j k fu : Nat), k + j = r % 12 → j < fu → mo_monthFirst_80 fu (nI r) (jZ (146097 * e + gY ((r / 12 : Nat) : Int) + 693959 + (bM (k : Int) + lD ((r / 12 : Nat) : Int) (k : Int)))) (nI (k + 1)) = some (jZ (fD (r : Int) + 146097 * e)) := by
  have hm12 : nI r - nI r / 12 * 12 = nI (r % 12) := nI_mod (b := 12) (by omega) (by decide)
  have hd12 : nI r / 12 = nI (r / 12) := nI_div (b := 12) (by omega) (by decide)
  intro j
  induction j with
  | zero =>
    intro k fu hk hf
    obtain ⟨g, rfl⟩ : ∃ g, fu = g + 1 := ⟨fu - 1, by omega⟩
    refine e_bt (by rw [hm12]; exact nI_lt (by omega) (by omega)) ?_
    show some (jZ _ - jZ 693959) = _
    rw [jZ_sub]
    have h1 := fD_at (y := ((r / 12 : Nat) : Int)) (i := (k : Int)) (by omega) (by omega)
    rw [show 12 * ((r / 12 : Nat) : Int) + (k : Int) = (r : Int) by omega] at h1
    rw [h1]
    congr 2
    omega
  | succ j ih =>
    intro k fu hk hf
    obtain ⟨g, rfl⟩ : ∃ g, fu = g + 1 := ⟨fu - 1, by omega⟩
    have hdn := dN_b ((r / 12 : Nat) : Int) (k : Int)
    have hst := bl_step (y := ((r / 12 : Nat) : Int)) (i := (k : Int)) (by omega) (by omega)
    refine e_bf (by rw [hm12]; exact nI_nlt (by omega) (by omega)) (e_c (by rw [hd12]; exact daysOf_m (by omega) (by omega)) (e_n (e_n ?_)))
    rw [iZ_j (by omega) (by omega), jZ_add, nI_1]
    have := ih (k + 1) g (by omega) (by omega)
    rw [show ((k + 1 : Nat) : Int) = (k : Int) + 1 by omega] at this
    rw [show 146097 * e + gY ((r / 12 : Nat) : Int) + 693959 + (bM (k : Int) + lD ((r / 12 : Nat) : Int) (k : Int)) + dN ((r / 12 : Nat) : Int) (k : Int) = 146097 * e + gY ((r / 12 : Nat) : Int) + 693959 + (bM ((k : Int) + 1) + lD ((r / 12 : Nat) : Int) ((k : Int) + 1)) by omega]
    exact this
theorem mf39 {r : Nat} {e : Int} (hr : r < 4800) : ∀ (j k fu : Nat), k + j = r / 12 → j < fu → mo_monthFirst_39 fu (nI r) (jZ (146097 * e + gY (k : Int) + 693959)) (nI k) = some (jZ (fD (r : Int) + 146097 * e)) := by
  have hd12 : nI r / 12 = nI (r / 12) := nI_div (b := 12) (by omega) (by decide)
  intro j
  induction j with
  | zero =>
    intro k fu hk hf
    obtain ⟨g, rfl⟩ : ∃ g, fu = g + 1 := ⟨fu - 1, by omega⟩
    obtain rfl : k = r / 12 := by omega
    refine e_bt (by rw [hd12]; exact Int32.le_refl _) ?_
    have := mf80 (e := e) hr (r % 12) 0 FU (by omega) (FU_lt (by omega))
    have h0 : bM ((0 : Nat) : Int) + lD ((r / 12 : Nat) : Int) ((0 : Nat) : Int) = 0 := by
      unfold lD
      rw [if_neg (fun z => by have := z.1; omega)]
      rfl
    rw [h0, Int.add_zero] at this
    exact this
  | succ j ih =>
    intro k fu hk hf
    obtain ⟨g, rfl⟩ : ∃ g, fu = g + 1 := ⟨fu - 1, by omega⟩
    have hs := gY_succ (k : Int)
    have next := ih (k + 1) g (by omega) (by omega)
    rw [show ((k + 1 : Nat) : Int) = (k : Int) + 1 by omega, hs] at next
    refine e_bf (by rw [hd12]; exact nI_ge (by omega) (by omega)) (e_c (isLeap_m (by omega)) ?_)
    cases hl : leapB (k : Int) with
    | true =>
      rw [hl, if_pos rfl] at next
      refine e_bf (by decide) ?_
      show jn (jZ (146097 * e + gY (k : Int) + 693959) + jZ 366) _ = _
      rw [jZ_add]
      refine e_n (e_n ?_)
      rw [nI_1, show 146097 * e + gY (k : Int) + 693959 + 366 = 146097 * e + (gY (k : Int) + 365 + 1) + 693959 by omega]
      exact next
    | false =>
      rw [hl, if_neg (by decide)] at next
      refine e_bt rfl ?_
      show jn (jZ (146097 * e + gY (k : Int) + 693959) + jZ 365) _ = _
      rw [jZ_add]
      refine e_n (e_n ?_)
      rw [nI_1, show 146097 * e + gY (k : Int) + 693959 + 365 = 146097 * e + (gY (k : Int) + 365 + 0) + 693959 by omega]
      exact next
theorem monthFirst_m {p : Int} (h1 : -1000000 ≤ p) (h2 : p ≤ 1000000) : f_mo_monthFirst (jZ p) = some (jZ (fD p)) := by
  obtain ⟨t1, t2⟩ := tdiv_floor (a := p) (b := 4800) (by omega)
  obtain ⟨p1, p2⟩ := tdiv_bd (a := p) (b := 4800) (by omega)
  have hdiv : jZ p / (4800 : Int64) = jZ (Int.tdiv p 4800) := jZ_div (b := 4800) (by omega) (by omega) (by omega) (by omega)
  have h29 : ∀ (e : Int) (r : Nat), r < 4800 → p = (r : Int) + 4800 * e → mo_monthFirst_29 (jZ e) (nI r) = some (jZ (fD p)) := fun e r hr hp => by
    unfold mo_monthFirst_29
    show jn (jZ 146097 * jZ e) _ = _
    rw [jZ_mul]
    refine e_n ?_
    have := mf39 (e := e) hr (r / 12) 0 FU (by omega) (FU_lt (by omega))
    rw [show ((0 : Nat) : Int) = 0 from rfl, gY_0, show 146097 * e + -693959 + 693959 = 146097 * e by omega] at this
    rw [hp, fD_era]
    exact this
  refine e_n ?_
  rw [hdiv]
  have hrest : (jZ p - jZ (Int.tdiv p 4800) * (4800 : Int64)).toInt32 = iZ (p - Int.tdiv p 4800 * 4800) := by
    show (jZ p - jZ (Int.tdiv p 4800) * jZ 4800).toInt32 = _
    rw [jZ_mul, jZ_sub, jZ_i]
  rw [hrest]
  refine e_n ?_
  by_cases h0 : 0 ≤ p
  · obtain ⟨k1, k2⟩ := t1 h0
    rw [k2, k1]
    obtain ⟨r, hr⟩ : ∃ r : Nat, p % 4800 = (r : Int) := ⟨(p % 4800).toNat, by omega⟩
    rw [hr, ← iZ_nI]
    exact e_bt (nI_pos' (by omega)) (h29 _ r (by omega) (by omega))
  · by_cases hm : Int.tdiv p 4800 * 4800 = p
    · obtain ⟨k1, k2⟩ := (t2 (by omega)).1 hm
      rw [show p - Int.tdiv p 4800 * 4800 = ((0 : Nat) : Int) by omega, ← iZ_nI, k1]
      exact e_bt (by decide) (h29 _ 0 (by decide) (by omega))
    · obtain ⟨k1, k2, k3⟩ := (t2 (by omega)).2 hm
      have m1 := Int.tmod_nonneg 4800 (show 0 ≤ -p by omega)
      have m3 := Int.tmod_add_tdiv_mul p 4800
      rw [Int.neg_tmod] at m1
      have m2 := Int.tmod_lt_of_pos (-p) (show (0 : Int) < 4800 by omega)
      rw [Int.neg_tmod] at m2
      refine e_bf (fun z => ?_) ?_
      · have := (pos_iZ (by omega) (by omega)).mp z
        omega
      · obtain ⟨r, hr⟩ : ∃ r : Nat, p % 4800 = (r : Int) := ⟨(p % 4800).toNat, by omega⟩
        have e1 : iZ (p - Int.tdiv p 4800 * 4800) + 4800 = nI r := by
          show iZ (p - Int.tdiv p 4800 * 4800) + iZ 4800 = _
          rw [iZ_add, k2, hr, ← iZ_nI]
        have e2 : jZ (Int.tdiv p 4800) - 1 = jZ (p / 4800) := by
          show jZ (Int.tdiv p 4800) - jZ 1 = _
          rw [jZ_sub, k1]
        rw [e1, e2]
        exact e_n (e_n (h29 _ r (by omega) (by omega)))
/-- year, month and day of a day -/
def DT (d : Nat) (m : GS) : Prop := ∃ y i t : Nat, i < 12 ∧ y ≤ 11000 ∧ m.1 0 42 = nI y ∧ m.1 0 43 = nI (i + 1) ∧ m.1 0 44 = nI t ∧ fD (12 * (y : Int) + (i : Int)) ≤ (d : Int) ∧ (d : Int) < fD (12 * (y : Int) + (i : Int) + 1) ∧ (t : Int) = (d : Int) - fD (12 * (y : Int) + (i : Int)) + 1 ∧ 1899 ≤ y
theorem do118 {d y : Nat} (hd : d ≤ 2958466) (hy : y ≤ 11000) (hy2 : 1899 ≤ y) : ∀ (j i left fu : Nat) (M : GS), i + j = 11 → j < fu → 1 ≤ left → M.1 0 42 = nI y → M.1 0 43 = nI (i + 1) → fD (12 * (y : Int) + (i : Int)) + (left : Int) - 1 = (d : Int) → (d : Int) < fD (12 * (y : Int) + 12) → Tr (mo_dateOf_118 fu M (nI left)) (fun r => DT d r ∧ Ch [42, 43, 44] [] M r) := by
  intro j
  induction j with
  | zero =>
    intro i left fu M hi hf hl h42 h43 hleft hlt
    obtain ⟨g, rfl⟩ : ∃ g, fu = g + 1 := ⟨fu - 1, by omega⟩
    obtain rfl : i = 11 := by omega
    have hst := fD_step (y := (y : Int)) (i := 11) (by omega) (by omega)
    have hdn := dN_b (y : Int) 11
    have hd' : f_mo_daysOf (M.1 0 42) (M.1 0 43) = some (iZ (dN (y : Int) 11)) := by rw [h42, h43]; exact daysOf_m (i := 11) (by omega) (by omega)
    have h9 : 12 * (y : Int) + ((11 : Nat) : Int) = 12 * (y : Int) + 11 := rfl
    rw [h9] at hleft
    rw [show 12 * (y : Int) + 11 + 1 = 12 * (y : Int) + 12 by omega] at hst
    refine Tr_jce hd' (Tr_jbt ?_ (Tr_jn (Tr_some ⟨⟨y, 11, left, by decide, hy, h42, h43, uI_at, ?_, ?_, ?_, hy2⟩, Ch_f Ch_refl (by decide)⟩)))
    · rw [iZ_nI]; exact (iZ_leI (by omega) (by omega) (by omega) (by omega)).mpr (by omega)
    · rw [h9]; omega
    · rw [h9, show 12 * (y : Int) + 11 + 1 = 12 * (y : Int) + 12 by omega]; exact hlt
    · rw [h9]; omega
  | succ j ih =>
    intro i left fu M hi hf hl h42 h43 hleft hlt
    obtain ⟨g, rfl⟩ : ∃ g, fu = g + 1 := ⟨fu - 1, by omega⟩
    have hst := fD_step (y := (y : Int)) (i := (i : Int)) (by omega) (by omega)
    have hdn := dN_b (y : Int) (i : Int)
    have hb := fD_bd (m := 12 * (y : Int) + (i : Int)) (by omega) (by omega)
    have hd' : f_mo_daysOf (M.1 0 42) (M.1 0 43) = some (iZ (dN (y : Int) (i : Int))) := by rw [h42, h43]; exact daysOf_m (by omega) (by omega)
    refine Tr_jce hd' ?_
    by_cases hle : (left : Int) ≤ dN (y : Int) (i : Int)
    · refine Tr_jbt ?_ (Tr_jn (Tr_some ⟨⟨y, i, left, by omega, hy, h42, h43, uI_at, by omega, by omega, by omega, hy2⟩, Ch_f Ch_refl (by decide)⟩))
      rw [iZ_nI]; exact (iZ_leI (by omega) (by omega) (by omega) (by omega)).mpr hle
    · refine Tr_jbf (fun z => hle ?_) (Tr_jce hd' (Tr_jn (Tr_jn ?_)))
      · rw [iZ_nI] at z; exact (iZ_leI (by omega) (by omega) (by omega) (by omega)).mp z
      · obtain ⟨l2, hl2⟩ : ∃ l2 : Nat, (left : Int) - dN (y : Int) (i : Int) = (l2 : Int) := ⟨((left : Int) - dN (y : Int) (i : Int)).toNat, by omega⟩
        have e1 : nI left - iZ (dN (y : Int) (i : Int)) = nI l2 := by rw [iZ_nI left, iZ_sub, hl2, ← iZ_nI]
        rw [e1, h43, nI_1]
        have hch : Ch [42, 43, 44] [] M (uI M 0 43 (nI (i + 1 + 1))) := Ch_f Ch_refl (by decide)
        refine Tr_mono (ih (i + 1) l2 g _ (by omega) (by omega) (by omega) (by rw [uI_ne (by decide)]; exact h42) uI_at ?_ hlt) (fun r ⟨r1, r2⟩ => ⟨r1, Ch_trans hch r2 (fun _ z => z) (fun _ z => z)⟩)
        rw [show 12 * (y : Int) + ((i + 1 : Nat) : Int) = 12 * (y : Int) + (i : Int) + 1 by omega]
        omega
theorem fD_12 (y : Int) : fD (12 * y) = gY y := by
  have := fD_at (y := y) (i := 0) (by omega) (by omega)
  rw [Int.add_zero] at this
  rw [this]
  unfold lD
  rw [if_neg (fun z => by have := z.1; omega)]
  show gY y + 0 + 0 = _
  omega
theorem year_le {d : Nat} {y : Nat} (hd : d ≤ 2958466) (h : fD (12 * (y : Int)) ≤ (d : Int)) : y ≤ 11000 := by
  have := fD_lin (12 * (y : Int))
  omega
/-- behind the first year, from Januaries on -/
theorem do18 {d : Nat} (hd : d ≤ 2958466) : ∀ (f left y : Nat) (M : GS), left < f → 1 ≤ left → 1899 ≤ y → M.1 0 42 = nI y → M.1 0 43 = 1 → fD (12 * (y : Int)) + (left : Int) - 1 = (d : Int) → Tr (mo_dateOf_18 f M (nI left)) (fun r => DT d r ∧ Ch [42, 43, 44] [] M r) := by
  intro f
  induction f with
  | zero => intro left y M h; omega
  | succ g ih =>
    intro left y M hlt hl hy1 h42 h43 hleft
    have hy := year_le (y := y) hd (by omega)
    have hgs := gY_succ (y : Int)
    have h12 := fD_12 (y : Int)
    have h12' := fD_12 ((y : Int) + 1)
    rw [show 12 * ((y : Int) + 1) = 12 * (y : Int) + 12 by omega] at h12'
    have hlp : f_mo_isLeap (M.1 0 42) = some (b01 (leapB (y : Int))) := by rw [h42]; exact isLeap_m (by omega)
    have n12 : ¬ M.1 0 43 = 12 := by rw [h43]; decide
    -- within the year, or on
    have go : ∀ L : Nat, (L : Int) = 365 + (if leapB (y : Int) = true then 1 else 0) → Tr (mo_dateOf_61 (mo_dateOf_18 g) M (nI left) (nI left) (nI L)) (fun r => DT d r ∧ Ch [42, 43, 44] [] M r) := fun L hL => by
      have hL2 : L ≤ 366 := by
        split at hL <;> omega
      have hd2 : d + 1 < 2 ^ 31 := by omega
      have hleft31 : left < 2 ^ 31 := by have := fD_bd (m := 12 * (y : Int)) (by omega) (by omega); omega
      by_cases hle : left ≤ L
      · refine Tr_jbt (nI_le hle (by omega)) ?_
        exact do118 hd hy hy1 11 0 left FU M rfl (FU_lt (by decide)) hl h42 h43 (by rw [show 12 * (y : Int) + ((0 : Nat) : Int) = 12 * (y : Int) by omega]; exact hleft) (by omega)
      · refine Tr_jbf (nI_ge (by omega) hleft31) ?_
        have e98 : Tr (mo_dateOf_98 (mo_dateOf_18 g) M (nI left) (nI L)) (fun r => DT d r ∧ Ch [42, 43, 44] [] M r) := by
          refine Tr_jn (Tr_jn (Tr_jn ?_))
          rw [nI_sub (by omega), h42, nI_1]
          have hch : Ch [42, 43, 44] [] M (uI (uI M 0 42 (nI (y + 1))) 0 43 1) := Ch_f (Ch_f Ch_refl (by decide)) (by decide)
          refine Tr_mono (ih (left - L) (y + 1) _ (by omega) (by omega) (by omega) (by rw [uI_ne (by decide), uI_at]) uI_at ?_) (fun r ⟨r1, r2⟩ => ⟨r1, Ch_trans hch r2 (fun _ z => z) (fun _ z => z)⟩)
          rw [show 12 * ((y + 1 : Nat) : Int) = 12 * (y : Int) + 12 by omega]
          omega
        refine Tr_jbf n12 (Tr_jce hlp ?_)
        cases hlb : leapB (y : Int) with
        | true =>
          rw [hlb, if_pos rfl] at hL
          obtain rfl : L = 366 := by omega
          exact Tr_jbf (by decide) e98
        | false =>
          rw [hlb, if_neg (by decide)] at hL
          obtain rfl : L = 365 := by omega
          exact Tr_jbt rfl e98
    refine Tr_jbf n12 (Tr_jbt h43 (Tr_jce hlp ?_))
    cases hlb : leapB (y : Int) with
    | true => exact Tr_jbf (by decide) (go 366 (by rw [hlb]; rfl))
    | false => exact Tr_jbt rfl (go 365 (by rw [hlb]; rfl))
theorem fD_start : fD (12 * 1899 + 11) = -29 ∧ fD (12 * 1900) = 2 := by decide +kernel
theorem dateOf_m {d : Nat} (hd : d ≤ 2958466) (M : GS) : Tr (f_mo_dateOf M (nI d)) (fun r => DT d r ∧ Ch [42, 43, 44] [] M r) := by
  obtain ⟨s1, s2⟩ := fD_start
  refine Tr_jn (Tr_jn (Tr_jn ?_))
  have hch : Ch [42, 43, 44] [] M (uI (uI M 0 42 1899) 0 43 12) := Ch_f (Ch_f Ch_refl (by decide)) (by decide)
  have h42 : (uI (uI M 0 42 1899) 0 43 12).1 0 42 = nI 1899 := rfl
  have h43 : (uI (uI M 0 42 1899) 0 43 12).1 0 43 = nI (11 + 1) := rfl
  generalize uI (uI M 0 42 1899) 0 43 12 = M1 at *
  have e : nI d + 30 = nI (d + 30) := nI_add d 30
  rw [e]
  show Tr (mo_dateOf_18 (19999999 + 1) M1 (nI (d + 30))) _
  by_cases h2 : d < 2
  · refine Tr_jbt h43 (Tr_jbf (nI_nlt (a := 31) (by omega) (by decide)) (Tr_jbf (by rw [h43]; decide) ?_))
    refine Tr_mono (do118 hd (y := 1899) (by omega) (by omega) 0 11 (d + 30) FU M1 rfl (FU_lt (by decide)) (by omega) h42 h43 ?_ ?_) (fun r ⟨r1, r2⟩ => ⟨r1, Ch_trans hch r2 (fun _ z => z) (fun _ z => z)⟩)
    · rw [show 12 * ((1899 : Nat) : Int) + ((11 : Nat) : Int) = 12 * 1899 + 11 from rfl, s1]
      omega
    · rw [show 12 * ((1899 : Nat) : Int) + 12 = 12 * 1900 from rfl, s2]
      omega
  · refine Tr_jbt h43 (Tr_jbt (nI_lt (a := 31) (by omega) (by omega)) (Tr_jbt h43 (Tr_jn (Tr_jn (Tr_jn ?_)))))
    rw [h42]
    have e2 : nI (d + 30) - 31 = nI (d - 1) := by
      show nI (d + 30) - nI 31 = _
      rw [nI_sub (by omega)]
      congr 1
    rw [e2, nI_1]
    have hch2 : Ch [42, 43, 44] [] M1 (uI (uI M1 0 42 (nI (1899 + 1))) 0 43 1) := Ch_f (Ch_f Ch_refl (by decide)) (by decide)
    refine Tr_mono (do18 hd 19999999 (d - 1) 1900 _ (by omega) (by omega) (by omega) (by rw [uI_ne (by decide), uI_at]) uI_at ?_) (fun r ⟨r1, r2⟩ => ⟨r1, Ch_trans (Ch_trans hch hch2 (fun _ z => z) (fun _ z => z)) r2 (fun _ z => z) (fun _ z => z)⟩)
    rw [show 12 * ((1900 : Nat) : Int) = 12 * 1900 from rfl, s2]
    omega
