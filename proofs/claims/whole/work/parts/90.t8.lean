/-! ### NETWORKDAYS, WORKDAY -/
def wI (t : Int) : Int := 5 * ((t - 2) / 7) + (if 5 < (t - 2) % 7 + 1 then 5 else (t - 2) % 7 + 1)
def wdI (k : Int) : Int := 2 + 7 * ((k - 1) / 5) + (k - 1) % 5
theorem workdaysTo_c {t : Int} (h1 : -10000000 ≤ t) (h2 : t ≤ 10000000) : f_ca_workdaysTo (iZ t) = some (iZ (wI t)) := by
  have e : iZ t - 2 = iZ (t - 2) := iZ_sub t 2
  have f1 : f_ma_floorDiv (iZ (t - 2)) 7 = some (iZ ((t - 2) / 7)) := floorDiv_c (b := 7) (by omega) (by omega) (by omega) (by omega)
  have f2 : f_ma_floorMod (iZ (t - 2)) 7 = some (iZ ((t - 2) % 7)) := floorMod_c (b := 7) (by omega) (by omega) (by omega) (by omega)
  have e1 : iZ ((t - 2) % 7) + 1 = iZ ((t - 2) % 7 + 1) := iZ_add _ 1
  refine e_n ?_
  rw [e]
  refine e_c f1 (e_c f2 ?_)
  rw [e1]
  unfold wI
  by_cases g : 5 < (t - 2) % 7 + 1
  · rw [if_pos g]
    refine e_c (a := iZ 5) (e_bt ((iZ_ltI (a := 5) (by omega) (by omega) (by omega) (by omega)).mpr g) rfl) ?_
    show some (iZ 5 * iZ ((t - 2) / 7) + iZ 5) = _
    rw [iZ_mul, iZ_add]
  · rw [if_neg g]
    refine e_c (e_bf (fun z => g ((iZ_ltI (a := 5) (by omega) (by omega) (by omega) (by omega)).mp z)) rfl) ?_
    show some (iZ 5 * iZ ((t - 2) / 7) + iZ ((t - 2) % 7 + 1)) = _
    rw [iZ_mul, iZ_add]
theorem workday_c {k : Int} (h1 : -10000000 ≤ k) (h2 : k ≤ 10000000) : f_ca_workday (iZ k) = some (iZ (wdI k)) := by
  have e : iZ k - 1 = iZ (k - 1) := iZ_sub k 1
  have f1 : f_ma_floorDiv (iZ (k - 1)) 5 = some (iZ ((k - 1) / 5)) := floorDiv_c (b := 5) (by omega) (by omega) (by omega) (by omega)
  have f2 : f_ma_floorMod (iZ (k - 1)) 5 = some (iZ ((k - 1) % 5)) := floorMod_c (b := 5) (by omega) (by omega) (by omega) (by omega)
  unfold f_ca_workday
  rw [e]
  refine e_c f1 (e_c f2 ?_)
  show some (iZ 2 + iZ 7 * iZ ((k - 1) / 5) + iZ ((k - 1) % 5)) = _
  rw [iZ_mul, iZ_add, iZ_add]
  rfl
theorem wI_step (t : Int) : wI t = wI (t - 1) + (if workB t = true then 1 else 0) := by
  unfold wI workB
  by_cases h : 1 < t % 7
  · rw [decide_eq_true h, if_pos rfl]
    split <;> split <;> omega
  · rw [decide_eq_false h, if_neg (show ¬ false = true by decide)]
    split <;> split <;> omega
theorem wd_ge (t k : Int) : k ≤ wI t ↔ wdI k ≤ t := by
  unfold wI wdI
  split <;> omega
theorem wd_at (k : Int) : wI (wdI k) = k ∧ wI (wdI k - 1) = k - 1 := by
  unfold wI wdI
  constructor
  · split <;> omega
  · split <;> omega
theorem wd_up (k : Int) : wdI (k - 1) < wdI k := by
  unfold wdI
  omega
theorem wI_bd {t : Int} (h1 : -1000 ≤ t) (h2 : t ≤ 3000000) : -1000 ≤ wI t ∧ wI t ≤ 2200000 := by
  unfold wI
  split <;> omega
theorem wd_bd {k : Int} (h1 : -200000 ≤ k) (h2 : k ≤ 3000000) : -300000 ≤ wdI k ∧ wdI k ≤ 4300000 := by
  unfold wdI
  omega
def Nc (f : Nat → Nat) : Nat → Int → Int
  | 0, _ => 0
  | c + 1, t => Nc f c t + (if (f c : Int) < t then 1 else 0)
theorem Nc_bd (f : Nat → Nat) (t : Int) : ∀ c, 0 ≤ Nc f c t ∧ Nc f c t ≤ (c : Int)
  | 0 => ⟨Int.le_refl _, Int.le_refl _⟩
  | c + 1 => by
    have := Nc_bd f t c
    show 0 ≤ Nc f c t + _ ∧ Nc f c t + _ ≤ _
    split <;> omega
theorem Nc_all {f : Nat → Nat} {t : Int} : ∀ {c : Nat}, (∀ j, j < c → (f j : Int) < t) → Nc f c t = (c : Int)
  | 0, _ => rfl
  | c + 1, h => by
    show Nc f c t + (if (f c : Int) < t then 1 else 0) = _
    rw [Nc_all (fun j hj => h j (by omega)), if_pos (h c (by omega))]
    omega
theorem Nc_none {f : Nat → Nat} {t : Int} {k : Nat} : ∀ {n : Nat}, (∀ j, k ≤ j → j < k + n → t ≤ (f j : Int)) → Nc f (k + n) t = Nc f k t
  | 0, _ => rfl
  | n + 1, h => by
    show Nc f (k + n) t + (if (f (k + n) : Int) < t then 1 else 0) = _
    rw [Nc_none (fun j j1 j2 => h j j1 (by omega)), if_neg (by have := h (k + n) (by omega) (by omega); omega), Int.add_zero]
theorem Nc_step {f : Nat → Nat} {t : Int} : ∀ {c : Nat}, Srt f c → ((∃ j, j < c ∧ (f j : Int) = t) → Nc f c (t + 1) = Nc f c t + 1) ∧ ((¬ ∃ j, j < c ∧ (f j : Int) = t) → Nc f c (t + 1) = Nc f c t)
  | 0, _ => ⟨fun ⟨j, hj, _⟩ => absurd hj (Nat.not_lt_zero j), fun _ => rfl⟩
  | c + 1, hS => by
    obtain ⟨i1, i2⟩ := Nc_step (f := f) (t := t) (c := c) (fun i j a b => hS i j a (by omega))
    have e1 : Nc f (c + 1) (t + 1) = Nc f c (t + 1) + (if (f c : Int) < t + 1 then 1 else 0) := rfl
    have e2 : Nc f (c + 1) t = Nc f c t + (if (f c : Int) < t then 1 else 0) := rfl
    rw [e1, e2]
    by_cases hc : (f c : Int) = t
    · have hno : ¬ ∃ j, j < c ∧ (f j : Int) = t := fun ⟨j, j1, j2⟩ => by have := hS j c j1 (by omega); omega
      rw [i2 hno, if_pos (by omega), if_neg (by omega)]
      exact ⟨fun _ => by omega, fun q => absurd ⟨c, by omega, hc⟩ q⟩
    · have hlt : ((f c : Int) < t + 1) ↔ (f c : Int) < t := by omega
      have hex : (∃ j, j < c + 1 ∧ (f j : Int) = t) ↔ ∃ j, j < c ∧ (f j : Int) = t := ⟨fun ⟨j, j1, j2⟩ => by
        by_cases e : j = c
        · rw [e] at j2; exact absurd j2 hc
        · exact ⟨j, by omega, j2⟩, fun ⟨j, j1, j2⟩ => ⟨j, by omega, j2⟩⟩
      rw [hex]
      by_cases hl : (f c : Int) < t
      · rw [if_pos hl, if_pos (hlt.mpr hl)]
        exact ⟨fun q => by have := i1 q; omega, fun q => by have := i2 q; omega⟩
      · rw [if_neg hl, if_neg (fun q => hl (hlt.mp q))]
        exact ⟨fun q => by have := i1 q; omega, fun q => by have := i2 q; omega⟩
/-- work days up to a day, but for free ones -/
def rI (f : Nat → Nat) (c : Nat) (t : Int) : Int := wI t - Nc f c (t + 1)
section WD
variable {f : Nat → Nat} {c : Nat} {val : Nat → VV} {M : Nat}
theorem rI_step (hS : Srt f c) (hm : ∀ d : Nat, d ≤ 2958465 → ((∃ j, j < c ∧ f j = d) ↔ (workB (d : Int) = true ∧ holB val M (d : Int) = true))) {d : Nat} (hd : d ≤ 2958465) : rI f c (d : Int) = rI f c ((d : Int) - 1) + (if (workB (d : Int) && !holB val M (d : Int)) = true then 1 else 0) := by
  unfold rI
  have h1 := wI_step (d : Int)
  obtain ⟨n1, n2⟩ := Nc_step (t := (d : Int)) hS
  have h2 := hm d hd
  have hex : (∃ j, j < c ∧ (f j : Int) = (d : Int)) ↔ ∃ j, j < c ∧ f j = d := ⟨fun ⟨j, a, b⟩ => ⟨j, a, by omega⟩, fun ⟨j, a, b⟩ => ⟨j, a, by omega⟩⟩
  rw [show (d : Int) - 1 + 1 = (d : Int) by omega]
  cases hw : workB (d : Int) with
  | false =>
    rw [hw] at h1 h2
    rw [if_neg (by decide)] at h1
    have := n2 (fun q => by have := h2.mp (hex.mp q); cases this.1)
    rw [Bool.false_and, if_neg (by decide)]
    omega
  | true =>
    rw [hw, if_pos rfl] at h1
    rw [hw] at h2
    cases hh : holB val M (d : Int) with
    | true =>
      have := n1 (hex.mpr (h2.mpr ⟨rfl, hh⟩))
      rw [Bool.true_and, if_neg (by decide)]
      omega
    | false =>
      have := n2 (fun q => by have := (h2.mp (hex.mp q)).2; rw [hh] at this; cases this)
      rw [Bool.true_and, if_pos (by decide)]
      omega
theorem rI_mono (hS : Srt f c) (hm : ∀ d : Nat, d ≤ 2958465 → ((∃ j, j < c ∧ f j = d) ↔ (workB (d : Int) = true ∧ holB val M (d : Int) = true))) {a : Int} (ha : -1 ≤ a) : ∀ (n : Nat), a + (n : Int) ≤ 2958465 → rI f c a ≤ rI f c (a + (n : Int))
  | 0, _ => by rw [show a + ((0 : Nat) : Int) = a by omega]; exact Int.le_refl _
  | n + 1, h => by
    have h1 := rI_mono hS hm ha n (by omega)
    obtain ⟨d, hd⟩ : ∃ d : Nat, a + ((n + 1 : Nat) : Int) = (d : Int) := ⟨(a + ((n + 1 : Nat) : Int)).toNat, by omega⟩
    have h2 := rI_step hS hm (d := d) (by omega)
    rw [← hd, show a + ((n + 1 : Nat) : Int) - 1 = a + (n : Int) by omega] at h2
    rw [h2]
    split <;> omega
theorem rI_le (hS : Srt f c) (hm : ∀ d : Nat, d ≤ 2958465 → ((∃ j, j < c ∧ f j = d) ↔ (workB (d : Int) = true ∧ holB val M (d : Int) = true))) {a b : Int} (ha : -1 ≤ a) (hab : a ≤ b) (hb : b ≤ 2958465) : rI f c a ≤ rI f c b := by
  have := rI_mono hS hm ha (b - a).toNat (by omega)
  rw [show a + ((b - a).toNat : Int) = b by omega] at this
  exact this
theorem rI_bd {t : Int} (h1 : -1000 ≤ t) (h2 : t ≤ 3000000) (hc : c ≤ 512) : -2000 ≤ rI f c t ∧ rI f c t ≤ 2200000 := by
  have := wI_bd h1 h2
  have := Nc_bd f (t + 1) c
  unfold rI
  omega
end WD
theorem x_networkdays {n u h : Nat} {cs0 cs : CS} {ms0 ms : GS} (I : CI n u h cs0 ms0 cs ms) (hn : 1 < n) : Sm 900 13000 (f_da_workdays cs) (f_mo_workDays ms) (XE n u h cs0 ms0) := by
  obtain ⟨⟨x, c1⟩, ex, ⟨x', m1⟩, em, a1, a0, ⟨a, ha, rfl, a3⟩, ⟨a', ha', rfl⟩, a5⟩ := k_day I (i := 0) (by omega)
  dsimp only at *
  obtain ⟨⟨y, c2⟩, ey, ⟨y', m2⟩, em2, b1, b0, ⟨b, hb, rfl, b3⟩, ⟨b', hb', rfl⟩, b5⟩ := k_day a1 (i := 1) hn
  dsimp only at *
  obtain ⟨C, f, c, eC, hcp, hL, hS, hc, hbd, hm⟩ := readFree_c b1.1
  have I3 := CI_cls b1 hcp (by decide)
  have hf1 : C.1 1 6 = c2.1 1 6 := by rw [Cp_1 hcp (by decide)]
  have hv : c2.1 1 6 = 0 → nI a' = nI a ∧ nI b' = nI b := fun z => ⟨a3 (b0 z), b3 z⟩
  -- from, to
  obtain ⟨lo, hi, hlo, hhi, hlh, emin, emax, emin', hcase⟩ : ∃ lo hi : Nat, lo ≤ 2958465 ∧ hi ≤ 2958465 ∧ lo ≤ hi ∧ f_ma_min (nI a) (nI b) = some (nI lo) ∧ f_ma_max (nI a) (nI b) = some (nI hi) ∧ f_mo_lesser (nI a) (nI b) = some (nI lo) ∧ ((a ≤ b ∧ lo = a ∧ hi = b) ∨ (b < a ∧ lo = b ∧ hi = a)) := by
    have e1 := min_c (a := a) (b := b) (by omega) (by omega)
    have e2 := lesser_m (a := a) (b := b) (by omega) (by omega)
    by_cases g : a ≤ b
    · rw [Nat.min_eq_left g] at e1 e2
      refine ⟨a, b, ha, hb, g, e1, ?_, e2, Or.inl ⟨g, rfl, rfl⟩⟩
      by_cases g2 : a < b
      · exact e_bt (nI_lt g2 (by omega)) rfl
      · have : a = b := by omega
        subst this
        exact e_bf (nI_nlt (Nat.le_refl _) (by omega)) rfl
    · rw [Nat.min_eq_right (by omega)] at e1 e2
      exact ⟨b, a, hb, ha, by omega, e1, e_bf (nI_nlt (by omega) (by omega)) rfl, e2, Or.inr ⟨by omega, rfl, rfl⟩⟩
  have hr0 := rI_bd (f := f) (c := c) (t := (lo : Int) - 1) (by omega) (by omega) hc
  have hr1 := rI_bd (f := f) (c := c) (t := (hi : Int)) (by omega) (by omega) hc
  -- what is counted
  obtain ⟨V, hVb, hVc, hVm⟩ : ∃ V : Int, (-3000000 ≤ V ∧ V ≤ 3000000) ∧ (∀ {C' S' : Nat} {R : VV × CS → Prop}, TA C' S' (da_workdays_109 C (FP.i2d (iZ V))) R → TA C' S' (jb (nI b < nI a) (da_workdays_109 C (FP.i2d (-(iZ (rI f c (hi : Int) - rI f c ((lo : Int) - 1)))))) (da_workdays_109 C (FP.i2d (iZ (rI f c (hi : Int) - rI f c ((lo : Int) - 1)))))) R) ∧ (∀ {R : GS → Prop}, Tr (mo_workDays_82 m2 (FP.i2d (iZ V))) R → Tr (jb (nI a ≤ nI b) (mo_workDays_82 m2 (FP.i2d (iZ (rI f c (hi : Int) - rI f c ((lo : Int) - 1))))) (mo_workDays_82 m2 (FP.i2d (-(iZ (rI f c (hi : Int) - rI f c ((lo : Int) - 1))))))) R) := by
    rcases hcase with ⟨g, -, -⟩ | ⟨g, -, -⟩
    · exact ⟨rI f c (hi : Int) - rI f c ((lo : Int) - 1), by omega, fun q => TA_jbf (nI_nlt g (by omega)) q, fun {R} q => Tr_jbt (nI_le g (by omega)) q⟩
    · refine ⟨-(rI f c (hi : Int) - rI f c ((lo : Int) - 1)), by omega, fun q => TA_jbt (nI_lt g (by omega)) (by rw [iZ_neg]; exact q), fun {R} q => Tr_jbf (nI_ge g (by omega)) (by rw [iZ_neg]; exact q)⟩
  -- the class's subtraction
  have loopC : ∀ (r k fu : Nat), k + r = c → r < fu → ∀ {C' S' : Nat} {R : VV × CS → Prop}, TA C' S' (jb (nI b < nI a) (da_workdays_109 C (FP.i2d (-(iZ (rI f c (hi : Int) - rI f c ((lo : Int) - 1)))))) (da_workdays_109 C (FP.i2d (iZ (rI f c (hi : Int) - rI f c ((lo : Int) - 1)))))) R → TA C' S' (da_workdays_53 fu C (nI a) (nI b) (nI lo) (nI hi) (iZ (wI (hi : Int) - wI ((lo : Int) - 1) - (Nc f k ((hi : Int) + 1) - Nc f k (lo : Int)))) (nI k)) R := by
    intro r
    induction r with
    | zero =>
      intro k fu hk hf C' S' R q
      obtain ⟨g, rfl⟩ : ∃ g, fu = g + 1 := ⟨fu - 1, by omega⟩
      obtain rfl : k = c := by omega
      refine TA_jbt (by rw [hL.1]; exact Int32.le_refl _) ?_
      have e : wI (hi : Int) - wI ((lo : Int) - 1) - (Nc f k ((hi : Int) + 1) - Nc f k (lo : Int)) = rI f k (hi : Int) - rI f k ((lo : Int) - 1) := by
        unfold rI
        rw [show (lo : Int) - 1 + 1 = (lo : Int) by omega]
        omega
      rw [e]
      exact q
    | succ r ih =>
      intro k fu hk hf C' S' R q
      obtain ⟨g, rfl⟩ : ∃ g, fu = g + 1 := ⟨fu - 1, by omega⟩
      have hfk := hbd k (by omega)
      have hin : inb (nI k) 512 = true := inb_of (by omega) (by decide)
      have next := ih (k + 1) g (by omega) (by omega) q
      have e1 : Nc f (k + 1) ((hi : Int) + 1) = Nc f k ((hi : Int) + 1) + (if (f k : Int) < (hi : Int) + 1 then 1 else 0) := rfl
      have e2 : Nc f (k + 1) (lo : Int) = Nc f k (lo : Int) + (if (f k : Int) < (lo : Int) then 1 else 0) := rfl
      rw [e1, e2] at next
      refine TA_jbf (by rw [hL.1]; exact nI_ge (by omega) (by omega)) (TA_jg hin ?_)
      rw [nI_clamp (by omega), hL.2 k (by omega)]
      by_cases g1 : f k < lo
      · rw [if_pos (by omega), if_pos (by omega)] at next
        refine TA_jbt (nI_lt g1 (by omega)) (TA_jn ?_)
        rw [nI_1]
        rw [show wI (hi : Int) - wI ((lo : Int) - 1) - (Nc f k ((hi : Int) + 1) - Nc f k (lo : Int)) = wI (hi : Int) - wI ((lo : Int) - 1) - (Nc f k ((hi : Int) + 1) + 1 - (Nc f k (lo : Int) + 1)) by omega]
        exact next
      · refine TA_jbf (nI_nlt (by omega) (by omega)) (TA_jg hin ?_)
        by_cases g2 : hi < f k
        · rw [if_neg (by omega), if_neg (by omega)] at next
          refine TA_jbt (nI_lt g2 (by omega)) (TA_jn ?_)
          rw [nI_1]
          rw [Int.add_zero, Int.add_zero] at next
          exact next
        · rw [if_pos (by omega), if_neg (by omega)] at next
          refine TA_jbf (nI_nlt (by omega) (by omega)) (TA_jn (TA_jn ?_))
          rw [nI_1, i_m1]
          have e : iZ (wI (hi : Int) - wI ((lo : Int) - 1) - (Nc f k ((hi : Int) + 1) - Nc f k (lo : Int))) - 1 = iZ (wI (hi : Int) - wI ((lo : Int) - 1) - (Nc f k ((hi : Int) + 1) + 1 - (Nc f k (lo : Int) + 0))) := by
            show iZ _ - iZ 1 = _
            rw [iZ_sub]
            congr 1
            omega
          rw [e]
          exact next
  -- the reference's count
  have loopM : m2.1 0 22 = 0 → ∀ (r t fu : Nat), t + r = hi + 1 → r < fu → lo ≤ t → ∀ {R : GS → Prop}, Tr (mo_workDays_82 m2 (FP.i2d (iZ V))) R → Tr (mo_workDays_29 fu m2 (nI a) (nI b) (iZ (rI f c ((t : Int) - 1) - rI f c ((lo : Int) - 1))) (nI t)) R := by
    intro he r
    induction r with
    | zero =>
      intro t fu ht hf hl R q
      obtain ⟨g, rfl⟩ : ∃ g, fu = g + 1 := ⟨fu - 1, by omega⟩
      obtain rfl : t = hi + 1 := by omega
      have e41 : Tr (mo_workDays_41 (mo_workDays_29 g) m2 (nI a) (nI b) (iZ (rI f c (((hi + 1 : Nat) : Int) - 1) - rI f c ((lo : Int) - 1))) (nI (hi + 1)) (nI (hi + 1)) (nI hi)) R := by
        rw [show ((hi + 1 : Nat) : Int) - 1 = (hi : Int) by omega]
        exact Tr_jbt (nI_lt (by omega) (by omega)) (hVm q)
      rcases hcase with ⟨g1, -, g3⟩ | ⟨g1, -, g3⟩
      · by_cases g2 : b ≤ a
        · have : a = b := by omega
          refine Tr_jbt (nI_le g2 (by omega)) ?_
          rw [g3, ← this] at e41
          rw [g3, ← this]
          exact e41
        · refine Tr_jbf (nI_ge (by omega) (by omega)) ?_
          rw [g3] at e41 ⊢
          exact e41
      · refine Tr_jbt (nI_le (by omega) (by omega)) ?_
        rw [g3] at e41 ⊢
        exact e41
    | succ r ih =>
      intro t fu ht hf hl R q
      obtain ⟨g, rfl⟩ : ∃ g, fu = g + 1 := ⟨fu - 1, by omega⟩
      have hst := rI_step hS hm (d := t) (by omega)
      have next := ih (t + 1) g (by omega) (by omega) (by omega) q
      rw [show ((t + 1 : Nat) : Int) - 1 = (t : Int) by omega, hst] at next
      have e41 : Tr (mo_workDays_41 (mo_workDays_29 g) m2 (nI a) (nI b) (iZ (rI f c ((t : Int) - 1) - rI f c ((lo : Int) - 1))) (nI t) (nI t) (nI hi)) R := by
        refine Tr_jbf (nI_nlt (by omega) (by omega)) (Tr_jce (isWork_m b1 (d := t) (by omega)) ?_)
        cases hw : (workB (t : Int) && !holB (av c2 2) (hM n c2) (t : Int)) with
        | true =>
          rw [hw, if_pos rfl] at next
          refine Tr_jbf (by decide) (Tr_jn (Tr_jn ?_))
          have e : iZ (rI f c ((t : Int) - 1) - rI f c ((lo : Int) - 1)) + 1 = iZ (rI f c ((t : Int) - 1) + 1 - rI f c ((lo : Int) - 1)) := by
            show iZ _ + iZ 1 = _
            rw [iZ_add]
            congr 1
            omega
          rw [nI_1, e]
          exact next
        | false =>
          rw [hw, if_neg (by decide)] at next
          refine Tr_jbt rfl (Tr_jn (Tr_jn ?_))
          have e : iZ (rI f c ((t : Int) - 1) - rI f c ((lo : Int) - 1)) + 0 = iZ (rI f c ((t : Int) - 1) + 0 - rI f c ((lo : Int) - 1)) := by
            rw [Int32.add_zero, Int.add_zero]
          rw [nI_1, e]
          exact next
      rcases hcase with ⟨g1, -, g3⟩ | ⟨g1, -, g3⟩
      · by_cases g2 : b ≤ a
        · have : a = b := by omega
          refine Tr_jbt (nI_le g2 (by omega)) ?_
          rw [g3, ← this] at e41
          rw [← this]
          exact e41
        · refine Tr_jbf (nI_ge (by omega) (by omega)) ?_
          rw [g3] at e41
          exact e41
      · refine Tr_jbt (nI_le (by omega) (by omega)) ?_
        rw [g3] at e41
        exact e41
  refine Sm_Lc ex (Sm_c em (Sm_Lc ey (Sm_c em2 ?_)))
  refine Sm_fin I3 (V := (1, FP.i2d (iZ V), [])) ?_ (fun he => Tr_jbf he (Tr_some Ch_refl)) (fun hf he => ?_)
  · have e1 : nI lo - 1 = iZ ((lo : Int) - 1) := by rw [iZ_nI]; exact iZ_sub _ 1
    refine TA_jce eC (TA_jce emin (TA_jce emax (TA_jce (a := iZ (wI (hi : Int))) (by rw [iZ_nI]; exact workdaysTo_c (by omega) (by omega)) ?_)))
    rw [e1]
    refine TA_jce (workdaysTo_c (by omega) (by omega)) (TA_jn ?_)
    rw [iZ_sub]
    have e0 : wI (hi : Int) - wI ((lo : Int) - 1) = wI (hi : Int) - wI ((lo : Int) - 1) - (Nc f 0 ((hi : Int) + 1) - Nc f 0 (lo : Int)) := by
      show _ = _ - (0 - 0)
      omega
    rw [e0]
    exact loopC c 0 FU (by omega) (FU_lt (by omega)) (hVc (TA_vl rfl))
  · rw [hf1] at hf
    obtain ⟨v1, v2⟩ := hv hf
    rw [v1, v2]
    refine Tr_jbt he (Tr_jce emin' ?_)
    have := loopM he (hi + 1 - lo) lo FU (by omega) (FU_lt (by omega)) (Nat.le_refl _) (R := fun m => XE n u h cs0 ms0 ((1, FP.i2d (iZ V), []), C) m) (Tr_jc (XE_num I3 (fun _ => rfl)) (fun m hm => Tr_some hm))
    rw [Int.sub_self] at this
    exact this
section WB
variable {f : Nat → Nat} {c : Nat} {C : CS}
/-- the n-th work day behind -/
theorem behind_c (hL : FLs f c C) (hS : Srt f c) (hc : c ≤ 512) (hbd : ∀ j, j < c → f j ≤ 2958465) {a m : Nat} (ha : a ≤ 2958465) (hm1 : 1 ≤ m) (hm2 : m ≤ 100000) : ∃ r : Int, f_da_workdayBehind C (nI a) (nI m) = some (iZ r) ∧ rI f c r = rI f c (a : Int) + (m : Int) ∧ rI f c (r - 1) = rI f c (a : Int) + (m : Int) - 1 ∧ (a : Int) < r ∧ r ≤ 5000000 := by
  have hw := wI_bd (t := (a : Int)) (by omega) (by omega)
  have loop : ∀ (r k fu : Nat) (num : Int), k + r = c → r < fu → num = wI (a : Int) + (m : Int) + (Nc f k (wdI num + 1) - Nc f k ((a : Int) + 1)) → (∀ j, j < k → ¬ (f j : Int) = wdI num) → wI (a : Int) + (m : Int) ≤ num → ∃ res : Int, da_workdayBehind_10 fu C (nI a) (iZ num) (nI k) = some (iZ (wdI res)) ∧ res = wI (a : Int) + (m : Int) + (Nc f c (wdI res + 1) - Nc f c ((a : Int) + 1)) ∧ (∀ j, j < c → ¬ (f j : Int) = wdI res) ∧ wI (a : Int) + (m : Int) ≤ res := by
    intro r
    induction r with
    | zero =>
      intro k fu num hk hf hn hne hlow
      obtain ⟨g, rfl⟩ : ∃ g, fu = g + 1 := ⟨fu - 1, by omega⟩
      obtain rfl : k = c := by omega
      have n1 := Nc_bd f (wdI num + 1) k
      have n2 := Nc_bd f ((a : Int) + 1) k
      exact ⟨num, e_bt (by rw [hL.1]; exact Int32.le_refl _) (e_c (workday_c (by omega) (by omega)) rfl), hn, hne, hlow⟩
    | succ r ih =>
      intro k fu num hk hf hn hne hlow
      obtain ⟨g, rfl⟩ : ∃ g, fu = g + 1 := ⟨fu - 1, by omega⟩
      have hfk := hbd k (by omega)
      have hin : inb (nI k) 512 = true := inb_of (by omega) (by decide)
      have n1 := Nc_bd f (wdI num + 1) k
      have n2 := Nc_bd f ((a : Int) + 1) k
      have hpos : (a : Int) < wdI num := Int.not_le.mp fun q => by
        have := (wd_ge (a : Int) num).mpr q
        omega
      have e1 : ∀ t : Int, Nc f (k + 1) t = Nc f k t + (if (f k : Int) < t then 1 else 0) := fun t => rfl
      have hg : ¬ C.1 5 2 ≤ nI k := by rw [hL.1]; exact nI_ge (by omega) (by omega)
      have hwb := wd_bd (k := num) (by omega) (by omega)
      have hcell : C.1 45 (nI k).toNatClampNeg = nI (f k) := by rw [nI_clamp (by omega)]; exact hL.2 k (by omega)
      by_cases g1 : f k ≤ a
      · obtain ⟨res, q1, q2⟩ := ih (k + 1) g num (by omega) (by omega) (by rw [e1, e1, if_pos (by omega), if_pos (by omega)]; omega) (fun j hj => by
          by_cases e : j = k
          · rw [e]; omega
          · exact hne j (by omega)) hlow
        refine ⟨res, e_bf hg (e_g hin (e_bt (by rw [hcell]; exact nI_le g1 (by omega)) (e_n ?_))), q2⟩
        rw [nI_1]
        exact q1
      · have hn1 : ¬ C.1 45 (nI k).toNatClampNeg ≤ nI a := by rw [hcell]; exact nI_ge (by omega) (by omega)
        have hwd := workday_c (k := num) (by omega) (by omega)
        by_cases g2 : wdI num < (f k : Int)
        · obtain ⟨res, q1, q2⟩ := ih (k + 1) g num (by omega) (by omega) (by rw [e1, e1, if_neg (by omega), if_neg (by omega)]; omega) (fun j hj => by
            by_cases e : j = k
            · rw [e]; omega
            · exact hne j (by omega)) hlow
          refine ⟨res, e_bf hg (e_g hin (e_bf hn1 (e_g hin (e_c hwd (e_bt (by rw [hcell, iZ_nI]; exact (iZ_ltI (by omega) (by omega) (by omega) (by omega)).mpr g2) (e_n ?_)))))), q2⟩
          rw [nI_1]
          exact q1
        · have hup := wd_up (num + 1)
          rw [Int.add_sub_cancel] at hup
          have hall : ∀ t : Int, wdI num < t → Nc f k t = (k : Int) := fun t ht => Nc_all (fun j hj => by
            have := hS j k hj (by omega)
            omega)
          have h1 := hall (wdI num + 1) (by omega)
          have h2 := hall (wdI (num + 1) + 1) (by omega)
          obtain ⟨res, q1, q2⟩ := ih (k + 1) g (num + 1) (by omega) (by omega) (by rw [e1, e1, if_pos (by omega), if_neg (by omega), h2]; omega) (fun j hj => by
            by_cases e : j = k
            · rw [e]; omega
            · have := hS j k (by omega) (by omega)
              omega) (by omega)
          refine ⟨res, e_bf hg (e_g hin (e_bf hn1 (e_g hin (e_c hwd (e_bf (by rw [hcell, iZ_nI]; exact fun z => g2 ((iZ_ltI (by omega) (by omega) (by omega) (by omega)).mp z)) (e_n (e_n ?_))))))), q2⟩
          have e : iZ num + 1 = iZ (num + 1) := iZ_add num 1
          rw [nI_1, e]
          exact q1
  obtain ⟨res, q1, q2, q3, q4⟩ := loop c 0 FU (wI (a : Int) + (m : Int)) (by omega) (FU_lt (by omega)) (by show _ = _ + (0 - 0); omega) (fun j hj => absurd hj (Nat.not_lt_zero j)) (Int.le_refl _)
  obtain ⟨w1, w2⟩ := wd_at res
  have n1 := Nc_bd f (wdI res + 1) c
  have n2 := Nc_bd f ((a : Int) + 1) c
  have hwb := wd_bd (k := res) (by omega) (by omega)
  have hno : ¬ ∃ j, j < c ∧ (f j : Int) = wdI res := fun ⟨j, j1, j2⟩ => q3 j j1 j2
  have hnc := (Nc_step (t := wdI res) hS).2 hno
  refine ⟨wdI res, ?_, ?_, ?_, ?_, by omega⟩
  · refine e_c (a := iZ (wI (a : Int))) (by rw [iZ_nI]; exact workdaysTo_c (by omega) (by omega)) (e_n ?_)
    rw [iZ_nI m, iZ_add]
    exact q1
  · unfold rI
    omega
  · unfold rI
    rw [show wdI res - 1 + 1 = wdI res by omega]
    omega
  · exact Int.not_le.mp fun q => by
      have := (wd_ge (a : Int) res).mpr q
      omega
/-- the n-th work day before -/
theorem before_c (hL : FLs f c C) (hS : Srt f c) (hc : c ≤ 512) (hbd : ∀ j, j < c → f j ≤ 2958465) {a m : Nat} (ha : a ≤ 2958465) (hm1 : 1 ≤ m) (hm2 : m ≤ 100000) : ∃ r : Int, f_da_workdayBefore C (nI a) (nI m) = some (iZ r) ∧ rI f c (r - 1) = rI f c ((a : Int) - 1) - (m : Int) ∧ rI f c r = rI f c ((a : Int) - 1) - (m : Int) + 1 ∧ r < (a : Int) ∧ -1000000 ≤ r := by
  have hw := wI_bd (t := (a : Int) - 1) (by omega) (by omega)
  have loop : ∀ (k fu : Nat) (num : Int), k ≤ c → k < fu → num = wI ((a : Int) - 1) - (m : Int) + 1 - ((Nc f c (a : Int) - Nc f k (a : Int)) - (Nc f c (wdI num) - Nc f k (wdI num))) → (∀ j, k ≤ j → j < c → ¬ (f j : Int) = wdI num) → num ≤ wI ((a : Int) - 1) - (m : Int) + 1 → wI ((a : Int) - 1) - (m : Int) + 1 - ((c : Int) - (k : Int)) ≤ num → ∃ res : Int, da_workdayBefore_19 fu C (nI a) (iZ num) (nI k - 1) = some (iZ (wdI res)) ∧ res = wI ((a : Int) - 1) - (m : Int) + 1 - (Nc f c (a : Int) - Nc f c (wdI res)) ∧ (∀ j, j < c → ¬ (f j : Int) = wdI res) ∧ res ≤ wI ((a : Int) - 1) - (m : Int) + 1 ∧ wI ((a : Int) - 1) - (m : Int) + 1 - (c : Int) ≤ res := by
    intro k
    induction k with
    | zero =>
      intro fu num hk hf hn hne hhi hlow
      obtain ⟨g, rfl⟩ : ∃ g, fu = g + 1 := ⟨fu - 1, by omega⟩
      have z0 : ∀ t : Int, Nc f 0 t = 0 := fun _ => rfl
      rw [z0, z0] at hn
      exact ⟨num, e_bt (by decide) (e_c (workday_c (by omega) (by omega)) rfl), by omega, fun j hj => hne j (Nat.zero_le _) hj, hhi, by omega⟩
    | succ k ih =>
      intro fu num hk hf hn hne hhi hlow
      obtain ⟨g, rfl⟩ : ∃ g, fu = g + 1 := ⟨fu - 1, by omega⟩
      have hfk := hbd k (by omega)
      have hin : inb (nI k) 512 = true := inb_of (by omega) (by decide)
      have hpos : wdI num < (a : Int) := by
        have := (wd_ge ((a : Int) - 1) num).mp (by omega)
        omega
      have e1 : ∀ t : Int, Nc f (k + 1) t = Nc f k t + (if (f k : Int) < t then 1 else 0) := fun t => rfl
      have hwb := wd_bd (k := num) (by omega) (by omega)
      have hcell : C.1 45 (nI k).toNatClampNeg = nI (f k) := by rw [nI_clamp (by omega)]; exact hL.2 k (by omega)
      rw [e1, e1] at hn
      rw [nI_pred]
      by_cases g1 : a ≤ f k
      · rw [if_neg (by omega), if_neg (by omega)] at hn
        obtain ⟨res, q1, q2⟩ := ih g num (by omega) (by omega) (by omega) (fun j j1 j2 => by
          by_cases e : j = k
          · rw [e]; omega
          · exact hne j (by omega) j2) hhi (by omega)
        refine ⟨res, e_bf (nI_pos (by omega)) (e_g hin (e_bt (by rw [hcell]; exact nI_le g1 (by omega)) (e_n ?_))), q2⟩
        rw [i_m1]
        exact q1
      · have hn1 : ¬ nI a ≤ C.1 45 (nI k).toNatClampNeg := by rw [hcell]; exact nI_ge (by omega) (by omega)
        have hwd := workday_c (k := num) (by omega) (by omega)
        by_cases g2 : (f k : Int) < wdI num
        · rw [if_pos (by omega), if_pos (by omega)] at hn
          obtain ⟨res, q1, q2⟩ := ih g num (by omega) (by omega) (by omega) (fun j j1 j2 => by
            by_cases e : j = k
            · rw [e]; omega
            · exact hne j (by omega) j2) hhi (by omega)
          refine ⟨res, e_bf (nI_pos (by omega)) (e_g hin (e_bf hn1 (e_g hin (e_c hwd (e_bt (by rw [hcell, iZ_nI]; exact (iZ_ltI (by omega) (by omega) (by omega) (by omega)).mpr g2) (e_n ?_)))))), q2⟩
          rw [i_m1]
          exact q1
        · have hup := wd_up num
          have hnone : ∀ t : Int, t ≤ wdI num → Nc f c t = Nc f (k + 1) t := fun t ht => by
            have := Nc_none (f := f) (t := t) (k := k + 1) (n := c - (k + 1)) (fun j j1 j2 => by
              have := hS k j (by omega) (by omega)
              omega)
            rw [show k + 1 + (c - (k + 1)) = c by omega] at this
            exact this
          have h1 := hnone (wdI num) (Int.le_refl _)
          have h2 := hnone (wdI (num - 1)) (by omega)
          rw [e1, if_neg (by omega)] at h1 h2
          rw [if_pos (by omega), if_neg (by omega)] at hn
          obtain ⟨res, q1, q2⟩ := ih g (num - 1) (by omega) (by omega) (by omega) (fun j j1 j2 => by
            by_cases e : j = k
            · rw [e]; omega
            · have := hS k j (by omega) j2
              omega) (by omega) (by omega)
          refine ⟨res, e_bf (nI_pos (by omega)) (e_g hin (e_bf hn1 (e_g hin (e_c hwd (e_bf (by rw [hcell, iZ_nI]; exact fun z => g2 ((iZ_ltI (by omega) (by omega) (by omega) (by omega)).mp z)) (e_n (e_n ?_))))))), q2⟩
          have e : iZ num - 1 = iZ (num - 1) := iZ_sub num 1
          rw [i_m1, i_m1, e]
          exact q1
  obtain ⟨res, q1, q2, q3, q4, q5⟩ := loop c FU (wI ((a : Int) - 1) - (m : Int) + 1) (Nat.le_refl _) (FU_lt (by omega)) (by omega) (fun j j1 j2 => by omega) (Int.le_refl _) (by omega)
  obtain ⟨w1, w2⟩ := wd_at res
  have hwb := wd_bd (k := res) (by omega) (by omega)
  have hno : ¬ ∃ j, j < c ∧ (f j : Int) = wdI res := fun ⟨j, j1, j2⟩ => q3 j j1 j2
  have hnc := (Nc_step (t := wdI res) hS).2 hno
  refine ⟨wdI res, ?_, ?_, ?_, ?_, by omega⟩
  · have e1 : nI a - 1 = iZ ((a : Int) - 1) := by rw [iZ_nI]; exact iZ_sub _ 1
    unfold f_da_workdayBefore
    rw [e1]
    refine e_c (workdaysTo_c (by omega) (by omega)) (e_n (e_n ?_))
    have e2 : iZ (wI ((a : Int) - 1)) - nI m + 1 = iZ (wI ((a : Int) - 1) - (m : Int) + 1) := by
      rw [iZ_nI m]
      show iZ _ - iZ _ + iZ 1 = _
      rw [iZ_sub, iZ_add]
    rw [e2, hL.1]
    exact q1
  · unfold rI
    rw [show wdI res - 1 + 1 = wdI res by omega, show (a : Int) - 1 + 1 = (a : Int) by omega]
    omega
  · unfold rI
    rw [show (a : Int) - 1 + 1 = (a : Int) by omega]
    omega
  · have := (wd_ge ((a : Int) - 1) res).mp (by omega)
    omega
end WB
theorem x_workday {n u h : Nat} {cs0 cs : CS} {ms0 ms : GS} (I : CI n u h cs0 ms0 cs ms) (hn : 1 < n) : Sm 900 13000 (f_da_workday cs) (f_mo_workDay ms) (XE n u h cs0 ms0) := by
  obtain ⟨⟨x, c1⟩, ex, ⟨x', m1⟩, em, a1, a0, ⟨a, ha, rfl, a3⟩, ⟨a', ha', rfl⟩, a5⟩ := k_day I (i := 0) (by omega)
  dsimp only at *
  refine Sm_Lc ex (Sm_c em ?_)
  refine Sm_j0 (k_whole a1 (i := 1) hn) (fun ⟨w, c2⟩ ⟨w', m2⟩ ⟨b1, b0, b2, b3, b4, b5⟩ => ?_)
  dsimp only at *
  obtain ⟨C, f, c, eC, hcp, hL, hS, hc, hbd, hm⟩ := readFree_c b1.1
  have I3 := CI_cls b1 hcp (by decide)
  have hf1 : C.1 1 6 = c2.1 1 6 := by rw [Cp_1 hcp (by decide)]
  have hv : c2.1 1 6 = 0 → nI a' = nI a ∧ w' = w := fun z => ⟨a3 (b0 z), b4 z⟩
  obtain ⟨v, v1, v2, rfl⟩ := iB_Z b2
  have R32 : ¬ m2.1 0 22 = 0 → Tr (mo_workDay_32 m2 (nI a') w') (fun m => Ch SF0 SC m2 m) := fun he => Tr_jbf he (Tr_some Ch_refl)
  have R26 : ¬ m2.1 0 22 = 0 → Tr (mo_workDay_26 m2 (nI a') w') (fun m => Ch SF0 SC m2 m) := fun he => Tr_jce (fail_skip he) (R32 he)
  have Y0 : ¬ m2.1 0 22 = 0 → Tr (jb (100000 < w') (mo_workDay_26 m2 (nI a') w') (jb ((-100000) ≤ w') (mo_workDay_32 m2 (nI a') w') (mo_workDay_26 m2 (nI a') w'))) (fun m => Ch SF0 SC m2 m) := fun he => Tr_jb (fun _ => R26 he) (fun _ => Tr_jb (fun _ => R32 he) (fun _ => R26 he))
  have E0 : ∀ {p q : Int32}, Tr (mo_workDay_26 m2 p q) (fun m => XE n u h cs0 ms0 (er 6, C) m) := fun {p q} => Tr_jc (XE_err I3 (e := 6) (by decide) (by decide)) (fun m ⟨k1, k2, k3⟩ => Tr_jbf k3 (Tr_some k1))
  have fw := isFar_c v1 v2
  have hisw : ∀ d : Nat, d ≤ 3000000 → f_mo_isWork m2 (nI d) 2 = some (b01 (workB (d : Int) && !holB (av c2 2) (hM n c2) (d : Int))) := fun d hd => isWork_m b1 hd
  have h102 : ∀ t : Int, -2147483648 ≤ t → t < 2147483648 → Tr (mo_workDay_102 m2 (iZ t)) (fun m => XE n u h cs0 ms0 (dayV t, C) m) := fun t t1 t2 => by
    unfold mo_workDay_102
    rw [iZ_j t1 t2]
    exact ansDay_m I3 t1 t2
  by_cases g : -100000 ≤ v ∧ v ≤ 100000
  · rw [if_pos g] at fw
    have n1 : ¬ 100000 < iZ v := fun z => by have := (iZ_ltI (a := 100000) (b := v) (by omega) (by omega) (by omega) (by omega)).mp z; omega
    have n2 : -100000 ≤ iZ v := by rw [m1e5]; exact (iZ_leI (by omega) (by omega) (by omega) (by omega)).mpr g.1
    by_cases h0 : v = 0
    · have hda : dayV (a : Int) = (1, FP.i2d (nI a), []) := by
        unfold dayV
        rw [if_pos (by omega), iZ_nI]
      refine Sm_fin I3 (V := (1, FP.i2d (nI a), [])) (TA_jce eC (TA_jce fw (TA_jbt rfl (TA_jbt (by rw [h0]; rfl) (TA_vl rfl))))) Y0 (fun hf he => ?_)
      rw [hf1] at hf
      obtain ⟨w1, w2⟩ := hv hf
      rw [w1, w2]
      refine Tr_jbf n1 (Tr_jbt n2 (Tr_jbt he (Tr_jbt ?_ ?_)))
      · rw [h0]; decide
      · show Tr (mo_workDay_51 (19999999 + 1) m2 (nI a) (iZ v) (iZ v)) _
        refine Tr_jbt ?_ ?_
        · rw [h0]; decide
        · have := h102 (a : Int) (by omega) (by omega)
          rw [hda, ← iZ_nI] at this
          exact this
    · have hne : ¬ iZ v = 0 := fun z => h0 ((iZ_eqI (b := 0) (by omega) (by omega) (by omega) (by omega)).mp z)
      by_cases hp : 0 < v
      · obtain ⟨m, hmv⟩ : ∃ m : Nat, v = (m : Int) := ⟨v.toNat, by omega⟩
        obtain ⟨r, r1, r2, r3, r4, r5⟩ := behind_c hL hS hc hbd (a := a) (m := m) ha (by omega) (by omega)
        refine Sm_fin I3 (V := dayV r) (TA_jce eC (TA_jce fw (TA_jbt rfl (TA_jbf hne (TA_jbf (fun z => ?_) ?_))))) Y0 (fun hf he => ?_)
        · have := (iZ_leI (b := 0) (by omega) (by omega) (by omega) (by omega)).mp z
          omega
        · rw [hmv, ← iZ_nI]
          refine TA_jce r1 ?_
          exact dOE_c (by omega) (by omega)
        · rw [hf1] at hf
          obtain ⟨w1, w2⟩ := hv hf
          rw [w1, w2]
          have hv0 : 0 ≤ iZ v := (pos_iZ (by omega) (by omega)).mpr (by omega)
          refine Tr_jbf n1 (Tr_jbt n2 (Tr_jbt he (Tr_jbt hv0 ?_)))
          -- day by day
          have loop : ∀ (s d left fu : Nat), d + s = 2958466 → s + 1 < fu → (d ≤ 2958465 → (left : Int) = (m : Int) - (rI f c (d : Int) - rI f c (a : Int)) ∧ (left = 0 → rI f c ((d : Int) - 1) = rI f c (a : Int) + (m : Int) - 1)) → (d = 2958466 → rI f c 2958465 < rI f c (a : Int) + (m : Int)) → left ≤ 100000 → Tr (mo_workDay_51 fu m2 (nI d) (iZ v) (nI left)) (fun M => XE n u h cs0 ms0 (dayV r, C) M) := by
            intro s
            induction s with
            | zero =>
              intro d left fu hd hf hJ hJ2 hl
              obtain ⟨g', rfl⟩ : ∃ g', fu = g' + 1 := ⟨fu - 1, by omega⟩
              have hd2 : d = 2958466 := by omega
              have hlt := hJ2 hd2
              have hrbig : 2958465 < r := Int.not_le.mp fun q => by
                have := rI_le hS hm (a := r) (b := 2958465) (by omega) q (Int.le_refl _)
                omega
              have hV : dayV r = dayV (d : Int) := by
                unfold dayV
                rw [if_neg (by omega), if_neg (by omega)]
              have fin : Tr (mo_workDay_102 m2 (nI d)) (fun M => XE n u h cs0 ms0 (dayV r, C) M) := by
                rw [hV, iZ_nI]
                exact h102 (d : Int) (by omega) (by omega)
              refine Tr_jb (fun _ => fin) (fun _ => Tr_jbf (nI_pos (by omega)) (Tr_jbt (nI_lt (a := 2958465) (by omega) (by omega)) fin))
            | succ s ih =>
              intro d left fu hd hf hJ hJ2 hl
              obtain ⟨g', rfl⟩ : ∃ g', fu = g' + 1 := ⟨fu - 1, by omega⟩
              obtain ⟨j1, j2⟩ := hJ (by omega)
              by_cases hl0 : left = 0
              · have j2 := j2 hl0
                have hdr : (d : Int) = r := by
                  rcases Int.lt_trichotomy (d : Int) r with q | q | q
                  · exfalso
                    by_cases hr : r ≤ 2958466
                    · have := rI_le hS hm (a := (d : Int)) (b := r - 1) (by omega) (by omega) (by omega)
                      omega
                    · -- r lies beyond: its row of counts goes on rising
                      have h1 : rI f c (d : Int) = rI f c r := by omega
                      have w1 : wI (d : Int) ≤ wI (r - 1) := by
                        have hs1 := wd_ge (r - 1) (wI (d : Int))
                        have hs2 := wd_ge (d : Int) (wI (d : Int))
                        exact hs1.mpr (Int.le_trans (hs2.mp (Int.le_refl _)) (by omega))
                      have c1 := Nc_all (f := f) (c := c) (t := r - 1 + 1) (fun j hj => by have := hbd j hj; omega)
                      have c2 := Nc_all (f := f) (c := c) (t := r + 1) (fun j hj => by have := hbd j hj; omega)
                      have hst := wI_step r
                      -- between d and r - 1 nothing is lost
                      have h2 : rI f c 2958465 ≤ rI f c (r - 1) := by
                        unfold rI
                        have c3 := Nc_all (f := f) (c := c) (t := 2958465 + 1) (fun j hj => by have := hbd j hj; omega)
                        have hs1 := wd_ge (r - 1) (wI 2958465)
                        have hs2 := wd_ge 2958465 (wI 2958465)
                        have := hs1.mpr (Int.le_trans (hs2.mp (Int.le_refl _)) (by omega))
                        omega
                      have h3 := rI_le hS hm (a := (d : Int)) (b := 2958465) (by omega) (by omega) (Int.le_refl _)
                      omega
                  · exact q
                  · exfalso
                    have := rI_le hS hm (a := r) (b := (d : Int) - 1) (by omega) (by omega) (by omega)
                    omega
                refine Tr_jbt (by rw [hl0]; decide) ?_
                rw [← hdr, iZ_nI]
                exact h102 (d : Int) (by omega) (by omega)
              · refine Tr_jbf (nI_nle (by omega) (by omega)) (Tr_jbf (nI_pos (by omega)) (Tr_jbf (nI_nlt (a := 2958465) (by omega) (by omega)) (Tr_jbt hv0 (Tr_jn ?_))))
                rw [nI_1]
                refine Tr_jbf (nI_pos (by omega)) (Tr_jce (hisw (d + 1) (by omega)) ?_)
                have next : ∀ l' : Nat, (d + 1 ≤ 2958465 → (l' : Int) = (left : Int) - (if (workB ((d + 1 : Nat) : Int) && !holB (av c2 2) (hM n c2) ((d + 1 : Nat) : Int)) = true then 1 else 0)) → l' ≤ left → Tr (mo_workDay_51 g' m2 (nI (d + 1)) (iZ v) (nI l')) (fun M => XE n u h cs0 ms0 (dayV r, C) M) := fun l' h1 h2 => by
                  refine ih (d + 1) l' g' (by omega) (by omega) (fun h3 => ?_) (fun h3 => ?_) (by omega)
                  · have hst := rI_step hS hm (d := d + 1) h3
                    rw [show ((d + 1 : Nat) : Int) - 1 = (d : Int) by omega] at hst ⊢
                    have h1 := h1 h3
                    refine ⟨by omega, fun h4 => ?_⟩
                    split at h1
                    · omega
                    · omega
                  · have : (d : Int) = 2958465 := by omega
                    rw [this] at j1
                    omega
                cases hw : (workB ((d + 1 : Nat) : Int) && !holB (av c2 2) (hM n c2) ((d + 1 : Nat) : Int)) with
                | true =>
                  refine Tr_jbf (by decide) (Tr_jn ?_)
                  have e : nI left - 1 = nI (left - 1) := nI_pre (by omega)
                  rw [e]
                  exact next (left - 1) (fun _ => by rw [hw, if_pos rfl]; omega) (by omega)
                | false =>
                  refine Tr_jbt rfl ?_
                  unfold mo_workDay_96 mo_workDay_97
                  refine Tr_jn ?_
                  have e : nI left - 0 = nI left := nI_sub (a := left) (b := 0) (Nat.zero_le _)
                  rw [e]
                  exact next left (fun _ => by rw [hw, if_neg (by decide)]; omega) (Nat.le_refl _)
          have := loop (2958466 - a) a m FU (by omega) (FU_lt (by omega)) (fun _ => ⟨by omega, fun q => by omega⟩) (fun q => by omega) (by omega)
          rw [hmv, ← iZ_nI] at this ⊢
          exact this
      · obtain ⟨m, hmv⟩ : ∃ m : Nat, -v = (m : Int) := ⟨(-v).toNat, by omega⟩
        obtain ⟨r, r1, r2, r3, r4, r5⟩ := before_c hL hS hc hbd (a := a) (m := m) ha (by omega) (by omega)
        have eneg : -(iZ v) = nI m := by rw [iZ_neg, hmv, ← iZ_nI]
        refine Sm_fin I3 (V := dayV r) (TA_jce eC (TA_jce fw (TA_jbt rfl (TA_jbf hne (TA_jbt ((iZ_leI (b := 0) (by omega) (by omega) (by omega) (by omega)).mpr (by omega)) ?_))))) Y0 (fun hf he => ?_)
        · rw [eneg]
          refine TA_jce r1 ?_
          exact dOE_c (by omega) (by omega)
        · rw [hf1] at hf
          obtain ⟨w1, w2⟩ := hv hf
          rw [w1, w2]
          have hv0 : ¬ 0 ≤ iZ v := fun z => by have := (pos_iZ (by omega) (by omega)).mp z; omega
          refine Tr_jbf n1 (Tr_jbt n2 (Tr_jbt he (Tr_jbf hv0 ?_)))
          rw [eneg]
          have loop : ∀ (d left fu : Nat), d + 1 < fu → d ≤ a → (left : Int) = (m : Int) - (rI f c ((a : Int) - 1) - rI f c ((d : Int) - 1)) → (left = 0 → rI f c (d : Int) = rI f c ((a : Int) - 1) - (m : Int) + 1) → left ≤ 100000 → Tr (mo_workDay_51 fu m2 (nI d) (iZ v) (nI left)) (fun M => XE n u h cs0 ms0 (dayV r, C) M) := by
            intro d
            induction d with
            | zero =>
              intro left fu hf hda hJ hJ2 hl
              obtain ⟨g', rfl⟩ : ∃ g', fu = g' + 1 + 1 := ⟨fu - 2, by omega⟩
              by_cases hl0 : left = 0
              · have j2 := hJ2 hl0
                have hdr : ((0 : Nat) : Int) = r := by
                  rcases Int.lt_trichotomy ((0 : Nat) : Int) r with q | q | q
                  · exfalso
                    have := rI_le hS hm (a := ((0 : Nat) : Int)) (b := r - 1) (by omega) (by omega) (by omega)
                    omega
                  · exact q
                  · exfalso
                    -- before day 0 the count has no free days in it
                    have z1 : ∀ t : Int, t ≤ 0 → Nc f c t = 0 := fun t ht => by
                      have := Nc_none (f := f) (t := t) (k := 0) (n := c) (fun j _ _ => by omega)
                      rw [Nat.zero_add] at this
                      exact this
                    have h1 : rI f c r ≤ rI f c (((0 : Nat) : Int) - 1) := by
                      unfold rI
                      rw [z1 _ (by omega), z1 _ (by omega)]
                      have hs1 := wd_ge (((0 : Nat) : Int) - 1) (wI r)
                      have hs2 := wd_ge r (wI r)
                      have := hs1.mpr (Int.le_trans (hs2.mp (Int.le_refl _)) (by omega))
                      omega
                    omega
                refine Tr_jbt (by rw [hl0]; decide) ?_
                have := h102 ((0 : Nat) : Int) (by omega) (by omega)
                rw [← iZ_nI] at this
                rw [← hdr]
                exact this
              · refine Tr_jbf (nI_nle (by omega) (by omega)) (Tr_jbf (nI_pos (by decide)) (Tr_jbf (by decide) (Tr_jbf hv0 (Tr_jn ?_))))
                have e : nI 0 + -1 = iZ (-1) := by decide
                rw [e]
                refine Tr_jbt (by decide) ?_
                unfold mo_workDay_96 mo_workDay_97
                refine Tr_jn ?_
                have e2 : nI left - 0 = nI left := nI_sub (a := left) (b := 0) (Nat.zero_le _)
                rw [e2]
                refine Tr_jbf (nI_nle (by omega) (by omega)) (Tr_jbt (by decide) ?_)
                have hr0 : r < 0 := Int.not_le.mp fun q => by
                  have := rI_le hS hm (a := ((0 : Nat) : Int) - 1) (b := r - 1) (by omega) (by omega) (by omega)
                  omega
                have hV : dayV r = dayV (-1) := by
                  unfold dayV
                  rw [if_neg (by omega), if_neg (by omega)]
                rw [hV]
                exact h102 (-1) (by omega) (by omega)
            | succ d ih =>
              intro left fu hf hda hJ hJ2 hl
              obtain ⟨g', rfl⟩ : ∃ g', fu = g' + 1 := ⟨fu - 1, by omega⟩
              have hd1 : ((d + 1 : Nat) : Int) - 1 = (d : Int) := by omega
              rw [hd1] at hJ
              by_cases hl0 : left = 0
              · have j2 := hJ2 hl0
                have hdr : ((d + 1 : Nat) : Int) = r := by
                  rcases Int.lt_trichotomy ((d + 1 : Nat) : Int) r with q | q | q
                  · exfalso
                    have := rI_le hS hm (a := ((d + 1 : Nat) : Int)) (b := r - 1) (by omega) (by omega) (by omega)
                    omega
                  · exact q
                  · exfalso
                    by_cases hr : -1 ≤ r
                    · have := rI_le hS hm (a := r) (b := (d : Int)) (by omega) (by omega) (by omega)
                      omega
                    · have z1 : ∀ t : Int, t ≤ 0 → Nc f c t = 0 := fun t ht => by
                        have := Nc_none (f := f) (t := t) (k := 0) (n := c) (fun j _ _ => by omega)
                        rw [Nat.zero_add] at this
                        exact this
                      have h1 : rI f c r ≤ rI f c (-1) := by
                        unfold rI
                        rw [z1 _ (by omega), z1 _ (by omega)]
                        have hs1 := wd_ge (-1) (wI r)
                        have hs2 := wd_ge r (wI r)
                        have := hs1.mpr (Int.le_trans (hs2.mp (Int.le_refl _)) (by omega))
                        omega
                      have h2 := rI_le hS hm (a := -1) (b := (d : Int)) (by omega) (by omega) (by omega)
                      omega
                refine Tr_jbt (by rw [hl0]; decide) ?_
                rw [← hdr, iZ_nI]
                exact h102 _ (by omega) (by omega)
              · refine Tr_jbf (nI_nle (by omega) (by omega)) (Tr_jbf (nI_pos (by omega)) (Tr_jbf (nI_nlt (a := 2958465) (by omega) (by decide)) (Tr_jbf hv0 (Tr_jn ?_))))
                rw [i_m1, nI_pred]
                refine Tr_jbf (nI_pos (by omega)) (Tr_jce (hisw d (by omega)) ?_)
                have hst := rI_step hS hm (d := d) (by omega)
                cases hw : (workB (d : Int) && !holB (av c2 2) (hM n c2) (d : Int)) with
                | true =>
                  rw [hw, if_pos rfl] at hst
                  refine Tr_jbf (by decide) (Tr_jn ?_)
                  have e : nI left - 1 = nI (left - 1) := nI_pre (by omega)
                  rw [e]
                  exact ih (left - 1) g' (by omega) (by omega) (by omega) (fun q => by omega) (by omega)
                | false =>
                  rw [hw, if_neg (by decide)] at hst
                  refine Tr_jbt rfl ?_
                  unfold mo_workDay_96 mo_workDay_97
                  refine Tr_jn ?_
                  have e : nI left - 0 = nI left := nI_sub (a := left) (b := 0) (Nat.zero_le _)
                  rw [e]
                  exact ih left g' (by omega) (by omega) (by omega) (fun q => by omega) (by omega)
          exact loop a m FU (FU_lt (by omega)) (Nat.le_refl _) (by omega) (fun q => by omega) (by omega)
  · rw [if_neg g] at fw
    refine Sm_fin I3 (V := er 6) (TA_jce eC (TA_jce fw (TA_jbf (by decide) (TA_vl rfl)))) Y0 (fun hf he => ?_)
    rw [hf1] at hf
    obtain ⟨w1, w2⟩ := hv hf
    rw [w1, w2]
    by_cases g5 : 100000 < v
    · exact Tr_jbt ((iZ_ltI (a := 100000) (b := v) (by omega) (by omega) (by omega) (by omega)).mpr g5) E0
    · refine Tr_jbf (fun z => g5 ((iZ_ltI (a := 100000) (b := v) (by omega) (by omega) (by omega) (by omega)).mp z)) (Tr_jbf (fun z => ?_) E0)
      rw [m1e5] at z
      have := (iZ_leI (by omega) (by omega) (by omega) (by omega)).mp z
      omega
