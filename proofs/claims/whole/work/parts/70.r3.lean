/-! ### sizes of letters -/
def grC (c : Nat) : Nat := if 97 ≤ c ∧ c ≤ 122 then c - 32 else c
def smC (c : Nat) : Nat := if 65 ≤ c ∧ c ≤ 90 then c + 32 else c
def isL (c : Nat) : Bool := decide (65 ≤ c ∧ c ≤ 90) || decide (97 ≤ c ∧ c ≤ 122)
theorem grC_lt {c : Nat} (h : c < 256) : grC c < 256 := by unfold grC; split <;> omega
theorem smC_lt {c : Nat} (h : c < 256) : smC c < 256 := by unfold smC; split <;> omega
theorem great_c {c : Nat} (h : c < 256) : f_wf_great (nI c) = some (nI (grC c)) := by
  unfold grC
  by_cases h1 : c < 97
  · rw [if_neg (by omega)]
    exact e_bt (nI_lt (b := 97) h1 (by decide)) (e_g (isC_of (by omega)) rfl)
  · by_cases h2 : 122 < c
    · rw [if_neg (by omega)]
      exact e_bf (nI_nlt (b := 97) (by omega) (by omega)) (e_bt (nI_lt (a := 122) h2 (by omega)) (e_g (isC_of (by omega)) rfl))
    · rw [if_pos (by omega)]
      have e : (((nI c - 97) + 65).toUInt32 % 65536).toInt32 = nI (c - 32) := by
        show ((nI c - nI 97 + nI 65).toUInt32 % 65536).toInt32 = _
        rw [nI_sub (by omega), nI_add, u16 (by omega)]
        congr 1
        omega
      refine e_bf (nI_nlt (b := 97) (by omega) (by omega)) (e_bf (nI_nlt (a := 122) (by omega) (by decide)) ?_)
      rw [e]
      exact e_g (isC_of (by omega)) rfl
theorem great_m {c : Nat} (h : c < 256) : f_mo_great (nI c) = some (nI (grC c)) := by
  unfold grC
  by_cases h1 : c < 97
  · rw [if_neg (by omega)]
    exact e_bt (nI_lt (b := 97) h1 (by decide)) rfl
  · by_cases h2 : 122 < c
    · rw [if_neg (by omega)]
      exact e_bf (nI_nlt (b := 97) (by omega) (by omega)) (e_bt (nI_lt (a := 122) h2 (by omega)) rfl)
    · rw [if_pos (by omega)]
      refine e_bf (nI_nlt (b := 97) (by omega) (by omega)) (e_bf (nI_nlt (a := 122) (by omega) (by decide)) ?_)
      show some (nI c - nI 32) = _
      rw [nI_sub (by omega)]
theorem small_c {c : Nat} (h : c < 256) : f_wf_small (nI c) = some (nI (smC c)) := by
  unfold smC
  by_cases h1 : c < 65
  · rw [if_neg (by omega)]
    exact e_bt (nI_lt (b := 65) h1 (by decide)) (e_g (isC_of (by omega)) rfl)
  · by_cases h2 : 90 < c
    · rw [if_neg (by omega)]
      exact e_bf (nI_nlt (b := 65) (by omega) (by omega)) (e_bt (nI_lt (a := 90) h2 (by omega)) (e_g (isC_of (by omega)) rfl))
    · rw [if_pos (by omega)]
      have e : (((nI c - 65) + 97).toUInt32 % 65536).toInt32 = nI (c + 32) := by
        show ((nI c - nI 65 + nI 97).toUInt32 % 65536).toInt32 = _
        rw [nI_sub (by omega), nI_add, u16 (by omega)]
        congr 1
        omega
      refine e_bf (nI_nlt (b := 65) (by omega) (by omega)) (e_bf (nI_nlt (a := 90) (by omega) (by decide)) ?_)
      rw [e]
      exact e_g (isC_of (by omega)) rfl
theorem small_m {c : Nat} (h : c < 256) : f_mo_small (nI c) = some (nI (smC c)) := by
  unfold smC
  by_cases h1 : c < 65
  · rw [if_neg (by omega)]
    exact e_bt (nI_lt (b := 65) h1 (by decide)) rfl
  · by_cases h2 : 90 < c
    · rw [if_neg (by omega)]
      exact e_bf (nI_nlt (b := 65) (by omega) (by omega)) (e_bt (nI_lt (a := 90) h2 (by omega)) rfl)
    · rw [if_pos (by omega)]
      refine e_bf (nI_nlt (b := 65) (by omega) (by omega)) (e_bf (nI_nlt (a := 90) (by omega) (by decide)) ?_)
      show some (nI c + nI 32) = _
      rw [nI_add]
def b01 (b : Bool) : Int32 := if b then 1 else 0
theorem isLetter_c {c : Nat} (h : c < 256) : f_wf_isLetter (nI c) = some (b01 (isL c)) := by
  have k12 : f_wf_isLetter (nI c) = some (b01 (isL c)) ∨ True := Or.inr trivial
  have e12 : ¬ (65 ≤ c ∧ c ≤ 90) → wf_isLetter_12 (nI c) = some (b01 (isL c)) := fun hn => by
    by_cases h1 : c < 97
    · have e : isL c = false := by unfold isL; simp; omega
      rw [e]
      exact e_bt (nI_lt (b := 97) h1 (by decide)) rfl
    · by_cases h2 : 122 < c
      · have e : isL c = false := by unfold isL; simp; omega
        rw [e]
        exact e_bf (nI_nlt (b := 97) (by omega) (by omega)) (e_bt (nI_lt (a := 122) h2 (by omega)) rfl)
      · have e : isL c = true := by unfold isL; simp; omega
        rw [e]
        exact e_bf (nI_nlt (b := 97) (by omega) (by omega)) (e_bf (nI_nlt (a := 122) (by omega) (by decide)) rfl)
  by_cases h1 : c < 65
  · exact e_bt (nI_lt (b := 65) h1 (by decide)) (e12 (by omega))
  · by_cases h2 : c ≤ 90
    · have e : isL c = true := by unfold isL; simp; omega
      rw [e]
      exact e_bf (nI_nlt (b := 65) (by omega) (by omega)) (e_bt (nI_le (b := 90) h2 (by decide)) rfl)
    · exact e_bf (nI_nlt (b := 65) (by omega) (by omega)) (e_bf (nI_ge (a := 90) (by omega) (by omega)) (e12 (by omega)))
def rng (g : Nat → Nat) (i : Nat) : TT := (List.range i).map g
theorem rng_succ {g : Nat → Nat} {i : Nat} : rng g (i + 1) = rng g i ++ [g i] := by
  unfold rng
  rw [List.range_succ, List.map_append]
  rfl
theorem rng_len {g : Nat → Nat} {i : Nat} : (rng g i).length = i := by
  unfold rng
  rw [List.length_map, List.length_range]
theorem rng_lt {g : Nat → Nat} {i : Nat} (h : ∀ j, j < i → g j < 256) : ∀ c ∈ rng g i, c < 256 := fun c hc => by
  unfold rng at hc
  obtain ⟨j, hj, rfl⟩ := List.mem_map.mp hc
  exact h j (List.mem_range.mp hj)
/-- UPPER, LOWER: the class's loop -/
theorem sizedC {cs : CS} {t : TT} (ht : okT t) {x1 : Int32} {g : Nat → Nat} (hg : ∀ j, g j = if x1 = 0 then smC (t.getD j 0) else grC (t.getD j 0)) : ∀ (m i q fu : Nat), i + m = t.length → m < fu → 16 ≤ q → q ≤ 2 * 255 + 16 → TA (fc q 255 + 3) (fs q 255 + 262) (tx_sized_20 fu cs x1 t (nI i) (rng g i, q)) (fun a => a = (tv (rng g t.length), cs)) := by
  have htl := ht.1
  intro m
  induction m with
  | zero =>
    intro i q fu hi hf hq hq2
    obtain ⟨f, rfl⟩ : ∃ f, fu = f + 1 := ⟨fu - 1, by omega⟩
    obtain rfl : i = t.length := by omega
    exact TA_jce rfl (TA_jbt (nI_le (Nat.le_refl _) (by omega)) (tv_end (by rw [rng_len]; omega) (by omega) (by omega)))
  | succ m ih =>
    intro i q fu hi hf hq hq2
    obtain ⟨f, rfl⟩ : ∃ f, fu = f + 1 := ⟨fu - 1, by omega⟩
    have hc := okT_at ht i
    have fin : g i < 256 → TA (fc q 255 + 3) (fs q 255 + 262) (tx_sized_55 (tx_sized_20 f) cs x1 t (nI i) (nI (g i)) (rng g i, q)) (fun a => a = (tv (rng g t.length), cs)) := fun hgi => by
      refine TA_appC (x := (rng g i, q)) hgi hq hq2 (by rw [rng_len]; omega) (by decide) (fun q' h1 h2 => TA_jn ?_)
      rw [nI_1]
      show TA _ _ (tx_sized_20 f cs x1 t (nI (i + 1)) (rng g i ++ [g i], q')) _
      rw [← rng_succ]
      exact ih (i + 1) q' f (by omega) (by omega) h1 h2
    refine TA_jce rfl (TA_jbf (nI_ge (by omega) (by omega)) (TA_jce (charAt_ok (by omega) htl) ?_))
    by_cases hx : x1 = 0
    · have e : g i = smC (t.getD i 0) := by rw [hg, if_pos hx]
      rw [e] at fin
      exact TA_jbt hx (TA_jce (small_c hc) (fin (smC_lt hc)))
    · have e : g i = grC (t.getD i 0) := by rw [hg, if_neg hx]
      rw [e] at fin
      exact TA_jbf hx (TA_jce (great_c hc) (fin (grC_lt hc)))
/-- whether a letter stands before a place -/
def bef (t : TT) (i : Nat) : Bool := decide (0 < i) && isL (t.getD (i - 1) 0)
theorem bef_succ {t : TT} {i : Nat} : bef t (i + 1) = isL (t.getD i 0) := by
  unfold bef
  rw [Nat.add_sub_cancel]
  simp
theorem properC {cs : CS} {t : TT} (ht : okT t) {g : Nat → Nat} (hg : ∀ j, g j = if bef t j = true then smC (t.getD j 0) else grC (t.getD j 0)) : ∀ (m i q fu : Nat), i + m = t.length → m < fu → 16 ≤ q → q ≤ 2 * 255 + 16 → TA (fc q 255 + 3) (fs q 255 + 262) (tx_proper_22 fu cs t (b01 (bef t i)) (nI i) (rng g i, q)) (fun a => a = (tv (rng g t.length), cs)) := by
  have htl := ht.1
  intro m
  induction m with
  | zero =>
    intro i q fu hi hf hq hq2
    obtain ⟨f, rfl⟩ : ∃ f, fu = f + 1 := ⟨fu - 1, by omega⟩
    obtain rfl : i = t.length := by omega
    exact TA_jce rfl (TA_jbt (nI_le (Nat.le_refl _) (by omega)) (tv_end (by rw [rng_len]; omega) (by omega) (by omega)))
  | succ m ih =>
    intro i q fu hi hf hq hq2
    obtain ⟨f, rfl⟩ : ∃ f, fu = f + 1 := ⟨fu - 1, by omega⟩
    have hc := okT_at ht i
    have fin : g i < 256 → TA (fc q 255 + 3) (fs q 255 + 262) (tx_proper_57 (tx_proper_22 f) cs t (nI i) (nI (t.getD i 0)) (nI (g i)) (rng g i, q)) (fun a => a = (tv (rng g t.length), cs)) := fun hgi => by
      refine TA_appC (x := (rng g i, q)) hgi hq hq2 (by rw [rng_len]; omega) (by decide) (fun q' h1 h2 => TA_jce (isLetter_c hc) (TA_jn ?_))
      rw [nI_1]
      show TA _ _ (tx_proper_22 f cs t (b01 (isL (t.getD i 0))) (nI (i + 1)) (rng g i ++ [g i], q')) _
      rw [← rng_succ, ← bef_succ]
      exact ih (i + 1) q' f (by omega) (by omega) h1 h2
    refine TA_jce rfl (TA_jbf (nI_ge (by omega) (by omega)) (TA_jce (charAt_ok (by omega) htl) ?_))
    by_cases hx : bef t i = true
    · have e : g i = smC (t.getD i 0) := by rw [hg, if_pos hx]
      rw [e] at fin
      rw [hx]
      exact TA_jbf (by decide) (TA_jce (small_c hc) (fin (smC_lt hc)))
    · have e : g i = grC (t.getD i 0) := by rw [hg, if_neg hx]
      rw [e] at fin
      rw [show bef t i = false by simpa using hx]
      exact TA_jbt rfl (TA_jce (great_c hc) (fin (grC_lt hc)))
theorem grC_L {c : Nat} : (65 ≤ grC c ∧ grC c ≤ 90) ↔ isL c = true := by
  unfold grC isL
  simp only [Bool.or_eq_true, decide_eq_true_eq]
  split <;> omega
theorem sizesM {t : TT} (ht : okT t) {p : Nat} (hp : p = 75 ∨ p = 76 ∨ p = 77) {g : Nat → Nat} (hg : ∀ j, g j = if p = 75 then grC (t.getD j 0) else if p = 77 then (if bef t j = true then smC (t.getD j 0) else grC (t.getD j 0)) else smC (t.getD j 0)) {Q : GS → Prop} : ∀ (m i fu : Nat) (M : GS), i + m = t.length → m < fu → Mk (rng g i) M → Txt 27 13 t M → (∀ M', Mk (rng g t.length) M' → Ch [30, 31] [16] M M' → Tr (f_mo_answerText M') Q) → Tr (mo_sizes_17 fu M (nI p) (b01 (bef t i)) (nI i)) Q := by
  have htl := ht.1
  intro m
  induction m with
  | zero =>
    intro i fu M hi hf hM hT hend
    obtain ⟨f, rfl⟩ : ∃ f, fu = f + 1 := ⟨fu - 1, by omega⟩
    obtain rfl : i = t.length := by omega
    exact Tr_jbt (by rw [hT.1]; exact nI_le (Nat.le_refl _) (by omega)) (Tr_jc (hend M hM Ch_refl) (fun r hr => Tr_some hr))
  | succ m ih =>
    intro i fu M hi hf hM hT hend
    obtain ⟨f, rfl⟩ : ∃ f, fu = f + 1 := ⟨fu - 1, by omega⟩
    have hc := okT_at ht i
    have hgc := grC_lt hc
    have hin : inb (nI i) 256 = true := inb_of (by omega) (by decide)
    have e13 : M.1 13 (nI i).toNatClampNeg = nI (t.getD i 0) := by rw [nI_clamp (by omega)]; exact hT.2 i (by omega)
    have fin98 : Tr (mo_sizes_98 (mo_sizes_17 f) M (nI p) (nI i) (b01 (isL (t.getD i 0))) (nI (g i))) Q := by
      refine Tr_jc (make_m hM) (fun r ⟨r1, r2⟩ => Tr_jn ?_)
      rw [nI_1, ← bef_succ]
      rw [← rng_succ] at r1
      exact ih (i + 1) f r (by omega) (by omega) r1 (Txt_ch hT r2 (by decide) (by decide) (by decide)) (fun M' m1 m2 => hend M' m1 (Ch_trans r2 m2 (fun _ z => z) (fun _ z => z)))
    have s77 : g i = grC (t.getD i 0) → Tr (mo_sizes_77 (mo_sizes_17 f) M (nI p) (nI i) (b01 (isL (t.getD i 0)))) Q := fun e => by
      rw [e] at fin98
      refine Tr_jg hin (Tr_jce ?_ fin98)
      rw [e13]; exact great_m hc
    have s89 : g i = smC (t.getD i 0) → Tr (mo_sizes_89 (mo_sizes_17 f) M (nI p) (nI i) (b01 (isL (t.getD i 0)))) Q := fun e => by
      rw [e] at fin98
      refine Tr_jg hin (Tr_jce ?_ fin98)
      rw [e13]; exact small_m hc
    have s58 : Tr (mo_sizes_58 (mo_sizes_17 f) M (nI p) (b01 (bef t i)) (nI i) (b01 (isL (t.getD i 0)))) Q := by
      rcases hp with rfl | rfl | rfl
      · exact Tr_jbt rfl (s77 (by rw [hg, if_pos rfl]))
      · exact Tr_jbf (by decide) (Tr_jbf (by decide) (s89 (by rw [hg, if_neg (by decide), if_neg (by decide)])))
      · refine Tr_jbf (by decide) (Tr_jbt rfl ?_)
        by_cases hx : bef t i = true
        · refine Tr_jbf (by rw [hx]; decide) (s89 (by rw [hg, if_neg (by decide), if_pos rfl, if_pos hx]))
        · refine Tr_jbt (by rw [show bef t i = false by simpa using hx]; rfl) (s77 (by rw [hg, if_neg (by decide), if_pos rfl, if_neg hx]))
    refine Tr_jbf (by rw [hT.1]; exact nI_ge (by omega) (by omega)) (Tr_jg hin ?_)
    rw [e13]
    refine Tr_jce (great_m hc) ?_
    by_cases h65 : grC (t.getD i 0) < 65
    · have e : isL (t.getD i 0) = false := by
        have := grC_L (c := t.getD i 0)
        cases hl : isL (t.getD i 0)
        · rfl
        · exact absurd (this.mpr hl).1 (by omega)
      rw [e] at s58
      exact Tr_jbt (nI_lt (b := 65) h65 (by decide)) s58
    · refine Tr_jbf (nI_nlt (b := 65) (by omega) (by omega)) (Tr_jg hin ?_)
      refine Tr_jce (great_m hc) ?_
      by_cases h90 : 90 < grC (t.getD i 0)
      · have e : isL (t.getD i 0) = false := by
          have := grC_L (c := t.getD i 0)
          cases hl : isL (t.getD i 0)
          · rfl
          · exact absurd (this.mpr hl).2 (by omega)
        rw [e] at s58
        exact Tr_jbt (nI_lt (a := 90) h90 (by omega)) s58
      · have e : isL (t.getD i 0) = true := grC_L.mp ⟨by omega, by omega⟩
        rw [e] at s58
        exact Tr_jbf (nI_nlt (a := 90) (by omega) (by decide)) s58
theorem fc16 : fc 16 255 = 30 ∧ fs 16 255 = 988 := ⟨rfl, rfl⟩
theorem sizes_m {n u h : Nat} {cs0 ca : CS} {ms0 m2 : GS} {t : TT} (b1 : CI n u h cs0 ms0 ca m2) (b2 : okT t) (b3 : Txt 27 13 t m2) (hM2 : Mk [] m2) {p : Nat} (hp : p = 75 ∨ p = 76 ∨ p = 77) {g : Nat → Nat} (hg : ∀ j, g j = if p = 75 then grC (t.getD j 0) else if p = 77 then (if bef t j = true then smC (t.getD j 0) else grC (t.getD j 0)) else smC (t.getD j 0)) : Tr (mo_sizes_17 FU m2 (nI p) 0 0) (fun m => XE n u h cs0 ms0 (tv (rng g t.length), ca) m) := by
  have htl := b2.1
  refine sizesM b2 hp hg t.length 0 FU m2 (by omega) (FU_lt (by omega)) hM2 b3 (fun M' m1 m3 => ?_)
  refine tv_m (CI_ref b1 m3 (by decide) (by decide) (by decide)) m1 (rng_lt (fun j hj => ?_)) (by rw [rng_len]; omega)
  have hc := okT_at b2 j
  rw [hg]
  split
  · exact grC_lt hc
  · split
    · split
      · exact smC_lt hc
      · exact grC_lt hc
    · exact smC_lt hc
/-- UPPER and LOWER -/
theorem x_sized {n u h : Nat} {cs0 cs : CS} {ms0 ms : GS} (I : CI n u h cs0 ms0 cs ms) (hn : 0 < n) (hM : Mk [] ms) {x : Int32} {p : Nat} (hx : (x = 1 ∧ p = 75) ∨ (x = 0 ∧ p = 76)) : Sm 900 13000 (f_tx_sized cs x) (f_mo_sizes ms (nI p)) (XE n u h cs0 ms0) := by
  refine Sm_jj (k_text I (i := 0) hn) (fun ⟨t, ca⟩ m2 ⟨b1, b0, b2, b3, b5⟩ => ?_)
  dsimp only at *
  have htl := b2.1
  have hM2 := Mk_ch hM b5 (by decide) (by decide) (by decide)
  refine Sm_fin b1 (V := tv (rng (fun j => if x = 0 then smC (t.getD j 0) else grC (t.getD j 0)) t.length)) ?_ (fun he => Tr_jbf he (Tr_some Ch_refl)) (fun hf he => Tr_jbt he ?_)
  · exact TA_mono (TA_ja (k := 2) (n := 20) (sizedC b2 (fun j => rfl) t.length 0 16 FU (by omega) (FU_lt (by omega)) (by decide) (by decide))) (by decide) (by decide) (fun _ z => z)
  · refine sizes_m b1 b2 b3 hM2 (by omega) (fun j => ?_)
    rcases hx with ⟨rfl, rfl⟩ | ⟨rfl, rfl⟩
    · rfl
    · rfl
/-- PROPER -/
theorem x_proper {n u h : Nat} {cs0 cs : CS} {ms0 ms : GS} (I : CI n u h cs0 ms0 cs ms) (hn : 0 < n) (hM : Mk [] ms) : Sm 900 13000 (f_tx_proper cs) (f_mo_sizes ms (nI 77)) (XE n u h cs0 ms0) := by
  refine Sm_jj (k_text I (i := 0) hn) (fun ⟨t, ca⟩ m2 ⟨b1, b0, b2, b3, b5⟩ => ?_)
  dsimp only at *
  have htl := b2.1
  have hM2 := Mk_ch hM b5 (by decide) (by decide) (by decide)
  refine Sm_fin b1 (V := tv (rng (fun j => if bef t j = true then smC (t.getD j 0) else grC (t.getD j 0)) t.length)) ?_ (fun he => Tr_jbf he (Tr_some Ch_refl)) (fun hf he => Tr_jbt he ?_)
  · exact TA_mono (TA_ja (k := 2) (n := 20) (properC b2 (fun j => rfl) t.length 0 16 FU (by omega) (FU_lt (by omega)) (by decide) (by decide))) (by decide) (by decide) (fun _ z => z)
  · refine sizes_m b1 b2 b3 hM2 (by omega) (fun j => ?_)
    rw [if_neg (show ¬ (77 : Nat) = 75 by decide), if_pos rfl]
/-! TRIM: what is made of the first i characters, and whether a blank was the last -/
def trm (t : TT) : Nat → TT × Bool
  | 0 => ([], false)
  | i + 1 => if t.getD i 0 = 32 then ((trm t i).1, true) else if (trm t i).2 = true ∧ 0 < (trm t i).1.length then ((trm t i).1 ++ [32] ++ [t.getD i 0], false) else ((trm t i).1 ++ [t.getD i 0], false)
theorem trm_ok {t : TT} (ht : okT t) : ∀ i, (trm t i).1.length + (if (trm t i).2 = true then 1 else 0) ≤ i ∧ ∀ c ∈ (trm t i).1, c < 256
  | 0 => ⟨Nat.le_refl _, fun c hc => by cases hc⟩
  | i + 1 => by
    obtain ⟨h1, h2⟩ := trm_ok ht i
    have hc := okT_at ht i
    unfold trm
    by_cases e : t.getD i 0 = 32
    · rw [if_pos e]
      refine ⟨?_, h2⟩
      show (trm t i).1.length + 1 ≤ i + 1
      omega
    · rw [if_neg e]
      by_cases e2 : (trm t i).2 = true ∧ 0 < (trm t i).1.length
      · rw [if_pos e2]
        rw [if_pos e2.1] at h1
        refine ⟨?_, fun c hcm => ?_⟩
        · show ((trm t i).1 ++ [32] ++ [t.getD i 0]).length + 0 ≤ i + 1
          rw [List.length_append, List.length_append]
          show (trm t i).1.length + 1 + 1 + 0 ≤ i + 1
          omega
        · have hcm : c ∈ (trm t i).1 ++ [32] ++ [t.getD i 0] := hcm
          rcases List.mem_append.mp hcm with k | k
          · rcases List.mem_append.mp k with k | k
            · exact h2 c k
            · have : c = 32 := by simpa using k
              omega
          · have : c = t.getD i 0 := by simpa using k
            omega
      · rw [if_neg e2]
        refine ⟨?_, fun c hcm => ?_⟩
        · show ((trm t i).1 ++ [t.getD i 0]).length + 0 ≤ i + 1
          rw [List.length_append]
          show (trm t i).1.length + 1 + 0 ≤ i + 1
          omega
        · have hcm : c ∈ (trm t i).1 ++ [t.getD i 0] := hcm
          rcases List.mem_append.mp hcm with k | k
          · exact h2 c k
          · have : c = t.getD i 0 := by simpa using k
            omega
theorem trimC {cs : CS} {t : TT} (ht : okT t) : ∀ (m i q fu : Nat), i + m = t.length → m < fu → 16 ≤ q → q ≤ 2 * 255 + 16 → TA (fc q 255 + 3) (fs q 255 + 262) (tx_trim_22 fu cs t (b01 (trm t i).2) (nI i) ((trm t i).1, q)) (fun a => a = (tv (trm t t.length).1, cs)) := by
  have htl := ht.1
  intro m
  induction m with
  | zero =>
    intro i q fu hi hf hq hq2
    obtain ⟨f, rfl⟩ : ∃ f, fu = f + 1 := ⟨fu - 1, by omega⟩
    obtain rfl : i = t.length := by omega
    have := (trm_ok ht t.length).1
    exact TA_jce rfl (TA_jbt (nI_le (Nat.le_refl _) (by omega)) (tv_end (by omega) (by omega) (by omega)))
  | succ m ih =>
    intro i q fu hi hf hq hq2
    obtain ⟨f, rfl⟩ : ∃ f, fu = f + 1 := ⟨fu - 1, by omega⟩
    have hc := okT_at ht i
    have hl := (trm_ok ht i).1
    have next : ∀ (q' : Nat) (L : TT) (b : Bool), 16 ≤ q' → q' ≤ 2 * 255 + 16 → trm t (i + 1) = (L, b) → (b = true ↔ t.getD i 0 = 32) → TA (fc q' 255 + 3) (fs q' 255 + 262) (tx_trim_71 (tx_trim_22 f) cs t (nI i) (nI (t.getD i 0)) (L, q')) (fun a => a = (tv (trm t t.length).1, cs)) := fun q' L b h1 h2 e hb => by
      have := ih (i + 1) q' f (by omega) (by omega) h1 h2
      rw [e] at this
      by_cases e32 : t.getD i 0 = 32
      · rw [hb.mpr e32] at this
        refine TA_jbt (by rw [e32]; rfl) (TA_jn ?_)
        rw [nI_1]
        exact this
      · rw [show b = false by cases b; rfl; exact absurd (hb.mp rfl) e32] at this
        refine TA_jbf (fun z => e32 ((nI_eq (b := 32) (by omega) (by decide)).mp z)) (TA_jn ?_)
        rw [nI_1]
        exact this
    refine TA_jce rfl (TA_jbf (nI_ge (by omega) (by omega)) (TA_jce (charAt_ok (by omega) htl) ?_))
    by_cases e32 : t.getD i 0 = 32
    · have e : trm t (i + 1) = ((trm t i).1, true) := by
        show (if _ then _ else _) = _
        rw [if_pos e32]
      exact TA_jbt (by rw [e32]; rfl) (next q _ true hq hq2 e ⟨fun _ => e32, fun _ => rfl⟩)
    · have n32 : ¬ nI (t.getD i 0) = 32 := fun z => e32 ((nI_eq (b := 32) (by omega) (by decide)).mp z)
      refine TA_jbf n32 ?_
      have hn32 : (false = true ↔ t.getD i 0 = 32) := ⟨fun z => (by cases z), fun z => absurd z e32⟩
      by_cases e2 : (trm t i).2 = true ∧ 0 < (trm t i).1.length
      · have e : trm t (i + 1) = ((trm t i).1 ++ [32] ++ [t.getD i 0], false) := by
          show (if _ then _ else _) = _
          rw [if_neg e32, if_pos e2]
        rw [if_pos e2.1] at hl
        rw [e2.1]
        refine TA_jbf (by decide) (TA_jce rfl (TA_jbf (nI_nle e2.2 (by show (trm t i).1.length < _; omega)) ?_))
        refine TA_appC (x := ((trm t i).1, q)) (ch := 32) (by decide) hq hq2 (by show (trm t i).1.length + 1 ≤ 255; omega) (by decide) (fun q' h1 h2 => ?_)
        refine TA_appC (x := ((trm t i).1 ++ [32], q')) hc h1 h2 (by rw [List.length_append]; show (trm t i).1.length + 1 + 1 ≤ 255; omega) (by decide) (fun q2 h3 h4 => ?_)
        exact next q2 _ false h3 h4 e hn32
      · have e : trm t (i + 1) = ((trm t i).1 ++ [t.getD i 0], false) := by
          show (if _ then _ else _) = _
          rw [if_neg e32, if_neg e2]
        have fin : TA (fc q 255 + 3) (fs q 255 + 262) (tx_trim_64 (tx_trim_22 f) cs t (nI i) (nI (t.getD i 0)) ((trm t i).1, q)) (fun a => a = (tv (trm t t.length).1, cs)) :=
          TA_appC (x := ((trm t i).1, q)) hc hq hq2 (by show (trm t i).1.length + 1 ≤ 255; omega) (by decide) (fun q' h1 h2 => next q' _ false h1 h2 e hn32)
        by_cases hb : (trm t i).2 = true
        · rw [hb]
          refine TA_jbf (by decide) (TA_jce rfl (TA_jbt ?_ fin))
          have : (trm t i).1.length = 0 := Nat.eq_zero_of_not_pos fun z => e2 ⟨hb, z⟩
          show nI (trm t i).1.length ≤ 0
          rw [this]
          exact Int32.le_refl _
        · rw [show (trm t i).2 = false by simpa using hb]
          exact TA_jbt rfl fin
theorem trimM {t : TT} (ht : okT t) {Q : GS → Prop} : ∀ (m i fu b : Nat) (M : GS), i + m = t.length → m < fu → b ≤ i → (0 < b ↔ (trm t i).2 = true) → Mk (trm t i).1 M → Txt 27 13 t M → (∀ M', Mk (trm t t.length).1 M' → Ch [30, 31] [16] M M' → Tr (f_mo_answerText M') Q) → Tr (mo_trim_17 fu M (nI b) (nI i)) Q := by
  have htl := ht.1
  intro m
  induction m with
  | zero =>
    intro i fu b M hi hf hb0 hb hM hT hend
    obtain ⟨f, rfl⟩ : ∃ f, fu = f + 1 := ⟨fu - 1, by omega⟩
    obtain rfl : i = t.length := by omega
    exact Tr_jbt (by rw [hT.1]; exact nI_le (Nat.le_refl _) (by omega)) (Tr_jc (hend M hM Ch_refl) (fun r hr => Tr_some hr))
  | succ m ih =>
    intro i fu b M hi hf hb0 hb hM hT hend
    obtain ⟨f, rfl⟩ : ∃ f, fu = f + 1 := ⟨fu - 1, by omega⟩
    have hc := okT_at ht i
    have hin : inb (nI i) 256 = true := inb_of (by omega) (by decide)
    have e13 : M.1 13 (nI i).toNatClampNeg = nI (t.getD i 0) := by rw [nI_clamp (by omega)]; exact hT.2 i (by omega)
    refine Tr_jbf (by rw [hT.1]; exact nI_ge (by omega) (by omega)) (Tr_jg hin ?_)
    rw [e13]
    by_cases e32 : t.getD i 0 = 32
    · have e : trm t (i + 1) = ((trm t i).1, true) := by
        show (if _ then _ else _) = _
        rw [if_pos e32]
      refine Tr_jbt (by rw [e32]; rfl) (Tr_jn (Tr_jn ?_))
      rw [nI_1, nI_1]
      exact ih (i + 1) f (b + 1) M (by omega) (by omega) (by omega) (by rw [e]; exact ⟨fun _ => rfl, fun _ => by omega⟩) (by rw [e]; exact hM) hT hend
    · refine Tr_jbf (fun z => e32 ((nI_eq (b := 32) (by omega) (by decide)).mp z)) ?_
      have fin : ∀ (M1 : GS) (L : TT), Mk L M1 → Ch [30, 31] [16] M M1 → trm t (i + 1) = (L ++ [t.getD i 0], false) → Tr (mo_trim_59 (mo_trim_17 f) M1 (nI i)) Q := fun M1 L hL hc1 e => by
        have hT1 := Txt_ch hT hc1 (by decide) (by decide) (by decide)
        refine Tr_jg hin ?_
        rw [show M1.1 13 (nI i).toNatClampNeg = nI (t.getD i 0) by rw [nI_clamp (by omega)]; exact hT1.2 i (by omega)]
        refine Tr_jc (make_m hL) (fun r ⟨r1, r2⟩ => Tr_jn ?_)
        rw [nI_1]
        have r3 := Ch_trans hc1 r2 (fun _ z => z) (fun _ z => z)
        exact ih (i + 1) f 0 r (by omega) (by omega) (by omega) (by rw [e]; exact ⟨fun z => (by omega), fun z => (by cases z)⟩) (by rw [e]; exact r1) (Txt_ch hT r3 (by decide) (by decide) (by decide)) (fun M' m1 m2 => hend M' m1 (Ch_trans r3 m2 (fun _ z => z) (fun _ z => z)))
      by_cases hb1 : 0 < b
      · have hb2 := hb.mp hb1
        refine Tr_jbf (nI_nle hb1 (by omega)) ?_
        by_cases hL0 : 0 < (trm t i).1.length
        · have e : trm t (i + 1) = ((trm t i).1 ++ [32] ++ [t.getD i 0], false) := by
            show (if _ then _ else _) = _
            rw [if_neg e32, if_pos ⟨hb2, hL0⟩]
          refine Tr_jbf (fun z => ?_) (Tr_jc (make_m (c := 32) hM) (fun r ⟨r1, r2⟩ => fin r _ r1 r2 e))
          have hl := (trm_ok ht i).1
          rcases hM with ⟨x, y, w⟩ | ⟨x, y, w⟩
          · rw [w.1] at z
            exact nI_nle hL0 (by omega) z
          · omega
        · have e : trm t (i + 1) = ((trm t i).1 ++ [t.getD i 0], false) := by
            show (if _ then _ else _) = _
            rw [if_neg e32, if_neg (fun z => hL0 z.2)]
          refine Tr_jbt ?_ (fin M _ hM Ch_refl e)
          rcases hM with ⟨x, y, w⟩ | ⟨x, y, w⟩
          · rw [w.1, show (trm t i).1.length = 0 by omega]
            exact Int32.le_refl _
          · omega
      · have e : trm t (i + 1) = ((trm t i).1 ++ [t.getD i 0], false) := by
          show (if _ then _ else _) = _
          rw [if_neg e32, if_neg (fun z => hb1 (hb.mpr z.1))]
        refine Tr_jbt ?_ (fin M _ hM Ch_refl e)
        rw [show b = 0 by omega]
        exact Int32.le_refl _
/-- TRIM -/
theorem x_trim {n u h : Nat} {cs0 cs : CS} {ms0 ms : GS} (I : CI n u h cs0 ms0 cs ms) (hn : 0 < n) (hM : Mk [] ms) : Sm 900 13000 (f_tx_trim cs) (f_mo_trim ms) (XE n u h cs0 ms0) := by
  refine Sm_jj (k_text I (i := 0) hn) (fun ⟨t, ca⟩ m2 ⟨b1, b0, b2, b3, b5⟩ => ?_)
  dsimp only at *
  have htl := b2.1
  have hM2 := Mk_ch hM b5 (by decide) (by decide) (by decide)
  refine Sm_fin b1 (V := tv (trm t t.length).1) ?_ (fun he => Tr_jbf he (Tr_some Ch_refl)) (fun hf he => Tr_jbt he ?_)
  · exact TA_mono (TA_ja (k := 2) (n := 20) (trimC b2 t.length 0 16 FU (by omega) (FU_lt (by omega)) (by decide) (by decide))) (by decide) (by decide) (fun _ z => z)
  · refine trimM b2 t.length 0 FU 0 m2 (by omega) (FU_lt (by omega)) (Nat.le_refl _) ⟨fun z => (by omega), fun z => (by cases z)⟩ hM2 b3 (fun M' m1 m3 => ?_)
    have := (trm_ok b2 t.length)
    exact tv_m (CI_ref b1 m3 (by decide) (by decide) (by decide)) m1 this.2 (by omega)
