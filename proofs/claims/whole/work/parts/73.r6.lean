/-! ROMAN -/
def R4 (d one five ten : Nat) : TT := (if d = 9 ∨ d = 4 then [one] else []) ++ ((if d = 9 then [ten] else []) ++ ((if 3 < d ∧ d < 9 then [five] else []) ++ (if d % 5 < 4 then rp [one] (d % 5) else [])))
theorem R4_ok {d one five ten : Nat} (hd : d ≤ 9) (h1 : one < 256) (h5 : five < 256) (h10 : ten < 256) : (R4 d one five ten).length ≤ 8 ∧ ∀ c ∈ R4 d one five ten, c < 256 := by
  have hr : ∀ k, ∀ c ∈ rp [one] k, c < 256 := rp_ok ⟨by simp, fun c hc => by
    have : c = one := by simpa using hc
    omega⟩
  have h0 : ∀ c ∈ ([] : TT), c < 256 := fun c hc => by cases hc
  have hs : ∀ x, x < 256 → ∀ c ∈ [x], c < 256 := fun x hx c hc => by
    have : c = x := by simpa using hc
    omega
  refine ⟨?_, ?_⟩
  · unfold R4
    have hl := rp_len (t := [one]) (d % 5)
    have l1 : (if d = 9 ∨ d = 4 then [one] else []).length ≤ 1 := by split <;> simp
    have l2 : (if d = 9 then [ten] else []).length ≤ 1 := by split <;> simp
    have l3 : (if 3 < d ∧ d < 9 then [five] else []).length ≤ 1 := by split <;> simp
    have l4 : (if d % 5 < 4 then rp [one] (d % 5) else []).length ≤ 4 := by
      split
      · rw [hl]; show d % 5 * 1 ≤ 4; omega
      · exact Nat.zero_le _
    rw [List.length_append, List.length_append, List.length_append]
    omega
  · unfold R4
    refine okT_app ?_ (okT_app ?_ (okT_app ?_ ?_))
    · split
      · exact hs _ h1
      · exact h0
    · split
      · exact hs _ h10
      · exact h0
    · split
      · exact hs _ h5
      · exact h0
    · split
      · exact hr _
      · exact h0
theorem rp_front {t : TT} : ∀ q, rp t (q + 1) = t ++ rp t q
  | 0 => by
    show [] ++ t = t ++ []
    simp
  | q + 1 => by
    show rp t (q + 1) ++ t = t ++ (rp t q ++ t)
    rw [rp_front q, List.append_assoc]
theorem rp_one {x : Nat} : ∀ k, rp [x] (k + 1) = [x] ++ rp [x] k
  | 0 => rfl
  | k + 1 => by
    show rp [x] (k + 1) ++ [x] = [x] ++ (rp [x] k ++ [x])
    rw [rp_one k, List.append_assoc]
theorem roman49 {one : Nat} : ∀ (k fu : Nat) (L : TT) (m : GS), k ≤ 4 → k < fu → Mk L m → Tr (mo_roman4_49 fu m (nI one) (nI k)) (fun r => Mk (L ++ (if k < 4 then rp [one] k else [])) r ∧ Ch [30, 31] [16] m r) := by
  intro k
  induction k with
  | zero =>
    intro fu L m hk hf hL
    obtain ⟨g, rfl⟩ : ∃ g, fu = g + 1 := ⟨fu - 1, by omega⟩
    refine Tr_jbt (by exact Int32.le_refl _) (Tr_some ⟨?_, Ch_refl⟩)
    show Mk (L ++ []) m
    rw [List.append_nil]; exact hL
  | succ k ih =>
    intro fu L m hk hf hL
    obtain ⟨g, rfl⟩ : ∃ g, fu = g + 1 := ⟨fu - 1, by omega⟩
    refine Tr_jbf (nI_nle (by omega) (by omega)) ?_
    by_cases h4 : 4 ≤ k + 1
    · rw [if_neg (by omega), List.append_nil]
      exact Tr_jbt (nI_le (a := 4) h4 (by omega)) (Tr_some ⟨hL, Ch_refl⟩)
    · refine Tr_jbf (nI_ge (b := 4) (by omega) (by decide)) (Tr_jc (make_m hL) (fun r ⟨r1, r2⟩ => Tr_jn ?_))
      have e : nI (k + 1) + (-1) = nI k := (Int32.sub_eq_add_neg _ _).symm.trans (nI_pred k)
      rw [e]
      refine Tr_mono (ih g (L ++ [one]) r (by omega) (by omega) r1) (fun s ⟨s1, s2⟩ => ⟨?_, Ch_trans r2 s2 (fun _ z => z) (fun _ z => z)⟩)
      rw [if_pos (by omega)] at s1 ⊢
      rw [rp_one, ← List.append_assoc]
      exact s1
theorem roman4_m {d one five ten : Nat} (hd : d ≤ 9) {L : TT} {m : GS} (hL : Mk L m) : Tr (f_mo_roman4 m (nI d) (nI one) (nI five) (nI ten)) (fun r => Mk (L ++ R4 d one five ten) r ∧ Ch [30, 31] [16] m r) := by
  have s44 : ∀ (M : GS) (L' : TT), Mk L' M → Ch [30, 31] [16] m M → Tr (mo_roman4_44 M (nI d) (nI one)) (fun r => Mk (L' ++ (if d % 5 < 4 then rp [one] (d % 5) else [])) r ∧ Ch [30, 31] [16] m r) := fun M L' h1 h2 => by
    refine Tr_jn ?_
    have e : nI d - nI d / 5 * 5 = nI (d % 5) := nI_mod (a := d) (b := 5) (by omega) (by decide)
    rw [e]
    exact Tr_mono (roman49 (d % 5) FU L' M (by omega) (FU_lt (by omega)) h1) (fun r ⟨r1, r2⟩ => ⟨r1, Ch_trans h2 r2 (fun _ z => z) (fun _ z => z)⟩)
  have s28 : ∀ (M : GS) (L' : TT), Mk L' M → Ch [30, 31] [16] m M → Tr (mo_roman4_28 M (nI d) (nI one) (nI five)) (fun r => Mk (L' ++ ((if 3 < d ∧ d < 9 then [five] else []) ++ (if d % 5 < 4 then rp [one] (d % 5) else []))) r ∧ Ch [30, 31] [16] m r) := fun M L' h1 h2 => by
    by_cases h3 : d ≤ 3
    · rw [if_neg (by omega), List.nil_append]
      exact Tr_jbt (nI_le (b := 3) h3 (by decide)) (s44 M L' h1 h2)
    · refine Tr_jbf (nI_ge (a := 3) (by omega) (by omega)) ?_
      by_cases h9 : 9 ≤ d
      · rw [if_neg (by omega), List.nil_append]
        exact Tr_jbt (nI_le (a := 9) h9 (by omega)) (s44 M L' h1 h2)
      · rw [if_pos (by omega), ← List.append_assoc]
        exact Tr_jbf (nI_ge (b := 9) (by omega) (by decide)) (Tr_jc (make_m h1) (fun r ⟨r1, r2⟩ => s44 r (L' ++ [five]) r1 (Ch_trans h2 r2 (fun _ z => z) (fun _ z => z))))
  have s16 : ∀ (M : GS) (L' : TT), Mk L' M → Ch [30, 31] [16] m M → Tr (mo_roman4_16 M (nI d) (nI one) (nI five) (nI ten)) (fun r => Mk (L' ++ ((if d = 9 then [ten] else []) ++ ((if 3 < d ∧ d < 9 then [five] else []) ++ (if d % 5 < 4 then rp [one] (d % 5) else [])))) r ∧ Ch [30, 31] [16] m r) := fun M L' h1 h2 => by
    by_cases h9 : d = 9
    · rw [if_pos h9, ← List.append_assoc]
      exact Tr_jbt (by rw [h9]; rfl) (Tr_jc (make_m h1) (fun r ⟨r1, r2⟩ => s28 r (L' ++ [ten]) r1 (Ch_trans h2 r2 (fun _ z => z) (fun _ z => z))))
    · rw [if_neg h9, List.nil_append]
      exact Tr_jbf (fun z => h9 ((nI_eq (b := 9) (by omega) (by decide)).mp z)) (s28 M L' h1 h2)
  unfold R4
  have s11 : (d = 9 ∨ d = 4) → Tr (mo_roman4_11 m (nI d) (nI one) (nI five) (nI ten)) (fun r => Mk (L ++ ((if d = 9 ∨ d = 4 then [one] else []) ++ ((if d = 9 then [ten] else []) ++ ((if 3 < d ∧ d < 9 then [five] else []) ++ (if d % 5 < 4 then rp [one] (d % 5) else []))))) r ∧ Ch [30, 31] [16] m r) := fun h => by
    rw [if_pos h, ← List.append_assoc]
    exact Tr_jc (make_m hL) (fun r ⟨r1, r2⟩ => s16 r (L ++ [one]) r1 r2)
  by_cases h9 : d = 9
  · exact Tr_jbt (by rw [h9]; rfl) (s11 (Or.inl h9))
  · refine Tr_jbf (fun z => h9 ((nI_eq (b := 9) (by omega) (by decide)).mp z)) ?_
    by_cases h4 : d = 4
    · exact Tr_jbt (by rw [h4]; rfl) (s11 (Or.inr h4))
    · rw [if_neg (fun z => z.elim h9 h4), List.nil_append]
      exact Tr_jbf (fun z => h4 ((nI_eq (b := 4) (by omega) (by decide)).mp z)) (s16 m L hL Ch_refl)
/-- the class's table: values and letters -/
def RV (j : Nat) : Nat := [1000, 900, 500, 400, 100, 90, 50, 40, 10, 9, 5, 4, 1].getD j 0
def RL (j : Nat) : TT := if TX12.getD (2 * j + 1) 0 = 32 then [TX12.getD (2 * j) 0] else [TX12.getD (2 * j) 0, TX12.getD (2 * j + 1) 0]
theorem RV_ok : ∀ j, j < 13 → ZT11.getD j 0 = nI (RV j) ∧ 1 ≤ RV j ∧ RV j ≤ 1000 ∧ TX12.getD (2 * j) 0 < 256 ∧ TX12.getD (2 * j + 1) 0 < 256 := by decide
theorem roman55 {cs : CS} {K : CS → Int32 → Int32 → BT → Option ((VV × CS) × Nat × Nat)} {j : Nat} (hj : j < 13) {Q : (VV × CS) → Prop} : ∀ (q low p fu : Nat) (L : TT), low < RV j → q ≤ 9 → q < fu → 16 ≤ p → p ≤ 2 * 255 + 16 → L.length + 2 * q ≤ 255 → (∀ p', 16 ≤ p' → p' ≤ 2 * 255 + 16 → TA (fc p' 255 + 3) (fs p' 255 + 262) (K cs (nI low) (nI (j + 1)) (L ++ rp (RL j) q, p')) Q) → TA (fc p 255 + 3) (fs p 255 + 262) (tx_roman_55 K fu cs (nI (q * RV j + low)) (nI j) (nI (TX12.getD (2 * j + 1) 0)) (L, p)) Q := by
  obtain ⟨v1, v2, v3, v4, v5⟩ := RV_ok j hj
  have hin : inb (nI j) 13 = true := inb_of hj (by decide)
  have ecl : (nI j).toNatClampNeg = j := nI_clamp (by omega)
  have e12 : TX12.length = 26 := rfl
  intro q
  induction q with
  | zero =>
    intro low p fu L hl hq hf hp hp2 hL hK
    obtain ⟨g, rfl⟩ : ∃ g, fu = g + 1 := ⟨fu - 1, by omega⟩
    rw [Nat.zero_mul, Nat.zero_add]
    refine TA_jg hin (TA_jbt ?_ (TA_jn ?_))
    · rw [ecl, v1]; exact nI_lt hl (by omega)
    · rw [nI_1]
      have := hK p hp hp2
      rw [show rp (RL j) 0 = [] from rfl, List.append_nil] at this
      exact this
  | succ q ih =>
    intro low p fu L hl hq hf hp hp2 hL hK
    obtain ⟨g, rfl⟩ : ∃ g, fu = g + 1 := ⟨fu - 1, by omega⟩
    have hm : (q + 1) * RV j = q * RV j + RV j := by rw [Nat.add_mul, Nat.one_mul]
    have hqv : q * RV j ≤ 9 * 1000 := Nat.mul_le_mul (by omega) v3
    have e2j : 2 * nI j = nI (2 * j) := by
      show nI 2 * nI j = _
      rw [nI_mul]
    refine TA_jg hin (TA_jbf ?_ (TA_jce (by rw [e2j]; exact charAt_ok (by rw [e12]; omega) (by decide)) ?_))
    · rw [ecl, v1]; exact nI_nlt (by omega) (by omega)
    -- one more
    have sub : ∀ (p' : Nat) (L' : TT), L' = L ++ RL j → 16 ≤ p' → p' ≤ 2 * 255 + 16 → TA (fc p' 255 + 3) (fs p' 255 + 262) (tx_roman_91 K (tx_roman_55 K g) cs (nI ((q + 1) * RV j + low)) (nI j) (nI (TX12.getD (2 * j + 1) 0)) (L', p')) Q := fun p' L' eL h1 h2 => by
      refine TA_jg hin (TA_jn ?_)
      rw [ecl, v1, nI_sub (by omega), show (q + 1) * RV j + low - RV j = q * RV j + low by omega]
      have hRl : (RL j).length ≤ 2 := by unfold RL; split <;> simp
      refine ih low p' g L' hl (by omega) (by omega) h1 h2 (by rw [eL, List.length_append]; omega) (fun p2 k1 k2 => ?_)
      have := hK p2 k1 k2
      have er : rp (RL j) (q + 1) = RL j ++ rp (RL j) q := rp_front q
      rw [er, ← List.append_assoc, ← eL] at this
      exact this
    refine TA_appC (x := (L, p)) v4 hp hp2 (by show L.length + 1 ≤ 255; omega) (by decide) (fun p1 h1 h2 => ?_)
    by_cases e32 : TX12.getD (2 * j + 1) 0 = 32
    · refine TA_jbt (by rw [e32]; rfl) (sub p1 _ ?_ h1 h2)
      unfold RL
      rw [if_pos e32]
    · refine TA_jbf (fun z => e32 ((nI_eq (b := 32) (by omega) (by decide)).mp z)) ?_
      refine TA_appC (x := (L ++ [TX12.getD (2 * j) 0], p1)) v5 h1 h2 (by rw [List.length_append]; show L.length + 1 + 1 ≤ 255; omega) (by decide) (fun p2 h3 h4 => ?_)
      refine sub p2 _ ?_ h3 h4
      unfold RL
      rw [if_neg e32, List.append_assoc]
      rfl
/-- what the class's table makes of a rest from line j on -/
def RG : Nat → Nat → Nat → TT
  | 0, _, _ => []
  | m + 1, j, rest => rp (RL j) (rest / RV j) ++ RG m (j + 1) (rest % RV j)
theorem roman35 {cs : CS} : ∀ (m j rest p fu : Nat) (L : TT), j + m = 13 → m < fu → 16 ≤ p → p ≤ 2 * 255 + 16 → L.length ≤ 18 * j → rest < (if j = 0 then 4000 else RV (j - 1)) → TA (fc p 255 + 3) (fs p 255 + 262) (tx_roman_35 fu cs (nI rest) (nI j) (L, p)) (fun r => r = (tv (L ++ RG m j rest), cs)) := by
  intro m
  induction m with
  | zero =>
    intro j rest p fu L hj hf hp hp2 hL hr
    obtain ⟨g, rfl⟩ : ∃ g, fu = g + 1 := ⟨fu - 1, by omega⟩
    refine TA_jbt (nI_le (a := 13) (by omega) (by omega)) ?_
    rw [show RG 0 j rest = [] from rfl, List.append_nil]
    exact tv_end (by omega) (by omega) (by omega)
  | succ m ih =>
    intro j rest p fu L hj hf hp hp2 hL hr
    obtain ⟨g, rfl⟩ : ∃ g, fu = g + 1 := ⟨fu - 1, by omega⟩
    obtain ⟨v1, v2, v3, v4, v5⟩ := RV_ok j (by omega)
    have e12 : TX12.length = 26 := rfl
    have hq : rest / RV j ≤ 9 := by
      have key : ∀ j, j < 13 → (if j = 0 then 4000 else RV (j - 1)) ≤ 9 * RV j + RV j := by decide
      have := key j (by omega)
      have h2 : rest / RV j < 10 := (Nat.div_lt_iff_lt_mul v2).mpr (by omega)
      omega
    have e2j : 2 * nI j + 1 = nI (2 * j + 1) := by
      show nI 2 * nI j + nI 1 = _
      rw [nI_mul, nI_add]
    refine TA_jbf (nI_ge (b := 13) (by omega) (by decide)) (TA_jce (by rw [e2j]; exact charAt_ok (by rw [e12]; omega) (by decide)) ?_)
    have er : rest = rest / RV j * RV j + rest % RV j := by rw [Nat.mul_comm]; exact (Nat.div_add_mod rest (RV j)).symm
    have hml : rest % RV j < RV j := Nat.mod_lt _ v2
    have := roman55 (cs := cs) (K := tx_roman_35 g) (j := j) (by omega) (Q := fun r => r = (tv (L ++ RG (m + 1) j rest), cs)) (rest / RV j) (rest % RV j) p FU L hml hq (FU_lt (by omega)) hp hp2 (by omega) (fun p' k1 k2 => ?_)
    · rw [← er] at this
      exact this
    · have hRl : (RL j).length ≤ 2 := by unfold RL; split <;> simp
      have hlen : (rp (RL j) (rest / RV j)).length ≤ 18 := by
        rw [rp_len]
        exact Nat.le_trans (Nat.mul_le_mul hq hRl) (by decide)
      have h2 := ih (j + 1) (rest % RV j) p' g (L ++ rp (RL j) (rest / RV j)) (by omega) (by omega) k1 k2 (by rw [List.length_append]; omega) (by rw [if_neg (by omega), Nat.add_sub_cancel]; exact hml)
      rw [List.append_assoc] at h2
      exact h2
theorem R_digit : ∀ d, d < 10 → (rp [67, 77] (d / 9) ++ (rp [68] (d % 9 / 5) ++ (rp [67, 68] (d % 9 % 5 / 4) ++ rp [67] (d % 9 % 5 % 4))) = R4 d 67 68 77) ∧ (rp [88, 67] (d / 9) ++ (rp [76] (d % 9 / 5) ++ (rp [88, 76] (d % 9 % 5 / 4) ++ rp [88] (d % 9 % 5 % 4))) = R4 d 88 76 67) ∧ (rp [73, 88] (d / 9) ++ (rp [86] (d % 9 / 5) ++ (rp [73, 86] (d % 9 % 5 / 4) ++ rp [73] (d % 9 % 5 % 4))) = R4 d 73 86 88) := by decide
theorem R_thou : ∀ d, d < 4 → rp [77] d = R4 d 77 77 77 := by decide
theorem RG_eq {n : Nat} (hn : n < 4000) : RG 13 0 n = R4 (n / 1000) 77 77 77 ++ (R4 (n / 100 % 10) 67 68 77 ++ (R4 (n / 10 % 10) 88 76 67 ++ R4 (n % 10) 73 86 88)) := by
  have h1 := R_thou (n / 1000) (by omega)
  have h2 := (R_digit (n / 100 % 10) (by omega)).1
  have h3 := (R_digit (n / 10 % 10) (by omega)).2.1
  have h4 := (R_digit (n % 10) (by omega)).2.2
  rw [← h1, ← h2, ← h3, ← h4]
  show rp [77] (n / 1000) ++ (rp [67, 77] (n % 1000 / 900) ++ (rp [68] (n % 1000 % 900 / 500) ++ (rp [67, 68] (n % 1000 % 900 % 500 / 400) ++ (rp [67] (n % 1000 % 900 % 500 % 400 / 100) ++ (rp [88, 67] (n % 1000 % 900 % 500 % 400 % 100 / 90) ++ (rp [76] (n % 1000 % 900 % 500 % 400 % 100 % 90 / 50) ++ (rp [88, 76] (n % 1000 % 900 % 500 % 400 % 100 % 90 % 50 / 40) ++ (rp [88] (n % 1000 % 900 % 500 % 400 % 100 % 90 % 50 % 40 / 10) ++ (rp [73, 88] (n % 1000 % 900 % 500 % 400 % 100 % 90 % 50 % 40 % 10 / 9) ++ (rp [86] (n % 1000 % 900 % 500 % 400 % 100 % 90 % 50 % 40 % 10 % 9 / 5) ++ (rp [73, 86] (n % 1000 % 900 % 500 % 400 % 100 % 90 % 50 % 40 % 10 % 9 % 5 / 4) ++ (rp [73] (n % 1000 % 900 % 500 % 400 % 100 % 90 % 50 % 40 % 10 % 9 % 5 % 4 / 1) ++ [])))))))))))) = _
  have a0 : n % 1000 % 900 % 500 % 400 % 100 = n % 100 := by omega
  have a1 : n % 1000 / 900 = n / 100 % 10 / 9 := by omega
  have a2 : n % 1000 % 900 / 500 = n / 100 % 10 % 9 / 5 := by omega
  have a3 : n % 1000 % 900 % 500 / 400 = n / 100 % 10 % 9 % 5 / 4 := by omega
  have a4 : n % 1000 % 900 % 500 % 400 / 100 = n / 100 % 10 % 9 % 5 % 4 := by omega
  rw [a1, a2, a3, a4, a0]
  have b0 : n % 100 % 90 % 50 % 40 % 10 = n % 10 := by omega
  have b1 : n % 100 / 90 = n / 10 % 10 / 9 := by omega
  have b2 : n % 100 % 90 / 50 = n / 10 % 10 % 9 / 5 := by omega
  have b3 : n % 100 % 90 % 50 / 40 = n / 10 % 10 % 9 % 5 / 4 := by omega
  have b4 : n % 100 % 90 % 50 % 40 / 10 = n / 10 % 10 % 9 % 5 % 4 := by omega
  rw [b1, b2, b3, b4, b0, Nat.div_one, List.append_nil]
  simp only [List.append_assoc]
theorem x_roman {n u h : Nat} {cs0 cs : CS} {ms0 ms : GS} (I : CI n u h cs0 ms0 cs ms) (hn : 0 < n) (hM : Mk [] ms) : Sm 900 13000 (f_tx_roman cs) (f_mo_roman0 ms) (XE n u h cs0 ms0) := by
  refine Sm_j0 (k_whole I (i := 0) hn) (fun ⟨x, ca⟩ ⟨y, m2⟩ ⟨b1, b0, b2, b3, b4, b5⟩ => ?_)
  dsimp only at *
  have hM2 := Mk_ch hM b5 (by decide) (by decide) (by decide)
  have Y0 : ¬ m2.1 0 22 = 0 → Tr (jb (y < 0) (mo_roman0_17 m2 y) (jb (y ≤ 3999) (mo_roman0_22 m2 y) (mo_roman0_17 m2 y))) (fun m => Ch SF0 SC m2 m) := fun he => by
    have R : Tr (mo_roman0_22 m2 y) (fun m => Ch SF0 SC m2 m) := Tr_jbf he (Tr_some Ch_refl)
    have R2 : Tr (mo_roman0_17 m2 y) (fun m => Ch SF0 SC m2 m) := Tr_jce (fail_skip he) R
    exact Tr_jb (fun _ => R2) (fun _ => Tr_jb (fun _ => R) (fun _ => R2))
  have E0 : Tr (mo_roman0_17 m2 y) (fun m => XE n u h cs0 ms0 (er 3, ca) m) := Tr_jc (XE_err b1 (e := 3) (by decide) (by decide)) (fun m ⟨k1, k2, k3⟩ => Tr_jbf k3 (Tr_some k1))
  by_cases hs : x < 0
  · exact Sm_fin b1 (V := er 3) (TA_jbt hs (TA_vl rfl)) Y0 (fun hf he => Tr_jbt (by rw [b4 hf]; exact hs) E0)
  by_cases h3 : x ≤ 3999
  · obtain ⟨k, k1, rfl⟩ := iB_low b2 hs
    have hk : k ≤ 3999 := (nI_leI (a := k) (b := 3999) (by omega) (by decide)).mp h3
    refine Sm_fin b1 (V := tv (RG 13 0 k)) (TA_jbf hs (TA_jbt h3 ?_)) Y0 (fun hf he => ?_)
    · have := roman35 (cs := ca) 13 0 k 16 FU [] rfl (FU_lt (by decide)) (by decide) (by decide) (by decide) (by rw [if_pos rfl]; omega)
      rw [List.nil_append] at this
      exact TA_mono (TA_ja (k := 2) (n := 20) this) (by decide) (by decide) (fun _ z => z)
    · rw [b4 hf]
      refine Tr_jbf hs (Tr_jbt h3 (Tr_jbt he ?_))
      have d1 : nI k / 1000 = nI (k / 1000) := nI_div (a := k) (b := 1000) (by omega) (by decide)
      have d2 : nI k / 100 - nI k / 100 / 10 * 10 = nI (k / 100 % 10) := by
        have e1 : nI k / 100 = nI (k / 100) := nI_div (a := k) (b := 100) (by omega) (by decide)
        rw [e1]
        exact nI_mod (a := k / 100) (b := 10) (by omega) (by decide)
      have d3 : nI k / 10 - nI k / 10 / 10 * 10 = nI (k / 10 % 10) := by
        have e1 : nI k / 10 = nI (k / 10) := nI_div (a := k) (b := 10) (by omega) (by decide)
        rw [e1]
        exact nI_mod (a := k / 10) (b := 10) (by omega) (by decide)
      have d4 : nI k - nI k / 10 * 10 = nI (k % 10) := nI_mod (a := k) (b := 10) (by omega) (by decide)
      rw [d1, d2, d3, d4]
      refine Tr_jc (roman4_m (one := 77) (five := 77) (ten := 77) (by omega) hM2) (fun r1 ⟨p1, q1⟩ => ?_)
      refine Tr_jc (roman4_m (one := 67) (five := 68) (ten := 77) (by omega) p1) (fun r2 ⟨p2, q2⟩ => ?_)
      refine Tr_jc (roman4_m (one := 88) (five := 76) (ten := 67) (by omega) p2) (fun r3 ⟨p3, q3⟩ => ?_)
      refine Tr_jc (roman4_m (one := 73) (five := 86) (ten := 88) (by omega) p3) (fun r4 ⟨p4, q4⟩ => ?_)
      have I4 := CI_ref (CI_ref (CI_ref (CI_ref b1 q1 (by decide) (by decide) (by decide)) q2 (by decide) (by decide) (by decide)) q3 (by decide) (by decide) (by decide)) q4 (by decide) (by decide) (by decide)
      have eL : [] ++ R4 (k / 1000) 77 77 77 ++ R4 (k / 100 % 10) 67 68 77 ++ R4 (k / 10 % 10) 88 76 67 ++ R4 (k % 10) 73 86 88 = RG 13 0 k := by
        rw [RG_eq (by omega)]
        simp only [List.append_assoc, List.nil_append]
      rw [eL] at p4
      have w1 := R4_ok (d := k / 1000) (one := 77) (five := 77) (ten := 77) (by omega) (by decide) (by decide) (by decide)
      have w2 := R4_ok (d := k / 100 % 10) (one := 67) (five := 68) (ten := 77) (by omega) (by decide) (by decide) (by decide)
      have w3 := R4_ok (d := k / 10 % 10) (one := 88) (five := 76) (ten := 67) (by omega) (by decide) (by decide) (by decide)
      have w4 := R4_ok (d := k % 10) (one := 73) (five := 86) (ten := 88) (by omega) (by decide) (by decide) (by decide)
      refine Tr_jc (tv_m I4 p4 ?_ ?_) (fun m hm => Tr_some hm)
      · rw [← eL]
        exact okT_app (okT_app (okT_app (okT_app (fun c hc => by cases hc) w1.2) w2.2) w3.2) w4.2
      · rw [← eL, List.length_append, List.length_append, List.length_append, List.length_append]
        have : ([] : TT).length = 0 := rfl
        omega
  · exact Sm_fin b1 (V := er 3) (TA_jbf hs (TA_jbf h3 (TA_vl rfl))) Y0 (fun hf he => Tr_jbf (by rw [b4 hf]; exact hs) (Tr_jbf (by rw [b4 hf]; exact h3) E0))
/-! DECIMAL -/
def dgv (c : Nat) : Nat := if 48 ≤ c ∧ c ≤ 57 then c - 48 else if isL c = true then grC c - 65 + 10 else 99
/-- the number of m digits from place i on, none if one is wrong or it is too great -/
def dec (t : TT) (n : Nat) : Nat → Nat → Nat → Option Nat
  | 0, _, v => some v
  | m + 1, i, v => if n ≤ dgv (t.getD i 0) then none else if 9007199254740991 < n * v + dgv (t.getD i 0) then none else dec t n m (i + 1) (n * v + dgv (t.getD i 0))
theorem dgv_lt (c : Nat) : dgv c ≤ 99 := by
  unfold dgv grC isL
  by_cases h1 : 48 ≤ c ∧ c ≤ 57
  · rw [if_pos h1]; omega
  · rw [if_neg h1]
    split
    · rename_i h
      simp only [Bool.or_eq_true, decide_eq_true_eq] at h
      split <;> omega
    · exact Nat.le_refl _
theorem digitOf_c {c : Nat} (h : c < 256) : f_tx_digitOf (nI c) = some (if dgv c = 99 then -1 else nI (dgv c)) := by
  have e17 : ¬ (48 ≤ c ∧ c ≤ 57) → tx_digitOf_17 (nI c) = some (if dgv c = 99 then -1 else nI (dgv c)) := fun hn => by
    refine e_c (isLetter_c h) ?_
    by_cases hl : isL c = true
    · have hg := grC_L.mpr hl
      have e : dgv c = grC c - 65 + 10 := by unfold dgv; rw [if_neg hn, if_pos hl]
      rw [hl, e, if_neg (by omega)]
      refine e_bf (by decide) (e_c (great_c h) ?_)
      show some (nI (grC c) - nI 65 + nI 10) = _
      rw [nI_sub hg.1, nI_add]
    · have e : dgv c = 99 := by unfold dgv; rw [if_neg hn, if_neg hl]
      rw [show isL c = false by simpa using hl, e, if_pos rfl]
      exact e_bt rfl rfl
  by_cases h1 : c < 48
  · exact e_bt (nI_lt (b := 48) h1 (by decide)) (e17 (by omega))
  · by_cases h2 : 57 < c
    · exact e_bf (nI_nlt (b := 48) (by omega) (by omega)) (e_bt (nI_lt (a := 57) h2 (by omega)) (e17 (by omega)))
    · have e : dgv c = c - 48 := by unfold dgv; rw [if_pos (by omega)]
      rw [e, if_neg (by omega)]
      refine e_bf (nI_nlt (b := 48) (by omega) (by omega)) (e_bf (nI_nlt (a := 57) (by omega) (by decide)) ?_)
      show some (nI c - nI 48) = _
      rw [nI_sub (by omega)]
theorem decC {cs : CS} {t : TT} (ht : okT t) {n : Nat} (hn : 2 ≤ n) (hn2 : n ≤ 36) : ∀ (m i v fu : Nat), i + m = t.length → m < fu → v ≤ 9007199254740991 → TA 1 3 (tx_decimal_40 fu cs t (nI n) (lN v) (nI i)) (fun r => r = ((match dec t n m i v with | some w => (1, FP.l2d (lN w), []) | none => er 6), cs)) := by
  have htl := ht.1
  intro m
  induction m with
  | zero =>
    intro i v fu hi hf hv
    obtain ⟨f, rfl⟩ : ∃ f, fu = f + 1 := ⟨fu - 1, by omega⟩
    exact TA_jce rfl (TA_jbt (nI_le (by omega) (by omega)) (TA_vl rfl))
  | succ m ih =>
    intro i v fu hi hf hv
    obtain ⟨f, rfl⟩ : ∃ f, fu = f + 1 := ⟨fu - 1, by omega⟩
    have hc := okT_at ht i
    have hd := dgv_lt (t.getD i 0)
    refine TA_jce rfl (TA_jbf (nI_ge (by omega) (by omega)) (TA_jce (charAt_ok (by omega) htl) (TA_jce (digitOf_c hc) (TA_jn ?_))))
    have hvn : n * v ≤ 36 * 9007199254740991 := Nat.mul_le_mul hn2 hv
    by_cases h99 : dgv (t.getD i 0) = 99
    · have e : dec t n (m + 1) i v = none := by
        show (if _ then _ else _) = _
        rw [if_pos (by omega)]
      rw [e, if_pos h99]
      exact TA_jbt rfl (TA_vl rfl)
    · rw [if_neg h99]
      refine TA_jbf (fun z => ?_) ?_
      · have := nI_pos (show dgv (t.getD i 0) < 2 ^ 31 by omega)
        rw [z] at this
        exact this (by decide)
      by_cases hn3 : n ≤ dgv (t.getD i 0)
      · have e : dec t n (m + 1) i v = none := by
          show (if _ then _ else _) = _
          rw [if_pos hn3]
        rw [e]
        exact TA_jbt (nI_le hn3 (by omega)) (TA_vl rfl)
      · refine TA_jbf (nI_ge (by omega) (by omega)) ?_
        have e8 : lN v * (nI n).toInt64 + (nI (dgv (t.getD i 0))).toInt64 = lN (n * v + dgv (t.getD i 0)) := by
          rw [nI_l (by omega), nI_l (by omega), lN_mul, lN_add, Nat.mul_comm]
        rw [e8]
        by_cases hbig : 9007199254740991 < n * v + dgv (t.getD i 0)
        · have e : dec t n (m + 1) i v = none := by
            show (if _ then _ else _) = _
            rw [if_neg hn3, if_pos hbig]
          rw [e]
          exact TA_jbf (fun z => by have := (lc_le (b := 9007199254740991) (by omega) (by decide)).mp z; omega) (TA_vl rfl)
        · have e : dec t n (m + 1) i v = dec t n m (i + 1) (n * v + dgv (t.getD i 0)) := by
            show (if _ then _ else _) = _
            rw [if_neg hn3, if_neg hbig]
          rw [e]
          refine TA_jbt ((lc_le (b := 9007199254740991) (by omega) (by decide)).mpr (by omega)) (TA_jn ?_)
          rw [nI_1]
          exact ih (i + 1) _ f (by omega) (by omega) (by omega)
/-- the reference's loop, once it has failed, answers -/
theorem decE {m : GS} (he : ¬ m.1 0 22 = 0) {n : Int32} {v : Int64} {i : Int32} {fu : Nat} : Tr (mo_decimal_37 (fu + 1) m n v i) (fun r => Ch [32, 34] [] m r) := by
  have R : Tr (mo_decimal_151 m v) (fun r => Ch [32, 34] [] m r) := Tr_jc answerAny_m (fun r hr => Tr_some hr)
  exact Tr_jb (fun _ => R) (fun _ => Tr_jbf he R)
theorem decM {n0 u h : Nat} {cs0 ca : CS} {ms0 M : GS} (I : CI n0 u h cs0 ms0 ca M) {t : TT} (ht : okT t) (hB : Txt 28 14 t M) (he : M.1 0 22 = 0) {n : Nat} (hn : 2 ≤ n) (hn2 : n ≤ 36) : ∀ (m i v fu : Nat), i + m = t.length → m + 1 < fu → v ≤ 9007199254740991 → Tr (mo_decimal_37 fu M (nI n) (lN v) (nI i)) (fun r => XE n0 u h cs0 ms0 ((match dec t n m i v with | some w => (1, FP.l2d (lN w), []) | none => er 6), ca) r) := by
  have htl := ht.1
  intro m
  induction m with
  | zero =>
    intro i v fu hi hf hv
    obtain ⟨f, rfl⟩ : ∃ f, fu = f + 1 := ⟨fu - 1, by omega⟩
    exact Tr_jbt (by rw [hB.1]; exact nI_le (by omega) (by omega)) (Tr_jc (XE_num I (fun _ => rfl)) (fun r hr => Tr_some hr))
  | succ m ih =>
    intro i v fu hi hf hv
    obtain ⟨f, rfl⟩ : ∃ f, fu = f + 1 := ⟨fu - 1, by omega⟩
    have hc := okT_at ht i
    have hgc := grC_lt hc
    have hd := dgv_lt (t.getD i 0)
    have hvn : n * v ≤ 36 * 9007199254740991 := Nat.mul_le_mul hn2 hv
    refine Tr_jbf (by rw [hB.1]; exact nI_ge (by omega) (by omega)) (Tr_jbt he (Tr_jg (inb_of (by omega) (by decide)) ?_))
    rw [nI_clamp (by omega), hB.2 i (by omega)]
    refine Tr_jce (great_m hc) (Tr_jce (isDigit_m hgc) ?_)
    -- with the digit known
    have e3 : ∀ x : Nat, x ≤ 99 → (nI n).toInt64 * lN v + (nI x).toInt64 = lN (n * v + x) := fun x hx => by rw [nI_l (by omega), nI_l (by omega), lN_mul, lN_add]
    have bad_ : ∀ (m1 : GS) (a : VV × CS), XE n0 u h cs0 ms0 a m1 → ¬ m1.1 0 22 = 0 → ∀ w : Int64, Tr (mo_decimal_145 (mo_decimal_37 f) m1 (nI n) w (nI i)) (fun r => XE n0 u h cs0 ms0 a r) := fun m1 a hx hm w => by
      obtain ⟨g, rfl⟩ : ∃ g, f = g + 1 := ⟨f - 1, by omega⟩
      exact Tr_jn (Tr_mono (decE hm) (fun r hr => XE_ch hx hr hm (by decide) (by decide) (by decide)))
    have s108 : Tr (mo_decimal_108 (mo_decimal_37 f) M (nI n) (lN v) (nI i) (nI (dgv (t.getD i 0)))) (fun r => XE n0 u h cs0 ms0 ((match dec t n (m + 1) i v with | some w => (1, FP.l2d (lN w), []) | none => er 6), ca) r) := by
      by_cases hn3 : n ≤ dgv (t.getD i 0)
      · have e : dec t n (m + 1) i v = none := by
          show (if _ then _ else _) = _
          rw [if_pos hn3]
        rw [e]
        refine Tr_jbf (nI_nlt hn3 (by omega)) (Tr_jc (XE_err I (e := 6) (by decide) (by decide)) (fun m1 ⟨k1, k2, k3⟩ => Tr_jn ?_))
        exact Tr_jb (fun _ => bad_ m1 _ k1 k3 _) (fun _ => Tr_jce (fail_skip k3) (bad_ m1 _ k1 k3 _))
      · refine Tr_jbt (nI_lt (by omega) (by omega)) (Tr_jn ?_)
        rw [e3 _ hd]
        by_cases hbig : 9007199254740991 < n * v + dgv (t.getD i 0)
        · have e : dec t n (m + 1) i v = none := by
            show (if _ then _ else _) = _
            rw [if_neg hn3, if_pos hbig]
          rw [e]
          exact Tr_jbf (fun z => by have := (lc_le (b := 9007199254740991) (by omega) (by decide)).mp z; omega) (Tr_jc (XE_err I (e := 6) (by decide) (by decide)) (fun m1 ⟨k1, k2, k3⟩ => bad_ m1 _ k1 k3 _))
        · have e : dec t n (m + 1) i v = dec t n m (i + 1) (n * v + dgv (t.getD i 0)) := by
            show (if _ then _ else _) = _
            rw [if_neg hn3, if_neg hbig]
          rw [e]
          refine Tr_jbt ((lc_le (b := 9007199254740991) (by omega) (by decide)).mpr (by omega)) (Tr_jn ?_)
          rw [nI_1]
          exact ih (i + 1) _ f (by omega) (by omega) (by omega)
    by_cases hdg : 48 ≤ grC (t.getD i 0) ∧ grC (t.getD i 0) ≤ 57
    · rw [if_pos hdg]
      have e : dgv (t.getD i 0) = grC (t.getD i 0) - 48 := by
        unfold grC at hdg ⊢
        unfold dgv
        split at hdg
        · omega
        · rename_i hh
          rw [if_neg hh, if_pos hdg]
      rw [e] at s108
      refine Tr_jbf (by decide) ?_
      have e2 : nI (grC (t.getD i 0)) - 48 = nI (grC (t.getD i 0) - 48) := by
        show nI _ - nI 48 = _
        rw [nI_sub hdg.1]
      rw [e2]
      exact s108
    · rw [if_neg hdg]
      have hnd : ¬ (48 ≤ t.getD i 0 ∧ t.getD i 0 ≤ 57) := fun z => hdg (by unfold grC; rw [if_neg (by omega)]; exact z)
      refine Tr_jbt rfl ?_
      by_cases hl : isL (t.getD i 0) = true
      · have hg := grC_L.mpr hl
        have e : dgv (t.getD i 0) = grC (t.getD i 0) - 65 + 10 := by unfold dgv; rw [if_neg hnd, if_pos hl]
        rw [e] at s108
        refine Tr_jbf (nI_nlt (b := 65) (by omega) (by omega)) (Tr_jbf (nI_nlt (a := 90) (by omega) (by decide)) ?_)
        have e2 : nI (grC (t.getD i 0)) - 65 + 10 = nI (grC (t.getD i 0) - 65 + 10) := by
          show nI _ - nI 65 + nI 10 = _
          rw [nI_sub hg.1, nI_add]
        rw [e2]
        exact s108
      · have e : dgv (t.getD i 0) = 99 := by unfold dgv; rw [if_neg hnd, if_neg hl]
        rw [e] at s108
        have hg : ¬ (65 ≤ grC (t.getD i 0) ∧ grC (t.getD i 0) ≤ 90) := fun z => hl (grC_L.mp z)
        by_cases h65 : grC (t.getD i 0) < 65
        · exact Tr_jbt (nI_lt (b := 65) h65 (by decide)) s108
        · exact Tr_jbf (nI_nlt (b := 65) (by omega) (by omega)) (Tr_jbt (nI_lt (a := 90) (by omega) (by omega)) s108)
theorem x_decimal {n u h : Nat} {cs0 cs : CS} {ms0 ms : GS} (I : CI n u h cs0 ms0 cs ms) (hn : 1 < n) : Sm 900 13000 (f_tx_decimal cs) (f_mo_decimal ms) (XE n u h cs0 ms0) := by
  refine Sm_jj2 (read_b I (i := 0) (by omega)) (fun ⟨t, ca⟩ m2 ⟨b1, b0, b2, c1, c2, c3⟩ => ?_)
  refine Sm_j0 (k_whole b1 (i := 1) (by omega)) (fun ⟨x, cs1⟩ ⟨y, m3⟩ ⟨d1, d0, d2, d3, d4, d5⟩ => ?_)
  dsimp only at *
  have hB := Txt_ch c1 d5 (by decide) (by decide) (by decide)
  have htl := b2.1
  have Y0 : ¬ m3.1 0 22 = 0 → Tr (jb (y < 2) (mo_decimal_26 m3 y) (jb (y ≤ 36) (mo_decimal_32 m3 y) (mo_decimal_26 m3 y))) (fun m => Ch SF0 SC m3 m) := fun he => by
    have R : Tr (mo_decimal_32 m3 y) (fun m => Ch SF0 SC m3 m) := Tr_mono (decE (fu := 19999999) he) (fun r hr => Ch_mono hr (by decide) (by decide))
    have R2 : Tr (mo_decimal_26 m3 y) (fun m => Ch SF0 SC m3 m) := Tr_jce (fail_skip he) R
    exact Tr_jb (fun _ => R2) (fun _ => Tr_jb (fun _ => R) (fun _ => R2))
  have E0 : Tr (mo_decimal_26 m3 y) (fun m => XE n u h cs0 ms0 (er 6, cs1) m) := Tr_jc (XE_err d1 (e := 6) (by decide) (by decide)) (fun m ⟨m1, m2, k3⟩ => Tr_mono (decE (fu := 19999999) k3) (fun r hr => XE_ch m1 hr k3 (by decide) (by decide) (by decide)))
  by_cases hs : x < 2
  · exact Sm_fin d1 (V := er 6) (TA_jbt hs (TA_vl rfl)) Y0 (fun hf he => Tr_jbt (by rw [d4 hf]; exact hs) E0)
  by_cases h36 : x ≤ 36
  · have hx0 : ¬ x < 0 := fun z => hs (Int32.lt_trans z (by decide))
    obtain ⟨k, k1, rfl⟩ := iB_low d2 hx0
    have hk2 : 2 ≤ k := by
      refine Nat.le_of_not_lt fun z => hs ?_
      exact nI_lt (b := 2) z (by decide)
    have hk36 : k ≤ 36 := (nI_leI (a := k) (b := 36) (by omega) (by decide)).mp h36
    refine Sm_fin d1 (TA_jbf hs (TA_jbt h36 (TA_mono (decC b2 hk2 hk36 t.length 0 0 FU (by omega) (FU_lt (by omega)) (by decide)) (by decide) (by decide) (fun _ z => z)))) Y0 (fun hf he => ?_)
    rw [d4 hf]
    exact Tr_jbf hs (Tr_jbt h36 (decM d1 b2 hB he hk2 hk36 t.length 0 0 FU (by omega) (FU_lt (by omega)) (by decide)))
  · exact Sm_fin d1 (V := er 6) (TA_jbf hs (TA_jbf h36 (TA_vl rfl))) Y0 (fun hf he => Tr_jbf (by rw [d4 hf]; exact hs) (Tr_jbf (by rw [d4 hf]; exact h36) E0))
