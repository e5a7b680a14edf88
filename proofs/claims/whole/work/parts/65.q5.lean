theorem isDigit_m {c : Nat} (h : c < 256) : f_mo_isDigit (nI c) = some (if 48 ≤ c ∧ c ≤ 57 then 1 else 0) := by
  by_cases h48 : c < 48
  · rw [if_neg (by omega)]
    exact e_bt (nI_lt (b := 48) h48 (by decide)) rfl
  · by_cases h57 : 57 < c
    · rw [if_neg (by omega)]
      exact e_bf (nI_nlt (b := 48) (by omega) (by omega)) (e_bt (nI_lt (a := 57) h57 (by omega)) rfl)
    · rw [if_pos (by omega)]
      exact e_bf (nI_nlt (b := 48) (by omega) (by omega)) (e_bf (nI_nlt (a := 57) (by omega) (by omega)) rfl)
/-- how the reference's says ends -/
def SO (t : TT) (m : GS) (o : Option (Int32 × GS)) : Prop := (∃ q e m', Nm t q e ∧ o = some (1, m') ∧ m'.2.1 0 21 = nW t e ∧ Ch [21] [] m m') ∨ ((∀ q e, ¬ Nm t q e) ∧ o = some (0, m))
theorem vs_step {t : TT} {i m acc : Nat} (h : 48 ≤ t.getD (i + m) 0 ∧ t.getD (i + m) 0 ≤ 57) : vs t i (m + 1) acc = 10 * vs t i m acc + (t.getD (i + m) 0 - 48) := by
  rw [vs_add]
  show (if _ then _ else _) = _
  rw [if_pos h, Nat.mul_comm]
theorem Nm_q {t : TT} {k q e : Nat} (h : Nm t q e) (hk : sgn0 t ≤ k) (hkl : k ≤ t.length) (hd : ∀ j, sgn0 t ≤ j → j < k → dg (t.getD j 0)) (hend : k = t.length ∨ ¬ dg (t.getD k 0) ∨ k = sgn0 t + 10) : q = k - sgn0 t := by
  obtain ⟨n1, n2, n3, n4⟩ := h
  rcases Nat.lt_trichotomy (sgn0 t + q) k with g | g | g
  · have hdd := hd (sgn0 t + q) (by omega) g
    rcases n4 with ⟨-, n5⟩ | ⟨k1, k2, k3, k4, k5⟩
    · omega
    · rw [k3] at hdd
      obtain ⟨x, y⟩ := hdd
      omega
  · omega
  · rcases hend with e | e | e
    · rcases n4 with ⟨-, n5⟩ | ⟨k1, k2, k3, k4, k5⟩ <;> omega
    · exact absurd (n3 k hk g) e
    · omega
theorem says_199 {t : TT} {m : GS} {q e k : Nat} (htl : t.length ≤ 255) (ht : Txt 27 13 t m) (hk : k = sgn0 t + q ∧ e = 0 ∨ 1 ≤ e ∧ k = sgn0 t + q + 1 + e ∧ t.getD (sgn0 t + q) 0 = 46 ∧ e ≤ 3) (hkl : k ≤ t.length) (hq : 1 ≤ q ∧ q ≤ 9) (hd : ∀ j, sgn0 t ≤ j → j < sgn0 t + q → dg (t.getD j 0)) (hd2 : ∀ j, sgn0 t + q + 1 ≤ j → j < k → dg (t.getD j 0)) (hno : k < t.length → ∀ q' e', ¬ Nm t q' e') : SO t m (mo_says_199 m (nI k) (nI (sgn0 t)) (lN (vs t (sgn0 t) (k - sgn0 t) 0)) (lN (10 ^ e))) := by
  have hs := (sgn0_le t).1
  by_cases hl : k < t.length
  · exact Or.inr ⟨hno hl, e_bf (by rw [ht.1]; exact nI_ge hl (by omega)) rfl⟩
  · have hkl2 : k = t.length := by omega
    have hN : Nm t q e := by
      refine ⟨hq.1, hq.2, hd, ?_⟩
      rcases hk with ⟨k1, k2⟩ | ⟨k1, k2, k3, k4⟩
      · exact Or.inl ⟨k2, by omega⟩
      · exact Or.inr ⟨k1, k4, k3, by omega, fun j h1 h2 => hd2 j h1 (by omega)⟩
    obtain ⟨v1, v2, v3⟩ := nV_lt hN
    have hp : 10 ^ e ≤ 1000 := Nat.le_trans (Nat.pow_le_pow_right (by decide) v2) (by decide)
    have hp0 : 0 < 10 ^ e := Nat.pow_pos (by decide)
    have hv : nV t ≤ 2 ^ 53 := by
      have := Nat.mul_le_mul_left 1000000000 hp
      omega
    obtain ⟨z, hz, -⟩ := DV_quot (a := nV t) (b := 10 ^ e) hv (by omega) hp0
    have hV : vs t (sgn0 t) (k - sgn0 t) 0 = nV t := by rw [hkl2]; rfl
    rw [hV]
    have c1 : ∀ M : GS, Ch [21] [] m M → Ch [21] [] m M := fun _ h => h
    by_cases hs1 : sgn0 t = 1
    · by_cases hv0 : 0 < nV t
      · refine Or.inl ⟨q, e, uD (uD m 0 21 (FP.ddiv (FP.l2d (lN (nV t))) (FP.l2d (lN (10 ^ e))))) 0 21 (FP.dneg (FP.ddiv (FP.l2d (lN (nV t))) (FP.l2d (lN (10 ^ e))))), hN, ?_, ?_, Ch_d (Ch_d Ch_refl (by decide)) (by decide)⟩
        · refine e_bt (by rw [ht.1]; exact nI_le (by omega) (by omega)) (e_g (nn_DV hz) (e_n (e_bt (by rw [hs1]; rfl) (e_bf (fun q => ?_) (e_n ?_)))))
          · have := (lc_le (a := nV t) (b := 0) (by omega) (by decide)).mp q
            omega
          · rw [uD_at]
        · rw [uD_at]
          unfold nW
          rw [if_pos ⟨hs1, hv0⟩]
      · refine Or.inl ⟨q, e, uD m 0 21 (FP.ddiv (FP.l2d (lN (nV t))) (FP.l2d (lN (10 ^ e)))), hN, ?_, ?_, Ch_d Ch_refl (by decide)⟩
        · exact e_bt (by rw [ht.1]; exact nI_le (by omega) (by omega)) (e_g (nn_DV hz) (e_n (e_bt (by rw [hs1]; rfl) (e_bt ((lc_le (a := nV t) (b := 0) (by omega) (by decide)).mpr (by omega)) rfl))))
        · rw [uD_at]
          unfold nW
          rw [if_neg (fun q => hv0 q.2)]
    · refine Or.inl ⟨q, e, uD m 0 21 (FP.ddiv (FP.l2d (lN (nV t))) (FP.l2d (lN (10 ^ e)))), hN, ?_, ?_, Ch_d Ch_refl (by decide)⟩
      · refine e_bt (by rw [ht.1]; exact nI_le (by omega) (by omega)) (e_g (nn_DV hz) (e_n (e_bf (fun q => hs1 ?_) rfl)))
        exact (nI_eq (a := sgn0 t) (b := 1) (by omega) (by decide)).mp q
      · rw [uD_at]
        unfold nW
        rw [if_neg (fun q => hs1 q.1)]
/-- the digits behind the point -/
theorem says_120 {t : TT} {m : GS} (ht : okT t) (hT : Txt 27 13 t m) {q : Nat} (hq : 1 ≤ q ∧ q ≤ 9) (hd : ∀ j, sgn0 t ≤ j → j < sgn0 t + q → dg (t.getD j 0)) (h46 : t.getD (sgn0 t + q) 0 = 46) (hNq : ∀ q' e', Nm t q' e' → q' = q) : ∀ (f e fu : Nat), e + f = 4 → f < fu → sgn0 t + q + 1 + e ≤ t.length → (∀ j, sgn0 t + q + 1 ≤ j → j < sgn0 t + q + 1 + e → dg (t.getD j 0)) → SO t m (mo_says_120 fu m (nI (sgn0 t + q + 1 + e)) (nI (sgn0 t)) (lN (vs t (sgn0 t) (q + 1 + e) 0)) (lN (10 ^ e))) := by
  have htl := ht.1
  have hs := (sgn0_le t).1
  intro f
  -- the end of the run
  have fin : ∀ e, e ≤ 4 → sgn0 t + q + 1 + e ≤ t.length → (∀ j, sgn0 t + q + 1 ≤ j → j < sgn0 t + q + 1 + e → dg (t.getD j 0)) → (sgn0 t + q + 1 + e = t.length ∨ ¬ dg (t.getD (sgn0 t + q + 1 + e) 0) ∨ e = 4) → SO t m (mo_says_181 m (nI (sgn0 t + q + 1 + e)) (nI (sgn0 t)) (lN (vs t (sgn0 t) (q + 1 + e) 0)) (lN (10 ^ e))) := by
    intro e he hl hde hend
    have hNe : ∀ q' e', Nm t q' e' → 1 ≤ e ∧ e ≤ 3 ∧ sgn0 t + q + 1 + e = t.length := by
      intro q' e' hN
      have := hNq q' e' hN
      subst this
      obtain ⟨n1, n2, n3, n4⟩ := hN
      rcases n4 with ⟨n5, n6⟩ | ⟨k1, k2, k3, k4, k5⟩
      · omega
      · rcases hend with h | h | h
        · omega
        · have : ¬ e < e' := fun g => h (k5 _ (by omega) (by omega))
          omega
        · omega
    have hp : 10 ^ e ≤ 10000 := Nat.le_trans (Nat.pow_le_pow_right (by decide) he) (by decide)
    by_cases e0 : e = 0
    · subst e0
      exact Or.inr ⟨fun q' e' hN => by have := hNe q' e' hN; omega, e_bt (by decide) rfl⟩
    · by_cases e4 : e = 4
      · subst e4
        exact Or.inr ⟨fun q' e' hN => by have := hNe q' e' hN; omega, e_bf (by decide) (e_bt (by decide) rfl)⟩
      · have h199 := says_199 (q := q) (e := e) (k := sgn0 t + q + 1 + e) htl hT (Or.inr ⟨by omega, rfl, h46, by omega⟩) hl hq hd hde (fun hlt q' e' hN => by have := hNe q' e' hN; omega)
        rw [show sgn0 t + q + 1 + e - sgn0 t = q + 1 + e by omega] at h199
        have n1 : ¬ lg_cmp (lN (10 ^ e)) 1 = 0 := by rcases (show e = 1 ∨ e = 2 ∨ e = 3 by omega) with rfl | rfl | rfl <;> decide
        have n4 : ¬ lg_cmp (lN (10 ^ e)) (10000 : Int64) = 0 := by rcases (show e = 1 ∨ e = 2 ∨ e = 3 by omega) with rfl | rfl | rfl <;> decide
        have e181 : mo_says_181 m (nI (sgn0 t + q + 1 + e)) (nI (sgn0 t)) (lN (vs t (sgn0 t) (q + 1 + e) 0)) (lN (10 ^ e)) = mo_says_199 m (nI (sgn0 t + q + 1 + e)) (nI (sgn0 t)) (lN (vs t (sgn0 t) (q + 1 + e) 0)) (lN (10 ^ e)) := e_bf n1 (e_bf n4 rfl)
        rw [e181]
        exact h199
  induction f with
  | zero =>
    intro e fu he hf hl hde
    obtain ⟨g, rfl⟩ : ∃ g, fu = g + 1 := ⟨fu - 1, by omega⟩
    obtain rfl : e = 4 := by omega
    have hfin := fin 4 (by omega) hl hde (Or.inr (Or.inr rfl))
    have e120 : mo_says_120 (g + 1) m (nI (sgn0 t + q + 1 + 4)) (nI (sgn0 t)) (lN (vs t (sgn0 t) (q + 1 + 4) 0)) (lN (10 ^ 4)) = mo_says_181 m (nI (sgn0 t + q + 1 + 4)) (nI (sgn0 t)) (lN (vs t (sgn0 t) (q + 1 + 4) 0)) (lN (10 ^ 4)) := by
      by_cases hk : t.length ≤ sgn0 t + q + 1 + 4
      · exact e_bt (by rw [hT.1]; exact nI_le hk (by omega)) rfl
      · refine e_bf (by rw [hT.1]; exact nI_ge (by omega) (by omega)) (e_g (inb_of (by omega) (by decide)) ?_)
        rw [nI_clamp (by omega), hT.2 _ (by omega)]
        refine e_c (isDigit_m (okT_at ht _)) ?_
        by_cases hdd : 48 ≤ t.getD (sgn0 t + q + 1 + 4) 0 ∧ t.getD (sgn0 t + q + 1 + 4) 0 ≤ 57
        · rw [if_pos hdd]
          exact e_bf (by decide) (e_bt (by decide) rfl)
        · rw [if_neg hdd]
          exact e_bt rfl rfl
    rw [e120]
    exact hfin
  | succ f ih =>
    intro e fu he hf hl hde
    obtain ⟨g, rfl⟩ : ∃ g, fu = g + 1 := ⟨fu - 1, by omega⟩
    have hp : 10 ^ e ≤ 1000 := Nat.le_trans (Nat.pow_le_pow_right (by decide) (show e ≤ 3 by omega)) (by decide)
    by_cases hk : t.length ≤ sgn0 t + q + 1 + e
    · have e120 : mo_says_120 (g + 1) m (nI (sgn0 t + q + 1 + e)) (nI (sgn0 t)) (lN (vs t (sgn0 t) (q + 1 + e) 0)) (lN (10 ^ e)) = mo_says_181 m (nI (sgn0 t + q + 1 + e)) (nI (sgn0 t)) (lN (vs t (sgn0 t) (q + 1 + e) 0)) (lN (10 ^ e)) := e_bt (by rw [hT.1]; exact nI_le hk (by omega)) rfl
      rw [e120]
      exact fin e (by omega) hl hde (Or.inl (by omega))
    · by_cases hdd : 48 ≤ t.getD (sgn0 t + q + 1 + e) 0 ∧ t.getD (sgn0 t + q + 1 + e) 0 ≤ 57
      · have hih := ih (e + 1) g (by omega) (by omega) (by omega) (fun j h1 h2 => by
          by_cases e2 : j = sgn0 t + q + 1 + e
          · rw [e2]; exact hdd
          · exact hde j h1 (by omega))
        have e120 : mo_says_120 (g + 1) m (nI (sgn0 t + q + 1 + e)) (nI (sgn0 t)) (lN (vs t (sgn0 t) (q + 1 + e) 0)) (lN (10 ^ e)) = mo_says_120 g m (nI (sgn0 t + q + 1 + (e + 1))) (nI (sgn0 t)) (lN (vs t (sgn0 t) (q + 1 + (e + 1)) 0)) (lN (10 ^ (e + 1))) := by
          have hin : inb (nI (sgn0 t + q + 1 + e)) 256 = true := inb_of (by omega) (by decide)
          have ecl : (nI (sgn0 t + q + 1 + e)).toNatClampNeg = sgn0 t + q + 1 + e := nI_clamp (by omega)
          refine e_bf (by rw [hT.1]; exact nI_ge (by omega) (by omega)) (e_g hin ?_)
          rw [ecl, hT.2 _ (by omega)]
          refine e_c (isDigit_m (okT_at ht _)) ?_
          rw [if_pos hdd]
          refine e_bf (by decide) (e_bf (fun z => ?_) (e_g hin (e_n (e_n (e_n ?_)))))
          · have := (lc_ge (a := 10 ^ e) (b := 10000) (by omega) (by decide)).mp z
            omega
          have hc := okT_at ht (sgn0 t + q + 1 + e)
          have e1 : (10 : Int64) * lN (vs t (sgn0 t) (q + 1 + e) 0) + (nI (t.getD (sgn0 t + q + 1 + e) 0)).toInt64 - (48 : Int64) = lN (vs t (sgn0 t) (q + 1 + (e + 1)) 0) := by
            rw [nI_l (by omega)]
            show lN 10 * lN _ + lN _ - lN 48 = _
            rw [lN_mul, lN_add, lN_sub (by omega)]
            have := vs_step (t := t) (i := sgn0 t) (m := q + 1 + e) (acc := 0) (by rw [show sgn0 t + (q + 1 + e) = sgn0 t + q + 1 + e by omega]; exact hdd)
            rw [show q + 1 + (e + 1) = q + 1 + e + 1 by omega, this, show sgn0 t + (q + 1 + e) = sgn0 t + q + 1 + e by omega]
            congr 1
            omega
          have e2 : (10 : Int64) * lN (10 ^ e) = lN (10 ^ (e + 1)) := by
            have := lN_mul 10 (10 ^ e)
            rw [Nat.mul_comm, ← Nat.pow_succ] at this
            exact this
          rw [e1, e2, nI_1]
          rfl
        rw [e120]
        exact hih
      · have e120 : mo_says_120 (g + 1) m (nI (sgn0 t + q + 1 + e)) (nI (sgn0 t)) (lN (vs t (sgn0 t) (q + 1 + e) 0)) (lN (10 ^ e)) = mo_says_181 m (nI (sgn0 t + q + 1 + e)) (nI (sgn0 t)) (lN (vs t (sgn0 t) (q + 1 + e) 0)) (lN (10 ^ e)) := by
          refine e_bf (by rw [hT.1]; exact nI_ge (by omega) (by omega)) (e_g (inb_of (by omega) (by decide)) ?_)
          rw [nI_clamp (by omega), hT.2 _ (by omega)]
          refine e_c (isDigit_m (okT_at ht _)) ?_
          rw [if_neg hdd]
          exact e_bt rfl rfl
        rw [e120]
        exact fin e (by omega) hl hde (Or.inr (Or.inl hdd))
/-- the digits before the point -/
theorem says_28 {t : TT} {m : GS} (ht : okT t) (hT : Txt 27 13 t m) : ∀ (f q fu : Nat), q + f = 10 → f < fu → sgn0 t + q ≤ t.length → (∀ j, sgn0 t ≤ j → j < sgn0 t + q → dg (t.getD j 0)) → SO t m (mo_says_28 fu m (nI (sgn0 t + q)) (nI (sgn0 t)) (lN (vs t (sgn0 t) q 0))) := by
  have htl := ht.1
  have hs := (sgn0_le t).1
  intro f
  have fin : ∀ q, q ≤ 10 → sgn0 t + q ≤ t.length → (∀ j, sgn0 t ≤ j → j < sgn0 t + q → dg (t.getD j 0)) → (sgn0 t + q = t.length ∨ ¬ dg (t.getD (sgn0 t + q) 0) ∨ q = 10) → SO t m (mo_says_80 m (nI (sgn0 t + q)) (nI (sgn0 t)) (lN (vs t (sgn0 t) q 0))) := by
    intro q hq hl hd hend
    have hNq : ∀ q' e', Nm t q' e' → q' = q := fun q' e' hN => by
      have := Nm_q hN (k := sgn0 t + q) (by omega) hl hd (by
        rcases hend with h | h | h
        · exact Or.inl h
        · exact Or.inr (Or.inl h)
        · exact Or.inr (Or.inr (by omega)))
      omega
    by_cases q0 : q = 0
    · subst q0
      exact Or.inr ⟨fun q' e' hN => by have h1 := hNq q' e' hN; have h2 := hN.1; omega, e_bt rfl rfl⟩
    by_cases q10 : q = 10
    · subst q10
      refine Or.inr ⟨fun q' e' hN => by have h1 := hNq q' e' hN; have h2 := hN.2.1; omega, e_bf (fun z => ?_) (e_bt ?_ rfl)⟩
      · have := (nI_eq (by omega) (by omega)).mp z
        omega
      · show nI (sgn0 t + 10) = nI (sgn0 t) + nI 10
        rw [nI_add]
    have n0 : ¬ nI (sgn0 t + q) = nI (sgn0 t) := fun z => by
      have := (nI_eq (by omega) (by omega)).mp z
      omega
    have n10 : ¬ nI (sgn0 t + q) = nI (sgn0 t) + 10 := fun z => by
      have z : nI (sgn0 t + q) = nI (sgn0 t) + nI 10 := z
      rw [nI_add] at z
      have := (nI_eq (by omega) (by omega)).mp z
      omega
    have no46 : ¬ t.getD (sgn0 t + q) 0 = 46 → sgn0 t + q < t.length → ∀ q' e', ¬ Nm t q' e' := fun h46 hlt q' e' hN => by
      have := hNq q' e' hN
      subst this
      obtain ⟨n1, n2, n3, n4⟩ := hN
      rcases n4 with ⟨n5, n6⟩ | ⟨k1, k2, k3, k4, k5⟩
      · omega
      · exact h46 k3
    have h199 : (sgn0 t + q < t.length → ∀ q' e', ¬ Nm t q' e') → SO t m (mo_says_199 m (nI (sgn0 t + q)) (nI (sgn0 t)) (lN (vs t (sgn0 t) q 0)) 1) := fun hno => by
      have := says_199 (q := q) (e := 0) (k := sgn0 t + q) htl hT (Or.inl ⟨rfl, rfl⟩) hl ⟨by omega, by omega⟩ hd (fun j h1 h2 => by omega) hno
      rw [Nat.add_sub_cancel_left] at this
      exact this
    by_cases hk : t.length ≤ sgn0 t + q
    · have e80 : mo_says_80 m (nI (sgn0 t + q)) (nI (sgn0 t)) (lN (vs t (sgn0 t) q 0)) = mo_says_199 m (nI (sgn0 t + q)) (nI (sgn0 t)) (lN (vs t (sgn0 t) q 0)) 1 := e_bf n0 (e_bf n10 (e_bt (by rw [hT.1]; exact nI_le hk (by omega)) rfl))
      rw [e80]
      exact h199 (fun hlt => by omega)
    · by_cases h46 : t.getD (sgn0 t + q) 0 = 46
      · have e80 : mo_says_80 m (nI (sgn0 t + q)) (nI (sgn0 t)) (lN (vs t (sgn0 t) q 0)) = mo_says_120 FU m (nI (sgn0 t + q + 1 + 0)) (nI (sgn0 t)) (lN (vs t (sgn0 t) (q + 1 + 0) 0)) (lN (10 ^ 0)) := by
          refine e_bf n0 (e_bf n10 (e_bf (by rw [hT.1]; exact nI_ge (by omega) (by omega)) (e_g (inb_of (by omega) (by decide)) ?_)))
          rw [nI_clamp (by omega), hT.2 _ (by omega)]
          refine e_bt (by rw [h46]; rfl) (e_n ?_)
          have e1 : vs t (sgn0 t) (q + 1) 0 = vs t (sgn0 t) q 0 := by
            rw [vs_add]
            show (if _ then _ else _) = _
            rw [if_neg (by rw [h46]; omega)]
          rw [Nat.add_zero, Nat.add_zero, e1, nI_1]
          rfl
        rw [e80]
        exact says_120 ht hT ⟨by omega, by omega⟩ hd h46 hNq 4 0 FU rfl (FU_lt (by decide)) (by omega) (fun j h1 h2 => by omega)
      · have hc := okT_at ht (sgn0 t + q)
        have e80 : mo_says_80 m (nI (sgn0 t + q)) (nI (sgn0 t)) (lN (vs t (sgn0 t) q 0)) = mo_says_199 m (nI (sgn0 t + q)) (nI (sgn0 t)) (lN (vs t (sgn0 t) q 0)) 1 := by
          refine e_bf n0 (e_bf n10 (e_bf (by rw [hT.1]; exact nI_ge (by omega) (by omega)) (e_g (inb_of (by omega) (by decide)) ?_)))
          rw [nI_clamp (by omega), hT.2 _ (by omega)]
          exact e_bf (fun z => h46 ((nI_eq (b := 46) (by omega) (by decide)).mp z)) rfl
        rw [e80]
        exact h199 (no46 h46)
  induction f with
  | zero =>
    intro q fu he hf hl hd
    obtain ⟨g, rfl⟩ : ∃ g, fu = g + 1 := ⟨fu - 1, by omega⟩
    obtain rfl : q = 10 := by omega
    have e28 : mo_says_28 (g + 1) m (nI (sgn0 t + 10)) (nI (sgn0 t)) (lN (vs t (sgn0 t) 10 0)) = mo_says_80 m (nI (sgn0 t + 10)) (nI (sgn0 t)) (lN (vs t (sgn0 t) 10 0)) := by
      by_cases hk : t.length ≤ sgn0 t + 10
      · exact e_bt (by rw [hT.1]; exact nI_le hk (by omega)) rfl
      · refine e_bf (by rw [hT.1]; exact nI_ge (by omega) (by omega)) (e_g (inb_of (by omega) (by decide)) ?_)
        rw [nI_clamp (by omega), hT.2 _ (by omega)]
        refine e_c (isDigit_m (okT_at ht _)) ?_
        by_cases hdd : 48 ≤ t.getD (sgn0 t + 10) 0 ∧ t.getD (sgn0 t + 10) 0 ≤ 57
        · rw [if_pos hdd]
          refine e_bf (by decide) (e_bt ?_ rfl)
          show nI (sgn0 t) + nI 10 ≤ nI (sgn0 t + 10)
          rw [nI_add]
          exact Int32.le_refl _
        · rw [if_neg hdd]
          exact e_bt rfl rfl
    rw [e28]
    exact fin 10 (by omega) hl hd (Or.inr (Or.inr rfl))
  | succ f ih =>
    intro q fu he hf hl hd
    obtain ⟨g, rfl⟩ : ∃ g, fu = g + 1 := ⟨fu - 1, by omega⟩
    by_cases hk : t.length ≤ sgn0 t + q
    · have e28 : mo_says_28 (g + 1) m (nI (sgn0 t + q)) (nI (sgn0 t)) (lN (vs t (sgn0 t) q 0)) = mo_says_80 m (nI (sgn0 t + q)) (nI (sgn0 t)) (lN (vs t (sgn0 t) q 0)) := e_bt (by rw [hT.1]; exact nI_le hk (by omega)) rfl
      rw [e28]
      exact fin q (by omega) hl hd (Or.inl (by omega))
    · have hin : inb (nI (sgn0 t + q)) 256 = true := inb_of (by omega) (by decide)
      have ecl : (nI (sgn0 t + q)).toNatClampNeg = sgn0 t + q := nI_clamp (by omega)
      by_cases hdd : 48 ≤ t.getD (sgn0 t + q) 0 ∧ t.getD (sgn0 t + q) 0 ≤ 57
      · have hih := ih (q + 1) g (by omega) (by omega) (by omega) (fun j h1 h2 => by
          by_cases e2 : j = sgn0 t + q
          · rw [e2]; exact hdd
          · exact hd j h1 (by omega))
        have e28 : mo_says_28 (g + 1) m (nI (sgn0 t + q)) (nI (sgn0 t)) (lN (vs t (sgn0 t) q 0)) = mo_says_28 g m (nI (sgn0 t + (q + 1))) (nI (sgn0 t)) (lN (vs t (sgn0 t) (q + 1) 0)) := by
          refine e_bf (by rw [hT.1]; exact nI_ge (by omega) (by omega)) (e_g hin ?_)
          rw [ecl, hT.2 _ (by omega)]
          refine e_c (isDigit_m (okT_at ht _)) ?_
          rw [if_pos hdd]
          refine e_bf (by decide) (e_bf ?_ (e_g hin (e_n (e_n ?_))))
          · show ¬ nI (sgn0 t) + nI 10 ≤ nI (sgn0 t + q)
            rw [nI_add]
            exact nI_ge (by omega) (by omega)
          have hc := okT_at ht (sgn0 t + q)
          have e1 : (10 : Int64) * lN (vs t (sgn0 t) q 0) + (nI (t.getD (sgn0 t + q) 0)).toInt64 - (48 : Int64) = lN (vs t (sgn0 t) (q + 1) 0) := by
            rw [nI_l (by omega)]
            show lN 10 * lN _ + lN _ - lN 48 = _
            rw [lN_mul, lN_add, lN_sub (by omega), vs_step hdd]
            congr 1
            omega
          rw [e1, nI_1]
          first | done | rfl
        rw [e28]
        exact hih
      · have e28 : mo_says_28 (g + 1) m (nI (sgn0 t + q)) (nI (sgn0 t)) (lN (vs t (sgn0 t) q 0)) = mo_says_80 m (nI (sgn0 t + q)) (nI (sgn0 t)) (lN (vs t (sgn0 t) q 0)) := by
          refine e_bf (by rw [hT.1]; exact nI_ge (by omega) (by omega)) (e_g hin ?_)
          rw [ecl, hT.2 _ (by omega)]
          refine e_c (isDigit_m (okT_at ht _)) ?_
          rw [if_neg hdd]
          exact e_bt rfl rfl
        rw [e28]
        exact fin q (by omega) hl hd (Or.inr (Or.inl hdd))
theorem m_says {t : TT} {m : GS} (ht : okT t) (hT : Txt 27 13 t m) : SO t m (f_mo_says m) := by
  have htl := ht.1
  have h := says_28 ht hT 10 0 FU rfl (FU_lt (by decide)) (by have := (sgn0_le t).2; omega) (fun j h1 h2 => by omega)
  rw [Nat.add_zero] at h
  have e : f_mo_says m = mo_says_28 FU m (nI (sgn0 t)) (nI (sgn0 t)) (lN (vs t (sgn0 t) 0 0)) := by
    by_cases h0 : t.length = 0
    · have e0 : sgn0 t = 0 := by unfold sgn0; rw [if_neg (by omega)]
      rw [e0]
      exact e_bt (by rw [hT.1, h0]; decide) rfl
    · refine e_bf (by rw [hT.1]; exact nI_nle (by omega) (by omega)) (e_g (by decide) ?_)
      have h13 : m.1 13 (0 : Int32).toNatClampNeg = nI (t.getD 0 0) := hT.2 0 (by omega)
      rw [h13]
      by_cases h45 : t.getD 0 0 = 45
      · have e1 : sgn0 t = 1 := by unfold sgn0; rw [if_pos ⟨by omega, h45⟩]
        rw [e1]
        exact e_bt (by rw [h45]; rfl) rfl
      · have e0 : sgn0 t = 0 := by unfold sgn0; rw [if_neg (fun q => h45 q.2)]
        rw [e0]
        exact e_bf (fun q => h45 ((nI_eq (b := 45) (by have := okT_at ht 0; omega) (by decide)).mp q)) rfl
  rw [e]
  exact h
