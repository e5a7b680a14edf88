/-! ### the number that a text says -/
def dg (c : Nat) : Prop := 48 ≤ c ∧ c ≤ 57
def sgn0 (t : TT) : Nat := if 0 < t.length ∧ t.getD 0 0 = 45 then 1 else 0
def Nm (t : TT) (q e : Nat) : Prop := 1 ≤ q ∧ q ≤ 9 ∧ (∀ j, sgn0 t ≤ j → j < sgn0 t + q → dg (t.getD j 0)) ∧ ((e = 0 ∧ t.length = sgn0 t + q) ∨ (1 ≤ e ∧ e ≤ 3 ∧ t.getD (sgn0 t + q) 0 = 46 ∧ t.length = sgn0 t + q + 1 + e ∧ ∀ j, sgn0 t + q + 1 ≤ j → j < t.length → dg (t.getD j 0)))
/-- the digits' number, of m characters from place i on; others are passed over -/
def vs (t : TT) : Nat → Nat → Nat → Nat
  | _, 0, acc => acc
  | i, m + 1, acc => vs t (i + 1) m (if 48 ≤ t.getD i 0 ∧ t.getD i 0 ≤ 57 then acc * 10 + (t.getD i 0 - 48) else acc)
theorem vs_add (t : TT) : ∀ (a b i acc : Nat), vs t i (a + b) acc = vs t (i + a) b (vs t i a acc)
  | 0, b, i, acc => by rw [Nat.zero_add]; rfl
  | a + 1, b, i, acc => by
    rw [show a + 1 + b = (a + b) + 1 by omega]
    show vs t (i + 1) (a + b) _ = vs t (i + (a + 1)) b (vs t (i + 1) a _)
    rw [vs_add t a b (i + 1), show i + 1 + a = i + (a + 1) by omega]
theorem vs_lt (t : TT) : ∀ (m i acc : Nat), vs t i m acc < (acc + 1) * 10 ^ m
  | 0, i, acc => by
    show acc < _
    rw [Nat.pow_zero]
    omega
  | m + 1, i, acc => by
    show vs t (i + 1) m _ < _
    refine Nat.lt_of_lt_of_le (vs_lt t m (i + 1) _) ?_
    rw [Nat.pow_succ, Nat.mul_comm (10 ^ m) 10, ← Nat.mul_assoc]
    refine Nat.mul_le_mul_right _ ?_
    split <;> omega
theorem sgn0_le (t : TT) : sgn0 t ≤ 1 ∧ sgn0 t ≤ t.length := by
  unfold sgn0
  split
  · omega
  · omega
def nV (t : TT) : Nat := vs t (sgn0 t) (t.length - sgn0 t) 0
theorem nV_lt {t : TT} {q e : Nat} (h : Nm t q e) : nV t < 1000000000 * 10 ^ e ∧ e ≤ 3 ∧ t.length ≤ 14 := by
  obtain ⟨h1, h2, h3, h4⟩ := h
  have hs := sgn0_le t
  have hq : 10 ^ q ≤ 1000000000 := Nat.le_trans (Nat.pow_le_pow_right (by decide) h2) (by decide)
  have i1 := vs_lt t q (sgn0 t) 0
  rw [Nat.zero_add, Nat.one_mul] at i1
  unfold nV
  rcases h4 with ⟨rfl, h5⟩ | ⟨k1, k2, k3, k4, k5⟩
  · rw [h5, Nat.add_sub_cancel_left, Nat.pow_zero]
    exact ⟨by omega, by decide, by omega⟩
  · refine ⟨?_, k2, by omega⟩
    rw [show t.length - sgn0 t = q + (1 + e) by omega, vs_add, vs_add]
    have i2 : vs t (sgn0 t + q) 1 (vs t (sgn0 t) q 0) = vs t (sgn0 t) q 0 := by
      show (if 48 ≤ t.getD (sgn0 t + q) 0 ∧ _ then _ else _) = _
      rw [k3]
      rfl
    rw [i2]
    refine Nat.lt_of_lt_of_le (vs_lt t e _ _) (Nat.mul_le_mul_right _ (by omega))
/-- the number said -/
def nW (t : TT) (e : Nat) : UInt64 := if sgn0 t = 1 ∧ 0 < nV t then FP.dneg (FP.ddiv (FP.l2d (lN (nV t))) (FP.l2d (lN (10 ^ e)))) else FP.ddiv (FP.l2d (lN (nV t))) (FP.l2d (lN (10 ^ e)))
theorem nW_NG {t : TT} {q e : Nat} (h : Nm t q e) : NG (nW t e) := by
  obtain ⟨h1, h2, -⟩ := nV_lt h
  obtain ⟨g1, g2⟩ := NG_quot h2 h1
  unfold nW
  split
  · exact g2
  · exact g1
theorem ddiv_neg {a b : Nat} (ha0 : 0 < a) (ha : a ≤ 2 ^ 53) (hb0 : 0 < b) (hb : b ≤ 2 ^ 53) : FP.ddiv (FP.l2d (-(lN a))) (FP.l2d (lN b)) = FP.dneg (FP.ddiv (FP.l2d (lN a)) (FP.l2d (lN b))) := by
  obtain ⟨z, hz, -⟩ := DV_quot ha hb hb0
  have h1 : FP.l2d (-(lN a)) = FP.Core.dneg (FP.l2d (lN a)) := by
    refine FP.Core.l2d_neg (fun q => ?_) ?_
    · have := congrArg Int64.toInt q
      rw [lN_big (by omega)] at this
      have e0 : (0 : Int64).toInt = 0 := by decide
      omega
    · rw [lN_big (by omega)]; omega
  rw [h1]
  have h2 : FP.ddiv (FP.Core.dneg (FP.l2d (lN a))) (FP.l2d (lN b)) = FP.Core.dneg (FP.ddiv (FP.l2d (lN a)) (FP.l2d (lN b))) := FP.Core.ddiv_dneg _ _
  rw [h2]
  exact (FP.dneg_core (FP.Core.DFin.notNaN hz.1)).symm
theorem first_at (t : TT) (c : Nat) : ∀ n, n ≤ t.length → (∃ p, p < n ∧ t.getD p 0 = c ∧ ∀ j, j < p → ¬ t.getD j 0 = c) ∨ ∀ j, j < n → ¬ t.getD j 0 = c
  | 0, _ => Or.inr (fun j hj => absurd hj (Nat.not_lt_zero j))
  | n + 1, h => by
    rcases first_at t c n (by omega) with ⟨p, h1, h2, h3⟩ | h1
    · exact Or.inl ⟨p, by omega, h2, h3⟩
    · by_cases e : t.getD n 0 = c
      · exact Or.inl ⟨n, by omega, e, h1⟩
      · refine Or.inr (fun j hj => ?_)
        by_cases e2 : j = n
        · rw [e2]; exact e
        · exact h1 j (by omega)
theorem mem_take {t : TT} {c k : Nat} (hk : k ≤ t.length) (h : ∀ j, j < k → ¬ t.getD j 0 = c) : ¬ c ∈ t.take k := fun hc => by
  obtain ⟨j, hj, e⟩ := List.getElem_of_mem hc
  rw [List.length_take] at hj
  refine h j (by omega) ?_
  rw [List.getElem_take] at e
  rw [List.getD_eq_getElem?_getD, List.getElem?_eq_getElem (by omega)]
  exact e
theorem okT_at {t : TT} (ht : okT t) (j : Nat) : t.getD j 0 < 256 := by
  by_cases h : j < t.length
  · rw [List.getD_eq_getElem?_getD, List.getElem?_eq_getElem h]
    exact ht.2 _ (List.getElem_mem h)
  · rw [List.getD_eq_getElem?_getD, List.getElem?_eq_none (by omega)]
    decide
theorem charAt_ok {t : TT} {k : Nat} (hk : k < t.length) (h : t.length ≤ 255) : f_js_charAt t (nI k) = some (nI (t.getD k 0)) := by
  refine e_g (inb_of hk (by omega)) ?_
  rw [nI_clamp (by omega)]
/-- what is not well said -/
def bad (cs : CS) : Option (UInt64 × CS) := jc (f_ar_fail cs 3) (fun q2 => some (FP.dconst0, q2))
theorem said_bad {cs : CS} {t : TT} {x2 x3 x5 k : Int32} {x7 : Int64} {fu : Nat} : ar_said_106 (fu + 1) cs t x2 x3 x5 0 x7 k = bad cs := by
  refine e_c rfl ?_
  by_cases h : nI t.length ≤ k
  · exact e_bt h (e_bt rfl rfl)
  · exact e_bf h (e_bt rfl (e_bt rfl rfl))
theorem said_loop {cs : CS} {t : TT} (ht : okT t) {x2 p x5 : Int32} : ∀ (m k acc fu a : Nat), k + m = t.length → m + 1 < fu → acc < 10 ^ a → a + m ≤ 16 → ((∀ j, k ≤ j → j < t.length → dg (t.getD j 0) ∨ nI j = p) → ar_said_106 fu cs t x2 p x5 1 (lN acc) (nI k) = ar_said_179 cs x2 x5 1 (lN (vs t k m acc))) ∧ ((∃ j, k ≤ j ∧ j < t.length ∧ ¬ dg (t.getD j 0) ∧ ¬ nI j = p) → ar_said_106 fu cs t x2 p x5 1 (lN acc) (nI k) = bad cs) := by
  intro m
  have htl := ht.1
  induction m with
  | zero =>
    intro k acc fu a hk hf ha ham
    obtain ⟨g, rfl⟩ : ∃ g, fu = g + 1 := ⟨fu - 1, by omega⟩
    exact ⟨fun _ => e_c rfl (e_bt (nI_le (by omega) (by omega)) rfl), fun ⟨j, h1, h2, _⟩ => by omega⟩
  | succ m ih =>
    intro k acc fu a hk hf ha ham
    obtain ⟨g, rfl⟩ : ∃ g, fu = g + 1 := ⟨fu - 1, by omega⟩
    have hc := okT_at ht k
    have ha16 : 10 ^ a ≤ 10 ^ 15 := Nat.pow_le_pow_right (by decide) (by omega)
    have step : ∀ r, (∀ q5 : Int32, q5 = nI (t.getD k 0) → (jb (q5 < 48) (ar_said_160 (ar_said_106 g) cs t x2 p x5 (lN acc) (nI k)) (jb (57 < q5) (ar_said_160 (ar_said_106 g) cs t x2 p x5 (lN acc) (nI k)) (jn (((lN acc) * (10 : Int64)) + (q5 - 48).toInt64) (fun v6 => ar_said_173 (ar_said_106 g) cs t x2 p x5 1 v6 (nI k))))) = r) → ar_said_106 (g + 1) cs t x2 p x5 1 (lN acc) (nI k) = r := fun r h => e_c rfl (e_bf (nI_ge (by omega) (by omega)) (e_bf (by decide) (e_c (charAt_ok (by omega) htl) (h _ rfl))))
    by_cases hd : dg (t.getD k 0)
    · obtain ⟨d1, d2⟩ := hd
      have hs : ∀ r, ar_said_106 g cs t x2 p x5 1 (lN (acc * 10 + (t.getD k 0 - 48))) (nI (k + 1)) = r → ar_said_106 (g + 1) cs t x2 p x5 1 (lN acc) (nI k) = r := fun r h => step r (fun q5 hq5 => by
        subst hq5
        refine e_bf (nI_nlt (b := 48) (a := t.getD k 0) d1 (by omega)) (e_bf (nI_nlt (a := 57) (by omega) (by decide)) (e_n (e_n ?_)))
        have e1 : (nI (t.getD k 0) - 48).toInt64 = lN (t.getD k 0 - 48) := by
          show (nI (t.getD k 0) - nI 48).toInt64 = _
          rw [nI_sub d1, nI_l (by omega)]
        rw [e1, nI_1]
        show ar_said_106 g cs t x2 p x5 1 (lN acc * lN 10 + lN (t.getD k 0 - 48)) (nI (k + 1)) = r
        rw [lN_mul, lN_add]
        exact h)
      have hacc : acc * 10 + (t.getD k 0 - 48) < 10 ^ (a + 1) := by rw [Nat.pow_succ]; omega
      obtain ⟨i1, i2⟩ := ih (k + 1) (acc * 10 + (t.getD k 0 - 48)) g (a + 1) (by omega) (by omega) hacc (by omega)
      refine ⟨fun h => hs _ ((i1 (fun j h1 h2 => h j (by omega) h2)).trans ?_), fun ⟨j, h1, h2, h3, h4⟩ => hs _ (i2 ⟨j, ?_, h2, h3, h4⟩)⟩
      · show _ = ar_said_179 cs x2 x5 1 (lN (vs t (k + 1) m (if 48 ≤ t.getD k 0 ∧ t.getD k 0 ≤ 57 then _ else acc)))
        rw [if_pos ⟨d1, d2⟩]
      · have : ¬ j = k := fun e => h3 (by rw [e]; exact ⟨d1, d2⟩)
        omega
    · have hs : ∀ r, ar_said_160 (ar_said_106 g) cs t x2 p x5 (lN acc) (nI k) = r → ar_said_106 (g + 1) cs t x2 p x5 1 (lN acc) (nI k) = r := fun r h => step r (fun q5 hq5 => by
        subst hq5
        by_cases h48 : t.getD k 0 < 48
        · exact e_bt (nI_lt (b := 48) h48 (by decide)) h
        · have h57 : 57 < t.getD k 0 := Nat.lt_of_not_le fun q => hd ⟨by omega, q⟩
          exact e_bf (nI_nlt (b := 48) (by omega) (by omega)) (e_bt (nI_lt (a := 57) h57 (by omega)) h))
      by_cases hp : nI k = p
      · obtain ⟨i1, i2⟩ := ih (k + 1) acc g a (by omega) (by omega) ha (by omega)
        have hs2 : ∀ r, ar_said_106 g cs t x2 p x5 1 (lN acc) (nI (k + 1)) = r → ar_said_106 (g + 1) cs t x2 p x5 1 (lN acc) (nI k) = r := fun r h => hs r (e_bt hp (by
          show ar_said_106 g cs t x2 p x5 1 (lN acc) (nI k + 1) = r
          rw [nI_1]
          exact h))
        refine ⟨fun h => hs2 _ ((i1 (fun j h1 h2 => h j (by omega) h2)).trans ?_), fun ⟨j, h1, h2, h3, h4⟩ => hs2 _ (i2 ⟨j, ?_, h2, h3, h4⟩)⟩
        · show _ = ar_said_179 cs x2 x5 1 (lN (vs t (k + 1) m (if 48 ≤ t.getD k 0 ∧ t.getD k 0 ≤ 57 then _ else acc)))
          rw [if_neg (show ¬ (48 ≤ t.getD k 0 ∧ t.getD k 0 ≤ 57) from hd)]
        · have : ¬ j = k := fun e => h4 (by rw [e]; exact hp)
          omega
      · refine ⟨fun h => absurd (h k (Nat.le_refl _) (by omega)) (fun q => q.elim hd hp), fun _ => hs _ (e_bf hp (e_n ?_))⟩
        obtain ⟨g', rfl⟩ : ∃ g', g = g' + 1 := ⟨g - 1, by omega⟩
        exact said_bad
theorem c_1 : FP.dconst1 = FP.l2d (lN (10 ^ 0)) := by decide +kernel
theorem c_10 : (4621819117588971520 : UInt64) = FP.l2d (lN (10 ^ 1)) := by decide +kernel
theorem c_100 : (4636737291354636288 : UInt64) = FP.l2d (lN (10 ^ 2)) := by decide +kernel
theorem c_1000 : (4652007308841189376 : UInt64) = FP.l2d (lN (10 ^ 3)) := by decide +kernel
/-- well said: the class's number -/
theorem said_179 {cs : CS} {t : TT} {q e : Nat} (h : Nm t q e) : ar_said_179 cs (nI (sgn0 t)) (nI e) 1 (lN (nV t)) = some (nW t e, cs) := by
  obtain ⟨v1, v2, v3⟩ := nV_lt h
  have hs := (sgn0_le t).1
  have hp : 10 ^ e ≤ 1000 := Nat.le_trans (Nat.pow_le_pow_right (by decide) v2) (by decide)
  have hp0 : 0 < 10 ^ e := Nat.pow_pos (by decide)
  have hv : nV t ≤ 2 ^ 53 := by
    have := Nat.mul_le_mul_left 1000000000 hp
    omega
  have k227 : ar_said_227 cs (nI (sgn0 t)) (lN (nV t)) (FP.l2d (lN (10 ^ e))) = some (nW t e, cs) := by
    obtain ⟨z, hz, -⟩ := DV_quot (a := nV t) (b := 10 ^ e) hv (by omega) hp0
    by_cases hs1 : sgn0 t = 1
    · refine e_bt (by rw [hs1]; rfl) ?_
      by_cases hv0 : 0 < nV t
      · have e1 := ddiv_neg hv0 hv hp0 (show 10 ^ e ≤ 2 ^ 53 by omega)
        unfold ar_said_242
        rw [e1]
        refine e_g (nn_DV (DV_neg hz)) ?_
        unfold nW
        rw [if_pos ⟨hs1, hv0⟩]
      · have e0 : -(lN (nV t)) = lN (nV t) := by
          rw [show nV t = 0 by omega]
          decide
        unfold ar_said_242
        rw [e0]
        refine e_g (nn_DV hz) ?_
        unfold nW
        rw [if_neg (fun q => hv0 q.2)]
    · refine e_bf (fun q => hs1 ?_) (e_g (nn_DV hz) ?_)
      · exact (nI_eq (a := sgn0 t) (b := 1) (by omega) (by decide)).mp q
      · unfold nW
        rw [if_neg (fun q => hs1 q.1)]
  refine e_bf (by decide) ?_
  rcases (show e = 0 ∨ e = 1 ∨ e = 2 ∨ e = 3 by omega) with rfl | rfl | rfl | rfl
  · refine e_bt rfl ?_
    rw [c_1]; exact k227
  · refine e_bf (by decide) (e_bt rfl ?_)
    rw [c_10]; exact k227
  · refine e_bf (by decide) (e_bf (by decide) (e_bt rfl ?_))
    rw [c_100]; exact k227
  · refine e_bf (by decide) (e_bf (by decide) (e_bf (by decide) ?_))
    rw [c_1000]; exact k227
theorem sgn0_at {t : TT} (h : sgn0 t = 1) : 0 < t.length ∧ t.getD 0 0 = 45 := by
  unfold sgn0 at h
  split at h
  · assumption
  · cases h
theorem c_said {cs : CS} {t : TT} (ht : okT t) : (∀ q e, Nm t q e → f_ar_said cs t = some (nW t e, cs)) ∧ ((∀ q e, ¬ Nm t q e) → f_ar_said cs t = bad cs) := by
  have htl := ht.1
  have hs := sgn0_le t
  have h22 : ∀ r, ar_said_22 cs t (nI (sgn0 t)) = r → f_ar_said cs t = r := fun r h => by
    refine e_c rfl ?_
    by_cases h0 : t.length = 0
    · have e0 : sgn0 t = 0 := by unfold sgn0; rw [if_neg (by omega)]
      rw [if_pos h0]
      rw [e0] at h
      exact e_bf (by decide) h
    · rw [if_neg h0]
      refine e_bt rfl (e_c (charAt_ok (k := 0) (by omega) htl) ?_)
      by_cases h45 : t.getD 0 0 = 45
      · have e1 : sgn0 t = 1 := by unfold sgn0; rw [if_pos ⟨by omega, h45⟩]
        rw [e1] at h
        exact e_bt (by rw [h45]; rfl) h
      · have e0 : sgn0 t = 0 := by unfold sgn0; rw [if_neg (fun q => h45 q.2)]
        rw [e0] at h
        exact e_bf (fun q => h45 ((nI_eq (b := 45) (by have := okT_at ht 0; omega) (by decide)).mp q)) h
  have hS : nI (sgn0 t) < 0 → False := fun q => nI_pos (by omega) q
  have off : ∀ (p x5 : Int32), ar_said_97 cs t (nI (sgn0 t)) p x5 = bad cs := fun p x5 => said_bad (fu := 19999999)
  rcases first_at t 46 t.length (Nat.le_refl _) with ⟨p, p1, p2, p3⟩ | p1
  · have hix : ixOf t 46 = nI p := ix_hit p1 (mem_take (by omega) p3) p2
    have hps : sgn0 t ≤ p := by
      rcases Nat.eq_zero_or_pos (sgn0 t) with e | e
      · omega
      · have h1 : sgn0 t = 1 := by omega
        have h2 := (sgn0_at h1).2
        have : ¬ p = 0 := fun e => by rw [e, h2] at p2; omega
        omega
    have hN : ∀ q e, Nm t q e → q = p - sgn0 t ∧ e = t.length - p - 1 ∧ 1 ≤ e := by
      intro q e ⟨n1, n2, n3, n4⟩
      have nd : ∀ j, sgn0 t ≤ j → j < sgn0 t + q → ¬ j = p := fun j h1 h2 e => by
        have := n3 j h1 h2
        rw [e, p2] at this
        obtain ⟨x, y⟩ := this
        omega
      rcases n4 with ⟨rfl, n5⟩ | ⟨k1, k2, k3, k4, k5⟩
      · exact absurd rfl (nd p hps (by omega))
      · have h1 : p ≤ sgn0 t + q := Nat.le_of_not_lt fun h => p3 _ h k3
        have h2 : ¬ p < sgn0 t + q := fun h => nd p hps h rfl
        omega
    have top : ∀ r, ar_said_62 cs t (nI (sgn0 t)) (nI p) (nI (p - sgn0 t)) (nI (t.length - p - 1)) = r → f_ar_said cs t = r := fun r h => h22 r (e_c (e_g (by decide) (congrArg some hix)) (e_bt (nI_pos' (by omega)) (e_n (e_bt (nI_pos' (by omega)) (e_c rfl (by
      rw [nI_sub hps, nI_sub (by omega)]
      show ar_said_62 cs t (nI (sgn0 t)) (nI p) (nI (p - sgn0 t)) (nI (t.length - p) - nI 1) = r
      rw [nI_sub (by omega)]
      exact h))))))
    by_cases w1 : 1 ≤ p - sgn0 t ∧ p - sgn0 t ≤ 9 ∧ 1 ≤ t.length - p - 1 ∧ t.length - p - 1 ≤ 3
    · obtain ⟨w1, w2, w3, w4⟩ := w1
      have h98 : ∀ r, ar_said_106 FU cs t (nI (sgn0 t)) (nI p) (nI (t.length - p - 1)) 1 (lN 0) (nI (sgn0 t)) = r → f_ar_said cs t = r := fun r h => top r (e_bf (nI_nlt (b := 1) w1 (by omega)) (e_bf (nI_nlt (a := 9) w2 (by decide)) (e_bf (nI_nlt (a := 3) w4 (by decide)) (e_bf (nI_pos (by omega)) (e_bf (nI_nlt (b := 1) w3 (by omega)) h)))))
      obtain ⟨l1, l2⟩ := said_loop (cs := cs) ht (x2 := nI (sgn0 t)) (p := nI p) (x5 := nI (t.length - p - 1)) (t.length - sgn0 t) (sgn0 t) 0 FU 0 (by omega) (FU_lt (by omega)) (by decide) (by omega)
      by_cases hall : ∀ j, sgn0 t ≤ j → j < t.length → dg (t.getD j 0) ∨ nI j = nI p
      · have hall2 : ∀ j, sgn0 t ≤ j → j < t.length → ¬ j = p → dg (t.getD j 0) := fun j h1 h2 h3 => (hall j h1 h2).resolve_right (fun q => h3 ((nI_eq (by omega) (by omega)).mp q))
        have hNm : Nm t (p - sgn0 t) (t.length - p - 1) := ⟨w1, w2, fun j h1 h2 => hall2 j h1 (by omega) (by omega), Or.inr ⟨w3, w4, by rw [show sgn0 t + (p - sgn0 t) = p by omega]; exact p2, by omega, fun j h1 h2 => hall2 j (by omega) h2 (by omega)⟩⟩
        refine ⟨fun q e hq => ?_, fun h => absurd hNm (h _ _)⟩
        obtain ⟨e1, e2, -⟩ := hN q e hq
        rw [e2]
        exact h98 _ ((l1 hall).trans (said_179 hNm))
      · have hex : ∃ j, sgn0 t ≤ j ∧ j < t.length ∧ ¬ dg (t.getD j 0) ∧ ¬ nI j = nI p := Classical.byContradiction fun h => hall (fun j h1 h2 => Classical.byContradiction fun h3 => h ⟨j, h1, h2, fun q => h3 (Or.inl q), fun q => h3 (Or.inr q)⟩)
        refine ⟨fun q e hq => ?_, fun _ => h98 _ (l2 hex)⟩
        obtain ⟨j, j1, j2, j3, j4⟩ := hex
        obtain ⟨e1, e2, e3⟩ := hN q e hq
        obtain ⟨n1, n2, n3, n4⟩ := hq
        exfalso
        have hjp : ¬ j = p := fun z => j4 (by rw [z])
        rcases n4 with ⟨z, -⟩ | ⟨k1, k2, k3, k4, k5⟩
        · omega
        · by_cases hj : j < sgn0 t + q
          · exact j3 (n3 j j1 hj)
          · exact j3 (k5 j (by omega) j2)
    · have hbad : f_ar_said cs t = bad cs := by
        refine top _ ?_
        by_cases a1 : 1 ≤ p - sgn0 t
        · by_cases a2 : p - sgn0 t ≤ 9
          · by_cases a3 : t.length - p - 1 ≤ 3
            · refine e_bf (nI_nlt (b := 1) a1 (by omega)) (e_bf (nI_nlt (a := 9) a2 (by decide)) (e_bf (nI_nlt (a := 3) a3 (by decide)) (e_bf (nI_pos (by omega)) (e_bt (nI_lt (b := 1) (by omega) (by decide)) (off _ _)))))
            · exact e_bf (nI_nlt (b := 1) a1 (by omega)) (e_bf (nI_nlt (a := 9) a2 (by decide)) (e_bt (nI_lt (a := 3) (by omega) (by omega)) (off _ _)))
          · exact e_bf (nI_nlt (b := 1) a1 (by omega)) (e_bt (nI_lt (a := 9) (by omega) (by omega)) (off _ _))
        · exact e_bt (nI_lt (b := 1) (by omega) (by decide)) (off _ _)
      refine ⟨fun q e hq => ?_, fun _ => hbad⟩
      obtain ⟨e1, e2, e3⟩ := hN q e hq
      obtain ⟨n1, n2, n3, n4⟩ := hq
      exfalso
      rcases n4 with ⟨z, -⟩ | ⟨k1, k2, k3, k4, k5⟩
      · omega
      · exact w1 ⟨by omega, by omega, by omega, by omega⟩
  · have hix : ixOf t 46 = -1 := ix_miss (mem_take (Nat.le_refl _) p1)
    have hN : ∀ q e, Nm t q e → q = t.length - sgn0 t ∧ e = 0 := by
      intro q e ⟨n1, n2, n3, n4⟩
      rcases n4 with ⟨rfl, n5⟩ | ⟨k1, k2, k3, k4, k5⟩
      · exact ⟨by omega, rfl⟩
      · exact absurd k3 (p1 _ (by omega))
    have top : ∀ r, ar_said_62 cs t (nI (sgn0 t)) (-1) (nI (t.length - sgn0 t)) (nI 0) = r → f_ar_said cs t = r := fun r h => h22 r (e_c (e_g (by decide) (congrArg some hix)) (e_bf (by decide) (e_c rfl (e_n (e_bf (by decide) (by
      rw [nI_sub hs.2]
      exact h))))))
    by_cases w1 : 1 ≤ t.length - sgn0 t ∧ t.length - sgn0 t ≤ 9
    · obtain ⟨w1, w2⟩ := w1
      have h98 : ∀ r, ar_said_106 FU cs t (nI (sgn0 t)) (-1) (nI 0) 1 (lN 0) (nI (sgn0 t)) = r → f_ar_said cs t = r := fun r h => top r (e_bf (nI_nlt (b := 1) w1 (by omega)) (e_bf (nI_nlt (a := 9) w2 (by decide)) (e_bf (nI_nlt (a := 3) (b := 0) (by decide) (by decide)) (e_bt (by decide) h))))
      obtain ⟨l1, l2⟩ := said_loop (cs := cs) ht (x2 := nI (sgn0 t)) (p := -1) (x5 := nI 0) (t.length - sgn0 t) (sgn0 t) 0 FU 0 (by omega) (FU_lt (by omega)) (by decide) (by omega)
      have hneg : ∀ j, j < t.length → ¬ nI j = -1 := fun j hj q => by
        have := nI_pos (show j < 2 ^ 31 by omega)
        rw [q] at this
        exact this (by decide)
      by_cases hall : ∀ j, sgn0 t ≤ j → j < t.length → dg (t.getD j 0) ∨ nI j = -1
      · have hNm : Nm t (t.length - sgn0 t) 0 := ⟨w1, w2, fun j h1 h2 => (hall j h1 (by omega)).resolve_right (hneg j (by omega)), Or.inl ⟨rfl, by omega⟩⟩
        refine ⟨fun q e hq => ?_, fun h => absurd hNm (h _ _)⟩
        obtain ⟨e1, e2⟩ := hN q e hq
        rw [e2]
        exact h98 _ ((l1 hall).trans (said_179 hNm))
      · have hex : ∃ j, sgn0 t ≤ j ∧ j < t.length ∧ ¬ dg (t.getD j 0) ∧ ¬ nI j = -1 := Classical.byContradiction fun h => hall (fun j h1 h2 => Classical.byContradiction fun h3 => h ⟨j, h1, h2, fun q => h3 (Or.inl q), fun q => h3 (Or.inr q)⟩)
        refine ⟨fun q e hq => ?_, fun _ => h98 _ (l2 hex)⟩
        obtain ⟨j, j1, j2, j3, j4⟩ := hex
        obtain ⟨e1, e2⟩ := hN q e hq
        exact absurd (hq.2.2.1 j j1 (by omega)) j3
    · have hbad : f_ar_said cs t = bad cs := by
        refine top _ ?_
        by_cases a1 : 1 ≤ t.length - sgn0 t
        · exact e_bf (nI_nlt (b := 1) a1 (by omega)) (e_bt (nI_lt (a := 9) (by omega) (by omega)) (off _ _))
        · exact e_bt (nI_lt (b := 1) (by omega) (by decide)) (off _ _)
      refine ⟨fun q e hq => ?_, fun _ => hbad⟩
      obtain ⟨e1, e2⟩ := hN q e hq
      exact absurd ⟨by have := hq.1; omega, by have := hq.2.1; omega⟩ w1
