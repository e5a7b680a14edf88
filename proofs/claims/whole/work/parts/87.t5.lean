/-! ### HOUR, MINUTE, SECOND -/
/-- a rounded value lies where the exact one lies -/
theorem rnd_nn {m : Nat} {e : Int} (he : -2148 ≤ e) {y0 : UInt64} {V0 : Int} (h0 : DV y0 V0) (hV0 : 0 ≤ V0) (hle0 : ((m * 2 ^ (e + 2148).toNat : Nat) : Int) ≤ V0 * UU) : ∃ c q, FP.Core.round FP.Core.b64 (.fin false m e) = .fin false c q ∧ (∀ y V, DV y V → 0 ≤ V → ((m * 2 ^ (e + 2148).toNat : Nat) : Int) ≤ V * UU → ((FP.Core.inUnits c q FP.Core.b64.qmin : Nat) : Int) ≤ V) ∧ ∀ y V, DV y V → 0 ≤ V → V * UU ≤ ((m * 2 ^ (e + 2148).toNat : Nat) : Int) → V ≤ ((FP.Core.inUnits c q FP.Core.b64.qmin : Nat) : Int) := by
  have hr : FP.Core.round FP.Core.b64 (.fin false m e) = FP.Core.roundRatio FP.Core.b64 false m 1 e := rfl
  have hin : FP.Core.inUnits m e (-2148) = m * 2 ^ (e + 2148).toNat := by
    show m * 2 ^ (e - -2148).toNat = _
    rw [show e - -2148 = e + 2148 by omega]
  have hq : (FP.Core.b64.qmin - -2148).toNat = 1074 := by rw [q_min]; rfl
  have hUU : UU = ((2 ^ 1074 : Nat) : Int) := rfl
  have le : ∀ y V, DV y V → 0 ≤ V → ((m * 2 ^ (e + 2148).toNat : Nat) : Int) ≤ V * UU → FP.Core.zmag FP.Core.b64 (FP.Core.roundRatio FP.Core.b64 false m 1 e) ≤ FP.Core.zmag FP.Core.b64 (FP.Core.val64 y) := fun y V hy hV hle => by
    refine FP.Core.zmag_roundRatio_le FP.Core.good_b64 (e0 := -2148) (by decide) (FP.Core.val64_fits y) (DFin_nan hy.1) (by rw [q_min]; decide) he ?_
    rw [hin, hq, Nat.mul_one]
    have hz := DV_zmag hy hV
    refine Int.ofNat_le.mp ?_
    rw [Int.natCast_mul (FP.Core.zmag FP.Core.b64 (FP.Core.val64 y)), hz, ← hUU]
    exact hle
  have ge : ∀ y V, DV y V → 0 ≤ V → V * UU ≤ ((m * 2 ^ (e + 2148).toNat : Nat) : Int) → FP.Core.zmag FP.Core.b64 (FP.Core.val64 y) ≤ FP.Core.zmag FP.Core.b64 (FP.Core.roundRatio FP.Core.b64 false m 1 e) := fun y V hy hV hle => by
    refine FP.Core.zmag_roundRatio_ge FP.Core.good_b64 (e0 := -2148) (by decide) (FP.Core.val64_fits y) (by rw [q_min]; decide) he ?_
    rw [hin, hq, Nat.mul_one]
    have hz := DV_zmag hy hV
    refine Int.ofNat_le.mp ?_
    rw [Int.natCast_mul (FP.Core.zmag FP.Core.b64 (FP.Core.val64 y)), hz, ← hUU]
    exact hle
  rw [hr]
  rcases FP.Core.roundRatio_cases FP.Core.b64 false m 1 e with ⟨c, q, er⟩ | er
  · rw [er] at le ge
    refine ⟨c, q, er, fun y V hy hV hle => ?_, fun y V hy hV hle => ?_⟩
    · have h1 := le y V hy hV hle
      have hz := DV_zmag hy hV
      have h2 : FP.Core.zmag FP.Core.b64 (.fin false c q) = FP.Core.inUnits c q FP.Core.b64.qmin := rfl
      omega
    · have h1 := ge y V hy hV hle
      have hz := DV_zmag hy hV
      have h2 : FP.Core.zmag FP.Core.b64 (.fin false c q) = FP.Core.inUnits c q FP.Core.b64.qmin := rfl
      omega
  · exfalso
    have h1 := le y0 V0 h0 hV0 hle0
    obtain ⟨s, c, q, ec⟩ := h0.1
    have hfa := FP.Core.val64_fits y0
    rw [ec] at hfa
    have h2 := FP.Core.zmag_lt_top FP.Core.good_b64 hfa
    rw [er, ec] at h1
    have h3 : FP.Core.zmag FP.Core.b64 (.inf false) = FP.Core.b64.tails * 2 ^ (FP.Core.b64.exps - 2) := rfl
    have h4 : FP.Core.zmag FP.Core.b64 (.fin s c q) = FP.Core.inUnits c q FP.Core.b64.qmin := rfl
    rw [h3, h4] at h1
    exact absurd h2 (Nat.not_lt.mpr h1)
theorem DV_pos {x : UInt64} {z : Int} (h : DV x z) (hz : 0 < z) : ∃ c q, FP.Core.val64 x = .fin false c q ∧ -1074 ≤ q ∧ q ≤ 971 ∧ c < 2 ^ 53 ∧ ((c * 2 ^ (q + 1074).toNat : Nat) : Int) = z := by
  obtain ⟨⟨s, c, q, e⟩, hv⟩ := h
  have hf := FP.Core.val64_fits x
  rw [e] at hf hv
  obtain ⟨f1, f2, f3, -⟩ := hf
  rw [q_min] at f2
  rw [q_max] at f3
  have hv2 : FP.Core.signed s (FP.Core.inUnits c q FP.Core.b64.qmin) = z := hv
  have hin : FP.Core.inUnits c q FP.Core.b64.qmin = c * 2 ^ (q + 1074).toNat := by
    show c * 2 ^ (q - FP.Core.b64.qmin).toNat = _
    rw [q_min, show q - -1074 = q + 1074 by omega]
  rw [hin] at hv2
  cases s with
  | false => exact ⟨c, q, e, f2, f3, f1, hv2⟩
  | true =>
    exfalso
    have : -((c * 2 ^ (q + 1074).toNat : Nat) : Int) = z := hv2
    omega
theorem DV_mul_nn {a b : UInt64} {za zb : Int} (ha : DV a za) (hb : DV b zb) (ha0 : 0 < za) (hb0 : 0 < zb) {y0 : UInt64} {V0 : Int} (h0 : DV y0 V0) (hV0 : 0 ≤ V0) (hle0 : za * zb ≤ V0 * UU) : ∃ w, DV (FP.dmul a b) w ∧ 0 ≤ w ∧ (∀ y V, DV y V → 0 ≤ V → za * zb ≤ V * UU → w ≤ V) ∧ ∀ y V, DV y V → 0 ≤ V → V * UU ≤ za * zb → V ≤ w := by
  obtain ⟨ca, qa, ea, a1, a2, a3, a4⟩ := DV_pos ha ha0
  obtain ⟨cb, qb, eb, b1, b2, b3, b4⟩ := DV_pos hb hb0
  have hm : (((ca * cb) * 2 ^ (qa + qb + 2148).toNat : Nat) : Int) = za * zb := by
    rw [← a4, ← b4, ← Int.natCast_mul]
    congr 1
    rw [show (qa + qb + 2148).toNat = (qa + 1074).toNat + (qb + 1074).toNat by omega, Nat.pow_add]
    exact Nat.mul_mul_mul_comm _ _ _ _
  obtain ⟨c, q, r1, r2, r3⟩ := rnd_nn (m := ca * cb) (e := qa + qb) (by omega) h0 hV0 (by rw [hm]; exact hle0)
  rw [hm] at r2 r3
  have hv : FP.Core.val64 (FP.dmul a b) = .fin false c q := by
    have := FP.Core.val64_dmul a b
    rw [ea, eb] at this
    exact this.trans r1
  exact ⟨_, ⟨⟨_, _, _, hv⟩, by rw [hv]; rfl⟩, Int.natCast_nonneg _, r2, r3⟩
theorem DV_add_nn {a b : UInt64} {za zb : Int} (ha : DV a za) (hb : DV b zb) (ha0 : 0 < za) (hb0 : 0 < zb) {y0 : UInt64} {V0 : Int} (h0 : DV y0 V0) (hV0 : 0 ≤ V0) (hle0 : za + zb ≤ V0) : ∃ w, DV (FP.dadd a b) w ∧ 0 ≤ w ∧ (∀ y V, DV y V → 0 ≤ V → za + zb ≤ V → w ≤ V) ∧ ∀ y V, DV y V → 0 ≤ V → V ≤ za + zb → V ≤ w := by
  have hU := UU_pos
  obtain ⟨ca, qa, ea, a1, a2, a3, a4⟩ := DV_pos ha ha0
  obtain ⟨cb, qb, eb, b1, b2, b3, b4⟩ := DV_pos hb hb0
  have fa := FP.Core.val64_fits a
  have fb := FP.Core.val64_fits b
  have va := ha.2
  have vb := hb.2
  rw [ea] at fa va
  rw [eb] at fb vb
  obtain ⟨sg, m, e, s1, s2, s3⟩ := FP.Core.sum_units fa fb
  rw [va, vb] at s3
  rw [q_min] at s2
  have hin : FP.Core.inUnits m e FP.Core.b64.qmin = m * 2 ^ (e + 1074).toNat := by
    show m * 2 ^ (e - FP.Core.b64.qmin).toNat = _
    rw [q_min, show e - -1074 = e + 1074 by omega]
  rw [hin] at s3
  have hsg : sg = false := by
    cases sg with
    | false => rfl
    | true =>
      exfalso
      have : -((m * 2 ^ (e + 1074).toNat : Nat) : Int) = za + zb := s3
      omega
  subst hsg
  have s3 : ((m * 2 ^ (e + 1074).toNat : Nat) : Int) = za + zb := s3
  have hm : ((m * 2 ^ (e + 2148).toNat : Nat) : Int) = (za + zb) * UU := by
    rw [← s3, show (e + 2148).toNat = (e + 1074).toNat + 1074 by omega, Nat.pow_add, ← Nat.mul_assoc, Int.natCast_mul (m * 2 ^ (e + 1074).toNat)]
    rfl
  have cmp : ∀ p q : Int, p ≤ q ↔ p * UU ≤ q * UU := fun p q => ⟨fun h => Int.mul_le_mul_of_nonneg_right h (by omega), fun h => Int.le_of_mul_le_mul_right h hU⟩
  obtain ⟨c, q, r1, r2, r3⟩ := rnd_nn (m := m) (e := e) (by omega) h0 hV0 (by rw [hm]; exact (cmp _ _).mp hle0)
  rw [hm] at r2 r3
  have hv : FP.Core.val64 (FP.dadd a b) = .fin false c q := by
    have := FP.Core.val64_dadd a b
    rw [ea, eb, s1] at this
    exact this.trans r1
  exact ⟨_, ⟨⟨_, _, _, hv⟩, by rw [hv]; rfl⟩, Int.natCast_nonneg _, fun y V hy hV h => r2 y V hy hV ((cmp _ _).mp h), fun y V hy hV h => r3 y V hy hV ((cmp _ _).mp h)⟩
theorem half_n {zh : Int} (h : 2 * zh = UU) : zh = ((2 ^ 1073 : Nat) : Int) := by
  have h2 : UU = ((2 * 2 ^ 1073 : Nat) : Int) := congrArg (fun n : Nat => (n : Int)) one64_two
  rw [Int.natCast_mul] at h2
  generalize ((2 ^ 1073 : Nat) : Int) = N at *
  omega
theorem UU_pow {k : Nat} (h : k ≤ 1074) : (2 ^ 1074 : Nat) = 2 ^ (1074 - k) * 2 ^ k := by rw [← Nat.pow_add]; congr 1; omega
/-- what is behind the point, exactly -/
theorem frac_ex {x : UInt64} {z : Int} {d : Nat} (hx : DV x z) (h0 : 0 ≤ z) (hd : z / UU = (d : Int)) (hd31 : d < 2 ^ 31) : DV (FP.dsub x (FP.i2d (nI d))) (z % UU) := by
  have hU := UU_pos
  have f1 := Int.mul_ediv_add_emod z UU
  have f2 := Int.emod_nonneg z (show UU ≠ 0 by omega)
  have f3 := Int.emod_lt_of_pos z hU
  rw [hd, Int.mul_comm] at f1
  have hk := DV_neg (DV_k hd31)
  have e : FP.Core.val64 (FP.dsub x (FP.i2d (nI d))) = FP.Core.val64 (FP.dadd x (FP.dneg (FP.i2d (nI d)))) := by
    have h1 : FP.Core.val64 (FP.dsub x (FP.i2d (nI d))) = _ := FP.Core.val64_dsub x (FP.i2d (nI d))
    have h2 : FP.Core.val64 (FP.dadd x (FP.dneg (FP.i2d (nI d)))) = _ := FP.Core.val64_dadd x (FP.dneg (FP.i2d (nI d)))
    rw [h1, h2, val_neg]
  have ez : z % UU = z + -((d : Int) * UU) := by omega
  have key : ∃ (c : Nat) (q : Int), c < 2 ^ 53 ∧ -1074 ≤ q ∧ q ≤ 971 ∧ (z % UU).natAbs = c * 2 ^ (q + 1074).toNat := by
    by_cases hz0 : z = 0
    · refine ⟨0, 0, by decide, by decide, by decide, ?_⟩
      rw [hz0, Int.zero_emod, Nat.zero_mul]
      rfl
    · obtain ⟨c, q, v1, v2, v3, v4, v5⟩ := DV_pos hx (by omega)
      have hUU : UU = ((2 ^ 1074 : Nat) : Int) := rfl
      by_cases hq : 0 ≤ q
      · refine ⟨0, 0, by decide, by decide, by decide, ?_⟩
        rw [Nat.zero_mul, ← v5, hUU, ← Int.natCast_emod]
        have : c * 2 ^ (q + 1074).toNat % 2 ^ 1074 = 0 := by
          rw [show (q + 1074).toNat = q.toNat + 1074 by omega, Nat.pow_add, ← Nat.mul_assoc]
          exact Nat.mul_mod_left _ _
        rw [this]
        rfl
      · refine ⟨c % 2 ^ (1074 - (q + 1074).toNat), q, Nat.lt_of_le_of_lt (Nat.mod_le _ _) v4, v2, v3, ?_⟩
        rw [← v5, hUU, ← Int.natCast_emod, Int.natAbs_natCast, UU_pow (show (q + 1074).toNat ≤ 1074 by omega), Nat.mul_mod_mul_right]
  obtain ⟨c, q, c1, c2, c3, c4⟩ := key
  rw [ez]
  obtain ⟨⟨s', c', q', k1⟩, k2⟩ := DV_add hx hk c1 c2 c3 (by rw [← ez]; exact c4)
  exact ⟨⟨s', c', q', e.trans k1⟩, by rw [e]; exact k2⟩
theorem DV_86400 : DV 4680673776000565248 (86400 * UU) := by
  have := DV_l2d (x := lN 86400) (by rw [lN_big (by decide)]; decide)
  rw [lN_big (by decide), ← c_86400] at this
  exact this
/-- an integer's double -/
theorem DV_n {k : Nat} (hk : k < 2 ^ 31) : DV (FP.i2d (nI k)) ((k : Int) * UU) := DV_k hk
/-- the seconds of a number with a day, exact and rounded: where the whole of the sum with a half lies -/
theorem half_add {e : UInt64} {ze zh : Int} (he : DV e ze) (hh : DV 4602678819172646912 zh) (hzh : 2 * zh = UU) (h1 : 84 * UU ≤ ze) (h2 : ze ≤ 86400 * UU) : ∃ w, DV (FP.dadd e 4602678819172646912) w ∧ 0 ≤ w ∧ w / UU = (ze + zh) / UU ∧ w < 90000 * UU := by
  have hU := UU_pos
  have hUU : UU = ((2 ^ 1074 : Nat) : Int) := rfl
  obtain ⟨c, q, v1, v2, v3, v4, v5⟩ := DV_pos he (by omega)
  have hzn : zh = ((2 ^ 1073 : Nat) : Int) := half_n hzh
  have exact_ : ∀ (c' : Nat) (q' : Int), c' < 2 ^ 53 → -1074 ≤ q' → q' ≤ 971 → (ze + zh).natAbs = c' * 2 ^ (q' + 1074).toNat → ∃ w, DV (FP.dadd e 4602678819172646912) w ∧ 0 ≤ w ∧ w / UU = (ze + zh) / UU ∧ w < 90000 * UU := fun c' q' p1 p2 p3 p4 => ⟨_, DV_add he hh p1 p2 p3 p4, by omega, rfl, by omega⟩
  by_cases hq : 0 ≤ q
  · -- a whole number of seconds
    have hE : ∃ E : Nat, ze = (E : Int) * UU := by
      refine ⟨c * 2 ^ q.toNat, ?_⟩
      have hnat : c * 2 ^ (q + 1074).toNat = c * 2 ^ q.toNat * 2 ^ 1074 := by rw [show (q + 1074).toNat = q.toNat + 1074 by omega, Nat.pow_add, Nat.mul_assoc]
      rw [← v5, hUU, hnat, Int.natCast_mul (c * 2 ^ q.toNat)]
    obtain ⟨E, hE⟩ := hE
    have hE2 : E ≤ 86400 := by
      rw [hE] at h2
      have := Int.le_of_mul_le_mul_right h2 hU
      omega
    refine exact_ (2 * E + 1) (-1) (by omega) (by decide) (by decide) ?_
    have : ze + zh = (((2 * E + 1) * 2 ^ 1073 : Nat) : Int) := by
      rw [Int.natCast_mul, ← hzn, hE]
      have e2 : ((2 * E + 1 : Nat) : Int) * zh = (E : Int) * (2 * zh) + zh := by
        rw [show ((2 * E + 1 : Nat) : Int) = 2 * (E : Int) + 1 by omega, Int.add_mul, Int.one_mul, Int.mul_comm 2 (E : Int), Int.mul_assoc]
      rw [e2, hzh]
    rw [this]
    rfl
  · obtain ⟨k, hk⟩ : ∃ k : Nat, (q + 1074).toNat = k := ⟨_, rfl⟩
    rw [hk] at v5
    have hk2 : k ≤ 1073 := by omega
    have hj : (2 ^ 1073 : Nat) = 2 ^ (1073 - k) * 2 ^ k := by rw [← Nat.pow_add]; congr 1; omega
    have hS : ze + zh = (((c + 2 ^ (1073 - k)) * 2 ^ k : Nat) : Int) := by
      rw [← v5, hzn, hj, Nat.add_mul, Int.natCast_add]
    by_cases hc : c + 2 ^ (1073 - k) < 2 ^ 53
    · refine exact_ _ q hc v2 v3 ?_
      rw [hS, hk]
      rfl
    · -- the sum leaves the binade: both bounds are numbers
      have hjk : 1074 - k ≤ 46 := by
        refine Nat.le_of_not_lt fun z => ?_
        have h84 : 84 * (2 ^ (1074 - k) * 2 ^ k) ≤ c * 2 ^ k := by
          rw [← UU_pow (show k ≤ 1074 by omega)]
          refine Int.ofNat_le.mp ?_
          rw [v5, Int.natCast_mul 84]
          exact h1
        rw [← Nat.mul_assoc] at h84
        have h85 := Nat.le_of_mul_le_mul_right h84 (Nat.two_pow_pos k)
        have h86 : 2 ^ 47 ≤ 2 ^ (1074 - k) := Nat.pow_le_pow_right (by decide) (by omega)
        have h87 : (84 : Nat) * 2 ^ 47 > 2 ^ 53 := by decide
        omega
      have hhalf : 2 ^ (1074 - k) = 2 * 2 ^ (1073 - k) := by
        rw [show 1074 - k = (1073 - k) + 1 by omega, Nat.pow_succ, Nat.mul_comm]
      have hP : (2 ^ 53 : Nat) = 2 ^ (53 - (1074 - k)) * 2 ^ (1074 - k) := by rw [← Nat.pow_add, show 53 - (1074 - k) + (1074 - k) = 53 by omega]
      generalize hPe : 2 ^ (53 - (1074 - k)) = P at hP
      have hlo : (P : Int) * UU ≤ ze + zh := by
        rw [hS, hUU, UU_pow (show k ≤ 1074 by omega), ← Int.natCast_mul]
        refine Int.ofNat_le.mpr ?_
        rw [← Nat.mul_assoc, ← hP]
        exact Nat.mul_le_mul_right _ (by omega)
      have hze : ze < (P : Int) * UU := by
        rw [← v5, hUU, UU_pow (show k ≤ 1074 by omega), ← Int.natCast_mul]
        refine Int.ofNat_lt.mpr ?_
        rw [← Nat.mul_assoc, ← hP]
        exact Nat.mul_lt_mul_of_pos_right v4 (Nat.two_pow_pos k)
      have hP2 : P ≤ 86401 := by
        have : (P : Int) * UU ≤ 86401 * UU := by omega
        have := Int.le_of_mul_le_mul_right this hU
        omega
      -- P and P and a half
      have dP := DV_n (k := P) (by omega)
      obtain ⟨y, hy⟩ := DV_make (c := 2 * P + 1) (q := -1) (by omega) (by decide) (by decide)
      have hyv : (((2 * P + 1) * 2 ^ ((-1 : Int) + 1074).toNat : Nat) : Int) = (P : Int) * UU + zh := by
        rw [show ((-1 : Int) + 1074).toNat = 1073 from rfl, Int.natCast_mul, ← hzn]
        rw [show ((2 * P + 1 : Nat) : Int) = 2 * (P : Int) + 1 by omega, Int.add_mul, Int.one_mul, Int.mul_comm 2 (P : Int), Int.mul_assoc, hzh]
      rw [hyv] at hy
      have hP0 : 0 ≤ (P : Int) * UU := Int.mul_nonneg (by omega) (by omega)
      obtain ⟨w, w1, w2, w3, w4⟩ := DV_add_nn he hh (by omega) (by omega) hy (by omega) (by omega)
      have l1 := w4 _ _ dP hP0 hlo
      have l2 := w3 _ _ hy (by omega) (by omega)
      have big : (P : Int) * UU ≤ 86401 * UU := Int.mul_le_mul_of_nonneg_right (by omega) (by omega)
      have key : ∀ v : Int, (P : Int) * UU ≤ v → v < (P : Int) * UU + UU → v / UU = (P : Int) := fun v a b => by
        have := (Int.ediv_emod_unique (a := v) (b := UU) (r := v - (P : Int) * UU) (q := (P : Int)) hU).mpr ⟨by rw [Int.mul_comm]; omega, by omega, by omega⟩
        exact this.1
      exact ⟨w, w1, w2, by rw [key w l1 (by omega), key (ze + zh) hlo (by omega)], by omega⟩
/-- seconds: what both sides make of a number with a day -/
theorem secs {x : UInt64} {z : Int} {d : Nat} (hx : DV x z) (h0 : 0 ≤ z) (hd : z / UU = (d : Int)) (hd31 : d ≤ 2958465) (hN : z % UU = 0 ∨ UU ≤ 1024 * (z % UU)) : ∃ (s S : Nat) (f : Int), s ≤ 86401 ∧ nn (FP.dsub x (FP.i2d (nI d))) = true ∧ nn (FP.dmul (FP.dsub x (FP.i2d (nI d))) 4680673776000565248) = true ∧ FP.d2i (FP.dmul (FP.dsub x (FP.i2d (nI d))) 4680673776000565248) = nI s ∧ DV (FP.dsub (FP.dmul (FP.dsub x (FP.i2d (nI d))) 4680673776000565248) (FP.i2d (nI s))) f ∧ S = (if 2 * f < UU then s else s + 1) ∧ nn (FP.dadd (FP.dmul (FP.dsub x (FP.i2d (nI d))) 4680673776000565248) 4602678819172646912) = true ∧ (FP.d2l (FP.dadd (FP.dmul (FP.dsub x (FP.i2d (nI d))) 4680673776000565248) 4602678819172646912)).toInt32 = nI S := by
  have hU := UU_pos
  have hUU : UU = ((2 ^ 1074 : Nat) : Int) := rfl
  have hfr := frac_ex hx h0 hd (by omega)
  have f2 := Int.emod_nonneg z (show UU ≠ 0 by omega)
  have f3 := Int.emod_lt_of_pos z hU
  generalize FP.dsub x (FP.i2d (nI d)) = y at *
  generalize z % UU = r at *
  obtain ⟨zh, hh, hzh⟩ := DV_half
  -- the product
  have hprod : ∃ ze, DV (FP.dmul y 4680673776000565248) ze ∧ (ze = 0 ∨ (84 * UU ≤ ze ∧ ze ≤ 86400 * UU)) := by
    rcases hN with hr | hr
    · refine ⟨0, DV_mul (c := 0) (q := 0) hfr DV_86400 (by rw [hr, Int.zero_mul, Int.zero_mul]) (by decide) (by decide) (by decide) ?_, Or.inl rfl⟩
      rw [Nat.zero_mul]
      rfl
    · have d84 := DV_n (k := 84) (by decide)
      have d86 := DV_n (k := 86400) (by decide)
      have up : r * (86400 * UU) ≤ (((86400 : Nat) : Int) * UU) * UU := by
        rw [Int.mul_comm r]
        exact Int.mul_le_mul_of_nonneg_left (by omega) (show 0 ≤ 86400 * UU by omega)
      have lo : (((84 : Nat) : Int) * UU) * UU ≤ r * (86400 * UU) := by
        have h1 : 84 * UU ≤ 86400 * r := by omega
        have h2 := Int.mul_le_mul_of_nonneg_right h1 (show (0 : Int) ≤ UU by omega)
        have e1 : r * (86400 * UU) = 86400 * r * UU := by rw [← Int.mul_assoc, Int.mul_comm r 86400]
        rw [e1]
        exact h2
      obtain ⟨w, w1, w2, w3, w4⟩ := DV_mul_nn hfr DV_86400 (by omega) (by omega) d86 (show 0 ≤ ((86400 : Nat) : Int) * UU by omega) up
      refine ⟨w, w1, Or.inr ⟨w4 _ _ d84 (show 0 ≤ ((84 : Nat) : Int) * UU by omega) lo, w3 _ _ d86 (show 0 ≤ ((86400 : Nat) : Int) * UU by omega) up⟩⟩
  obtain ⟨ze, he, hze⟩ := hprod
  generalize FP.dmul y 4680673776000565248 = e at *
  have hz0 : 0 ≤ ze := by rcases hze with h | h <;> omega
  have hzt : ze ≤ 86400 * UU := by rcases hze with h | h <;> omega
  have td : Int.tdiv ze UU = ze / UU := Int.tdiv_eq_ediv_of_nonneg hz0
  have q1 := Int.mul_ediv_add_emod ze UU
  have q2 := Int.emod_nonneg ze (show UU ≠ 0 by omega)
  have q3 := Int.emod_lt_of_pos ze hU
  have q0 : 0 ≤ ze / UU := Int.ediv_nonneg hz0 (by omega)
  have q4 : ze / UU ≤ 86400 := by
    refine Int.le_of_mul_le_mul_right (show ze / UU * UU ≤ 86400 * UU from ?_) hU
    rw [Int.mul_comm]
    omega
  obtain ⟨s, hs⟩ : ∃ s : Nat, ze / UU = (s : Int) := ⟨(ze / UU).toNat, by omega⟩
  have hsi : FP.d2i e = nI s := nI_of_toInt (by rw [d2i_DV he (by omega) (by omega), td, hs]) (by omega)
  have hf := frac_ex he hz0 hs (by omega)
  -- with a half
  have hsum : ∃ w, DV (FP.dadd e 4602678819172646912) w ∧ 0 ≤ w ∧ w / UU = (ze + zh) / UU ∧ w < 90000 * UU := by
    rcases hze with h | ⟨h1, h2⟩
    · subst h
      refine ⟨0 + zh, DV_add (c := 1) (q := -1) he hh (by decide) (by decide) (by decide) ?_, by omega, rfl, by omega⟩
      have hzn : zh = ((2 ^ 1073 : Nat) : Int) := half_n hzh
      rw [Int.zero_add, hzn, Nat.one_mul]
      rfl
    · exact half_add he hh hzh h1 h2
  obtain ⟨w, hw, w0, w1, w2⟩ := hsum
  have tw : Int.tdiv w UU = w / UU := Int.tdiv_eq_ediv_of_nonneg w0
  have wq : w / UU ≤ 90000 := by
    have p1 := Int.mul_ediv_add_emod w UU
    have p2 := Int.emod_nonneg w (show UU ≠ 0 by omega)
    refine Int.le_of_mul_le_mul_right (show w / UU * UU ≤ 90000 * UU from ?_) hU
    rw [Int.mul_comm]
    omega
  have wq0 : 0 ≤ w / UU := Int.ediv_nonneg w0 (by omega)
  have hl := d2l_DV hw (by omega) (by omega)
  refine ⟨s, if 2 * (ze % UU) < UU then s else s + 1, ze % UU, by omega, nn_DV hfr, nn_DV he, hsi, hf, rfl, nn_DV hw, ?_⟩
  have key : ∀ k : Int, k * UU ≤ ze + zh → ze + zh < k * UU + UU → (ze + zh) / UU = k := fun k a b => by
    have := (Int.ediv_emod_unique (a := ze + zh) (b := UU) (r := ze + zh - k * UU) (q := k) hU).mpr ⟨by rw [Int.mul_comm]; omega, by omega, by omega⟩
    exact this.1
  rw [hs, Int.mul_comm] at q1
  have hS : w / UU = (((if 2 * (ze % UU) < UU then s else s + 1 : Nat)) : Int) := by
    rw [w1]
    by_cases g : 2 * (ze % UU) < UU
    · rw [if_pos g]
      exact key _ (by omega) (by omega)
    · rw [if_neg g]
      refine key _ ?_ ?_
      · rw [show ((s + 1 : Nat) : Int) = (s : Int) + 1 by omega, Int.add_mul, Int.one_mul]
        omega
      · rw [show ((s + 1 : Nat) : Int) = (s : Int) + 1 by omega, Int.add_mul, Int.one_mul]
        omega
  have h64 : FP.d2l (FP.dadd e 4602678819172646912) = lN (if 2 * (ze % UU) < UU then s else s + 1) := lN_inj (by rw [hl, tw, hS]) (by split <;> omega)
  rw [h64, lN_i]
theorem numC_idem {cs : CS} {v : VV} (hv : okV v) {a : UInt64 × CS} (h : numC cs v = some a) : numC a.2 v = some a := by
  have fail2 : ∀ {c q : CS} {e : Nat}, 1 ≤ e → e ≤ 8 → f_ar_fail c (nI e) = some q → f_ar_fail q (nI e) = some q := fun {c q e} e1 e8 hq => by
    by_cases h0 : c.1 1 6 = 0
    · have : some (uC c 1 6 (nI e)) = some q := by
        have := jb_t h0 hq
        exact this
      have := Option.some.inj this
      subst this
      exact e_bf (by rw [uC_at]; exact nI_ne0 (by omega) (by omega)) rfl
    · have := Option.some.inj (jb_f h0 hq)
      subst this
      exact e_bf h0 rfl
  rcases hv with rfl | ⟨x, rfl⟩ | ⟨t, rfl, ht⟩ | htr | ⟨e, e1, e8, rfl⟩
  · have := Option.some.inj (jb_f (by decide) (jb_f (by decide) h))
    subst this
    exact e_bf (by decide) (e_bf (by decide) rfl)
  · have := Option.some.inj (jb_f (show ¬ (1 : Int32) = 2 by decide) (jb_f (show ¬ (1 : Int32) = 4 by decide) h))
    subst this
    exact e_bf (show ¬ (1 : Int32) = 4 by decide) (e_bf (show ¬ (1 : Int32) = 2 by decide) rfl)
  · have h := jb_t rfl (jb_f (show ¬ (2 : Int32) = 4 by decide) h)
    obtain ⟨q, eq, h⟩ := jc_some h
    have := Option.some.inj h
    subst this
    refine e_bf (show ¬ (2 : Int32) = 4 by decide) (e_bt rfl ?_)
    by_cases hN : ∃ p e, Nm t p e
    · obtain ⟨p, e, hN⟩ := hN
      obtain ⟨c1, -⟩ := c_said (cs := cs) ht
      obtain ⟨c2, -⟩ := c_said (cs := q.2) ht
      have h1 := c1 p e hN
      have h2 : q = (nW t e, cs) := Option.some.inj (eq.symm.trans h1)
      refine e_c (c2 p e hN) ?_
      rw [h2]
    · have hN' : ∀ p e, ¬ Nm t p e := fun p e z => hN ⟨p, e, z⟩
      obtain ⟨-, c1⟩ := c_said (cs := cs) ht
      obtain ⟨-, c2⟩ := c_said (cs := q.2) ht
      obtain ⟨q3, k1, k2⟩ := jc_some (eq.symm.trans (c1 hN')).symm
      have h2 : (FP.dconst0, q3) = q := Option.some.inj k2
      subst h2
      exact e_c ((c2 hN').trans (e_c (fail2 (e := 3) (by decide) (by decide) k1) rfl)) rfl
  · have v1 : v.1 = 3 := by rcases htr with rfl | rfl <;> rfl
    have n4 : ¬ v.1 = 4 := by rw [v1]; decide
    have n2 : ¬ v.1 = 2 := by rw [v1]; decide
    have := Option.some.inj (jb_f n2 (jb_f n4 h))
    subst this
    exact e_bf n4 (e_bf n2 rfl)
  · have ed : FP.d2i (FP.i2d (nI e)) = nI e := FP.Core.d2i_i2d _
    obtain ⟨q, k1, k2⟩ := jc_some (jb_t rfl h)
    have := Option.some.inj k2
    subst this
    have k1 : f_ar_fail cs (FP.d2i (FP.i2d (nI e))) = some q := k1
    rw [ed] at k1
    refine e_bt rfl (e_c (a := q) ?_ rfl)
    show f_ar_fail q (FP.d2i (FP.i2d (nI e))) = _
    rw [ed]
    exact fail2 e1 e8 k1
/-- taking a number does not change one that is no text -/
theorem numM_keep {ms : GS} (h2 : ¬ ms.1 0 20 = 2) {b : UInt64 × GS} (h : f_mo_numberTaken ms = some b) : b.2.2.1 = ms.2.1 := by
  have e40 : ∀ {m : GS}, mo_numberTaken_40 m = some b → b.2 = m := fun {m} q => by
    by_cases h0 : m.1 0 22 = 0
    · have := Option.some.inj (jb_t h0 q); rw [← this]
    · have := Option.some.inj (jb_f h0 q); rw [← this]
  by_cases h4 : ms.1 0 20 = 4
  · obtain ⟨q, k1, k2⟩ := jc_some (jb_t h4 h)
    rw [e40 k2]
    by_cases h0 : ms.1 0 22 = 0
    · have := Option.some.inj (jb_t h0 k1); rw [← this]; rfl
    · have := Option.some.inj (jb_f h0 k1); rw [← this]
  · rw [e40 (jb_f h2 (jb_f h4 h))]
