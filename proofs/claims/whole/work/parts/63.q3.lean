theorem one64_k : FP.Core.one64 = 1024 * 2 ^ 1064 := by
  unfold FP.Core.one64
  rw [show (1074 : Nat) = 10 + 1064 from rfl, Nat.pow_add, show (2 : Nat) ^ 10 = 1024 from rfl]
/-! ### numbers of texts -/
theorem DV_make {c : Nat} {q : Int} (hc : c < 2 ^ 53) (h1 : -1074 ≤ q) (h2 : q ≤ 971) : ∃ y, DV y ((c * 2 ^ (q + 1074).toNat : Nat) : Int) := by
  obtain ⟨c', q', r1, r2⟩ := rnd_exact (s := false) (a := c) (e := q) hc h1 h2 rfl
  have hf : FP.Core.fits FP.Core.b64 (.fin false c' q') := by rw [← r1]; exact FP.Core.round_fits FP.Core.good_b64 _
  have hv := FP.Core.val64_of64 hf
  refine ⟨FP.Core.of64 (.fin false c' q'), ⟨_, _, _, hv⟩, ?_⟩
  rw [hv]
  show FP.Core.signed false (FP.Core.inUnits c' q' FP.Core.b64.qmin) = _
  rw [r2]
  rfl
theorem l2d_nat {a : Nat} (h : a ≤ 2 ^ 53) : ∃ c q, FP.Core.val64 (FP.l2d (lN a)) = .fin false c q ∧ -1074 ≤ q ∧ c * 2 ^ (q + 1074).toNat = a * 2 ^ 1074 ∧ DV (FP.l2d (lN a)) ((a : Int) * UU) := by
  have hb : (lN a).toInt = (a : Int) := lN_big (by omega)
  have hd : DV (FP.l2d (lN a)) ((a : Int) * UU) := by
    have := DV_l2d (x := lN a) (by rw [hb]; omega)
    rw [hb] at this
    exact this
  obtain ⟨c, q, e⟩ := FP.Core.l2d_shape (lN a)
  rw [hb, show decide ((a : Int) < 0) = false by simp] at e
  have hf := FP.Core.val64_fits (FP.l2d (lN a))
  have e : FP.Core.val64 (FP.l2d (lN a)) = .fin false c q := e
  rw [e] at hf
  have h1 := hf.2.1
  rw [q_min] at h1
  refine ⟨c, q, e, h1, ?_, hd⟩
  have := hd.2
  rw [e] at this
  have this : (((c * 2 ^ (q - FP.Core.b64.qmin).toNat : Nat) : Int)) = ((a * 2 ^ 1074 : Nat) : Int) := by
    refine Eq.trans this ?_
    rw [Int.natCast_mul]
    rfl
  rw [q_min, show q - -1074 = q + 1074 by omega] at this
  exact Int.ofNat_inj.mp this
theorem DV_zmag {y : UInt64} {V : Int} (h : DV y V) (h0 : 0 ≤ V) : ((FP.Core.zmag FP.Core.b64 (FP.Core.val64 y) : Nat) : Int) = V := by
  have e : FP.Core.signed (FP.Core.sgn (FP.Core.val64 y)) (FP.Core.zmag FP.Core.b64 (FP.Core.val64 y)) = V := h.2
  have := congrArg Int.natAbs e
  rw [FP.Core.natAbs_signed] at this
  rw [this]
  omega
theorem DV_quot {a b : Nat} (ha : a ≤ 2 ^ 53) (hb : b ≤ 2 ^ 53) (h0 : 0 < b) : ∃ z, DV (FP.ddiv (FP.l2d (lN a)) (FP.l2d (lN b))) z ∧ 0 ≤ z ∧ (∀ y V, DV y V → 0 ≤ V → V * (b : Int) ≤ (a : Int) * UU → V ≤ z) ∧ ∀ y V, DV y V → 0 ≤ V → (a : Int) * UU ≤ V * (b : Int) → z ≤ V := by
  obtain ⟨ca, qa, ea, ga, ua, da⟩ := l2d_nat ha
  obtain ⟨cb, qb, eb, gb, ub, db⟩ := l2d_nat hb
  have hcb : 0 < cb := by
    refine Nat.pos_of_ne_zero (fun z => ?_)
    rw [z, Nat.zero_mul] at ub
    have := Nat.mul_pos h0 (Nat.two_pow_pos 1074)
    omega
  have hq : FP.Core.val64 (FP.ddiv (FP.l2d (lN a)) (FP.l2d (lN b))) = FP.Core.roundRatio FP.Core.b64 false a b 0 := by
    have := FP.Core.val64_ddiv (FP.l2d (lN a)) (FP.l2d (lN b))
    rw [ea, eb] at this
    refine Eq.trans this ?_
    show (if cb = 0 then _ else FP.Core.roundRatio FP.Core.b64 (false != false) ca cb (qa - qb)) = _
    rw [if_neg (by omega)]
    refine FP.Core.roundRatio_congr hcb h0 ?_
    have h1 : (ca * b) * 2 ^ (qa + 1074).toNat = (a * cb) * 2 ^ (qb + 1074).toNat := by
      have e1 : ca * b * 2 ^ (qa + 1074).toNat = (ca * 2 ^ (qa + 1074).toNat) * b := by rw [Nat.mul_right_comm]
      have e2 : a * cb * 2 ^ (qb + 1074).toNat = a * (cb * 2 ^ (qb + 1074).toNat) := Nat.mul_assoc _ _ _
      rw [e1, e2, ua, ub, Nat.mul_right_comm, Nat.mul_assoc]
    have h2 := pow_move (e := qa) (q := qb) (k := 1074) rfl rfl (by omega) (by omega) h1
    rw [show qa - qb - 0 = qa - qb by omega, show 0 - (qa - qb) = qb - qa by omega]
    exact h2
  have hfit : FP.Core.fits FP.Core.b64 (FP.Core.roundRatio FP.Core.b64 false a b 0) := FP.Core.roundRatio_fits FP.Core.good_b64 false a h0 0
  have hin : FP.Core.inUnits a 0 FP.Core.b64.qmin = a * 2 ^ 1074 := by
    show a * 2 ^ (0 - FP.Core.b64.qmin).toNat = _
    rw [q_min]
    rfl
  have q0 : FP.Core.b64.qmin ≤ 0 := by rw [q_min]; decide
  have hU : ((a * 2 ^ 1074 : Nat) : Int) = (a : Int) * UU := by
    rw [Int.natCast_mul]
    rfl
  have le : ∀ y V, DV y V → 0 ≤ V → (a : Int) * UU ≤ V * (b : Int) → FP.Core.zmag FP.Core.b64 (FP.Core.roundRatio FP.Core.b64 false a b 0) ≤ FP.Core.zmag FP.Core.b64 (FP.Core.val64 y) := fun y V hy hV hle => by
    refine FP.Core.zmag_roundRatio_le FP.Core.good_b64 h0 (FP.Core.val64_fits y) (DFin_nan hy.1) (Int.le_refl _) q0 ?_
    rw [hin, Int.sub_self]
    have hz := DV_zmag hy hV
    refine Int.ofNat_le.mp ?_
    rw [hU, Int.natCast_mul, Int.natCast_mul, hz]
    show _ ≤ V * ((1 : Nat) : Int) * (b : Int)
    rw [show V * ((1 : Nat) : Int) = V by omega]
    exact hle
  have ge : ∀ y V, DV y V → 0 ≤ V → V * (b : Int) ≤ (a : Int) * UU → FP.Core.zmag FP.Core.b64 (FP.Core.val64 y) ≤ FP.Core.zmag FP.Core.b64 (FP.Core.roundRatio FP.Core.b64 false a b 0) := fun y V hy hV hle => by
    refine FP.Core.zmag_roundRatio_ge FP.Core.good_b64 h0 (FP.Core.val64_fits y) (Int.le_refl _) q0 ?_
    rw [hin, Int.sub_self]
    have hz := DV_zmag hy hV
    refine Int.ofNat_le.mp ?_
    rw [hU, Int.natCast_mul, Int.natCast_mul, hz]
    show V * ((1 : Nat) : Int) * (b : Int) ≤ _
    rw [show V * ((1 : Nat) : Int) = V by omega]
    exact hle
  have ha0 : (0 : Int) ≤ (a : Int) * UU := Int.mul_nonneg (by omega) (by have := UU_pos; omega)
  rcases FP.Core.roundRatio_cases FP.Core.b64 false a b 0 with ⟨c, q, er⟩ | er
  · rw [er] at hq le ge
    refine ⟨((FP.Core.zmag FP.Core.b64 (.fin false c q) : Nat) : Int), ⟨⟨_, _, _, hq⟩, by rw [hq]; rfl⟩, by omega, fun y V hy hV hle => ?_, fun y V hy hV hle => ?_⟩
    · have := ge y V hy hV hle
      have hz := DV_zmag hy hV
      omega
    · have := le y V hy hV hle
      have hz := DV_zmag hy hV
      omega
  · exfalso
    have h1 := le _ _ da ha0 (by
      have h1 := Int.mul_le_mul_of_nonneg_left (show (1 : Int) ≤ (b : Int) by omega) ha0
      omega)
    rw [er, ea] at h1
    have hfa := FP.Core.val64_fits (FP.l2d (lN a))
    rw [ea] at hfa
    have h2 := FP.Core.zmag_lt_top FP.Core.good_b64 hfa
    have h3 : FP.Core.zmag FP.Core.b64 (.inf false) = FP.Core.b64.tails * 2 ^ (FP.Core.b64.exps - 2) := rfl
    have h4 : FP.Core.zmag FP.Core.b64 (.fin false ca qa) = FP.Core.inUnits ca qa FP.Core.b64.qmin := rfl
    rw [h3, h4] at h1
    exact absurd h2 (Nat.not_lt.mpr h1)
/-- a number that an argument may say -/
def NG (v : UInt64) : Prop := ∃ z, DV v z ∧ -(1000000000 * UU) ≤ z ∧ z ≤ 1000000000 * UU ∧ (0 ≤ z → z % UU = 0 ∨ UU ≤ 1024 * (z % UU))
theorem NG_0 : NG 0 := ⟨0, DV_0, by have := UU_pos; omega, by have := UU_pos; omega, fun _ => Or.inl (Int.zero_emod _)⟩
theorem NG_1 : NG 4607182418800017408 := by
  have hU := UU_pos
  have h := DV_k (k := 1) (by decide)
  have e : FP.i2d (nI 1) = 4607182418800017408 := by decide +kernel
  rw [e] at h
  refine ⟨_, h, by omega, by omega, fun _ => Or.inl ?_⟩
  exact Int.mul_emod_left _ _
theorem NG_x8 (x : Int32) : NG (FP.dmul (FP.i2d x) d125) := by
  have hU := UU_pos
  obtain ⟨z, hz, h8⟩ := DV_x8 x
  have h1 := x.toInt_lt
  have h2 := x.le_toInt
  have b1 : x.toInt * UU ≤ 2147483648 * UU := Int.mul_le_mul_of_nonneg_right (by omega) (by omega)
  have b2 : (-2147483648) * UU ≤ x.toInt * UU := Int.mul_le_mul_of_nonneg_right (by omega) (by omega)
  refine ⟨z, hz, by omega, by omega, fun h0 => ?_⟩
  obtain ⟨a, b, hab, hb0, hb8⟩ : ∃ a b : Int, x.toInt = 8 * a + b ∧ 0 ≤ b ∧ b < 8 := ⟨x.toInt / 8, x.toInt % 8, by omega, by omega, by omega⟩
  have e : x.toInt * UU = 8 * (a * UU) + b * UU := by rw [hab, Int.add_mul, Int.mul_assoc]
  have hy : z = (z - a * UU) + a * UU := by omega
  have hb : 8 * (z - a * UU) = b * UU := by omega
  have hm : z % UU = z - a * UU := by
    rw [hy, Int.add_mul_emod_self_right]
    have e2 : z - a * UU + a * UU - a * UU = z - a * UU := by omega
    rw [e2]
    have c1 : b * UU ≤ 7 * UU := Int.mul_le_mul_of_nonneg_right (by omega) (by omega)
    have c2 : 0 ≤ b * UU := Int.mul_nonneg hb0 (by omega)
    exact Int.emod_eq_of_lt (by omega) (by omega)
  rw [hm]
  by_cases hz0 : b = 0
  · rw [hz0] at hb
    exact Or.inl (by omega)
  · have c1 : 1 * UU ≤ b * UU := Int.mul_le_mul_of_nonneg_right (by omega) (by omega)
    exact Or.inr (by omega)
theorem NG_quot {a e : Nat} (he : e ≤ 3) (ha : a < 1000000000 * 10 ^ e) : NG (FP.ddiv (FP.l2d (lN a)) (FP.l2d (lN (10 ^ e)))) ∧ NG (FP.dneg (FP.ddiv (FP.l2d (lN a)) (FP.l2d (lN (10 ^ e))))) := by
  have hU := UU_pos
  have hp : 10 ^ e ≤ 1000 := Nat.le_trans (Nat.pow_le_pow_right (by decide) he) (by decide)
  have hp0 : 0 < 10 ^ e := Nat.pow_pos (by decide)
  generalize 10 ^ e = b at *
  have ha2 : a < 1000000000 * 1000 := Nat.lt_of_lt_of_le ha (Nat.mul_le_mul_left _ hp)
  obtain ⟨z, hz, z0, zg, zl⟩ := DV_quot (a := a) (b := b) (by omega) (by omega) hp0
  have haI : (a : Int) ≤ 1000000000 * (b : Int) := by omega
  have hup : z ≤ 1000000000 * UU := by
    have h1 := DV_k (k := 1000000000) (by decide)
    refine zl _ _ h1 (by omega) ?_
    have h2 := Int.mul_le_mul_of_nonneg_right haI (show (0 : Int) ≤ UU by omega)
    have e1 : (1000000000 : Int) * UU * (b : Int) = 1000000000 * (b : Int) * UU := Int.mul_right_comm _ _ _
    exact Int.le_trans h2 (Int.le_of_eq e1.symm)
  have hfr : z % UU = 0 ∨ UU ≤ 1024 * (z % UU) := by
    obtain ⟨m, r, hmr, hr⟩ : ∃ m r : Nat, a = m * b + r ∧ r < b := ⟨a / b, a % b, by rw [Nat.mul_comm]; exact (Nat.div_add_mod a b).symm, Nat.mod_lt _ hp0⟩
    have hm : m ≤ 1000000000 := by
      refine Nat.le_of_not_lt fun hlt => ?_
      have := Nat.mul_le_mul_right b (show 1000000000 ≤ m by omega)
      omega
    have aU : (a : Int) * UU = (m : Int) * UU * (b : Int) + (r : Int) * UU := by
      rw [hmr, Int.natCast_add, Int.natCast_mul, Int.add_mul, Int.mul_right_comm]
    have l1 : (m : Int) * UU ≤ z := by
      refine zg _ _ (DV_k (k := m) (by omega)) (Int.mul_nonneg (by omega) (by omega)) ?_
      have := Int.mul_nonneg (show (0 : Int) ≤ (r : Int) by omega) (show (0 : Int) ≤ UU by omega)
      omega
    by_cases hr0 : r = 0
    · have l2 : z ≤ (m : Int) * UU := by
        refine zl _ _ (DV_k (k := m) (by omega)) (Int.mul_nonneg (by omega) (by omega)) ?_
        rw [aU, hr0]
        omega
      have e : z = (m : Int) * UU := by omega
      exact Or.inl (by rw [e]; exact Int.mul_emod_left _ _)
    · -- in units of UU / 1024
      obtain ⟨y1, hy1⟩ := DV_make (c := m * 1024 + 1) (q := -10) (by omega) (by decide) (by decide)
      obtain ⟨y2, hy2⟩ := DV_make (c := m * 1024 + 1023) (q := -10) (by omega) (by decide) (by decide)
      have e10 : (-10 + 1074 : Int).toNat = 1064 := by decide
      rw [e10] at hy1 hy2
      generalize hW : ((2 ^ 1064 : Nat) : Int) = W
      have hUW : UU = 1024 * W := by
        rw [← hW]
        show (FP.Core.one64 : Int) = _
        rw [one64_k]
        exact Int.natCast_mul _ _
      have d1 : DV y1 (((m * 1024 + 1 : Nat) : Int) * W) := by rw [← hW, ← Int.natCast_mul]; exact hy1
      have d2 : DV y2 (((m * 1024 + 1023 : Nat) : Int) * W) := by rw [← hW, ← Int.natCast_mul]; exact hy2
      have hW0 : 0 < W := by omega
      have mU : (m : Int) * UU = ((m * 1024 : Nat) : Int) * W := by rw [hUW, ← Int.mul_assoc]; rfl
      have aW : (a : Int) * UU = ((a * 1024 : Nat) : Int) * W := by rw [hUW, ← Int.mul_assoc]; rfl
      have g1 : ((m * 1024 + 1 : Nat) : Int) * W ≤ z := by
        refine zg _ _ d1 (Int.mul_nonneg (by omega) (by omega)) ?_
        rw [aW, Int.mul_right_comm]
        refine Int.mul_le_mul_of_nonneg_right ?_ (by omega)
        have : (m * 1024 + 1) * b ≤ a * 1024 := by
          have e1 : (m * 1024 + 1) * b = m * b * 1024 + b := by rw [Nat.add_mul, Nat.one_mul, Nat.mul_right_comm]
          omega
        exact Int.ofNat_le.mpr this
      have g2 : z ≤ ((m * 1024 + 1023 : Nat) : Int) * W := by
        refine zl _ _ d2 (Int.mul_nonneg (by omega) (by omega)) ?_
        rw [aW, Int.mul_right_comm]
        refine Int.mul_le_mul_of_nonneg_right ?_ (by omega)
        have : a * 1024 ≤ (m * 1024 + 1023) * b := by
          have e1 : (m * 1024 + 1023) * b = m * b * 1024 + 1023 * b := by rw [Nat.add_mul, Nat.mul_right_comm]
          omega
        exact Int.ofNat_le.mpr this
      have f1 : ((m * 1024 + 1 : Nat) : Int) * W = ((m * 1024 : Nat) : Int) * W + W := by rw [Int.natCast_add, Int.add_mul]; omega
      have f2 : ((m * 1024 + 1023 : Nat) : Int) * W = ((m * 1024 : Nat) : Int) * W + 1023 * W := by rw [Int.natCast_add, Int.add_mul]; omega
      have hz2 : z % UU = z - (m : Int) * UU := by
        have hy : z = (z - (m : Int) * UU) + (m : Int) * UU := by omega
        have e2 : z - (m : Int) * UU + (m : Int) * UU - (m : Int) * UU = z - (m : Int) * UU := by omega
        rw [hy, Int.add_mul_emod_self_right, e2]
        exact Int.emod_eq_of_lt (by omega) (by omega)
      rw [hz2]
      exact Or.inr (by omega)
  refine ⟨⟨z, hz, by omega, hup, fun _ => hfr⟩, ⟨-z, DV_neg hz, by omega, by omega, fun h => ?_⟩⟩
  have : z = 0 := by omega
  subst this
  exact Or.inl (by simp)
