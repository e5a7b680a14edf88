/-! ### doubles: the value in units of 2^-1074 -/
def UU : Int := (FP.Core.one64 : Int)
theorem UU_pos : 0 < UU := by
  have := FP.Core.one64_pos
  show (0 : Int) < (FP.Core.one64 : Int)
  omega
def DV (x : UInt64) (z : Int) : Prop := FP.Core.DFin x ∧ FP.Core.zval FP.Core.b64 (FP.Core.val64 x) = z
theorem DFin_nan {x : UInt64} (h : FP.Core.DFin x) : FP.Core.val64 x ≠ .nan := by
  obtain ⟨s, c, q, e⟩ := h
  rw [e]
  exact FP.Core.Datum.noConfusion
theorem DV_cmp {x y : UInt64} {a b : Int} (hx : DV x a) (hy : DV y b) : FP.dcmp x y = some (compare a b) := by
  rw [← hx.2, ← hy.2]
  exact FP.Core.dcmp_zval (DFin_nan hx.1) (DFin_nan hy.1)
theorem cmp_three (a b : Int) : (a < b ∧ compare a b = .lt) ∨ (a = b ∧ compare a b = .eq) ∨ (b < a ∧ compare a b = .gt) := by
  rcases Int.lt_trichotomy a b with h | h | h
  · exact Or.inl ⟨h, (FP.Core.compare_lt_iff a b).mpr h⟩
  · exact Or.inr (Or.inl ⟨h, (FP.Core.compare_eq_iff a b).mpr h⟩)
  · exact Or.inr (Or.inr ⟨h, (FP.Core.compare_gt_iff a b).mpr h⟩)
theorem cv_ge {x y : UInt64} {a b : Int} {op : ClassFile.CmpOp} (hx : DV x a) (hy : DV y b) : (0 ≤ Op.cmpValue (FP.dcmp x y) op) ↔ b ≤ a := by
  rw [DV_cmp hx hy]
  rcases cmp_three a b with ⟨h, e⟩ | ⟨h, e⟩ | ⟨h, e⟩ <;> rw [e]
  · exact ⟨fun z => absurd z (by cases op <;> decide), fun z => by omega⟩
  · exact ⟨fun _ => by omega, fun _ => (by decide : (0 : Int32) ≤ 0)⟩
  · exact ⟨fun _ => by omega, fun _ => (by decide : (0 : Int32) ≤ 1)⟩
theorem cv_lt {x y : UInt64} {a b : Int} {op : ClassFile.CmpOp} (hx : DV x a) (hy : DV y b) : (Op.cmpValue (FP.dcmp x y) op < 0) ↔ a < b := by
  rw [DV_cmp hx hy]
  rcases cmp_three a b with ⟨h, e⟩ | ⟨h, e⟩ | ⟨h, e⟩ <;> rw [e]
  · exact ⟨fun _ => h, fun _ => (by decide : (-1 : Int32) < 0)⟩
  · exact ⟨fun z => absurd z (by cases op <;> decide), fun z => by omega⟩
  · exact ⟨fun z => absurd z (by cases op <;> decide), fun z => by omega⟩
theorem cv_le {x y : UInt64} {a b : Int} {op : ClassFile.CmpOp} (hx : DV x a) (hy : DV y b) : (Op.cmpValue (FP.dcmp x y) op ≤ 0) ↔ a ≤ b := by
  rw [DV_cmp hx hy]
  rcases cmp_three a b with ⟨h, e⟩ | ⟨h, e⟩ | ⟨h, e⟩ <;> rw [e]
  · exact ⟨fun _ => by omega, fun _ => (by decide : (-1 : Int32) ≤ 0)⟩
  · exact ⟨fun _ => by omega, fun _ => (by decide : (0 : Int32) ≤ 0)⟩
  · exact ⟨fun z => absurd z (by cases op <;> decide), fun z => by omega⟩
theorem cv_eq {x y : UInt64} {a b : Int} {op : ClassFile.CmpOp} (hx : DV x a) (hy : DV y b) : (Op.cmpValue (FP.dcmp x y) op = 0) ↔ a = b := by
  rw [DV_cmp hx hy]
  rcases cmp_three a b with ⟨h, e⟩ | ⟨h, e⟩ | ⟨h, e⟩ <;> rw [e]
  · exact ⟨fun z => absurd z (by cases op <;> decide), fun z => by omega⟩
  · exact ⟨fun _ => h, fun _ => rfl⟩
  · exact ⟨fun z => absurd z (by cases op <;> decide), fun z => by omega⟩
theorem val_neg (x : UInt64) : FP.Core.val64 (FP.dneg x) = FP.Core.negate (FP.Core.val64 x) := FP.val64_dneg x
theorem DV_neg {x : UInt64} {z : Int} (h : DV x z) : DV (FP.dneg x) (-z) := by
  obtain ⟨⟨s, c, q, e⟩, hz⟩ := h
  refine ⟨⟨!s, c, q, by rw [val_neg, e]; rfl⟩, ?_⟩
  rw [val_neg, FP.Core.zval_negate, hz]
theorem DV_i2d (x : Int32) : DV (FP.i2d x) (x.toInt * UU) := ⟨by rw [show FP.i2d x = FP.Core.l2d x.toInt64 from FP.Core.i2d_l2d x]; exact FP.Core.l2d_fin _, FP.Core.DInt_zval (FP.Core.i2d_int x)⟩
theorem DV_l2d {x : Int64} (h : x.toInt.natAbs ≤ 2 ^ 53) : DV (FP.l2d x) (x.toInt * UU) := ⟨FP.Core.l2d_fin _, FP.Core.DInt_zval (FP.Core.l2d_int h)⟩
theorem DV_0 : DV 0 0 := ⟨⟨_, _, _, FP.Core.val64_zero⟩, FP.Core.zval64_zero⟩
theorem DV_int {i : Int} {a : UInt64} (h : FP.Core.DInt i a) (hf : FP.Core.DFin a) : DV a (i * UU) := ⟨hf, FP.Core.DInt_zval h⟩
theorem mag_b64 (n : Nat) : FP.Core.mag FP.Core.b64 n = n % 2 ^ 63 := rfl
theorem nn_fin {x : UInt64} (h : FP.Core.DFin x) : nn x = true := by
  have h1 := DFin_nan h
  have h2 : ¬ FP.Core.infBits FP.Core.b64 < FP.Core.mag FP.Core.b64 x.toNat := fun z => h1 ((FP.Core.decode_nan x.toNat).mpr z)
  have e : FP.Core.infBits FP.Core.b64 = 0x7ff0000000000000 := by decide +kernel
  rw [e, mag_b64] at h2
  unfold nn
  refine decide_eq_true ?_
  rw [UInt64.le_iff_toNat_le]
  have h3 : (x &&& 0x7fffffffffffffff).toNat = x.toNat % 2 ^ 63 := FP.Core.mask_toNat x
  rw [h3]
  have h4 : (0x7ff0000000000000 : UInt64).toNat = 0x7ff0000000000000 := rfl
  omega
theorem nn_DV {x : UInt64} {z : Int} (h : DV x z) : nn x = true := nn_fin h.1
/-- bits from the value, but for zero's -/
theorem DV_inj {x y : UInt64} {z : Int} (hx : DV x z) (hy : DV y z) (hz : ¬ z = 0) : x = y := by
  refine FP.Core.eq_bits (FP.Core.dnot_zero (DFin_nan hy.1) (by rw [hy.2]; exact hz)) ?_
  have := DV_cmp hx hy
  rw [(FP.Core.compare_eq_iff z z).mpr rfl] at this
  exact this
theorem signed_tdiv (s : Bool) (m k : Nat) : FP.Core.signed s (m / k) = Int.tdiv (FP.Core.signed s m) (k : Int) := by
  cases s
  · show ((m / k : Nat) : Int) = Int.tdiv (m : Int) (k : Int)
    rfl
  · show -((m / k : Nat) : Int) = Int.tdiv (-(m : Int)) (k : Int)
    rw [Int.neg_tdiv]
    rfl
theorem d2l_DV {x : UInt64} {z : Int} (h : DV x z) (h1 : (-2 ^ 63) ≤ Int.tdiv z UU) (h2 : Int.tdiv z UU ≤ 2 ^ 63 - 1) : (FP.d2l x).toInt = Int.tdiv z UU := by
  have e : (FP.d2l x).toInt = _ := FP.Core.d2l_val (DFin_nan h.1)
  rw [e, signed_tdiv]
  have e2 : FP.Core.signed (FP.Core.sgn (FP.Core.val64 x)) (FP.Core.zmag FP.Core.b64 (FP.Core.val64 x)) = z := h.2
  rw [e2]
  show max _ (min _ (Int.tdiv z UU)) = _
  omega
theorem d2i_DV {x : UInt64} {z : Int} (h : DV x z) (h1 : (-2 ^ 31) ≤ Int.tdiv z UU) (h2 : Int.tdiv z UU ≤ 2 ^ 31 - 1) : (FP.d2i x).toInt = Int.tdiv z UU := by
  have e : (FP.d2i x).toInt = _ := FP.Core.d2i_val (DFin_nan h.1)
  rw [e, signed_tdiv]
  have e2 : FP.Core.signed (FP.Core.sgn (FP.Core.val64 x)) (FP.Core.zmag FP.Core.b64 (FP.Core.val64 x)) = z := h.2
  rw [e2]
  show max _ (min _ (Int.tdiv z UU)) = _
  omega
theorem pow_lt2 {c p k K : Nat} (h : c < 2 ^ p) (hk : k ≤ K) : c * 2 ^ k < 2 ^ (p + K) := by
  rw [Nat.pow_add]
  exact Nat.lt_of_lt_of_le (Nat.mul_lt_mul_of_pos_right h (Nat.two_pow_pos _)) (Nat.mul_le_mul_left _ (Nat.pow_le_pow_right (by decide) hk))
theorem val_d125 : FP.Core.val64 d125 = .fin false (2 ^ 52) (-55) := by decide +kernel
/-- an eighth -/
theorem DV_x8 (x : Int32) : ∃ z, DV (FP.dmul (FP.i2d x) d125) z ∧ 8 * z = x.toInt * UU := by
  by_cases hx : x = 0
  · subst hx
    have e : FP.dmul (FP.i2d 0) d125 = 0 := by decide +kernel
    rw [e]
    exact ⟨0, DV_0, by simp⟩
  obtain ⟨⟨s, c, q, e⟩, hz⟩ := DV_i2d x
  have hf := FP.Core.val64_fits (FP.i2d x)
  rw [e] at hf hz
  obtain ⟨f1, f2, f3, -⟩ := id hf
  have hx2 : ¬ x.toInt = 0 := fun z => hx (Int32.toInt_inj.mp (by rw [z]; rfl))
  have hq : FP.Core.b64.qmin = -1074 := by decide +kernel
  have hqx : FP.Core.b64.qmax = 971 := by decide +kernel
  rw [hq] at f2
  rw [hqx] at f3
  have hm : c * 2 ^ (q + 1074).toNat = x.toInt.natAbs * FP.Core.one64 := by
    have := congrArg Int.natAbs hz
    rw [show FP.Core.zval FP.Core.b64 (.fin s c q) = FP.Core.signed s (FP.Core.inUnits c q FP.Core.b64.qmin) from rfl, FP.Core.natAbs_signed, Int.natAbs_mul] at this
    have e9 : FP.Core.inUnits c q FP.Core.b64.qmin = c * 2 ^ (q + 1074).toNat := by
      show c * 2 ^ (q - FP.Core.b64.qmin).toNat = _
      rw [hq]
      rfl
    rw [e9] at this
    exact this
  have hk : 1022 ≤ (q + 1074).toNat := by
    refine Nat.le_of_not_lt fun hlt => ?_
    have h1 := pow_lt2 f1 (show (q + 1074).toNat ≤ 1021 by omega)
    rw [hm] at h1
    have h2 : FP.Core.one64 ≤ x.toInt.natAbs * FP.Core.one64 := Nat.le_mul_of_pos_left _ (by omega)
    exact absurd h1 (Nat.not_lt.mpr h2)
  have hp : FP.Core.val64 (FP.dmul (FP.i2d x) d125) = FP.Core.round FP.Core.b64 (.fin s c (q - 3)) := by
    have := FP.Core.val64_dmul (FP.i2d x) d125
    rw [e, val_d125] at this
    refine Eq.trans this ?_
    show FP.Core.round FP.Core.b64 (.fin (s != false) (c * 2 ^ 52) (q + -55)) = _
    rw [show (s != false) = s by cases s <;> rfl, ← FP.Core.round_inUnits s c (show q - 55 ≤ q - 3 by omega)]
    congr 2
    show c * 2 ^ 52 = c * 2 ^ (q - 3 - (q - 55)).toNat
    rw [show (q - 3 - (q - 55)).toNat = 52 by omega]
  obtain ⟨c', q', r1, r2⟩ := FP.Core.round_exact FP.Core.good_b64 s f1 (show FP.Core.b64.qmin ≤ q - 3 by omega) (show q - 3 ≤ FP.Core.b64.qmax by omega)
  refine ⟨FP.Core.signed s (FP.Core.inUnits c (q - 3) FP.Core.b64.qmin), ⟨⟨s, c', q', by rw [hp, r1]⟩, ?_⟩, ?_⟩
  · rw [hp, r1]
    show FP.Core.signed s (FP.Core.inUnits c' q' FP.Core.b64.qmin) = _
    rw [r2]
  · have h8 : FP.Core.inUnits c q FP.Core.b64.qmin = FP.Core.inUnits c (q - 3) FP.Core.b64.qmin * 8 := by
      show c * 2 ^ (q - FP.Core.b64.qmin).toNat = c * 2 ^ (q - 3 - FP.Core.b64.qmin).toNat * 8
      rw [hq, show (q - -1074).toNat = (q - 3 - -1074).toNat + 3 by omega, Nat.pow_add, Nat.mul_assoc]
    have hz2 : FP.Core.signed s (FP.Core.inUnits c q FP.Core.b64.qmin) = x.toInt * UU := hz
    rw [← hz2, h8, FP.Core.signed_mul]
    omega
theorem DFin_c {x : UInt64} (h : FP.Core.mag FP.Core.b64 x.toNat < FP.Core.infBits FP.Core.b64) : FP.Core.DFin x := by
  obtain ⟨c, q, e, -⟩ := FP.Core.decode_fin h
  exact ⟨_, c, q, e⟩
theorem DV_big : ∃ z, DV 9094988921128908188 z ∧ 4294967296 * UU ≤ z := ⟨_, ⟨DFin_c (by decide +kernel), rfl⟩, by unfold UU; decide +kernel⟩
theorem DV_nbig : ∃ z, DV 18318360957983683996 z ∧ z ≤ -(4294967296 * UU) := ⟨_, ⟨DFin_c (by decide +kernel), rfl⟩, by unfold UU; decide +kernel⟩
theorem x8_pos {x : Int32} {z : Int} (h : 8 * z = x.toInt * UU) : (0 ≤ z ↔ 0 ≤ x.toInt) ∧ (z = 0 ↔ x = 0) ∧ z < 4294967296 * UU ∧ -(4294967296 * UU) < z := by
  have hU := UU_pos
  have h1 := x.toInt_lt
  have h2 := x.le_toInt
  have b1 : x.toInt * UU ≤ 2147483648 * UU := Int.mul_le_mul_of_nonneg_right (by omega) (by omega)
  have b2 : (-2147483648) * UU ≤ x.toInt * UU := Int.mul_le_mul_of_nonneg_right (by omega) (by omega)
  refine ⟨⟨fun g => ?_, fun g => ?_⟩, ⟨fun g => ?_, fun g => ?_⟩, by omega, by omega⟩
  · exact Int.not_lt.mp fun k => by
      have := Int.mul_le_mul_of_nonneg_right (show x.toInt ≤ -1 by omega) (show (0 : Int) ≤ UU by omega)
      omega
  · have := Int.mul_nonneg g (show (0 : Int) ≤ UU by omega)
    omega
  · rw [g] at h
    have h3 : x.toInt * UU = 0 := by omega
    rcases Int.mul_eq_zero.mp h3 with k | k
    · exact Int32.toInt_inj.mp (by rw [k]; rfl)
    · omega
  · subst g
    have : (0 : Int32).toInt = 0 := by decide
    rw [this] at h
    omega
theorem x8_eq {x : Int32} {z : Int} (h : 8 * z = x.toInt * UU) (k : Nat) : z = (k : Int) * UU ↔ x.toInt = 8 * (k : Int) := by
  have hU := UU_pos
  refine ⟨fun g => ?_, fun g => ?_⟩
  · have h3 : (8 * (k : Int)) * UU = x.toInt * UU := by
      rw [← h, g, Int.mul_assoc]
    exact (Int.eq_of_mul_eq_mul_right (by omega) h3).symm
  · rw [g] at h
    have : 8 * (k : Int) * UU = 8 * ((k : Int) * UU) := Int.mul_assoc _ _ _
    omega
theorem DV_k {k : Nat} (hk : k < 2 ^ 31) : DV (FP.i2d (nI k)) ((k : Int) * UU) := by
  have := DV_i2d (nI k)
  rw [nI_toInt hk] at this
  exact this
theorem errC {v : UInt64} {z P : Int} (hv : DV v z) (hz : ∀ k : Nat, z = (k : Int) * UU ↔ P = 8 * (k : Int)) : ∀ (m j fu : Nat), j + m = 9 → m < fu → 1 ≤ j → (∀ i : Nat, 1 ≤ i → i < j → ¬ P = 8 * (i : Int)) → ∃ e : Nat, wf_errorNumber_2 fu v (nI j) = some (nI e) ∧ ((1 ≤ e ∧ e ≤ 8 ∧ P = 8 * (e : Int)) ∨ (e = 3 ∧ ∀ i : Nat, 1 ≤ i → i ≤ 8 → ¬ P = 8 * (i : Int))) := by
  intro m
  induction m with
  | zero =>
    intro j fu hj hf h1 hi
    obtain ⟨g, rfl⟩ : ∃ g, fu = g + 1 := ⟨fu - 1, by omega⟩
    exact ⟨3, e_bt (nI_lt (a := 8) (by omega) (by omega)) rfl, Or.inr ⟨rfl, fun i h1 h2 => hi i h1 (by omega)⟩⟩
  | succ m ih =>
    intro j fu hj hf h1 hi
    obtain ⟨g, rfl⟩ : ∃ g, fu = g + 1 := ⟨fu - 1, by omega⟩
    have hc := cv_eq (op := .l) hv (DV_k (show j < 2 ^ 31 by omega))
    by_cases hp : P = 8 * (j : Int)
    · exact ⟨j, e_bf (nI_nlt (a := 8) (b := j) (by omega) (by omega)) (e_bt (hc.mpr ((hz j).mpr hp)) rfl), Or.inl ⟨h1, by omega, hp⟩⟩
    · obtain ⟨e, h2, h3⟩ := ih (j + 1) g (by omega) (by omega) (by omega) (fun i k1 k2 => by
        by_cases e : i = j
        · rw [e]; exact hp
        · exact hi i k1 (by omega))
      refine ⟨e, e_bf (nI_nlt (a := 8) (b := j) (by omega) (by omega)) (e_bf (fun q => hp ((hz j).mp (hc.mp q))) (e_n ?_)), h3⟩
      rw [nI_1]
      exact h2
theorem errM {v : UInt64} {z P : Int} (hv : DV v z) (hz : ∀ k : Nat, z = (k : Int) * UU ↔ P = 8 * (k : Int)) : ∀ (m j fu : Nat) (acc : UInt64), j + m = 9 → m < fu → ∃ r, mo_errorOf_7 fu v acc (nI j) = some r ∧ ((∃ i : Nat, j ≤ i ∧ i ≤ 8 ∧ P = 8 * (i : Int)) → r = v) ∧ ((∀ i : Nat, j ≤ i → i ≤ 8 → ¬ P = 8 * (i : Int)) → r = acc) := by
  intro m
  induction m with
  | zero =>
    intro j fu acc hj hf
    obtain ⟨g, rfl⟩ : ∃ g, fu = g + 1 := ⟨fu - 1, by omega⟩
    exact ⟨acc, e_bt (nI_le (a := 9) (by omega) (by omega)) rfl, fun ⟨i, h1, h2, _⟩ => by omega, fun _ => rfl⟩
  | succ m ih =>
    intro j fu acc hj hf
    obtain ⟨g, rfl⟩ : ∃ g, fu = g + 1 := ⟨fu - 1, by omega⟩
    have hc := cv_eq (op := .l) hv (DV_k (show j < 2 ^ 31 by omega))
    by_cases hp : P = 8 * (j : Int)
    · obtain ⟨r, h2, h3, h4⟩ := ih (j + 1) g v (by omega) (by omega)
      refine ⟨r, e_bf (nI_ge (b := 9) (by omega) (by omega)) (e_bt (hc.mpr ((hz j).mpr hp)) (e_n ?_)), fun _ => ?_, fun k => absurd hp (k j (by omega) (by omega))⟩
      · rw [nI_1]; exact h2
      · exact h4 (fun i k1 k2 k3 => by omega)
    · obtain ⟨r, h2, h3, h4⟩ := ih (j + 1) g acc (by omega) (by omega)
      refine ⟨r, e_bf (nI_ge (b := 9) (by omega) (by omega)) (e_bf (fun q => hp ((hz j).mp (hc.mp q))) (e_n ?_)), fun ⟨i, k1, k2, k3⟩ => h3 ⟨i, ?_, k2, k3⟩, fun k => h4 (fun i k1 k2 => k i (by omega) k2)⟩
      · rw [nI_1]; exact h2
      · have : ¬ i = j := fun e => hp (by rw [← e]; exact k3)
        omega
/-- a place that put may write, beside the reference's -/
theorem set_at {tp n u h : Nat} {cs : CS} {ms : GS} (hR : RS tp n u h cs ms) (p0 : Int32) : ((∀ v, f_ar_set cs p0 v = some (0, cs)) ∧ f_mo_placeOf ms p0 = some (-1)) ∨ ∃ j, j < u ∧ (∀ v, f_ar_set cs p0 v = some (1, uV cs 40 j v)) ∧ f_mo_placeOf ms p0 = some (nI j) := by
  obtain ⟨hT, hC, hH, hA, hN⟩ := id hR
  obtain ⟨a1, a2, a3, a4, a5, a6, a7, a8, a9, a10, a11, a12⟩ := id hA
  rcases last_grid hA with ⟨h0, e⟩ | ⟨h0, e⟩
  · refine Or.inl ⟨fun v => e_c e ?_, e_bt (by rw [a2, h0]; rfl) rfl⟩
    by_cases g : p0 < 0
    · exact e_bt g rfl
    · refine e_bf g (e_bt ?_ rfl)
      rw [a8 0 (by decide), a8 1 (by decide)]
      exact Int32.not_lt.mp g
  · obtain ⟨r, c, f, g1, g2, g3, g4, g5, g6, g7, g8, g9, g10, g11⟩ := a7 (n - 1) (by omega)
    have en : ms.1 0 7 - 1 = nI (n - 1) := by rw [a2]; exact nI_pre h0
    have ecl : (nI (n - 1)).toNatClampNeg = n - 1 := nI_clamp (by omega)
    have hin : inb (ms.1 0 7 - 1) 30 = true := by rw [en]; exact inb_of (by omega) (by decide)
    have n0 : ¬ ms.1 0 7 = 0 := by rw [a2]; exact nI_ne0 h0 (by omega)
    have mrc : (ms.1 4 (ms.1 0 7 - 1).toNatClampNeg) * (ms.1 5 (ms.1 0 7 - 1).toNatClampNeg) = nI (r * c) := by rw [en, ecl, g4, g5, nI_mul]
    have crc : (cs.1 (9 + (n - 1)) 0) * (cs.1 (9 + (n - 1)) 1) = nI (r * c) := by rw [g1, g2, nI_mul]
    have hrc : r * c ≤ 512 := by omega
    by_cases g : p0 < 0
    · exact Or.inl ⟨fun v => e_c e (e_bt g rfl), e_bf n0 (e_bt g rfl)⟩
    · obtain ⟨i, hi, rfl⟩ := nI_of g
      by_cases k : r * c ≤ i
      · refine Or.inl ⟨fun v => e_c e (e_bf g (e_bt ?_ rfl)), e_bf n0 (e_bf g (e_g hin (e_g hin (e_bf ?_ rfl))))⟩
        · rw [crc]; exact nI_le k hi
        · rw [mrc]; exact nI_nlt k hi
      · refine Or.inr ⟨f + i, by omega, fun v => e_c e (e_bf g (e_bf ?_ ?_)), e_bf n0 (e_bf g (e_g hin (e_g hin (e_bt ?_ (e_g hin ?_)))))⟩
        · rw [crc]; exact nI_ge (by omega) (by omega)
        · rw [g3, nI_add]
          refine e_bt (nI_lt (b := 512) (by omega) (by decide)) (e_g (inb_of (by omega) (by decide)) ?_)
          rw [nI_clamp (by omega)]
          rfl
        · rw [mrc]; exact nI_lt (by omega) (by omega)
        · rw [en, ecl, g6, nI_add]
/-- the states behind a value put -/
theorem set_RS {tp n u h h' j : Nat} {cs : CS} {ms ms' : GS} {v : VV} (hR : RS tp n u h cs ms) (hj : j < u) (hh : h ≤ h') (w0 : ∀ k, k ≠ 0 → k ≠ 3 → ms'.1 0 k = ms.1 0 k) (w3 : ms'.1 0 3 = nI h') (w : ∀ i, i ≠ 0 → i ≠ 3 → i ≠ 9 → i ≠ 10 → i ≠ 11 → ms'.1 i = ms.1 i) (w9 : ∀ q, q ≠ j → ms'.1 9 q = ms.1 9 q) (w10 : ∀ q, q ≠ j → ms'.1 10 q = ms.1 10 q) (w11 : ∀ q, q ≠ j → ms'.1 11 q = ms.1 11 q) (wl : ∀ q, q < h → ms'.1 3 q = ms.1 3 q) (wd : ∀ q, q ≠ j → ms'.2.1 12 q = ms.2.1 12 q) (wd2 : ∀ i, i ≠ 12 → ms'.2.1 i = ms.2.1 i) (hv : VR v (ms'.1 9) (ms'.1 9) (ms'.1 10) (ms'.1 11) (ms'.1 3) (ms'.2.1 12) h' j) : RS tp n u h' (uV cs 40 j v) ms' := by
  obtain ⟨hT, hC, hH, hA, hN⟩ := hR
  obtain ⟨a1, a2, a3, a4, a5, a6, a7, a8, a9, a10, a11, a12⟩ := hA
  refine ⟨⟨hT.1, (w0 1 (by decide) (by decide)).trans hT.2.1, hT.2.2.1, hT.2.2.2.1, fun q hq => ?_⟩, ⟨hC.1, (w0 2 (by decide) (by decide)).trans hC.2.1, fun q hq => ?_⟩, ⟨hH.1.trans (w0 18 (by decide) (by decide)).symm, hH.2.trans (w0 19 (by decide) (by decide)).symm⟩, ?_, ?_⟩
  · rw [w 1 (by decide) (by decide) (by decide) (by decide) (by decide)]; exact hT.2.2.2.2 q hq
  · rw [w 2 (by decide) (by decide) (by decide) (by decide) (by decide)]; exact hC.2.2 q hq
  · refine ⟨a1, (w0 7 (by decide) (by decide)).trans a2, a3, a4, (w0 8 (by decide) (by decide)).trans a5, a6, fun i hi => ?_, a8, a9, w3, ?_, fun q hq => ?_⟩
    · have g := a7 i hi
      unfold GRr at g ⊢
      rw [w 4 (by decide) (by decide) (by decide) (by decide) (by decide), w 5 (by decide) (by decide) (by decide) (by decide) (by decide), w 6 (by decide) (by decide) (by decide) (by decide) (by decide), w 7 (by decide) (by decide) (by decide) (by decide) (by decide), w 8 (by decide) (by decide) (by decide) (by decide) (by decide)]
      exact g
    · rw [w9 512 (by omega)]; exact a11
    · by_cases e : q = j
      · rw [e]
        show VR (va_up (cs.2 40) j v j) _ _ _ _ _ _ _ _
        unfold va_up
        rw [if_pos rfl]
        exact hv
      · show VR (va_up (cs.2 40) j v q) _ _ _ _ _ _ _ _
        unfold va_up
        rw [if_neg e]
        exact VR_mono (VR_le (VR_at (a12 q hq) (w9 q e) (w10 q e) (w11 q e) (wd q e)) wl) hh
  · obtain ⟨r, c, k1, k2, k3, k4, kr, kc, k5, k6, k7⟩ := hN
    refine ⟨r, c, k1, k2, (w0 49 (by decide) (by decide)).trans k3, (w0 50 (by decide) (by decide)).trans k4, kr, kc, k5, ?_, ?_⟩
    · unfold Rtold at k6 ⊢
      rw [w0 32 (by decide) (by decide), w0 33 (by decide) (by decide), w 17 (by decide) (by decide) (by decide) (by decide) (by decide), wd2 0 (by decide)]
      exact k6
    · rw [w0 36 (by decide) (by decide), w 19 (by decide) (by decide) (by decide) (by decide) (by decide), w 20 (by decide) (by decide) (by decide) (by decide) (by decide), w 21 (by decide) (by decide) (by decide) (by decide) (by decide), wd2 22 (by decide)]
      rcases k7 with k | ⟨k, k8⟩
      · exact Or.inl k
      · exact Or.inr ⟨k, fun i hi => VR_mono (VR_le (k8 i hi) wl) hh⟩
