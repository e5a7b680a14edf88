/-! ### arithmetic -/
theorem nI_div {a b : Nat} (ha : a < 2 ^ 31) (hb : b < 2 ^ 31) : nI a / nI b = nI (a / b) := by
  apply Int32.toInt_inj.mp
  have hab : a / b ≤ a := Nat.div_le_self a b
  rw [Int32.toInt_div, nI_toInt ha, nI_toInt hb, nI_toInt (by omega)]
  have e : (a : Int).tdiv (b : Int) = ((a / b : Nat) : Int) := rfl
  rw [e]
  generalize a / b = m at *
  exact Int.bmod_eq_of_le (by omega) (by omega)
theorem nI_mod {a b : Nat} (ha : a < 2 ^ 31) (hb : b < 2 ^ 31) : nI a - nI a / nI b * nI b = nI (a % b) := by
  rw [nI_div ha hb, nI_mul]
  have h1 : a / b * b ≤ a := Nat.div_mul_le_self a b
  have h2 : a = a / b * b + a % b := by rw [Nat.mul_comm]; exact (Nat.div_add_mod a b).symm
  have h3 : nI a = nI (a / b * b) + nI (a % b) := by rw [nI_add, ← h2]
  rw [h3, Int32.add_comm, Int32.add_sub_cancel]
theorem lN_inj {x : Int64} {n : Nat} (h : x.toInt = n) (hn : n < 2 ^ 63) : x = lN n := Int64.toInt_inj.mp (by rw [h, lN_big hn])
theorem lN_div {a b : Nat} (ha : a < 2 ^ 63) (hb : b < 2 ^ 63) : lN a / lN b = lN (a / b) := by
  have hab : a / b ≤ a := Nat.div_le_self a b
  refine lN_inj ?_ (by omega)
  rw [Int64.toInt_div, lN_big ha, lN_big hb]
  have e : (a : Int).tdiv (b : Int) = ((a / b : Nat) : Int) := rfl
  rw [e]
  generalize a / b = m at *
  exact Int.bmod_eq_of_le (by omega) (by omega)
theorem lN_mod {a b : Nat} (ha : a < 2 ^ 63) (hb : b < 2 ^ 63) : lN a - lN a / lN b * lN b = lN (a % b) := by
  rw [lN_div ha hb, lN_mul]
  have h1 : a / b * b ≤ a := Nat.div_mul_le_self a b
  have h2 : a = a / b * b + a % b := by rw [Nat.mul_comm]; exact (Nat.div_add_mod a b).symm
  rw [lN_sub h1]
  congr 1
  omega
theorem lN_leB {a b : Nat} (ha : a < 2 ^ 63) (hb : b < 2 ^ 63) : lN a ≤ lN b ↔ a ≤ b := by
  rw [Int64.le_iff_toInt_le, lN_big ha, lN_big hb]
  omega
theorem lc_le {a b : Nat} (ha : a < 2 ^ 63) (hb : b < 2 ^ 63) : (lg_cmp (lN a) (lN b) ≤ 0) ↔ a ≤ b := by
  rw [lg_cmp_le]
  exact lN_leB ha hb
theorem lc_ge {a b : Nat} (ha : a < 2 ^ 63) (hb : b < 2 ^ 63) : (0 ≤ lg_cmp (lN a) (lN b)) ↔ b ≤ a := by
  rw [lg_cmp_ge]
  exact lN_leB hb ha
theorem lc_lt {a b : Nat} (ha : a < 2 ^ 63) (hb : b < 2 ^ 63) : (lg_cmp (lN a) (lN b) < 0) ↔ a < b := by
  rw [lg_cmp_lt, Int64.lt_iff_toInt_lt, lN_big ha, lN_big hb]
  omega
theorem lc_eq {a b : Nat} (ha : a < 2 ^ 63) (hb : b < 2 ^ 63) : (lg_cmp (lN a) (lN b) = 0) ↔ a = b := by
  rw [lg_cmp_eq]
  refine ⟨fun h => ?_, fun h => by rw [h]⟩
  have h1 := congrArg Int64.toInt h
  rw [lN_big ha, lN_big hb] at h1
  omega
theorem nI_lB {n : Nat} (h : n < 2 ^ 31) : (nI n).toInt64 = lN n := nI_l h
theorem lN_iB (n : Nat) : (lN n).toInt32 = nI n := lN_i n
theorem nI_sub {a b : Nat} (h : b ≤ a) : nI a - nI b = nI (a - b) := by
  obtain ⟨c, rfl⟩ : ∃ c, a = b + c := ⟨a - b, by omega⟩
  rw [← nI_add, Int32.add_comm, Int32.add_sub_cancel, Nat.add_sub_cancel_left]
/-! ### rows, columns, what is left out -/
def one1 (r : Nat) : Nat := if r = 0 then 1 else r
theorem max_1 {r : Nat} (h : r < 2 ^ 31) : f_ma_max 1 (nI r) = some (nI (one1 r)) := by
  unfold one1
  by_cases g : 1 < r
  · rw [if_neg (by omega)]
    exact e_bt (nI_lt (a := 1) g h) rfl
  · refine e_bf (nI_nlt (a := 1) (b := r) (by omega) (by decide)) ?_
    by_cases g0 : r = 0
    · rw [if_pos g0]; rfl
    · rw [if_neg g0, show r = 1 by omega]; rfl
section GEO
variable {n u h i : Nat} {cs cs0 : CS} {ms ms0 : GS}
theorem isOut_m (hA : Rargs n u h cs ms) (hi : i < n) : f_mo_isOut ms (nI i) = some (if aR cs i = 0 then 1 else 0) := by
  obtain ⟨g1, g2, g3, g4, g5, g6, g7, g8, g9, g10, g11, g12⟩ := geo hA hi
  refine e_g (inb_of (by omega) (by decide)) ?_
  rw [nI_clamp (by omega), g4]
  by_cases g : aR cs i = 0
  · rw [if_pos g, g]; exact e_bt rfl rfl
  · rw [if_neg g]; exact e_bf (nI_ne0 (by omega) (by omega)) rfl
theorem rows_m (hA : Rargs n u h cs ms) (hi : i < n) : f_mo_rowsOf ms (nI i) = some (nI (one1 (aR cs i))) := by
  obtain ⟨g1, g2, g3, g4, g5, g6, g7, g8, g9, g10, g11, g12⟩ := geo hA hi
  refine e_c (isOut_m hA hi) ?_
  unfold one1
  by_cases g : aR cs i = 0
  · rw [if_pos g, if_pos g]; exact e_bf (by decide) rfl
  · rw [if_neg g, if_neg g]
    refine e_bt rfl (e_g (inb_of (by omega) (by decide)) ?_)
    rw [nI_clamp (by omega), g4]
theorem cols_m (hA : Rargs n u h cs ms) (hi : i < n) : f_mo_columnsOf ms (nI i) = some (nI (one1 (aC cs i))) := by
  obtain ⟨g1, g2, g3, g4, g5, g6, g7, g8, g9, g10, g11, g12⟩ := geo hA hi
  refine e_c (isOut_m hA hi) ?_
  unfold one1
  by_cases g : aR cs i = 0
  · rw [if_pos g, if_pos (g9.mp g)]; exact e_bf (by decide) rfl
  · rw [if_neg g, if_neg (fun z => g (g9.mpr z))]
    refine e_bt rfl (e_g (inb_of (by omega) (by decide)) ?_)
    rw [nI_clamp (by omega), g5]
theorem rows_c (hA : Rargs n u h cs ms) (hi : i < n) : f_ar_rows cs (nI i) = some (nI (one1 (aR cs i))) := by
  obtain ⟨g1, g2, g3, g4, g5, g6, g7, g8, g9, g10, g11, g12⟩ := geo hA hi
  refine e_c (grid_at hA i hi) ?_
  rw [g1]
  exact e_c (max_1 (by omega)) rfl
theorem cols_c (hA : Rargs n u h cs ms) (hi : i < n) : f_ar_columns cs (nI i) = some (nI (one1 (aC cs i))) := by
  obtain ⟨g1, g2, g3, g4, g5, g6, g7, g8, g9, g10, g11, g12⟩ := geo hA hi
  refine e_c (grid_at hA i hi) ?_
  rw [g2]
  exact e_c (max_1 (by omega)) rfl
theorem out_c (hA : Rargs n u h cs ms) (hi : i < n) : f_ar_isLeftOut cs (nI i) = some (if aR cs i = 0 then 1 else 0) := by
  obtain ⟨g1, g2, g3, g4, g5, g6, g7, g8, g9, g10, g11, g12⟩ := geo hA hi
  refine e_c (grid_at hA i hi) ?_
  rw [g1]
  by_cases g : aR cs i = 0
  · rw [if_pos g, g]; exact e_bt rfl rfl
  · rw [if_neg g]; exact e_bf (nI_ne0 (by omega) (by omega)) rfl
theorem out_no (hA : Rargs n u h cs ms) (hi : n ≤ i) (h31 : i < 2 ^ 31) : f_ar_isLeftOut cs (nI i) = some 1 := by
  refine e_c (grid_no hA i hi h31) ?_
  rw [hA.2.2.2.2.2.2.2.1 0 (by decide)]
  exact e_bt rfl rfl
theorem rows_no (hA : Rargs n u h cs ms) (hi : n ≤ i) (h31 : i < 2 ^ 31) : f_ar_rows cs (nI i) = some 1 := by
  refine e_c (grid_no hA i hi h31) ?_
  rw [hA.2.2.2.2.2.2.2.1 0 (by decide)]
  exact e_c (max_1 (r := 0) (by decide)) rfl
theorem cols_no (hA : Rargs n u h cs ms) (hi : n ≤ i) (h31 : i < 2 ^ 31) : f_ar_columns cs (nI i) = some 1 := by
  refine e_c (grid_no hA i hi h31) ?_
  rw [hA.2.2.2.2.2.2.2.1 1 (by decide)]
  exact e_c (max_1 (r := 0) (by decide)) rfl
theorem many_no (hA : Rargs n u h cs ms) (hi : n ≤ i) (h31 : i < 2 ^ 31) : f_ar_many cs (nI i) = some 1 := e_c (rows_no hA hi h31) (e_c (cols_no hA hi h31) rfl)
theorem many_c (hA : Rargs n u h cs ms) (hi : i < n) : f_ar_many cs (nI i) = some (nI (one1 (aR cs i) * one1 (aC cs i))) := e_c (rows_c hA hi) (e_c (cols_c hA hi) (by rw [nI_mul]))
theorem given_m (hA : Rargs n u h cs ms) (h31 : i < 2 ^ 31) : f_mo_isGiven ms (nI i) = some (if i < n then 1 else 0) := by
  have hn := hA.2.2.1
  by_cases g : i < n
  · rw [if_pos g]
    exact e_bf (by rw [hA.2.1]; exact nI_ge g (by omega)) rfl
  · rw [if_neg g]
    exact e_bt (by rw [hA.2.1]; exact nI_le (by omega) h31) rfl
theorem there_c (hA : Rargs n u h cs ms) (h31 : i < 2 ^ 31) : f_ar_isThere cs (nI i) = some (if i < n then 1 else 0) := by
  have hn := hA.2.2.1
  by_cases g : i < n
  · rw [if_pos g]
    exact e_bf (by rw [hA.1]; exact nI_ge g (by omega)) rfl
  · rw [if_neg g]
    exact e_bt (by rw [hA.1]; exact nI_le (by omega) h31) rfl
theorem one1_mul (r c : Nat) (h : r = 0 ↔ c = 0) : (r = 0 ∧ one1 r * one1 c = 1) ∨ (¬ r = 0 ∧ one1 r * one1 c = r * c) := by
  unfold one1
  by_cases g : r = 0
  · exact Or.inl ⟨g, by rw [if_pos g, if_pos (h.mp g)]⟩
  · exact Or.inr ⟨g, by rw [if_neg g, if_neg (fun z => g (h.mpr z))]⟩
theorem ap_lt (hA : Rargs n u h cs ms) (hi : i < n) {k : Nat} (hk : k < one1 (aR cs i) * one1 (aC cs i)) : ap cs i k < 513 := by
  obtain ⟨g1, g2, g3, g4, g5, g6, g7, g8, g9, g10, g11, g12⟩ := geo hA hi
  unfold ap
  rcases one1_mul _ _ g9 with ⟨k1, k2⟩ | ⟨k1, k2⟩
  · rw [if_pos k1]; decide
  · rw [if_neg k1]; omega
/-- the reference takes an argument's k-th value -/
theorem take_m (I : CI n u h cs0 ms0 cs ms) (hi : i < n) {k : Nat} (hk : k < one1 (aR cs i) * one1 (aC cs i)) : Tr (f_mo_take ms (nI (ap cs i k))) (fun m => CI n u h cs0 ms0 cs m ∧ Taken (av cs i k) m ∧ Ch [20, 21, 27] [13] ms m) := by
  obtain ⟨g1, g2, g3, g4, g5, g6, g7, g8, g9, g10, g11, g12⟩ := geo I.1 hi
  have hv : VR (av cs i k) (ms.1 9) (ms.1 9) (ms.1 10) (ms.1 11) (ms.1 3) (ms.2.1 12) h (ap cs i k) := by
    unfold av ap
    rcases one1_mul _ _ g9 with ⟨k1, k2⟩ | ⟨k1, k2⟩
    · rw [if_pos k1, if_neg (by rw [k1]; omega)]
      exact Or.inl ⟨rfl, I.1.2.2.2.2.2.2.2.2.2.2.1⟩
    · rw [if_neg k1, if_pos (by omega)]
      exact I.1.2.2.2.2.2.2.2.2.2.2.2 _ (by omega)
  exact Tr_mono (takeM hv (ap_lt I.1 hi hk) I.2.2.2.2) (fun m ⟨m1, m2⟩ => ⟨CI_ref I m2 (by decide) (by decide) (by decide), m1, m2⟩)
theorem valueAt_m (hA : Rargs n u h cs ms) (hi : i < n) {r c : Nat} (hr : r < one1 (aR cs i)) (hc : c < one1 (aC cs i)) : f_mo_valueAt ms (nI i) (nI r) (nI c) = some (nI (ap cs i (r * one1 (aC cs i) + c))) := by
  obtain ⟨g1, g2, g3, g4, g5, g6, g7, g8, g9, g10, g11, g12⟩ := geo hA hi
  refine e_c (isOut_m hA hi) ?_
  unfold ap
  by_cases g : aR cs i = 0
  · rw [if_pos g, if_pos g]; exact e_bf (by decide) rfl
  · rw [if_neg g, if_neg g]
    refine e_bt rfl (e_g (inb_of (by omega) (by decide)) (e_g (inb_of (by omega) (by decide)) ?_))
    rw [nI_clamp (by omega), g6, g5, nI_mul, nI_add, nI_add]
    have e : one1 (aC cs i) = aC cs i := by unfold one1; rw [if_neg (fun z => g (g9.mpr z))]
    rw [e, Nat.mul_comm (aC cs i) r, Nat.add_assoc]
theorem one1_pos (r : Nat) : 0 < one1 r := by
  unfold one1
  split <;> omega
theorem takeOf_m (I : CI n u h cs0 ms0 cs ms) (hi : i < n) : Tr (f_mo_takeOf ms (nI i)) (fun m => CI n u h cs0 ms0 cs m ∧ Taken (av cs i 0) m ∧ Ch [20, 21, 27] [13] ms m) := by
  have h0 := valueAt_m I.1 hi (r := 0) (c := 0) (one1_pos _) (one1_pos _)
  rw [Nat.zero_mul, Nat.add_zero] at h0
  exact Tr_jce h0 (Tr_jc (take_m I hi (Nat.mul_pos (one1_pos _) (one1_pos _))) (fun m hm => Tr_some hm))
theorem av_cf {a b : CS} (h : Cf a b) {i k : Nat} (hi : i < 30) : av b i k = av a i k := by
  unfold av aR aC aF
  rw [Cf_row h (by omega) (by simp; omega), h.1]
theorem aR_cf {a b : CS} (h : Cf a b) {i : Nat} (hi : i < 30) : aR b i = aR a i ∧ aC b i = aC a i ∧ aF b i = aF a i := by
  unfold aR aC aF
  rw [Cf_row h (by omega) (by simp; omega)]
  exact ⟨rfl, rfl, rfl⟩
end GEO
/-! ### exact results -/
theorem q_min : FP.Core.b64.qmin = -1074 := by decide +kernel
theorem q_max : FP.Core.b64.qmax = 971 := by decide +kernel
theorem rnd_exact {s : Bool} {a c : Nat} {e q : Int} (hc : c < 2 ^ 53) (h1 : -1074 ≤ q) (h2 : q ≤ 971) (h : a * 2 ^ (e - q).toNat = c * 2 ^ (q - e).toNat) : ∃ c' q', FP.Core.round FP.Core.b64 (.fin s a e) = .fin s c' q' ∧ FP.Core.inUnits c' q' FP.Core.b64.qmin = c * 2 ^ (q + 1074).toNat := by
  obtain ⟨c', q', r1, r2⟩ := FP.Core.round_exact FP.Core.good_b64 s (c := c) (q := q) hc (by rw [q_min]; omega) (by rw [q_max]; omega)
  refine ⟨c', q', ?_, ?_⟩
  · rw [← r1]
    show FP.Core.roundRatio FP.Core.b64 s a 1 e = FP.Core.roundRatio FP.Core.b64 s c 1 q
    refine FP.Core.roundRatio_congr (by decide) (by decide) ?_
    rw [Nat.mul_one, Nat.mul_one]
    exact h
  · rw [r2]
    show c * 2 ^ (q - FP.Core.b64.qmin).toNat = _
    rw [q_min, show q - -1074 = q + 1074 by omega]
theorem pow_move {a c x y : Nat} {e q k : Int} (hx : (e + k).toNat = x) (hy : (q + k).toNat = y) (he : 0 ≤ e + k) (hq : 0 ≤ q + k) (h : a * 2 ^ x = c * 2 ^ y) : a * 2 ^ (e - q).toNat = c * 2 ^ (q - e).toNat := by
  rcases Int.le_total e q with g | g
  · rw [show (e - q).toNat = 0 by omega, Nat.pow_zero, Nat.mul_one]
    rw [show y = (q - e).toNat + x by omega, Nat.pow_add, ← Nat.mul_assoc] at h
    exact Nat.eq_of_mul_eq_mul_right (Nat.two_pow_pos x) h
  · rw [show (q - e).toNat = 0 by omega, Nat.pow_zero, Nat.mul_one]
    rw [show x = (e - q).toNat + y by omega, Nat.pow_add, ← Nat.mul_assoc] at h
    exact Nat.eq_of_mul_eq_mul_right (Nat.two_pow_pos y) h
theorem DV_add {a b : UInt64} {za zb : Int} {c : Nat} {q : Int} (ha : DV a za) (hb : DV b zb) (hc : c < 2 ^ 53) (h1 : -1074 ≤ q) (h2 : q ≤ 971) (h : (za + zb).natAbs = c * 2 ^ (q + 1074).toNat) : DV (FP.dadd a b) (za + zb) := by
  obtain ⟨⟨s, ca, qa, ea⟩, va⟩ := ha
  obtain ⟨⟨t, cb, qb, eb⟩, vb⟩ := hb
  have fa := FP.Core.val64_fits a
  have fb := FP.Core.val64_fits b
  rw [ea] at fa va
  rw [eb] at fb vb
  obtain ⟨sg, m, e, s1, s2, s3⟩ := FP.Core.sum_units fa fb
  rw [va, vb] at s3
  rw [q_min] at s2
  have hm : m * 2 ^ (e + 1074).toNat = c * 2 ^ (q + 1074).toNat := by
    rw [← h, ← s3, FP.Core.natAbs_signed]
    show _ = m * 2 ^ (e - FP.Core.b64.qmin).toNat
    rw [q_min, show e - -1074 = e + 1074 by omega]
  obtain ⟨c', q', r1, r2⟩ := rnd_exact (s := sg) hc h1 h2 (pow_move (k := 1074) rfl rfl (by omega) (by omega) hm)
  have ev : FP.Core.val64 (FP.dadd a b) = .fin sg c' q' := by
    have := FP.Core.val64_dadd a b
    rw [ea, eb, s1, r1] at this
    exact this
  refine ⟨⟨_, _, _, ev⟩, ?_⟩
  rw [ev, ← s3]
  show FP.Core.signed sg (FP.Core.inUnits c' q' FP.Core.b64.qmin) = _
  rw [r2, ← hm]
  show _ = FP.Core.signed sg (m * 2 ^ (e - FP.Core.b64.qmin).toNat)
  rw [q_min, show e - -1074 = e + 1074 by omega]
theorem DV_mul {a b : UInt64} {za zb w : Int} {c : Nat} {q : Int} (ha : DV a za) (hb : DV b zb) (hw : za * zb = w * UU) (hc : c < 2 ^ 53) (h1 : -1074 ≤ q) (h2 : q ≤ 971) (h : w.natAbs = c * 2 ^ (q + 1074).toNat) : DV (FP.dmul a b) w := by
  obtain ⟨⟨s, ca, qa, ea⟩, va⟩ := ha
  obtain ⟨⟨t, cb, qb, eb⟩, vb⟩ := hb
  have fa := FP.Core.val64_fits a
  have fb := FP.Core.val64_fits b
  rw [ea] at fa va
  rw [eb] at fb vb
  obtain ⟨s1, s2, s3⟩ := FP.Core.product_units fa fb
  rw [q_min] at s2 s3
  have na : FP.Core.zmag FP.Core.b64 (.fin s ca qa) = za.natAbs := by rw [← va]; exact (FP.Core.natAbs_signed s _).symm
  have nb : FP.Core.zmag FP.Core.b64 (.fin t cb qb) = zb.natAbs := by rw [← vb]; exact (FP.Core.natAbs_signed t _).symm
  rw [na, nb, ← Int.natAbs_mul, hw, Int.natAbs_mul, h] at s3
  have hm : (ca * cb) * 2 ^ (qa + qb + 2148).toNat = c * 2 ^ (q + 2148).toNat := by
    have e1 : FP.Core.inUnits (ca * cb) (qa + qb) (2 * -1074) = (ca * cb) * 2 ^ (qa + qb + 2148).toNat := by
      show _ * 2 ^ (qa + qb - 2 * -1074).toNat = _
      rw [show qa + qb - 2 * -1074 = qa + qb + 2148 by omega]
    rw [← e1, s3, show (q + 2148).toNat = (q + 1074).toNat + 1074 by omega, Nat.pow_add, Nat.mul_assoc]
    rfl
  obtain ⟨c', q', r1, r2⟩ := rnd_exact (s := (s != t)) hc h1 h2 (pow_move (k := 2148) rfl rfl (by omega) (by omega) hm)
  have ev : FP.Core.val64 (FP.dmul a b) = .fin (s != t) c' q' := by
    have := FP.Core.val64_dmul a b
    rw [ea, eb, s1, r1] at this
    exact this
  refine ⟨⟨_, _, _, ev⟩, ?_⟩
  rw [ev]
  show FP.Core.signed (s != t) (FP.Core.inUnits c' q' FP.Core.b64.qmin) = _
  rw [r2, ← h]
  have key : FP.Core.signed (s != t) (za.natAbs * zb.natAbs) = w * UU := by
    rw [FP.Core.signed_xor, ← na, ← nb]
    have e1 : FP.Core.signed s (FP.Core.zmag FP.Core.b64 (.fin s ca qa)) = za := va
    have e2 : FP.Core.signed t (FP.Core.zmag FP.Core.b64 (.fin t cb qb)) = zb := vb
    rw [e1, e2, hw]
  rw [← Int.natAbs_mul, hw, Int.natAbs_mul, show UU.natAbs = FP.Core.one64 from rfl, FP.Core.signed_mul] at key
  exact Int.eq_of_mul_eq_mul_right (show (FP.Core.one64 : Int) ≠ 0 by have := FP.Core.one64_pos; omega) key
