/-! ### whole numbers, below 0 too -/
def iZ (i : Int) : Int32 := Int32.ofInt i
def jZ (i : Int) : Int64 := Int64.ofInt i
theorem iZ_nI (n : Nat) : nI n = iZ (n : Int) := Int32.ofInt_eq_ofNat.symm
theorem jZ_lN (n : Nat) : lN n = jZ (n : Int) := Int64.ofInt_eq_ofNat.symm
theorem iZ_toInt {i : Int} (h1 : -2147483648 ≤ i) (h2 : i < 2147483648) : (iZ i).toInt = i := Int32.toInt_ofInt_of_le h1 h2
theorem jZ_toInt {i : Int} (h1 : -9223372036854775808 ≤ i) (h2 : i < 9223372036854775808) : (jZ i).toInt = i := Int64.toInt_ofInt_of_le h1 h2
theorem iZ_add (a b : Int) : iZ a + iZ b = iZ (a + b) := (Int32.ofInt_add a b).symm
theorem iZ_sub (a b : Int) : iZ a - iZ b = iZ (a - b) := (Int32.ofInt_sub a b).symm
theorem iZ_mul (a b : Int) : iZ a * iZ b = iZ (a * b) := (Int32.ofInt_mul a b).symm
theorem iZ_neg (a : Int) : -(iZ a) = iZ (-a) := (Int32.ofInt_neg a).symm
theorem jZ_add (a b : Int) : jZ a + jZ b = jZ (a + b) := (Int64.ofInt_add a b).symm
theorem jZ_sub (a b : Int) : jZ a - jZ b = jZ (a - b) := (Int64.ofInt_sub a b).symm
theorem jZ_mul (a b : Int) : jZ a * jZ b = jZ (a * b) := (Int64.ofInt_mul a b).symm
theorem iZ_j {i : Int} (h1 : -2147483648 ≤ i) (h2 : i < 2147483648) : (iZ i).toInt64 = jZ i := by
  have h : Int32.maxValue.toInt = 2147483647 := rfl
  exact Int32.toInt64_ofInt h1 (by omega)
theorem jZ_i (i : Int) : (jZ i).toInt32 = iZ i := Int64.toInt32_ofInt
theorem iZ_self (x : Int32) : x = iZ x.toInt := (Int32.ofInt_toInt x).symm
theorem iZ_leI {a b : Int} (h1 : -2147483648 ≤ a) (h2 : a < 2147483648) (h3 : -2147483648 ≤ b) (h4 : b < 2147483648) : iZ a ≤ iZ b ↔ a ≤ b := by rw [Int32.le_iff_toInt_le, iZ_toInt h1 h2, iZ_toInt h3 h4]
theorem iZ_ltI {a b : Int} (h1 : -2147483648 ≤ a) (h2 : a < 2147483648) (h3 : -2147483648 ≤ b) (h4 : b < 2147483648) : iZ a < iZ b ↔ a < b := by rw [Int32.lt_iff_toInt_lt, iZ_toInt h1 h2, iZ_toInt h3 h4]
theorem iZ_eqI {a b : Int} (h1 : -2147483648 ≤ a) (h2 : a < 2147483648) (h3 : -2147483648 ≤ b) (h4 : b < 2147483648) : iZ a = iZ b ↔ a = b := ⟨fun z => by have := congrArg Int32.toInt z; rw [iZ_toInt h1 h2, iZ_toInt h3 h4] at this; exact this, fun z => by rw [z]⟩
theorem tdiv_bd {a b : Int} (hb : 0 < b) : (0 ≤ a → 0 ≤ Int.tdiv a b ∧ Int.tdiv a b ≤ a) ∧ (a ≤ 0 → a ≤ Int.tdiv a b ∧ Int.tdiv a b ≤ 0) := by
  have pos : ∀ c : Int, 0 ≤ c → 0 ≤ Int.tdiv c b ∧ Int.tdiv c b ≤ c := fun c hc => by
    rw [Int.tdiv_eq_ediv_of_nonneg hc]
    exact ⟨Int.ediv_nonneg hc (by omega), Int.ediv_le_self b hc⟩
  refine ⟨pos a, fun h => ?_⟩
  have := pos (-a) (by omega)
  rw [Int.neg_tdiv] at this
  omega
theorem iZ_div {a b : Int} (hb : 0 < b) (hb2 : b < 2147483648) (h1 : -2147483648 ≤ a) (h2 : a < 2147483648) : iZ a / iZ b = iZ (Int.tdiv a b) := by
  apply Int32.toInt_inj.mp
  have hne : iZ b ≠ -1 := fun z => by
    have := congrArg Int32.toInt z
    rw [iZ_toInt (by omega) hb2] at this
    have h9 : (-1 : Int32).toInt = -1 := by decide
    omega
  obtain ⟨p1, p2⟩ := tdiv_bd (a := a) hb
  rw [Int32.toInt_div_of_ne_right _ _ hne, iZ_toInt h1 h2, iZ_toInt (by omega) hb2]
  rcases Int.le_total 0 a with g | g
  · have := p1 g
    rw [iZ_toInt (by omega) (by omega)]
  · have := p2 g
    rw [iZ_toInt (by omega) (by omega)]
theorem jZ_div {a b : Int} (hb : 0 < b) (hb2 : b < 2147483648) (h1 : -2147483648 ≤ a) (h2 : a < 2147483648) : jZ a / jZ b = jZ (Int.tdiv a b) := by
  apply Int64.toInt_inj.mp
  have hne : jZ b ≠ -1 := fun z => by
    have := congrArg Int64.toInt z
    rw [jZ_toInt (by omega) (by omega)] at this
    have h9 : (-1 : Int64).toInt = -1 := by decide
    omega
  obtain ⟨p1, p2⟩ := tdiv_bd (a := a) hb
  rw [Int64.toInt_div_of_ne_right _ _ hne, jZ_toInt (by omega) (by omega), jZ_toInt (by omega) (by omega)]
  rcases Int.le_total 0 a with g | g
  · have := p1 g
    rw [jZ_toInt (by omega) (by omega)]
  · have := p2 g
    rw [jZ_toInt (by omega) (by omega)]
theorem xor_sign {p q : Int32} (hq : 0 ≤ q) : (0 ≤ p ^^^ q) ↔ 0 ≤ p := by
  have key : ∀ x : Int32, (0 ≤ x) ↔ x.toBitVec.msb = false := fun x => by
    rw [Int32.le_iff_toInt_le, BitVec.msb_eq_toInt, Int32.toInt_toBitVec]
    have h0 : (0 : Int32).toInt = 0 := by decide
    rw [h0]
    constructor
    · intro h; exact decide_eq_false (by omega)
    · intro h; have := of_decide_eq_false h; omega
  rw [key, key, Int32.toBitVec_xor, BitVec.msb_xor, (key q).mp hq, Bool.xor_false]
/-- floor division and what is left, by the truncating ones -/
theorem tdiv_floor {a b : Int} (hb : 0 < b) : (0 ≤ a → Int.tdiv a b = a / b ∧ a - Int.tdiv a b * b = a % b) ∧ (a < 0 → (Int.tdiv a b * b = a → Int.tdiv a b = a / b ∧ a % b = 0) ∧ (¬ Int.tdiv a b * b = a → Int.tdiv a b - 1 = a / b ∧ a - Int.tdiv a b * b + b = a % b ∧ ¬ a - Int.tdiv a b * b = 0)) := by
  have key : ∀ q r : Int, r + b * q = a → 0 ≤ r → r < b → q = a / b ∧ r = a % b := fun q r h1 h2 h3 => by
    obtain ⟨k1, k2⟩ := (Int.ediv_emod_unique hb).mpr ⟨h1, h2, h3⟩
    exact ⟨k1.symm, k2.symm⟩
  have e := Int.tmod_add_tdiv_mul a b
  refine ⟨fun h => ?_, fun h => ⟨fun g => ?_, fun g => ?_⟩⟩
  · have h1 := Int.tmod_nonneg b h
    have h2 := Int.tmod_lt_of_pos a hb
    obtain ⟨k1, k2⟩ := key (Int.tdiv a b) (Int.tmod a b) (by rw [Int.mul_comm]; exact e) h1 h2
    exact ⟨k1, by omega⟩
  · obtain ⟨k1, k2⟩ := key (Int.tdiv a b) 0 (by rw [Int.mul_comm, Int.zero_add]; exact g) (Int.le_refl _) hb
    exact ⟨k1, k2.symm⟩
  · have h1 := Int.tmod_nonneg b (show 0 ≤ -a by omega)
    have h2 := Int.tmod_lt_of_pos (-a) hb
    rw [Int.neg_tmod] at h1 h2
    obtain ⟨k1, k2⟩ := key (Int.tdiv a b - 1) (Int.tmod a b + b) (by rw [Int.mul_sub, Int.mul_one, Int.mul_comm]; omega) (by omega) (by omega)
    exact ⟨k1, by omega, by omega⟩
theorem nz_iZ {b : Int} (hb : 0 < b) (hb2 : b < 2147483648) : nz (iZ b) = true := decide_eq_true (fun z => by
  have := congrArg Int32.toInt z
  rw [iZ_toInt (by omega) hb2] at this
  have h9 : (0 : Int32).toInt = 0 := by decide
  omega)
theorem pos_iZ {a : Int} (h1 : -2147483648 ≤ a) (h2 : a < 2147483648) : (0 ≤ iZ a) ↔ 0 ≤ a := by
  have h9 : (0 : Int32).toInt = 0 := by decide
  rw [Int32.le_iff_toInt_le, iZ_toInt h1 h2, h9]
theorem floorDiv_c {a b : Int} (hb : 0 < b) (hb2 : b < 2147483648) (h1 : -2147483648 ≤ a) (h2 : a < 2147483648) : f_ma_floorDiv (iZ a) (iZ b) = some (iZ (a / b)) := by
  obtain ⟨t1, t2⟩ := tdiv_floor (a := a) hb
  obtain ⟨p1, p2⟩ := tdiv_bd (a := a) hb
  have hx := xor_sign (p := iZ a) (q := iZ b) ((pos_iZ (by omega) hb2).mpr (by omega))
  refine e_g (nz_iZ hb hb2) (e_n ?_)
  rw [iZ_div hb hb2 h1 h2]
  by_cases h0 : 0 ≤ a
  · exact e_bt (hx.mpr ((pos_iZ h1 h2).mpr h0)) (by rw [(t1 h0).1])
  · have hp := p2 (by omega)
    refine e_bf (fun z => h0 ((pos_iZ h1 h2).mp (hx.mp z))) ?_
    rw [iZ_mul]
    have e := Int.tmod_add_tdiv_mul a b
    have m1 := Int.tmod_nonneg b (show 0 ≤ -a by omega)
    have m2 := Int.tmod_lt_of_pos (-a) hb
    rw [Int.neg_tmod] at m1 m2
    by_cases hm : Int.tdiv a b * b = a
    · exact e_bt (by rw [hm]) (by rw [((t2 (by omega)).1 hm).1])
    · refine e_bf (fun z => hm ?_) ?_
      · have z2 := congrArg Int32.toInt z
        rw [iZ_toInt h1 h2] at z2
        have hb3 : Int.tdiv a b * b < 2147483648 + 2147483648 ∧ -2147483648 ≤ Int.tdiv a b * b := by omega
        by_cases hlt : Int.tdiv a b * b < 2147483648
        · rw [iZ_toInt hb3.2 hlt] at z2; exact z2
        · exfalso
          have : Int.tdiv a b * b ≤ 0 := by
            have := Int.mul_le_mul_of_nonneg_right hp.2 (show 0 ≤ b by omega)
            omega
          omega
      · show some (iZ (Int.tdiv a b) - iZ 1) = _
        rw [iZ_sub, ((t2 (by omega)).2 hm).1]
theorem floorMod_c {a b : Int} (hb : 0 < b) (hb2 : b < 2147483648) (h1 : -2147483648 ≤ a) (h2 : a < 2147483648) : f_ma_floorMod (iZ a) (iZ b) = some (iZ (a % b)) := by
  obtain ⟨t1, t2⟩ := tdiv_floor (a := a) hb
  obtain ⟨p1, p2⟩ := tdiv_bd (a := a) hb
  have hx := xor_sign (p := iZ a) (q := iZ b) ((pos_iZ (by omega) hb2).mpr (by omega))
  refine e_g (nz_iZ hb hb2) (e_n ?_)
  rw [iZ_div hb hb2 h1 h2, iZ_mul, iZ_sub]
  by_cases h0 : 0 ≤ a
  · exact e_bt (hx.mpr ((pos_iZ h1 h2).mpr h0)) (by rw [(t1 h0).2])
  · refine e_bf (fun z => h0 ((pos_iZ h1 h2).mp (hx.mp z))) ?_
    have e := Int.tmod_add_tdiv_mul a b
    have m1 := Int.tmod_nonneg b (show 0 ≤ -a by omega)
    have m2 := Int.tmod_lt_of_pos (-a) hb
    rw [Int.neg_tmod] at m1 m2
    by_cases hm : Int.tdiv a b * b = a
    · have e0 : a - Int.tdiv a b * b = 0 := by omega
      rw [e0]
      exact e_bt rfl (by rw [((t2 (by omega)).1 hm).2])
    · obtain ⟨k1, k2, k3⟩ := (t2 (by omega)).2 hm
      refine e_bf (fun z => k3 ?_) ?_
      · have z2 := congrArg Int32.toInt z
        rw [iZ_toInt (by omega) (by omega)] at z2
        have h9 : (0 : Int32).toInt = 0 := by decide
        omega
      · rw [iZ_add, k2]
/-! ### the calendar -/
def leapB (y : Int) : Bool := decide (y % 4 = 0) && (!decide (y % 100 = 0) || decide (y % 400 = 0))
theorem leap_iff {y : Int} : leapB y = true ↔ y % 4 = 0 ∧ (¬ y % 100 = 0 ∨ y % 400 = 0) := by
  unfold leapB
  rw [Bool.and_eq_true, Bool.or_eq_true, decide_eq_true_eq, decide_eq_true_eq, Bool.not_eq_true', decide_eq_false_iff_not]
theorem b01_t {b : Bool} (h : b = true) : b01 b = 1 := by rw [h]; rfl
theorem b01_f {b : Bool} (h : ¬ b = true) : b01 b = 0 := by rw [Bool.eq_false_iff.mpr h]; rfl
theorem isLeap_c {y : Int} (h1 : -1000000 ≤ y) (h2 : y ≤ 1000000) : f_ca_isLeap (iZ y) = some (b01 (leapB y)) := by
  have z0 : ∀ k : Int, 0 ≤ k → k < 1000 → (iZ k = 0 ↔ k = 0) := fun k a b => iZ_eqI (b := 0) (by omega) (by omega) (by omega) (by omega)
  have f4 : f_ma_floorMod (iZ y) 4 = some (iZ (y % 4)) := floorMod_c (b := 4) (by omega) (by omega) (by omega) (by omega)
  have f100 : f_ma_floorMod (iZ y) 100 = some (iZ (y % 100)) := floorMod_c (b := 100) (by omega) (by omega) (by omega) (by omega)
  have f400 : f_ma_floorMod (iZ y) 400 = some (iZ (y % 400)) := floorMod_c (b := 400) (by omega) (by omega) (by omega) (by omega)
  refine e_c f4 ?_
  by_cases a : y % 4 = 0
  · refine e_bt ((z0 _ (by omega) (by omega)).mpr a) (e_c f100 ?_)
    by_cases b : y % 100 = 0
    · refine e_bt ((z0 _ (by omega) (by omega)).mpr b) (e_c f400 ?_)
      by_cases c : y % 400 = 0
      · rw [b01_t (leap_iff.mpr ⟨a, Or.inr c⟩)]
        exact e_bt ((z0 _ (by omega) (by omega)).mpr c) rfl
      · rw [b01_f (fun z => (leap_iff.mp z).2.elim (fun w => w b) c)]
        exact e_bf (fun z => c ((z0 _ (by omega) (by omega)).mp z)) rfl
    · rw [b01_t (leap_iff.mpr ⟨a, Or.inl b⟩)]
      exact e_bf (fun z => b ((z0 _ (by omega) (by omega)).mp z)) rfl
  · rw [b01_f (fun z => a (leap_iff.mp z).1)]
    exact e_bf (fun z => a ((z0 _ (by omega) (by omega)).mp z)) rfl
theorem isLeap_m {y : Nat} (h : y ≤ 1000000) : f_mo_isLeap (nI y) = some (b01 (leapB y)) := by
  have f : ∀ k : Nat, 0 < k → k < 1000 → (nI y - nI y / nI k * nI k = 0 ↔ (y : Int) % (k : Int) = 0) := fun k a b => by
    rw [nI_mod (by omega) (by omega)]
    have := Nat.mod_lt y a
    refine (nI_eq (b := 0) (by omega) (by decide)).trans ?_
    omega
  have f4 := f 4 (by decide) (by decide)
  have f100 := f 100 (by decide) (by decide)
  have f400 := f 400 (by decide) (by decide)
  by_cases a : (y : Int) % 4 = 0
  · refine e_bt (f4.mpr a) ?_
    by_cases b : (y : Int) % 100 = 0
    · refine e_bt (f100.mpr b) ?_
      by_cases c : (y : Int) % 400 = 0
      · rw [b01_t (leap_iff.mpr ⟨a, Or.inr c⟩)]
        exact e_bt (f400.mpr c) rfl
      · rw [b01_f (fun z => (leap_iff.mp z).2.elim (fun w => w b) c)]
        exact e_bf (fun z => c (f400.mp z)) rfl
    · rw [b01_t (leap_iff.mpr ⟨a, Or.inl b⟩)]
      exact e_bf (fun z => b (f100.mp z)) rfl
  · rw [b01_f (fun z => a (leap_iff.mp z).1)]
    exact e_bf (fun z => a (f4.mp z)) rfl
def bM (i : Int) : Int := if i = 0 then 0 else if i = 1 then 31 else if i = 2 then 59 else if i = 3 then 90 else if i = 4 then 120 else if i = 5 then 151 else if i = 6 then 181 else if i = 7 then 212 else if i = 8 then 243 else if i = 9 then 273 else if i = 10 then 304 else 334
def gY (y : Int) : Int := (y - 1) * 365 + ((y - 1) / 4 - (y - 1) / 100 + (y - 1) / 400) - 693593
/-- leap day behind a month's beginning -/
def lD (y i : Int) : Int := if 1 < i ∧ leapB y = true then 1 else 0
/-- the first day of a month -/
def fD (m : Int) : Int := gY (m / 12) + bM (m % 12) + lD (m / 12) (m % 12)
def dN (y i : Int) : Int := if i = 1 then (if leapB y = true then 29 else 28) else if i = 3 ∨ i = 5 ∨ i = 8 ∨ i = 10 then 30 else 31
theorem fD_at {y i : Int} (h0 : 0 ≤ i) (h : i < 12) : fD (12 * y + i) = gY y + bM i + lD y i := by
  unfold fD
  rw [show (12 * y + i) / 12 = y by omega, show (12 * y + i) % 12 = i by omega]
theorem i12 {i : Int} (h0 : 0 ≤ i) (h : i < 12) : i = 0 ∨ i = 1 ∨ i = 2 ∨ i = 3 ∨ i = 4 ∨ i = 5 ∨ i = 6 ∨ i = 7 ∨ i = 8 ∨ i = 9 ∨ i = 10 ∨ i = 11 := by omega
theorem gY_succ (y : Int) : gY (y + 1) = gY y + 365 + (if leapB y = true then 1 else 0) := by
  unfold gY
  by_cases h : leapB y = true
  · rw [if_pos h]
    have := leap_iff.mp h
    omega
  · rw [if_neg h]
    have : ¬ (y % 4 = 0 ∧ (¬ y % 100 = 0 ∨ y % 400 = 0)) := fun z => h (leap_iff.mpr z)
    omega
theorem fD_step {y i : Int} (h0 : 0 ≤ i) (h : i < 12) : fD (12 * y + i + 1) = fD (12 * y + i) + dN y i := by
  rw [fD_at h0 h]
  by_cases h11 : i = 11
  · subst h11
    rw [show 12 * y + 11 + 1 = 12 * (y + 1) + 0 by omega, fD_at (by omega) (by omega), gY_succ]
    unfold lD dN
    by_cases hl : leapB y = true
    · simp [bM, hl]; omega
    · simp [bM, hl]; omega
  · rw [show 12 * y + i + 1 = 12 * y + (i + 1) by omega, fD_at (by omega) (by omega)]
    unfold lD dN
    rcases i12 h0 h with rfl | rfl | rfl | rfl | rfl | rfl | rfl | rfl | rfl | rfl | rfl | rfl
    all_goals
      by_cases hl : leapB y = true
      · simp [bM, hl] <;> omega
      · simp [bM, hl] <;> omega
theorem dN_b (y i : Int) : 28 ≤ dN y i ∧ dN y i ≤ 31 := by
  unfold dN
  split
  · split <;> omega
  · split <;> omega
theorem fD_up (m : Int) : fD m + 28 ≤ fD (m + 1) ∧ fD (m + 1) ≤ fD m + 31 := by
  have := fD_step (y := m / 12) (i := m % 12) (by omega) (by omega)
  rw [show 12 * (m / 12) + m % 12 = m by omega] at this
  have := dN_b (m / 12) (m % 12)
  omega
theorem fD_ups (m : Int) : ∀ n : Nat, fD m + 28 * (n : Int) ≤ fD (m + (n : Int))
  | 0 => by
    have : m + ((0 : Nat) : Int) = m := by omega
    rw [this]
    omega
  | n + 1 => by
    have h1 := fD_ups m n
    have h2 := (fD_up (m + (n : Int))).1
    rw [show m + ((n + 1 : Nat) : Int) = m + (n : Int) + 1 by omega]
    omega
theorem fD_mono {a b : Int} (h : a ≤ b) : fD a ≤ fD b := by
  have := fD_ups a (b - a).toNat
  rw [show a + ((b - a).toNat : Int) = b by omega] at this
  omega
theorem fD_strict {a b : Int} (h : a < b) : fD a + 28 ≤ fD b := by
  have h1 := (fD_up a).1
  have h2 := fD_mono (show a + 1 ≤ b by omega)
  omega
theorem fD_uniq {a b d : Int} (h1 : fD a ≤ d) (h2 : d < fD (a + 1)) (h3 : fD b ≤ d) (h4 : d < fD (b + 1)) : a = b := by
  rcases Int.lt_trichotomy a b with g | g | g
  · have := fD_mono (show a + 1 ≤ b by omega)
    omega
  · exact g
  · have := fD_mono (show b + 1 ≤ a by omega)
    omega
/-- a month's first day lies near its share of days -/
theorem fD_lin (m : Int) : 146097 * (m - 12) - 19200 ≤ 4800 * (fD m + 693593) ∧ 4800 * (fD m + 693593) ≤ 146097 * (m - 12) + 9600 := by
  have e : m = 12 * (m / 12) + m % 12 := by omega
  generalize hy : m / 12 = y at e
  generalize hi : m % 12 = i at e
  have h0 : 0 ≤ i := by omega
  have h1 : i < 12 := by omega
  rw [e, fD_at h0 h1]
  unfold gY lD
  by_cases hl : leapB y = true
  · have hl2 := leap_iff.mp hl
    rcases i12 h0 h1 with rfl | rfl | rfl | rfl | rfl | rfl | rfl | rfl | rfl | rfl | rfl | rfl
    all_goals
      simp [bM, hl]
      omega
  · have hl2 : ¬ (y % 4 = 0 ∧ (¬ y % 100 = 0 ∨ y % 400 = 0)) := fun z => hl (leap_iff.mpr z)
    rcases i12 h0 h1 with rfl | rfl | rfl | rfl | rfl | rfl | rfl | rfl | rfl | rfl | rfl | rfl
    all_goals
      simp [bM, hl]
      omega
theorem ZT12_ok : ∀ k, k < 12 → ZT12.getD k 0 = iZ (bM (k : Int)) := by decide
theorem fD_bd {m : Int} (h1 : -1000000 ≤ m) (h2 : m ≤ 1000000) : -40000000 ≤ fD m ∧ fD m ≤ 40000000 := by
  have := fD_lin m
  omega
theorem gY_bd {y : Int} (h1 : -100000 ≤ y) (h2 : y ≤ 100000) : -40000000 ≤ gY y ∧ gY y ≤ 40000000 := by
  unfold gY
  omega
theorem firstOf_c {m : Int} (h1 : -1000000 ≤ m) (h2 : m ≤ 1000000) : f_ca_firstOf (iZ m) = some (iZ (fD m)) := by
  have f1 : f_ma_floorDiv (iZ m) 12 = some (iZ (m / 12)) := floorDiv_c (b := 12) (by omega) (by omega) (by omega) (by omega)
  have f2 : f_ma_floorMod (iZ m) 12 = some (iZ (m % 12)) := floorMod_c (b := 12) (by omega) (by omega) (by omega) (by omega)
  have e1 : iZ (m / 12) - 1 = iZ (m / 12 - 1) := iZ_sub _ 1
  have g4 : f_ma_floorDiv (iZ (m / 12 - 1)) 4 = some (iZ ((m / 12 - 1) / 4)) := floorDiv_c (b := 4) (by omega) (by omega) (by omega) (by omega)
  have g100 : f_ma_floorDiv (iZ (m / 12 - 1)) 100 = some (iZ ((m / 12 - 1) / 100)) := floorDiv_c (b := 100) (by omega) (by omega) (by omega) (by omega)
  have g400 : f_ma_floorDiv (iZ (m / 12 - 1)) 400 = some (iZ ((m / 12 - 1) / 400)) := floorDiv_c (b := 400) (by omega) (by omega) (by omega) (by omega)
  obtain ⟨k, hk⟩ : ∃ k : Nat, m % 12 = (k : Int) := ⟨(m % 12).toNat, by omega⟩
  have hk12 : k < 12 := by omega
  have fin : ∀ z : Int, z = lD (m / 12) (m % 12) → ca_firstOf_57 (iZ (m % 12)) (iZ (m / 12 - 1)) (iZ ((m / 12 - 1) / 4) - iZ ((m / 12 - 1) / 100) + iZ ((m / 12 - 1) / 400)) (iZ z) = some (iZ (fD m)) := fun z hz => by
    have hin : inb (iZ (m % 12)) 12 = true := by rw [hk, ← iZ_nI]; exact inb_of hk12 (by decide)
    refine e_g hin ?_
    have hcl : (iZ (m % 12)).toNatClampNeg = k := by rw [hk, ← iZ_nI]; exact nI_clamp (by omega)
    rw [hcl, ZT12_ok k hk12]
    show some (iZ (m / 12 - 1) * iZ 365 + (iZ ((m / 12 - 1) / 4) - iZ ((m / 12 - 1) / 100) + iZ ((m / 12 - 1) / 400)) - iZ 693593 + iZ (bM (k : Int)) + iZ z) = _
    rw [iZ_mul, iZ_sub, iZ_add, iZ_add, iZ_sub, iZ_add, iZ_add, ← hk, hz]
    rfl
  refine e_c f1 (e_c f2 (e_n ?_))
  rw [e1]
  refine e_c g4 (e_c g100 (e_c g400 (e_n ?_)))
  by_cases hi : m % 12 ≤ 1
  · refine e_bt ((iZ_leI (b := 1) (by omega) (by omega) (by omega) (by omega)).mpr hi) (fin 0 ?_)
    unfold lD
    rw [if_neg (fun z => by omega)]
  · refine e_bf (fun z => hi ((iZ_leI (b := 1) (by omega) (by omega) (by omega) (by omega)).mp z)) (e_c (isLeap_c (by omega) (by omega)) ?_)
    cases hl : leapB (m / 12) with
    | true =>
      refine e_bf (by decide) (fin 1 ?_)
      unfold lD
      rw [if_pos ⟨by omega, hl⟩]
    | false =>
      refine e_bt rfl (fin 0 ?_)
      unfold lD
      rw [if_neg (fun z => by rw [hl] at z; cases z.2)]
theorem monthOf_c {d : Nat} (hd : d ≤ 2958466) : ∃ m : Nat, f_ca_monthOf (nI d) = some (nI m) ∧ fD m ≤ d ∧ (d : Int) < fD (m + 1) ∧ 20000 ≤ m ∧ m ≤ 130000 := by
  generalize hD : d + 693593 = D
  generalize hs : D * 4800 / 146097 = q
  have hq : q * 146097 ≤ D * 4800 ∧ D * 4800 < q * 146097 + 146097 := by omega
  have hq1 : 20000 ≤ q ∧ q ≤ 125000 := by omega
  have top := fD_lin ((q : Int) + 15)
  have bot := fD_lin ((q : Int) + 11)
  have htop : (d : Int) < fD ((q : Int) + 15) := by omega
  have hbot : fD ((q : Int) + 11) ≤ (d : Int) := by omega
  have loop : ∀ (j k m fu : Nat), k + j = 3 → m + k = q + 14 → j + 1 < fu → (d : Int) < fD ((m : Int) + 1) → ∃ r : Nat, ca_monthOf_20 fu (nI d) (nI m) (nI k) = some (nI r) ∧ fD r ≤ d ∧ (d : Int) < fD (r + 1) ∧ r ≤ m ∧ q + 11 ≤ r := by
    intro j
    induction j with
    | zero =>
      intro k m fu hk hm hf hlt
      obtain ⟨g, rfl⟩ : ∃ g, fu = g + 1 := ⟨fu - 1, by omega⟩
      have hfd : fD (m : Int) ≤ (d : Int) := by rw [show (m : Int) = (q : Int) + 11 by omega]; exact hbot
      have hb := fD_bd (m := (m : Int)) (by omega) (by omega)
      refine ⟨m, e_bf (nI_ge (b := 5) (by omega) (by decide)) (e_c (a := iZ (fD (m : Int))) (by rw [iZ_nI]; exact firstOf_c (by omega) (by omega)) (e_bt ?_ rfl)), hfd, hlt, Nat.le_refl _, by omega⟩
      rw [iZ_nI]
      exact (iZ_leI (by omega) (by omega) (by omega) (by omega)).mpr hfd
    | succ j ih =>
      intro k m fu hk hm hf hlt
      obtain ⟨g, rfl⟩ : ∃ g, fu = g + 1 := ⟨fu - 1, by omega⟩
      have hb := fD_bd (m := (m : Int)) (by omega) (by omega)
      have hfo : f_ca_firstOf (nI m) = some (iZ (fD (m : Int))) := by rw [iZ_nI]; exact firstOf_c (by omega) (by omega)
      have hcmp : iZ (fD (m : Int)) ≤ nI d ↔ fD (m : Int) ≤ (d : Int) := by rw [iZ_nI]; exact iZ_leI (by omega) (by omega) (by omega) (by omega)
      by_cases hfd : fD (m : Int) ≤ (d : Int)
      · exact ⟨m, e_bf (nI_ge (b := 5) (by omega) (by decide)) (e_c hfo (e_bt (hcmp.mpr hfd) rfl)), hfd, hlt, Nat.le_refl _, by omega⟩
      · obtain ⟨r, r1, r2, r3, r4, r5⟩ := ih (k + 1) (m - 1) g (by omega) (by omega) (by omega) (by rw [show ((m - 1 : Nat) : Int) + 1 = (m : Int) by omega]; omega)
        refine ⟨r, e_bf (nI_ge (b := 5) (by omega) (by decide)) (e_c hfo (e_bf (fun z => hfd (hcmp.mp z)) (e_n (e_n ?_)))), r2, r3, by omega, r5⟩
        rw [i_m1, nI_pre (by omega), nI_1]
        exact r1
  obtain ⟨r, r1, r2, r3, r4, r5⟩ := loop 3 0 (q + 14) FU rfl rfl (by decide) (by rw [show ((q + 14 : Nat) : Int) + 1 = (q : Int) + 15 by omega]; exact htop)
  refine ⟨r, e_n ?_, r2, r3, by omega, by omega⟩
  have e : ((nI d + 693593).toInt64 * 4800 / 146097).toInt32 + 14 = nI (q + 14) := by
    show ((nI d + nI 693593).toInt64 * lN 4800 / lN 146097).toInt32 + nI 14 = _
    rw [nI_add, hD, nI_l (by omega), lN_mul, lN_div (by omega) (by decide), lN_i, hs, nI_add]
  rw [e]
  exact r1
theorem dayInMonth_c {d m : Nat} (hd : d ≤ 2958466) (h1 : fD m ≤ d) (h2 : (d : Int) < fD (m + 1)) : f_ca_dayInMonth (nI d) = some (iZ ((d : Int) - fD m + 1)) := by
  obtain ⟨m', e, k1, k2, k3, k4⟩ := monthOf_c hd
  have : (m' : Int) = (m : Int) := fD_uniq k1 k2 h1 h2
  have hm : m' = m := by omega
  subst hm
  refine e_c e (e_c (a := iZ (fD (m' : Int))) (by rw [iZ_nI]; exact firstOf_c (by omega) (by omega)) ?_)
  show some (nI d - iZ (fD (m' : Int)) + iZ 1) = _
  rw [iZ_nI, iZ_sub, iZ_add]
