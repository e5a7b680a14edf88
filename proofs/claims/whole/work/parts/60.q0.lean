/-! ### text of a value -/
theorem u16 {c : Nat} (h : c < 65536) : ((nI c).toUInt32 % 65536).toInt32 = nI c := by
  refine nIe ?_ (by omega)
  show ((nI c).toUInt32 % 65536).toNat = _
  have e2 : (nI c).toUInt32.toNat = c := by
    show (BitVec.ofNat 32 _).toNat = _
    rw [BitVec.toNat_ofNat]
    omega
  rw [UInt32.toNat_mod, e2]
  show _ % 65536 = _
  omega
theorem isC_of {c : Nat} (h : c < 65536) : isC (nI c) = true := by
  unfold isC
  rw [nI_toInt (by omega)]
  simp only [Bool.and_eq_true, decide_eq_true_eq]
  omega
theorem getD_snoc {t : TT} {c j : Nat} (hj : j < t.length + 1) : (t ++ [c]).getD j 0 = if j = t.length then c else t.getD j 0 := by
  by_cases e : j = t.length
  · rw [if_pos e, e]
    simp [List.getD_eq_getElem?_getD]
  · rw [if_neg e, List.getD_eq_getElem?_getD, List.getD_eq_getElem?_getD, List.getElem?_append_left (by omega)]
theorem write_m {t : TT} {c : Nat} {m : GS} (ht : Txt 27 13 t m) (hl : t.length < 255) : Tr (f_mo_write m (nI c)) (fun r => Txt 27 13 (t ++ [c]) r ∧ Ch [27] [13] m r) := by
  refine Tr_jbf (fun z => ?_) (Tr_jg (by rw [ht.1]; exact inb_of (by omega) (by decide)) (Tr_jn (Tr_jn (Tr_some ⟨⟨?_, fun j hj => ?_⟩, ?_⟩))))
  · rw [ht.1] at z
    have := (nI_eq (a := t.length) (b := 255) (by omega) (by decide)).mp z
    omega
  · rw [uI_at]
    show m.1 0 27 + 1 = _
    rw [ht.1, nI_1, List.length_append]
    rfl
  · rw [List.length_append] at hj
    have hj : j < t.length + 1 := hj
    rw [getD_snoc hj, uI_off1 (by decide), ht.1, nI_clamp (by omega)]
    by_cases e : j = t.length
    · rw [if_pos e, e, uI_at]
    · rw [if_neg e, uI_ne e]
      exact ht.2 j (by omega)
  · exact Ch_f (Ch_c Ch_refl (by decide) (by decide)) (by decide)
/-- digits from the top -/
def tdig : Nat → Nat → TT
  | 0, v => [48 + v % 10]
  | j + 1, v => (48 + v / 10 ^ (j + 1) % 10) :: tdig j v
theorem tdig_snoc : ∀ (j v : Nat), tdig (j + 1) v = tdig j (v / 10) ++ [48 + v % 10]
  | 0, v => by
    show [48 + v / 10 ^ 1 % 10, 48 + v % 10] = [48 + v / 10 % 10] ++ [48 + v % 10]
    rw [Nat.pow_one]
    rfl
  | j + 1, v => by
    show (48 + v / 10 ^ (j + 2) % 10) :: tdig (j + 1) v = (48 + v / 10 / 10 ^ (j + 1) % 10) :: tdig j (v / 10) ++ [48 + v % 10]
    rw [tdig_snoc j v, Nat.div_div_eq_div_mul, ← Nat.pow_succ']
    rfl
theorem tdig_eq : ∀ (j v : Nat), v < 10 ^ (j + 1) → (j = 0 ∨ 10 ^ j ≤ v) → tdig j v = digs v
  | 0, v, h, _ => by
    rw [digs_lt (by simpa using h)]
    show [48 + v % 10] = _
    rw [Nat.mod_eq_of_lt (by simpa using h)]
  | j + 1, v, h, h2 => by
    have h3 : 10 ^ (j + 1) ≤ v := h2.resolve_left (by omega)
    have h4 : 10 ≤ 10 ^ (j + 1) := by
      rw [Nat.pow_succ]
      exact Nat.le_mul_of_pos_left _ (Nat.pow_pos (by decide))
    rw [tdig_snoc, digs_ge (by omega)]
    rw [tdig_eq j (v / 10) ?_ ?_]
    · rw [Nat.div_lt_iff_lt_mul (by decide), ← Nat.pow_succ]; exact h
    · refine Or.inr ((Nat.le_div_iff_mul_le (by decide)).mpr ?_)
      rw [← Nat.pow_succ]; exact h3
theorem tdig_len : ∀ (j v : Nat), (tdig j v).length = j + 1
  | 0, _ => rfl
  | j + 1, v => by
    show (tdig j v).length + 1 = _
    rw [tdig_len j v]
theorem p10_le {j : Nat} (h : j ≤ 12) : 10 ^ j ≤ 1000000000000 := Nat.le_trans (Nat.pow_le_pow_right (by decide) h) (by decide)
theorem dchar {q : Nat} : (((48 : Int64) + lN (q % 10)).toInt32) = nI (48 + q % 10) := by
  show (lN 48 + lN (q % 10)).toInt32 = _
  rw [lN_add, lN_i]
theorem nzl_of {n : Nat} (h : 0 < n) (h2 : n < 2 ^ 63) : nzl (lN n) = true := by
  unfold nzl
  refine decide_eq_true (fun z => ?_)
  have h1 := congrArg Int64.toInt z
  rw [lN_big h2] at h1
  have : (0 : Int64).toInt = 0 := by decide
  omega
theorem nz_of {n : Nat} (h : 0 < n) (h2 : n < 2 ^ 31) : nz (nI n) = true := decide_eq_true (nI_ne0 h h2)
theorem wn21 {v : Nat} (hv : v < 1000000000000) : ∀ (j fu : Nat) (t : TT) (m : GS), j ≤ 12 → j + 2 ≤ fu → Txt 27 13 t m → t.length + j < 255 → Tr (mo_writeNumber_21 fu m (lN v) (lN (10 ^ j))) (fun r => Txt 27 13 (t ++ tdig j v) r ∧ Ch [27] [13] m r) := by
  intro j
  induction j with
  | zero =>
    intro fu t m hj hf ht hl
    obtain ⟨g, rfl⟩ : ∃ g, fu = g + 1 + 1 := ⟨fu - 2, by omega⟩
    refine Tr_jbf (fun z => absurd ((lc_le (a := 1) (b := 0) (by decide) (by decide)).mp z) (by decide)) (Tr_jg (nzl_of (n := 1) (by decide) (by decide)) ?_)
    rw [lN_div (a := v) (by omega) (by decide), Nat.pow_zero, Nat.div_one]
    have e1 : (lN v - lN v / (10 : Int64) * (10 : Int64)) = lN (v % 10) := lN_mod (a := v) (b := 10) (by omega) (by decide)
    rw [e1, dchar]
    refine Tr_jc (write_m ht (by omega)) (fun r ⟨r1, r2⟩ => Tr_jn ?_)
    have e2 : lN 1 / (10 : Int64) = lN 0 := by decide
    rw [e2]
    exact Tr_jbt ((lc_le (a := 0) (b := 0) (by decide) (by decide)).mpr (by decide)) (Tr_some ⟨r1, r2⟩)
  | succ j ih =>
    intro fu t m hj hf ht hl
    obtain ⟨g, rfl⟩ : ∃ g, fu = g + 1 := ⟨fu - 1, by omega⟩
    have hp := p10_le hj
    have hp0 : 0 < 10 ^ (j + 1) := Nat.pow_pos (by decide)
    refine Tr_jbf (fun z => by have := (lc_le (a := 10 ^ (j + 1)) (b := 0) (by omega) (by decide)).mp z; omega) (Tr_jg (nzl_of hp0 (by omega)) ?_)
    have hd : v / 10 ^ (j + 1) ≤ v := Nat.div_le_self _ _
    have e1 : (lN (v / 10 ^ (j + 1)) - lN (v / 10 ^ (j + 1)) / (10 : Int64) * (10 : Int64)) = lN (v / 10 ^ (j + 1) % 10) := lN_mod (a := v / 10 ^ (j + 1)) (b := 10) (by omega) (by decide)
    rw [lN_div (a := v) (by omega) (by omega), e1, dchar]
    refine Tr_jc (write_m ht (by omega)) (fun r ⟨r1, r2⟩ => Tr_jn ?_)
    have e2 : lN (10 ^ (j + 1)) / (10 : Int64) = lN (10 ^ j) := by
      have := lN_div (a := 10 ^ (j + 1)) (b := 10) (by omega) (by decide)
      rw [Nat.pow_succ, Nat.mul_div_cancel _ (by decide)] at this
      rw [Nat.pow_succ]
      exact this
    rw [e2]
    refine Tr_mono (ih g (t ++ [48 + v / 10 ^ (j + 1) % 10]) r (by omega) (by omega) r1 (by rw [List.length_append]; show t.length + 1 + j < 255; omega)) (fun s ⟨s1, s2⟩ => ⟨?_, Ch_trans r2 s2 (by decide) (by decide)⟩)
    rw [List.append_assoc] at s1
    exact s1
theorem wn2 {v : Nat} (hv : v < 1000000000000) : ∀ (k j fu : Nat) (t : TT) (m : GS), j + k = 11 → k + 20 ≤ fu → (j = 0 ∨ 10 ^ j ≤ v) → Txt 27 13 t m → t.length + 12 < 255 → Tr (mo_writeNumber_2 fu m (lN v) (lN (10 ^ j))) (fun r => Txt 27 13 (t ++ digs v) r ∧ Ch [27] [13] m r) := by
  intro k
  induction k with
  | zero =>
    intro j fu t m hj hf h1 ht hl
    obtain ⟨g, rfl⟩ : ∃ g, fu = g + 1 := ⟨fu - 1, by omega⟩
    obtain rfl : j = 11 := by omega
    have hd : v / 10 ^ 11 ≤ 9 := by
      have : v / 10 ^ 11 < 10 := (Nat.div_lt_iff_lt_mul (by decide)).mpr (by omega)
      omega
    refine Tr_jg (nzl_of (by decide) (by decide)) (Tr_jbt ?_ ?_)
    · rw [lN_div (a := v) (by omega) (by decide)]
      exact (lc_le (b := 9) (by omega) (by decide)).mpr hd
    · rw [← tdig_eq 11 v (by omega) h1]
      exact wn21 hv 11 FU t m (by decide) (by decide) ht (by omega)
  | succ k ih =>
    intro j fu t m hj hf h1 ht hl
    obtain ⟨g, rfl⟩ : ∃ g, fu = g + 1 := ⟨fu - 1, by omega⟩
    have hp := p10_le (show j ≤ 12 by omega)
    have hp0 : 0 < 10 ^ j := Nat.pow_pos (by decide)
    have hd : v / 10 ^ j ≤ v := Nat.div_le_self _ _
    refine Tr_jg (nzl_of hp0 (by omega)) ?_
    rw [lN_div (a := v) (by omega) (by omega)]
    by_cases h9 : v / 10 ^ j ≤ 9
    · refine Tr_jbt ((lc_le (b := 9) (by omega) (by decide)).mpr h9) ?_
      have h10 : v < 10 ^ (j + 1) := by
        rw [Nat.pow_succ, Nat.mul_comm, ← Nat.div_lt_iff_lt_mul hp0]
        omega
      rw [← tdig_eq j v h10 h1]
      exact wn21 hv j FU t m (by omega) (by have : j ≤ 12 := by omega
                                            show j + 2 ≤ 20000000
                                            omega) ht (by omega)
    · refine Tr_jbf (fun z => h9 ((lc_le (b := 9) (by omega) (by decide)).mp z)) (Tr_jn ?_)
      have e : (10 : Int64) * lN (10 ^ j) = lN (10 ^ (j + 1)) := by
        have := lN_mul 10 (10 ^ j)
        rw [Nat.mul_comm, ← Nat.pow_succ] at this
        exact this
      rw [e]
      refine ih (j + 1) g t m (by omega) (by omega) (Or.inr ?_) ht hl
      rw [Nat.pow_succ, Nat.mul_comm]
      have : 10 ≤ v / 10 ^ j := by omega
      exact (Nat.le_div_iff_mul_le hp0).mp this
theorem writeNumber_m {v : Nat} (hv : v < 1000000000000) {t : TT} {m : GS} (ht : Txt 27 13 t m) (hl : t.length + 12 < 255) : Tr (f_mo_writeNumber m (lN v)) (fun r => Txt 27 13 (t ++ digs v) r ∧ Ch [27] [13] m r) := wn2 hv 11 0 FU t m rfl (by decide) (Or.inl rfl) ht hl
/-- what stands behind the point -/
def frac (r : Nat) : TT := if r = 0 then [] else if r % 100 = 0 then [46, 48 + r / 100] else if r % 10 = 0 then [46, 48 + r / 100, 48 + r % 100 / 10] else [46, 48 + r / 100, 48 + r % 100 / 10, 48 + r % 10]
theorem tt146 {r by_ : Nat} (hr : r < 1000) (hb : 0 < by_) (hb2 : by_ ≤ 100) {fu : Nat} {t : TT} {m : GS} (ht : Txt 27 13 t m) (hl : t.length < 255) (h0 : 0 < r) {Q : GS → Prop} (k : ∀ m', Txt 27 13 (t ++ [48 + r / by_]) m' → Ch [27] [13] m m' → Tr (mo_textTaken_146 fu m' (lN (r % by_)) (lN (by_ / 10))) Q) : Tr (mo_textTaken_146 (fu + 1) m (lN r) (lN by_)) Q := by
  refine Tr_jbf (fun z => by have := (lc_le (a := r) (b := 0) (by omega) (by decide)).mp z; omega) (Tr_jg (nzl_of hb (by omega)) ?_)
  have hd : r / by_ ≤ r := Nat.div_le_self _ _
  have e1 : ((48 : Int64) + lN r / lN by_).toInt32 = nI (48 + r / by_) := by
    rw [lN_div (a := r) (by omega) (by omega)]
    show (lN 48 + lN (r / by_)).toInt32 = _
    rw [lN_add, lN_i]
  rw [e1]
  refine Tr_jc (write_m ht hl) (fun m' ⟨m1, m2⟩ => Tr_jg (nzl_of hb (by omega)) (Tr_jn (Tr_jn ?_)))
  rw [lN_mod (a := r) (by omega) (by omega)]
  have e2 : lN by_ / (10 : Int64) = lN (by_ / 10) := lN_div (a := by_) (b := 10) (by omega) (by decide)
  rw [e2]
  exact k m' m1 m2
theorem tt146_0 {b : Int64} {fu : Nat} {m : GS} {Q : GS → Prop} (h : Q m) : Tr (mo_textTaken_146 (fu + 1) m (lN 0) b) Q := Tr_jbt ((lc_le (a := 0) (b := 0) (by decide) (by decide)).mpr (by decide)) (Tr_some h)
theorem fracM {r : Nat} (hr : r < 1000) {t : TT} {m : GS} (ht : Txt 27 13 t m) (hl : t.length + 4 < 255) : Tr (jb ((lg_cmp (lN r) 0) ≤ 0) (mo_textTaken_141 m (lN r)) (jc (f_mo_write m 46) (fun q9 => mo_textTaken_141 q9 (lN r)))) (fun s => Txt 27 13 (t ++ frac r) s ∧ Ch [27] [13] m s) := by
  unfold frac
  by_cases h0 : r = 0
  · subst h0
    rw [if_pos rfl, List.append_nil]
    refine Tr_jbt ((lc_le (a := 0) (b := 0) (by decide) (by decide)).mpr (by decide)) (Tr_jn ?_)
    exact tt146_0 (fu := 19999999) ⟨ht, Ch_refl⟩
  · rw [if_neg h0]
    refine Tr_jbf (fun z => by have := (lc_le (a := r) (b := 0) (by omega) (by decide)).mp z; omega) ?_
    refine Tr_jc (write_m (c := 46) ht (by omega)) (fun m1 ⟨a1, b1⟩ => Tr_jn ?_)
    refine tt146 (fu := 19999999) (by_ := 100) hr (by decide) (by decide) a1 (by simp; omega) (by omega) (fun m2 a2 b2 => ?_)
    have b2 := Ch_trans b1 b2 (fun _ z => z) (fun _ z => z)
    by_cases h1 : r % 100 = 0
    · rw [if_pos h1, h1]
      refine tt146_0 (fu := 19999998) ⟨?_, b2⟩
      rw [List.append_assoc] at a2
      exact a2
    · rw [if_neg h1]
      refine tt146 (fu := 19999998) (by_ := 10) (by omega) (by decide) (by decide) a2 (by simp; omega) (by omega) (fun m3 a3 b3 => ?_)
      have b3 := Ch_trans b2 b3 (fun _ z => z) (fun _ z => z)
      have e10 : r % 100 % 10 = r % 10 := by omega
      rw [e10]
      by_cases h2 : r % 10 = 0
      · rw [if_pos h2, h2]
        refine tt146_0 (fu := 19999997) ⟨?_, b3⟩
        rw [List.append_assoc, List.append_assoc] at a3
        exact a3
      · rw [if_neg h2]
        refine tt146 (fu := 19999997) (by_ := 1) (by omega) (by decide) (by decide) a3 (by simp; omega) (by omega) (fun m4 a4 b4 => ?_)
        have b4 := Ch_trans b3 b4 (fun _ z => z) (fun _ z => z)
        rw [Nat.mod_one]
        refine tt146_0 (fu := 19999996) ⟨?_, b4⟩
        rw [List.append_assoc, List.append_assoc, List.append_assoc, Nat.div_one] at a4
        exact a4
/-- the text of thousandths -/
def wtxt (neg : Bool) (N : Nat) : TT := (if neg then [45] else []) ++ (digs (N / 1000) ++ frac (N % 1000))
theorem tt114 {N : Nat} (hN : N < 1000000000000) {t : TT} {m : GS} (ht : Txt 27 13 t m) (hl : t.length ≤ 1) : Tr (mo_textTaken_114 m (lN N)) (fun s => Txt 27 13 (t ++ (digs (N / 1000) ++ frac (N % 1000))) s ∧ Ch [27] [13] m s) := by
  have e1 : lN N / (1000 : Int64) = lN (N / 1000) := lN_div (a := N) (b := 1000) (by omega) (by decide)
  have e2 : lN N - lN N / (1000 : Int64) * (1000 : Int64) = lN (N % 1000) := lN_mod (a := N) (b := 1000) (by omega) (by decide)
  unfold mo_textTaken_114
  rw [e2, e1]
  have hdl : (digs (N / 1000)).length ≤ 9 := by
    have key : ∀ k v : Nat, v < 10 ^ (k + 1) → (digs v).length ≤ k + 1 := by
      intro k
      induction k with
      | zero => intro v hv; rw [digs_lt (by simpa using hv)]; exact Nat.le_refl _
      | succ k ih =>
        intro v hv
        by_cases h : v < 10
        · rw [digs_lt h]; show 1 ≤ _; omega
        · rw [digs_ge h, List.length_append]
          have := ih (v / 10) ((Nat.div_lt_iff_lt_mul (by decide)).mpr (by rw [← Nat.pow_succ]; exact hv))
          show _ + 1 ≤ _
          omega
    exact key 8 _ (by show N / 1000 < 1000000000; omega)
  refine Tr_jc (writeNumber_m (by omega) ht (by omega)) (fun m1 ⟨a1, b1⟩ => Tr_jn ?_)
  refine Tr_mono (fracM (by omega) a1 (by rw [List.length_append]; omega)) (fun s ⟨s1, s2⟩ => ⟨?_, Ch_trans b1 s2 (by decide) (by decide)⟩)
  rw [List.append_assoc] at s1
  exact s1
