/-! ### the call -/
def loT : List Nat := [1, 1, 1, 3, 2, 2, 4, 3, 2, 1, 1, 1, 1, 1, 3, 2, 1, 1, 1, 1, 1, 1, 2, 2, 3, 3, 2, 2, 2, 0, 0, 1, 1, 2, 1, 3, 3, 1, 1, 1, 1, 1, 1, 1, 1, 2, 2, 2, 3, 2, 2, 1, 1, 1, 1, 1, 1, 1, 1, 1, 1, 1, 1, 0, 1, 1, 0]
def hiT : List Nat := [1, 2, 2, 3, 3, 3, 4, 4, 2, 1, 1, 1, 1, 30, 30, 2, 1, 1, 0, 0, 0, 1, 3, 2, 4, 4, 3, 3, 3, 1, 1, 1, 1, 5, 1, 3, 3, 1, 1, 1, 1, 1, 1, 2, 2, 2, 2, 2, 3, 3, 3, 0, 0, 1, 1, 1, 1, 1, 1, 1, 1, 1, 1, 0, 1, 1, 0]
def arT : List Int32 := [101, 102, 102, 303, 203, 203, 404, 304, 202, 101, 101, 101, 101, 130, 330, 202, 101, 101, -1, -1, -1, 101, 203, 202, 304, 304, 203, 203, 203, 1, 1, 101, 101, 205, 101, 303, 303, 101, 101, 101, 101, 101, 101, 102, 102, 202, 202, 202, 303, 203, 203, -1, -1, 101, 101, 101, 101, 101, 101, 101, 101, 101, 101, 0, 101, 101, 0]
def okk (k n : Nat) : Prop := loT.getD k 0 ≤ n ∧ n ≤ hiT.getD k 0
def okb (k n : Nat) : Bool := decide (loT.getD k 0 ≤ n) && decide (n ≤ hiT.getD k 0)
theorem okb_t {k n : Nat} : okb k n = true ↔ okk k n := by
  unfold okb okk
  rw [Bool.and_eq_true, decide_eq_true_iff, decide_eq_true_iff]
def arB (q n : Int32) : Bool := decide (¬ q < 0) && (decide (¬ n < q / 100) && decide (n ≤ q - q / 100 * 100))
theorem ar_k : ∀ k, k < 67 → f_mo_arity (nI (k + 66)) = some (arT.getD k 0) := by decide +kernel
theorem ar_n : ∀ k, k < 67 → ∀ n, n < 31 → arB (arT.getD k 0) (nI n) = okb k n := by decide +kernel
theorem if_n : ∀ k, k < 67 → ∀ n, n < 31 → f_wf_isFor (nI (k + 66)) (nI n) = some (if okb k n = true then 1 else 0) := by decide +kernel

theorem mo_call_k {ms : GS} {k n : Nat} (hk : k < 67) (hn : n ≤ 30) (h7 : ms.1 0 7 = nI n) : f_mo_call ms (nI (k + 66)) = if okb k n = true then mo_call_37 ms (nI (k + 66)) 0 else mo_call_32 ms (nI (k + 66)) := by
  have h := ar_n k hk n (by omega)
  refine e_c (ar_k k hk) ?_
  generalize arT.getD k 0 = q at h
  rw [← h, h7]
  unfold arB
  by_cases g1 : q < 0
  · rw [if_neg (by rw [decide_eq_false (fun z => z g1), Bool.false_and]; decide)]
    exact e_bt g1 rfl
  · by_cases g2 : nI n < q / 100
    · rw [if_neg (by rw [decide_eq_true g1, decide_eq_false (fun z => z g2), Bool.false_and, Bool.and_false]; decide)]
      exact e_bf g1 (e_bt g2 rfl)
    · by_cases g3 : nI n ≤ q - q / 100 * 100
      · rw [if_pos (by rw [decide_eq_true g1, decide_eq_true g2, decide_eq_true g3]; decide)]
        exact e_bf g1 (e_bf g2 (e_bt g3 rfl))
      · rw [if_neg (by rw [decide_eq_true g1, decide_eq_true g2, decide_eq_false g3]; decide)]
        exact e_bf g1 (e_bf g2 (e_bf g3 rfl))
theorem call_range {p : Int32} : (p < 66 ∨ 132 < p) ∨ ∃ k, k < 67 ∧ p = nI (k + 66) := by
  by_cases g1 : p < 66
  · exact Or.inl (Or.inl g1)
  · by_cases g2 : 132 < p
    · exact Or.inl (Or.inr g2)
    · refine Or.inr ?_
      have e66 : (66 : Int32).toInt = 66 := by decide
      have e132 : (132 : Int32).toInt = 132 := by decide
      have e0 : (0 : Int32).toInt = 0 := by decide
      rw [Int32.lt_iff_toInt_lt] at g1 g2
      obtain ⟨a, ha, rfl⟩ := nI_of (x := p) (fun z => by rw [Int32.lt_iff_toInt_lt] at z; omega)
      rw [nI_toInt ha] at g1 g2
      exact ⟨a - 66, by omega, by rw [Nat.sub_add_cancel (by omega)]⟩
theorem no_range {p : Int32} (hp : p < 66 ∨ 132 < p) : (∀ q, f_wf_isFor p q = some 0) ∧ ∀ ms, f_mo_call ms p = mo_call_32 ms p := by
  have e66 : (66 : Int32).toInt = 66 := by decide
  have e132 : (132 : Int32).toInt = 132 := by decide
  by_cases g1 : p < 66
  · exact ⟨fun q => e_bt g1 rfl, fun ms => e_c (a := (-1 : Int32)) (e_bt g1 rfl) (e_bt (by decide) rfl)⟩
  · have g2 := hp.resolve_left g1
    refine ⟨fun q => e_bf g1 (e_bt ?_ rfl), fun ms => e_c (a := (-1 : Int32)) (e_bf g1 (e_bt g2 rfl)) (e_bt (by decide) rfl)⟩
    rw [Int32.lt_iff_toInt_lt] at g1 g2
    have h := p.toInt_lt
    have e67 : (67 : Int32).toInt = 67 := by decide
    rw [Int32.le_iff_toInt_le, e67, Int32.toInt_sub, e66, Int.bmod_eq_of_le (by omega) (by omega)]
    omega
