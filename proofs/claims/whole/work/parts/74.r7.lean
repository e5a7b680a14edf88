/-! BASE -/
theorem k_num {n u h i : Nat} {cs0 cs : CS} {ms0 ms : GS} (I : CI n u h cs0 ms0 cs ms) (hi : i < n) : Tr (f_ar_number cs (nI i)) (fun a => NG a.1 ∧ Tr (f_mo_number ms (nI i)) (fun b => CI n u h cs0 ms0 a.2 b.2 ∧ (a.2.1 1 6 = 0 → cs.1 1 6 = 0) ∧ NG b.1 ∧ (a.2.1 1 6 = 0 → b.1 = a.1) ∧ Ch [20, 21, 22, 27] [13] ms b.2)) :=
  Tr_mono (t_num (CI_self I) hi) (fun _ ⟨ha1, ha⟩ => ⟨ha1, Tr_mono ha (fun _ ⟨b1, b2⟩ => ⟨(CI_two I b1).1, (CI_two I b1).2, b2⟩)⟩)
def chb (d : Nat) : Nat := if 10 ≤ d then 65 + d - 10 else 48 + d
def gb (n x k : Nat) : Nat := chb (x / n ^ k % n)
theorem gb_lt {n x k : Nat} (hn : 2 ≤ n) (hn2 : n ≤ 36) : gb n x k < 256 := by
  have := Nat.mod_lt (x / n ^ k) (show 0 < n by omega)
  unfold gb chb
  split <;> omega
/-- digits from place D - 1 down -/
def dl (g : Nat → Nat) : Nat → TT
  | 0 => []
  | D + 1 => g D :: dl g D
theorem rng_rev {g : Nat → Nat} : ∀ D, (rng g D).reverse = dl g D
  | 0 => rfl
  | D + 1 => by
    rw [rng_succ, List.reverse_append, rng_rev D]
    rfl
theorem dl_len {g : Nat → Nat} : ∀ D, (dl g D).length = D
  | 0 => rfl
  | D + 1 => by
    show (dl g D).length + 1 = _
    rw [dl_len D]
theorem dl_lt {g : Nat → Nat} (h : ∀ k, g k < 256) : ∀ D, ∀ c ∈ dl g D, c < 256
  | 0 => fun c hc => by cases hc
  | D + 1 => fun c hc => by
    rcases List.mem_cons.mp hc with e | e
    · rw [e]; exact h D
    · exact dl_lt h D c e
theorem dl_zero {g : Nat → Nat} {c : Nat} : ∀ e, (∀ k, c ≤ k → k < c + e → g k = 48) → dl g (c + e) = rp [48] e ++ dl g c
  | 0, _ => rfl
  | e + 1, h => by
    show g (c + e) :: dl g (c + e) = _
    rw [dl_zero e (fun k h1 h2 => h k h1 (by omega)), h (c + e) (by omega) (by omega), rp_front]
    rfl
theorem n_count {n : Nat} (hn : 2 ≤ n) : ∀ f x, x < n ^ f → ∃ c, c ≤ f ∧ x < n ^ c ∧ (1 ≤ c → n ^ (c - 1) ≤ x)
  | 0, x, h => ⟨0, Nat.le_refl _, h, fun z => by omega⟩
  | f + 1, x, h => by
    by_cases g : x < n ^ f
    · obtain ⟨c, h1, h2, h3⟩ := n_count hn f x g
      exact ⟨c, by omega, h2, h3⟩
    · exact ⟨f + 1, Nat.le_refl _, h, fun _ => by rw [Nat.add_sub_cancel]; omega⟩
theorem zC {z : Nat} (h : z < 65536) : ((nI z).toUInt32 % 65536).toInt32 = nI z := u16 h
theorem baseC {cs : CS} {n x d : Nat} (hn : 2 ≤ n) (hn2 : n ≤ 36) (hx : x < 2 ^ 31) (hd : d ≤ 255) : ∀ (j k q fu : Nat), k + j ≤ 255 → j < fu → x / n ^ k < n ^ j → (j ≤ d - k ∨ (1 ≤ j ∧ n ^ (j - 1) ≤ x / n ^ k)) → (j = 0 → d ≤ k) → 16 ≤ q → q ≤ 2 * 255 + 16 → TA (fc q 255 + 3) (fs q 255 + 262) (tx_base_99 fu cs (nI n) (lN (x / n ^ k)) (nI d) (nI k) (rng (gb n x) k, q)) (fun r => r = (tv (dl (gb n x) (k + j)), cs)) := by
  have hfin : ∀ (k q : Nat), k ≤ 255 → TA (fc q 255 + 3) (fs q 255 + 262) (tx_base_172 cs (rng (gb n x) k, q)) (fun r => r = (tv (dl (gb n x) k), cs)) := fun k q hk => by
    refine TA_jce (a := ((rng (gb n x) k).reverse, q)) rfl ?_
    rw [rng_rev]
    exact tv_end (by rw [dl_len]; omega) (by omega) (by omega)
  intro j
  induction j with
  | zero =>
    intro k q fu hk hf hlt hor h0 hq hq2
    obtain ⟨g, rfl⟩ : ∃ g, fu = g + 1 := ⟨fu - 1, by omega⟩
    have hz : x / n ^ k = 0 := by rw [Nat.pow_zero] at hlt; omega
    by_cases h255 : 255 ≤ k
    · exact TA_jbt (nI_le (a := 255) h255 (by omega)) (hfin k q (by omega))
    · refine TA_jbf (nI_ge (b := 255) (by omega) (by decide)) (TA_jbf (nI_nlt (h0 rfl) (by omega)) (TA_jbt ?_ (hfin k q (by omega))))
      rw [hz]
      decide
  | succ j ih =>
    intro k q fu hk hf hlt hor h0 hq hq2
    obtain ⟨g, rfl⟩ : ∃ g, fu = g + 1 := ⟨fu - 1, by omega⟩
    have hn0 : 0 < n := by omega
    have hxk : x / n ^ k ≤ x := Nat.div_le_self _ _
    have hmod := Nat.mod_lt (x / n ^ k) hn0
    have hpj : 0 < n ^ j := Nat.pow_pos hn0
    have hdd : x / n ^ k / n = x / n ^ (k + 1) := by rw [Nat.div_div_eq_div_mul, ← Nat.pow_succ]
    have step : TA (fc q 255 + 3) (fs q 255 + 262) (tx_base_121 (tx_base_99 g) cs (nI n) (lN (x / n ^ k)) (nI d) (nI k) (rng (gb n x) k, q)) (fun r => r = (tv (dl (gb n x) (k + (j + 1))), cs)) := by
      have e64 : (nI n).toInt64 = lN n := nI_l (by omega)
      unfold tx_base_121
      rw [e64]
      refine TA_jg (nzl_of hn0 (by omega)) (TA_jn ?_)
      rw [lN_mod (by omega) (by omega), lN_i]
      have fin : ∀ z : Int32, ((z.toUInt32 % 65536).toInt32) = nI (gb n x k) → TA (fc q 255 + 3) (fs q 255 + 262) (tx_base_154 (tx_base_99 g) cs (nI n) (lN (x / n ^ k)) (nI d) (nI k) z (rng (gb n x) k, q)) (fun r => r = (tv (dl (gb n x) (k + (j + 1))), cs)) := fun z hz => by
        unfold tx_base_154
        rw [hz, e64]
        refine TA_appC (x := (rng (gb n x) k, q)) (gb_lt hn hn2) hq hq2 (by rw [rng_len]; omega) (by decide) (fun q' h1 h2 => TA_jg (nzl_of hn0 (by omega)) (TA_jn (TA_jn ?_)))
        rw [lN_div (by omega) (by omega), hdd, nI_1]
        show TA _ _ (tx_base_99 g cs (nI n) (lN (x / n ^ (k + 1))) (nI d) (nI (k + 1)) (rng (gb n x) k ++ [gb n x k], q')) _
        rw [← rng_succ]
        have := ih (k + 1) q' g (by omega) (by omega) (by rw [← hdd]; exact (Nat.div_lt_iff_lt_mul hn0).mpr (by rw [← Nat.pow_succ]; exact hlt)) ?_ ?_ h1 h2
        · rw [show k + 1 + j = k + (j + 1) by omega] at this
          exact this
        · rcases hor with w | ⟨w1, w2⟩
          · exact Or.inl (by omega)
          · by_cases hj : j = 0
            · exact Or.inl (by omega)
            · refine Or.inr ⟨by omega, ?_⟩
              rw [← hdd]
              refine (Nat.le_div_iff_mul_le hn0).mpr ?_
              rw [← Nat.pow_succ, show j - 1 + 1 = j + 1 - 1 by omega]
              exact w2
        · intro hj
          subst hj
          rcases hor with w | ⟨w1, w2⟩
          · omega
          · -- a digit, and no more wanted
            by_cases hdk : d ≤ k + 1
            · exact hdk
            · exfalso
              sorry
      sorry
    sorry
