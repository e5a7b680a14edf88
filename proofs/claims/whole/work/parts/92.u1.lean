/-! ### the answer of the class: a part of the grid, kept -/
/-- all but the answer's own fields stays -/
def Ca (a b : CS) : Prop := (∀ i, i ≠ 2 → b.1 i = a.1 i) ∧ (∀ i, i ≠ 2 → i ≠ 42 → b.2 i = a.2 i)
theorem Ca_refl {a : CS} : Ca a a := ⟨fun _ _ => rfl, fun _ _ _ => rfl⟩
theorem Ca_trans {a b c : CS} (h : Ca a b) (k : Ca b c) : Ca a c := ⟨fun i hi => (k.1 i hi).trans (h.1 i hi), fun i h1 h2 => (k.2 i h1 h2).trans (h.2 i h1 h2)⟩
theorem Ca_C {a b : CS} {k : Nat} {x : Int32} (h : Ca a b) : Ca a (uC b 2 k x) := ⟨fun i hi => (uC_off hi).trans (h.1 i hi), h.2⟩
theorem Ca_V {a b : CS} {i k : Nat} {v : VV} (h : Ca a b) (hi : i = 2 ∨ i = 42) : Ca a (uV b i k v) := by
  refine ⟨h.1, fun j h1 h2 => ?_⟩
  have hj : j ≠ i := by rcases hi with rfl | rfl <;> assumption
  exact (if_neg hj).trans (h.2 j h1 h2)
theorem Ca_R {n u h : Nat} {a b : CS} {m : GS} (hR : Rargs n u h a m) (hc : Ca a b) : Rargs n u h b m := by
  have c1 := hc.1 1 (by decide)
  exact Rargs_mv hR (by rw [c1]) (by rw [c1]) (fun i h1 h2 => hc.1 i (by omega)) (by rw [hc.2 1 (by decide) (by decide)]) (hc.2 40 (by decide) (by decide)) rfl rfl rfl rfl rfl rfl rfl rfl rfl rfl rfl rfl rfl
theorem Ca_av {a b : CS} (hc : Ca a b) {i : Nat} (hi : i < 30) : aR b i = aR a i ∧ aC b i = aC a i ∧ aF b i = aF a i ∧ ∀ k, av b i k = av a i k := by
  have e := hc.1 (9 + i) (by omega)
  have e40 := hc.2 40 (by decide) (by decide)
  refine ⟨by unfold aR; rw [e], by unfold aC; rw [e], by unfold aF; rw [e], fun k => ?_⟩
  unfold av aR aC aF
  rw [e, e40]
/-- the places written up to j -/
def AI (a b : CS) (H W : Nat) (P : Nat → VV) (j : Nat) : Prop := Ca a b ∧ b.1 2 1 = nI H ∧ b.1 2 2 = nI W ∧ ∀ i, i < j → b.2 42 i = P i
theorem AI_keep {a b : CS} {H W x y : Nat} {P : Nat → VV} {v : VV} (h : AI a b H W P (x * W + y)) (hj : x * W + y < 512) (hv : v = P (x * W + y)) : f_an_keep b (nI x) (nI y) v = some (uV b 42 (x * W + y) v) ∧ AI a (uV b 42 (x * W + y) v) H W P (x * W + y + 1) := by
  obtain ⟨h1, h2, h3, h4⟩ := h
  constructor
  · unfold f_an_keep
    have e : nI x * b.1 2 2 + nI y = nI (x * W + y) := by rw [h3, nI_mul, nI_add]
    refine e_n ?_
    rw [e]
    refine e_bf (nI_pos (by omega)) (e_bf (nI_ge (b := 512) (by omega) (by decide)) (e_g (inb_of hj (by decide)) (e_n ?_)))
    rw [nI_clamp (by omega)]
  · refine ⟨Ca_V h1 (Or.inr rfl), h2, h3, fun i hi => ?_⟩
    by_cases e : i = x * W + y
    · rw [e, uV_at, hv]
    · rw [uV_ne e]; exact h4 i (by omega)
theorem AI_mono {a b : CS} {H W i j : Nat} {P : Nat → VV} (h : AI a b H W P i) (hij : j ≤ i) : AI a b H W P j := ⟨h.1, h.2.1, h.2.2.1, fun k hk => h.2.2.2 k (by omega)⟩
theorem AI_told {a b : CS} {H W j : Nat} {P : Nat → VV} (h : AI a b H W P j) : AI a (uV b 2 3 (b.2 42 0)) H W P j := ⟨Ca_V h.1 (Or.inl rfl), h.2.1, h.2.2.1, fun i hi => h.2.2.2 i hi⟩
/-- the value of row x, column y at the place pos x y -/
def PO (a : CS) (pos : Nat → Nat → Nat) (W i : Nat) : VV := av a 0 (pos (i / W) (i % W))
theorem PO_at {a : CS} {pos : Nat → Nat → Nat} {W x y : Nat} (hy : y < W) : PO a pos W (x * W + y) = av a 0 (pos x y) := by
  unfold PO
  rw [Nat.mul_comm x W, Nat.mul_add_div (by omega), Nat.div_eq_of_lt hy, Nat.mul_add_mod, Nat.mod_eq_of_lt hy, Nat.add_zero]
theorem row_lt {x y H W : Nat} (hx : x < H) (hy : y < W) : x * W + y < H * W := by
  have : (x + 1) * W ≤ H * W := Nat.mul_le_mul_right W (by omega)
  rw [Nat.add_mul, Nat.one_mul] at this
  omega

theorem bp_in {n u h H W : Nat} {a : CS} {m : GS} {t l : Nat} (hA : Rargs n u h a m) (hn : 0 < n) (hHW : H * W ≤ 512) (hH : H ≤ 512) (hW : W ≤ 512) (ht : t ≤ 512) (hl : l ≤ 512) {K : CS → Int32 → Int32 → Int32 → Int32 → Int32 → Option CS} {Q : CS → Prop} {x : Nat} (hx : x < H) (hK : ∀ c, AI a c H W (PO a (fun x y => (t + x) * one1 (aC a 0) + (l + y)) W) ((x + 1) * W) → Tr (K c (nI t) (nI l) (nI H) (nI W) (nI (x + 1))) Q) : ∀ (w y fu : Nat) (b : CS), y + w = W → w < fu → AI a b H W (PO a (fun x y => (t + x) * one1 (aC a 0) + (l + y)) W) (x * W + y) → Tr (an_becomePart_25 K fu b (nI t) (nI l) (nI H) (nI W) (nI x) (nI y)) Q := by
  intro w
  induction w with
  | zero =>
    intro y fu b hy hf hI
    obtain ⟨g, rfl⟩ : ∃ g, fu = g + 1 := ⟨fu - 1, by omega⟩
    refine Tr_jbt (by skip; exact nI_le (by omega) (by omega)) (Tr_jn ?_)
    rw [nI_1]
    refine hK b ?_
    have e : (x + 1) * W = x * W + y := by rw [Nat.add_mul, Nat.one_mul]; omega
    rw [e]
    exact hI
  | succ w ih =>
    intro y fu b hy hf hI
    obtain ⟨g, rfl⟩ : ∃ g, fu = g + 1 := ⟨fu - 1, by omega⟩
    have hlt := row_lt hx (show y < W by omega)
    obtain ⟨c1, c2, c3, c4⟩ := Ca_av hI.1 (i := 0) (by decide)
    obtain ⟨k1, k2⟩ := AI_keep (v := av b 0 ((fun x y => (t + x) * one1 (aC a 0) + (l + y)) x y)) hI (by omega) (by rw [PO_at (by omega), c4])
    refine Tr_jbf (by skip; exact nI_ge (by omega) (by omega)) (Tr_jce (a := av b 0 ((fun x y => (t + x) * one1 (aC a 0) + (l + y)) x y)) ?_ (Tr_jce k1 (Tr_jn ?_)))
    · rw [nI_add, nI_add, ← c2]; exact at_c (Ca_R hA hI.1) hn (by omega) (by omega)
    · rw [nI_1]
      exact ih (y + 1) g _ (by omega) (by omega) k2
theorem bp_all {n u h H W : Nat} {a : CS} {m : GS} {t l : Nat} (hA : Rargs n u h a m) (hn : 0 < n) (hHW : H * W ≤ 512) (hH : H ≤ 512) (hW : W ≤ 512) (ht : t ≤ 512) (hl : l ≤ 512) (h0 : 0 < H * W) : ∀ (r x fu : Nat) (b : CS), x + r = H → r < fu → AI a b H W (PO a (fun x y => (t + x) * one1 (aC a 0) + (l + y)) W) (x * W) → Tr (an_becomePart_15 fu b (nI t) (nI l) (nI H) (nI W) (nI x)) (fun c => AI a c H W (PO a (fun x y => (t + x) * one1 (aC a 0) + (l + y)) W) (H * W) ∧ c.2 2 3 = PO a (fun x y => (t + x) * one1 (aC a 0) + (l + y)) W 0) := by
  intro r
  induction r with
  | zero =>
    intro x fu b hx hf hI
    obtain ⟨g, rfl⟩ : ∃ g, fu = g + 1 := ⟨fu - 1, by omega⟩
    have e : H = x := by omega
    refine Tr_jbt (by skip; exact nI_le (by omega) (by omega)) (Tr_jg (by decide) (Tr_jn (Tr_some ⟨AI_told (by have hI2 := hI; rw [e] at hI2 ⊢; exact hI2), ?_⟩)))
    rw [uV_at]
    exact hI.2.2.2 0 (by rw [← e]; exact h0)
  | succ r ih =>
    intro x fu b hx hf hI
    obtain ⟨g, rfl⟩ : ∃ g, fu = g + 1 := ⟨fu - 1, by omega⟩
    refine Tr_jbf (by skip; exact nI_ge (by omega) (by omega)) ?_
    exact bp_in (t := t) (l := l) hA hn hHW hH hW ht hl (x := x) (by omega) (fun c hc => ih (x + 1) g c (by omega) (by omega) hc) W 0 FU b (by omega) (FU_lt (by omega)) hI
theorem tp_in {n u h H W : Nat} {a : CS} {m : GS}  (hA : Rargs n u h a m) (hn : 0 < n) (hHW : H * W ≤ 512) (hH : H ≤ 512) (hW : W ≤ 512) {K : CS → Int32 → Option CS} {Q : CS → Prop} {x : Nat} (hx : x < H) (hK : ∀ c, AI a c H W (PO a (fun x y => y * one1 (aC a 0) + x) W) ((x + 1) * W) → Tr (K c  (nI (x + 1))) Q) : ∀ (w y fu : Nat) (b : CS), y + w = W → w < fu → AI a b H W (PO a (fun x y => y * one1 (aC a 0) + x) W) (x * W + y) → Tr (an_transpose_30 K fu b  (nI x) (nI y)) Q := by
  intro w
  induction w with
  | zero =>
    intro y fu b hy hf hI
    obtain ⟨g, rfl⟩ : ∃ g, fu = g + 1 := ⟨fu - 1, by omega⟩
    refine Tr_jbt (by rw [hI.2.2.1]; exact nI_le (by omega) (by omega)) (Tr_jn ?_)
    rw [nI_1]
    refine hK b ?_
    have e : (x + 1) * W = x * W + y := by rw [Nat.add_mul, Nat.one_mul]; omega
    rw [e]
    exact hI
  | succ w ih =>
    intro y fu b hy hf hI
    obtain ⟨g, rfl⟩ : ∃ g, fu = g + 1 := ⟨fu - 1, by omega⟩
    have hlt := row_lt hx (show y < W by omega)
    obtain ⟨c1, c2, c3, c4⟩ := Ca_av hI.1 (i := 0) (by decide)
    obtain ⟨k1, k2⟩ := AI_keep (v := av b 0 ((fun x y => y * one1 (aC a 0) + x) x y)) hI (by omega) (by rw [PO_at (by omega), c4])
    refine Tr_jbf (by rw [hI.2.2.1]; exact nI_ge (by omega) (by omega)) (Tr_jce (a := av b 0 ((fun x y => y * one1 (aC a 0) + x) x y)) ?_ (Tr_jce k1 (Tr_jn ?_)))
    · rw [← c2]; exact at_c (Ca_R hA hI.1) hn (by omega) (by omega)
    · rw [nI_1]
      exact ih (y + 1) g _ (by omega) (by omega) k2
theorem tp_all {n u h H W : Nat} {a : CS} {m : GS}  (hA : Rargs n u h a m) (hn : 0 < n) (hHW : H * W ≤ 512) (hH : H ≤ 512) (hW : W ≤ 512) (h0 : 0 < H * W) : ∀ (r x fu : Nat) (b : CS), x + r = H → r < fu → AI a b H W (PO a (fun x y => y * one1 (aC a 0) + x) W) (x * W) → Tr (an_transpose_20 fu b  (nI x)) (fun c => AI a c H W (PO a (fun x y => y * one1 (aC a 0) + x) W) (H * W) ∧ c.2 2 3 = PO a (fun x y => y * one1 (aC a 0) + x) W 0) := by
  intro r
  induction r with
  | zero =>
    intro x fu b hx hf hI
    obtain ⟨g, rfl⟩ : ∃ g, fu = g + 1 := ⟨fu - 1, by omega⟩
    have e : H = x := by omega
    refine Tr_jbt (by rw [hI.2.1]; exact nI_le (by omega) (by omega)) (Tr_jg (by decide) (Tr_jn (Tr_some ⟨AI_told (by have hI2 := hI; rw [e] at hI2 ⊢; exact hI2), ?_⟩)))
    rw [uV_at]
    exact hI.2.2.2 0 (by rw [← e]; exact h0)
  | succ r ih =>
    intro x fu b hx hf hI
    obtain ⟨g, rfl⟩ : ∃ g, fu = g + 1 := ⟨fu - 1, by omega⟩
    refine Tr_jbf (by rw [hI.2.1]; exact nI_ge (by omega) (by omega)) ?_
    exact tp_in hA hn hHW hH hW (x := x) (by omega) (fun c hc => ih (x + 1) g c (by omega) (by omega) hc) W 0 FU b (by omega) (FU_lt (by omega)) hI
theorem bpart_c {n u h H W t l : Nat} {a : CS} {m : GS} (hA : Rargs n u h a m) (hn : 0 < n) (hHW : H * W ≤ 512) (hH : H ≤ 512) (hW : W ≤ 512) (ht : t ≤ 512) (hl : l ≤ 512) (h0 : 0 < H * W) : Tr (f_an_becomePart a (nI t) (nI l) (nI H) (nI W)) (fun c => AI a c H W (PO a (fun x y => (t + x) * one1 (aC a 0) + (l + y)) W) (H * W) ∧ c.2 2 3 = PO a (fun x y => (t + x) * one1 (aC a 0) + (l + y)) W 0) :=
  Tr_jn (Tr_jn (bp_all hA hn hHW hH hW ht hl h0 H 0 FU _ (by omega) (FU_lt (by omega)) ⟨Ca_C (Ca_C Ca_refl), rfl, rfl, fun i hi => absurd hi (by omega)⟩))
theorem trans_c {n u h : Nat} {a : CS} {m : GS} (hA : Rargs n u h a m) (hn : 0 < n) : Tr (f_an_transpose a) (fun c => AI a c (one1 (aC a 0)) (one1 (aR a 0)) (PO a (fun x y => y * one1 (aC a 0) + x) (one1 (aR a 0))) (one1 (aC a 0) * one1 (aR a 0)) ∧ c.2 2 3 = PO a (fun x y => y * one1 (aC a 0) + x) (one1 (aR a 0)) 0) := by
  obtain ⟨r1, r2, r3, r4, r5⟩ := one_le hA hn
  refine Tr_jce (cols_c hA hn) (Tr_jn ?_)
  have hc : Ca a (uC a 2 1 (nI (one1 (aC a 0)))) := Ca_C Ca_refl
  have hr := rows_c (Ca_R hA hc) hn
  rw [(Ca_av hc (i := 0) (by decide)).1] at hr
  refine Tr_jce hr (Tr_jn ?_)
  have hp := Nat.mul_pos (one1_pos (aC a 0)) (one1_pos (aR a 0))
  have h5 : one1 (aC a 0) * one1 (aR a 0) ≤ 512 := by rw [Nat.mul_comm]; exact r5
  exact tp_all hA hn h5 (by omega) (by omega) hp (one1 (aC a 0)) 0 FU _ (by omega) (FU_lt (by omega)) ⟨Ca_C hc, rfl, rfl, fun i hi => absurd hi (by omega)⟩
