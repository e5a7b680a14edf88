/-! ### ADDRESS -/
/-- a builder's step: what is put behind, and what it costs -/
def AP (o : Option (BT × Nat × Nat)) (L : TT) (q N : Nat) (t : TT) : Prop := ∃ q' c s, o = some ((L ++ t, q'), c, s) ∧ 16 ≤ q' ∧ q' ≤ 2 * N + 16 ∧ c + fc q' N ≤ fc q N ∧ s + fs q' N ≤ fs q N
theorem AP_S {L t : TT} {q N : Nat} (hq : 16 ≤ q) (hq2 : q ≤ 2 * N + 16) (hN : L.length + t.length ≤ N) (hN2 : N ≤ 2000) : AP (f_sb_appS (L, q) t) L q N t := by
  obtain ⟨q', c, s, e, h1, h2, h3, h4⟩ := sb_cost (x := (L, q)) (t := t) hq hq2 hN hN2
  exact ⟨q', c, s, e, h1, h2, h3, h4⟩
theorem AP_C {L : TT} {q N ch : Nat} (hc : ch < 256) (hq : 16 ≤ q) (hq2 : q ≤ 2 * N + 16) (hN : L.length + 1 ≤ N) (hN2 : N ≤ 2000) : AP (f_sb_appC (L, q) (nI ch)) L q N [ch] := by
  have e : f_sb_appC (L, q) (nI ch) = sbAdd (L, q) [ch] := by
    unfold f_sb_appC
    refine e_g (inb_of hc (by decide)) ?_
    rw [nI_clamp (by omega)]
  rw [e]
  exact AP_S hq hq2 hN hN2
theorem AP_I {L : TT} {q N v : Nat} (hv : v < 2 ^ 31) (hq : 16 ≤ q) (hq2 : q ≤ 2 * N + 16) (hN : L.length + (digs v).length ≤ N) (hN2 : N ≤ 2000) : AP (f_sb_appI (L, q) (nI v)) L q N (digs v) := by
  have e : f_sb_appI (L, q) (nI v) = sbAdd (L, q) (digs v) := by
    refine e_g (decide_eq_true (by rw [nI_toInt hv]; omega)) ?_
    rw [nI_clamp hv]
  rw [e]
  exact AP_S hq hq2 hN hN2
theorem AP_jd {o : Option (BT × Nat × Nat)} {f : BT → Option (BT × Nat × Nat)} {L t t2 : TT} {q N : Nat} (h : AP o L q N t) (hk : ∀ q', 16 ≤ q' → q' ≤ 2 * N + 16 → AP (f (L ++ t, q')) (L ++ t) q' N t2) : AP (jd o f) L q N (t ++ t2) := by
  obtain ⟨q', c, s, e, h1, h2, h3, h4⟩ := h
  obtain ⟨q2, c2, s2, e2, k1, k2, k3, k4⟩ := hk q' h1 h2
  subst e
  refine ⟨q2, c + c2, s + s2, ?_, k1, k2, by omega, by omega⟩
  show ja c s (f (L ++ t, q')) = _
  rw [e2, List.append_assoc]
  rfl
theorem AP_end {L : TT} {q N : Nat} (hq : 16 ≤ q) (hq2 : q ≤ 2 * N + 16) : AP (some ((L, q), 0, 0)) L q N [] := ⟨q, 0, 0, by rw [List.append_nil], hq, hq2, by omega, by omega⟩
theorem AP_b {c : Prop} [Decidable c] {x y : Option (BT × Nat × Nat)} {L t : TT} {q N : Nat} (h1 : c → AP x L q N t) (h2 : ¬ c → AP y L q N t) : AP (jb c x y) L q N t := by
  unfold jb
  by_cases hc : c
  · rw [if_pos hc]; exact h1 hc
  · rw [if_neg hc]; exact h2 hc
theorem TA_AP {α : Type} {o : Option (BT × Nat × Nat)} {f : BT → Option (α × Nat × Nat)} {L t : TT} {q N c0 s0 : Nat} {Q : α → Prop} (h : AP o L q N t) (hk : ∀ q', 16 ≤ q' → q' ≤ 2 * N + 16 → TA (fc q' N + c0) (fs q' N + s0) (f (L ++ t, q')) Q) : TA (fc q N + c0) (fs q N + s0) (jd o f) Q := by
  obtain ⟨q', c, s, e, h1, h2, h3, h4⟩ := h
  exact TA_mono (TA_jde e (hk q' h1 h2)) (by omega) (by omega) (fun _ z => z)
def colL (C : Nat) : TT := (if C < 703 then [] else [65 + (C - 703) / 676]) ++ ((if C < 27 then [] else [65 + (C - 27) / 26 % 26]) ++ [65 + (C - 1) % 26])
theorem colL_ok {C : Nat} (hC : C ≤ 16384) : (colL C).length ≤ 3 ∧ ∀ c ∈ colL C, c < 256 := by
  unfold colL
  by_cases h1 : C < 703
  · rw [if_pos h1]
    by_cases h2 : C < 27
    · rw [if_pos h2]
      refine ⟨by simp, fun c hc => ?_⟩
      simp at hc
      omega
    · rw [if_neg h2]
      refine ⟨by simp, fun c hc => ?_⟩
      simp at hc
      omega
  · rw [if_neg h1, if_neg (show ¬ C < 27 by omega)]
    refine ⟨by simp, fun c hc => ?_⟩
    simp at hc
    omega
theorem col_e {C : Nat} (h1 : 1 ≤ C) (hC : C ≤ 16384) : 65 + ((nI C - 1) - (nI C - 1) / 26 * 26) = nI (65 + (C - 1) % 26) ∧ (27 ≤ C → 65 + (((nI C - 27) / 26) - ((nI C - 27) / 26) / 26 * 26) = nI (65 + (C - 27) / 26 % 26)) ∧ (703 ≤ C → 65 + ((nI C - 703) / 676) = nI (65 + (C - 703) / 676)) := by
  refine ⟨?_, fun h => ?_, fun h => ?_⟩
  · show nI 65 + ((nI C - nI 1) - (nI C - nI 1) / nI 26 * nI 26) = _
    rw [nI_sub h1, nI_mod (by omega) (by decide), nI_add]
  · show nI 65 + (((nI C - nI 27) / nI 26) - ((nI C - nI 27) / nI 26) / nI 26 * nI 26) = _
    rw [nI_sub h, nI_div (by omega) (by decide), nI_mod (by omega) (by decide), nI_add]
  · show nI 65 + ((nI C - nI 703) / nI 676) = _
    rw [nI_sub h, nI_div (by omega) (by decide), nI_add]
theorem col_c {C : Nat} (h1 : 1 ≤ C) (hC : C ≤ 16384) {L : TT} {q N : Nat} (hq : 16 ≤ q) (hq2 : q ≤ 2 * N + 16) (hN : L.length + 3 ≤ N) (hN2 : N ≤ 2000) : AP (f_lu_appendColumn (L, q) (nI C)) L q N (colL C) := by
  obtain ⟨e1, e2, e3⟩ := col_e h1 hC
  have h50 : ∀ (M : TT) (p : Nat), 16 ≤ p → p ≤ 2 * N + 16 → M.length + 1 ≤ N → AP (lu_appendColumn_50 (nI C) (M, p)) M p N [65 + (C - 1) % 26] := fun M p a b c => by
    unfold lu_appendColumn_50
    rw [e1, u16 (by omega)]
    have := AP_jd (f := fun q1 => some (q1, 0, 0)) (t2 := []) (AP_C (ch := 65 + (C - 1) % 26) (by omega) a b c hN2) (fun q' x y => AP_end x y)
    rw [List.append_nil] at this
    exact this
  have h25 : ∀ (M : TT) (p : Nat), 16 ≤ p → p ≤ 2 * N + 16 → M.length + 2 ≤ N → AP (lu_appendColumn_25 (nI C) (M, p)) M p N ((if C < 27 then [] else [65 + (C - 27) / 26 % 26]) ++ [65 + (C - 1) % 26]) := fun M p a b c => by
    unfold lu_appendColumn_25
    refine AP_b (fun z => ?_) (fun z => ?_)
    · have z : C < 27 := (nI_ltI (b := 27) (by omega) (by decide)).mp z
      rw [if_pos z, List.nil_append]
      exact h50 M p a b (by omega)
    · have z : ¬ C < 27 := fun w => z (nI_lt (b := 27) w (by decide))
      rw [if_neg z, e2 (by omega), u16 (by omega)]
      exact AP_jd (AP_C (by omega) a b (by omega) hN2) (fun q' x y => h50 _ q' x y (by rw [List.length_append]; show M.length + 1 + 1 ≤ N; omega))
  unfold f_lu_appendColumn colL
  refine AP_b (fun z => ?_) (fun z => ?_)
  · have z : C < 703 := (nI_ltI (b := 703) (by omega) (by decide)).mp z
    rw [if_pos z, List.nil_append]
    exact h25 L q hq hq2 (by omega)
  · have z : ¬ C < 703 := fun w => z (nI_lt (b := 703) w (by decide))
    rw [if_neg z, e3 (by omega), u16 (by omega)]
    exact AP_jd (AP_C (by omega) hq hq2 (by omega) hN2) (fun q' x y => h25 _ q' x y (by rw [List.length_append]; show L.length + 1 + 2 ≤ N; omega))
theorem col_m {C : Nat} (h1 : 1 ≤ C) (hC : C ≤ 16384) {L : TT} {m : GS} (hL : Mk L m) : Tr (f_mo_columnLetters m (nI C)) (fun r => Mk (L ++ colL C) r ∧ Ch [30, 31] [16] m r) := by
  obtain ⟨e1, e2, e3⟩ := col_e h1 hC
  have h46 : ∀ (M : TT) (m : GS), Mk M m → Tr (mo_columnLetters_46 m (nI C)) (fun r => Mk (M ++ [65 + (C - 1) % 26]) r ∧ Ch [30, 31] [16] m r) := fun M m a => by
    unfold mo_columnLetters_46
    rw [e1]
    exact Tr_jc (make_m a) (fun r hr => Tr_some hr)
  have h23 : ∀ (M : TT) (m : GS), Mk M m → Tr (mo_columnLetters_23 m (nI C)) (fun r => Mk (M ++ ((if C < 27 then [] else [65 + (C - 27) / 26 % 26]) ++ [65 + (C - 1) % 26])) r ∧ Ch [30, 31] [16] m r) := fun M m a => by
    unfold mo_columnLetters_23
    refine Tr_jb (fun z => ?_) (fun z => ?_)
    · have z : C ≤ 26 := (nI_leI (b := 26) (by omega) (by decide)).mp z
      rw [if_pos (by omega), List.nil_append]
      exact h46 M m a
    · have z : ¬ C ≤ 26 := fun w => z (nI_le (b := 26) w (by decide))
      rw [if_neg (by omega), e2 (by omega), ← List.append_assoc]
      exact Tr_jc (make_m a) (fun r ⟨r1, r2⟩ => Tr_mono (h46 _ r r1) (fun s ⟨s1, s2⟩ => ⟨s1, Ch_trans r2 s2 (fun _ z => z) (fun _ z => z)⟩))
  unfold f_mo_columnLetters colL
  refine Tr_jb (fun z => ?_) (fun z => ?_)
  · have z : C ≤ 702 := (nI_leI (b := 702) (by omega) (by decide)).mp z
    rw [if_pos (by omega), List.nil_append]
    exact h23 L m hL
  · have z : ¬ C ≤ 702 := fun w => z (nI_le (b := 702) w (by decide))
    rw [if_neg (by omega), e3 (by omega), ← List.append_assoc]
    exact Tr_jc (make_m hL) (fun r ⟨r1, r2⟩ => Tr_mono (h23 _ r r1) (fun s ⟨s1, s2⟩ => ⟨s1, Ch_trans r2 s2 (fun _ z => z) (fun _ z => z)⟩))
theorem p7_le {j : Nat} (h : j ≤ 7) : 10 ^ j ≤ 10000000 := Nat.le_trans (Nat.pow_le_pow_right (by decide) h) (by decide)
theorem mk18 {v : Nat} (hv : v < 10000000) : ∀ (j fu : Nat) (L : TT) (m : GS), j ≤ 7 → j + 2 ≤ fu → Mk L m → Tr (mo_makeNumber_18 fu m (nI v) (nI (10 ^ j))) (fun r => Mk (L ++ tdig j v) r ∧ Ch [30, 31] [16] m r) := by
  intro j
  induction j with
  | zero =>
    intro fu L m hj hf hL
    obtain ⟨g, rfl⟩ : ∃ g, fu = g + 1 + 1 := ⟨fu - 2, by omega⟩
    refine Tr_jbf (by decide) (Tr_jg (by decide) ?_)
    have e1 : 48 + (nI v / nI (10 ^ 0) - nI v / nI (10 ^ 0) / 10 * 10) = nI (48 + v % 10) := by
      rw [nI_div (by omega) (by decide), Nat.pow_zero, Nat.div_one]
      show nI 48 + (nI v - nI v / nI 10 * nI 10) = _
      rw [nI_mod (by omega) (by decide), nI_add]
    rw [e1]
    refine Tr_jc (make_m hL) (fun r ⟨r1, r2⟩ => Tr_jn ?_)
    exact Tr_jbt (by decide) (Tr_some ⟨r1, r2⟩)
  | succ j ih =>
    intro fu L m hj hf hL
    obtain ⟨g, rfl⟩ : ∃ g, fu = g + 1 := ⟨fu - 1, by omega⟩
    have hp := p7_le hj
    have hp0 : 0 < 10 ^ (j + 1) := Nat.pow_pos (by decide)
    have hd : v / 10 ^ (j + 1) ≤ v := Nat.div_le_self _ _
    refine Tr_jbf (nI_nle hp0 (by omega)) (Tr_jg (nz_of hp0 (by omega)) ?_)
    have e1 : 48 + (nI v / nI (10 ^ (j + 1)) - nI v / nI (10 ^ (j + 1)) / 10 * 10) = nI (48 + v / 10 ^ (j + 1) % 10) := by
      rw [nI_div (by omega) (by omega)]
      show nI 48 + (nI (v / 10 ^ (j + 1)) - nI (v / 10 ^ (j + 1)) / nI 10 * nI 10) = _
      rw [nI_mod (by omega) (by decide), nI_add]
    rw [e1]
    refine Tr_jc (make_m hL) (fun r ⟨r1, r2⟩ => Tr_jn ?_)
    have e2 : nI (10 ^ (j + 1)) / 10 = nI (10 ^ j) := by
      show nI (10 ^ (j + 1)) / nI 10 = _
      rw [nI_div (by omega) (by decide), Nat.pow_succ, Nat.mul_div_cancel _ (by decide)]
    rw [e2]
    refine Tr_mono (ih g (L ++ [48 + v / 10 ^ (j + 1) % 10]) r (by omega) (by omega) r1) (fun s ⟨s1, s2⟩ => ⟨?_, Ch_trans r2 s2 (fun _ z => z) (fun _ z => z)⟩)
    rw [List.append_assoc] at s1
    exact s1
theorem mk2 {v : Nat} (hv : v < 10000000) : ∀ (k j fu : Nat) (L : TT) (m : GS), j + k = 6 → k + 20 ≤ fu → (j = 0 ∨ 10 ^ j ≤ v) → Mk L m → Tr (mo_makeNumber_2 fu m (nI v) (nI (10 ^ j))) (fun r => Mk (L ++ digs v) r ∧ Ch [30, 31] [16] m r) := by
  intro k
  induction k with
  | zero =>
    intro j fu L m hj hf h1 hL
    obtain ⟨g, rfl⟩ : ∃ g, fu = g + 1 := ⟨fu - 1, by omega⟩
    obtain rfl : j = 6 := by omega
    have hd : v / 10 ^ 6 ≤ 9 := by
      have : v / 10 ^ 6 < 10 := (Nat.div_lt_iff_lt_mul (by decide)).mpr (by omega)
      omega
    refine Tr_jg (nz_of (by decide) (by decide)) (Tr_jbt ?_ ?_)
    · rw [nI_div (by omega) (by decide)]
      exact nI_le (b := 9) hd (by decide)
    · rw [← tdig_eq 6 v (by omega) h1]
      exact mk18 hv 6 FU L m (by decide) (by decide) hL
  | succ k ih =>
    intro j fu L m hj hf h1 hL
    obtain ⟨g, rfl⟩ : ∃ g, fu = g + 1 := ⟨fu - 1, by omega⟩
    have hp := p7_le (show j ≤ 7 by omega)
    have hp0 : 0 < 10 ^ j := Nat.pow_pos (by decide)
    have hd : v / 10 ^ j ≤ v := Nat.div_le_self _ _
    refine Tr_jg (nz_of hp0 (by omega)) ?_
    rw [nI_div (by omega) (by omega)]
    by_cases h9 : v / 10 ^ j ≤ 9
    · refine Tr_jbt (nI_le (b := 9) h9 (by decide)) ?_
      have h10 : v < 10 ^ (j + 1) := by
        rw [Nat.pow_succ, Nat.mul_comm, ← Nat.div_lt_iff_lt_mul hp0]
        omega
      rw [← tdig_eq j v h10 h1]
      exact mk18 hv j FU L m (by omega) (by have : j ≤ 7 := by omega
                                            show j + 2 ≤ 20000000
                                            omega) hL
    · refine Tr_jbf (nI_ge (a := 9) (by omega) (by omega)) (Tr_jn ?_)
      have e : 10 * nI (10 ^ j) = nI (10 ^ (j + 1)) := by
        show nI 10 * nI (10 ^ j) = _
        rw [nI_mul, Nat.mul_comm, ← Nat.pow_succ]
      rw [e]
      refine ih (j + 1) g L m (by omega) (by omega) (Or.inr ?_) hL
      rw [Nat.pow_succ, Nat.mul_comm]
      have : 10 ≤ v / 10 ^ j := by omega
      exact (Nat.le_div_iff_mul_le hp0).mp this
theorem number_m {v : Nat} (hv : v < 10000000) {L : TT} {m : GS} (hL : Mk L m) : Tr (f_mo_makeNumber m (nI v)) (fun r => Mk (L ++ digs v) r ∧ Ch [30, 31] [16] m r) := mk2 hv 6 0 FU L m rfl (by decide) (Or.inl rfl) hL
def nb (ch v : Nat) (fx : Bool) : TT := [ch] ++ ((if fx = true then [] else [91]) ++ (digs v ++ (if fx = true then [] else [93])))
theorem digs7 {v : Nat} (hv : v < 10000000) : (digs v).length ≤ 7 := digs_le 6 v hv
theorem num_c {ch v : Nat} {fx : Bool} (hc : ch < 256) (hv : v < 10000000) {L : TT} {q N : Nat} (hq : 16 ≤ q) (hq2 : q ≤ 2 * N + 16) (hN : L.length + 10 ≤ N) (hN2 : N ≤ 2000) : AP (f_lu_appendNumbered (L, q) (nI ch) (nI v) (b01 fx)) L q N (nb ch v fx) := by
  have hd := digs7 hv
  have h40 : ∀ (M z : TT) (p : Nat), 16 ≤ p → p ≤ 2 * N + 16 → M.length + z.length ≤ N → AP (lu_appendNumbered_40 z (M, p)) M p N z := fun M z p a b c => by
    have := AP_jd (f := fun q1 => some (q1, 0, 0)) (t2 := []) (AP_S a b c hN2) (fun q' x y => AP_end x y)
    rw [List.append_nil] at this
    exact this
  have h18 : ∀ (M z : TT) (p : Nat), 16 ≤ p → p ≤ 2 * N + 16 → z.length ≤ 1 → M.length + 9 ≤ N → AP (lu_appendNumbered_18 (nI v) (b01 fx) z (M, p)) M p N (z ++ (digs v ++ (if fx = true then [] else [93]))) := fun M z p a b c d => by
    refine AP_jd (AP_S a b (by omega) hN2) (fun q' x y => AP_jd (AP_I (by omega) x y (by rw [List.length_append]; omega) hN2) (fun q2 x2 y2 => ?_))
    cases fx with
    | true => exact AP_b (fun w => absurd w (by decide)) (fun _ => h40 _ [] q2 x2 y2 (by rw [List.length_append, List.length_append]; show _ + 0 ≤ N; omega))
    | false => exact AP_b (fun _ => h40 _ [93] q2 x2 y2 (by rw [List.length_append, List.length_append]; show _ + 1 ≤ N; omega)) (fun w => absurd rfl w)
  refine AP_jd (AP_C hc hq hq2 (by omega) hN2) (fun q' x y => ?_)
  have hl : (L ++ [ch]).length + 9 ≤ N := by rw [List.length_append]; show L.length + 1 + 9 ≤ N; omega
  cases fx with
  | true => exact AP_b (fun w => absurd w (by decide)) (fun _ => h18 _ [] q' x y (by decide) hl)
  | false => exact AP_b (fun _ => h18 _ [91] q' x y (by decide) hl) (fun w => absurd rfl w)
theorem num_m {ch v : Nat} {fx : Bool} (hv : v < 10000000) {L : TT} {m : GS} (hL : Mk L m) : Tr (f_mo_bracketed m (nI ch) (nI v) (b01 fx)) (fun r => Mk (L ++ nb ch v fx) r ∧ Ch [30, 31] [16] m r) := by
  unfold nb
  refine Tr_jc (make_m hL) (fun r ⟨r1, r2⟩ => ?_)
  cases fx with
  | true =>
    refine Tr_jbf (by decide) (Tr_jc (number_m hv r1) (fun s ⟨s1, s2⟩ => Tr_jbf (by decide) (Tr_some ⟨?_, Ch_trans r2 s2 (fun _ z => z) (fun _ z => z)⟩)))
    rw [if_pos rfl, if_pos rfl, List.nil_append, List.append_nil, ← List.append_assoc]
    exact s1
  | false =>
    refine Tr_jbt rfl (Tr_jc (make_m (c := 91) r1) (fun s ⟨s1, s2⟩ => Tr_jc (number_m hv s1) (fun w ⟨w1, w2⟩ => Tr_jbt rfl (Tr_jc (make_m (c := 93) w1) (fun y ⟨y1, y2⟩ => Tr_some ⟨?_, Ch_trans (Ch_trans (Ch_trans r2 s2 (fun _ z => z) (fun _ z => z)) w2 (fun _ z => z) (fun _ z => z)) y2 (fun _ z => z) (fun _ z => z)⟩)))))
    rw [List.append_assoc, List.append_assoc, List.append_assoc] at y1
    exact y1
def abody (tr : Int32) (R C : Nat) (rf cf : Bool) : TT := if tr = 0 then nb 82 R rf ++ nb 67 C cf else (if cf = true then [36] else []) ++ (colL C ++ ((if rf = true then [36] else []) ++ digs R))
theorem nb_ok {ch v : Nat} {fx : Bool} (hc : ch < 256) (hv : v < 10000000) : (nb ch v fx).length ≤ 10 ∧ ∀ c ∈ nb ch v fx, c < 256 := by
  have hd := digs7 hv
  have h256 := digs_256 v
  unfold nb
  cases fx with
  | true =>
    rw [if_pos rfl, if_pos rfl]
    refine ⟨by simp; omega, okT_app (fun c h => ?_) (okT_app (fun c h => by cases h) (okT_app h256 (fun c h => by cases h)))⟩
    simp at h
    omega
  | false =>
    rw [if_neg (by decide), if_neg (by decide)]
    refine ⟨by simp; omega, okT_app (fun c h => ?_) (okT_app (fun c h => ?_) (okT_app h256 (fun c h => ?_)))⟩
    · simp at h; omega
    · simp at h; omega
    · simp at h; omega
theorem abody_ok {tr : Int32} {R C : Nat} {rf cf : Bool} (hR : R < 10000000) (hC : C ≤ 16384) : (abody tr R C rf cf).length ≤ 20 ∧ ∀ c ∈ abody tr R C rf cf, c < 256 := by
  have hd := digs7 hR
  obtain ⟨a1, a2⟩ := nb_ok (ch := 82) (v := R) (fx := rf) (by decide) hR
  obtain ⟨b1, b2⟩ := nb_ok (ch := 67) (v := C) (fx := cf) (by decide) (by omega)
  obtain ⟨c1, c2⟩ := colL_ok hC
  have d : ∀ b : Bool, (if b = true then [36] else [] : TT).length ≤ 1 ∧ ∀ c ∈ (if b = true then [36] else [] : TT), c < 256 := fun b => by
    cases b
    · exact ⟨by decide, by decide⟩
    · exact ⟨by decide, by decide⟩
  unfold abody
  by_cases h : tr = 0
  · rw [if_pos h]
    exact ⟨by rw [List.length_append]; omega, okT_app a2 b2⟩
  · rw [if_neg h]
    have d1 := (d cf).1
    have d2 := (d rf).1
    exact ⟨by rw [List.length_append, List.length_append, List.length_append]; omega, okT_app (d cf).2 (okT_app c2 (okT_app (d rf).2 (digs_256 R)))⟩
theorem addr_c {cs : CS} {R C : Nat} {tr : Int32} {rf cf : Bool} (hR : R < 10000000) (hC1 : 1 ≤ C) (hC : C ≤ 16384) {L : TT} {q : Nat} (hq : 16 ≤ q) (hq2 : q ≤ 2 * 300 + 16) (hL : L.length ≤ 256) : TA (fc q 300 + 3) (fs q 300 + 262) (lu_address_149 cs (nI R) (nI C) tr (b01 rf) (b01 cf) (L, q)) (fun r => r = (tv (L ++ abody tr R C rf cf), cs)) := by
  have hd := digs7 hR
  obtain ⟨c1, c2⟩ := colL_ok hC
  obtain ⟨a1, a2⟩ := nb_ok (ch := 82) (v := R) (fx := rf) (by decide) hR
  obtain ⟨b1, b2⟩ := nb_ok (ch := 67) (v := C) (fx := cf) (by decide) (show C < 10000000 by omega)
  have h226 : ∀ (M : TT) (p : Nat), M.length ≤ 300 → M = L ++ abody tr R C rf cf → TA (fc p 300 + 3) (fs p 300 + 262) (lu_address_226 cs (M, p)) (fun r => r = (tv (L ++ abody tr R C rf cf), cs)) := fun M p h1 h2 => by
    rw [← h2]
    exact tv_end (by omega) (by omega) (by omega)
  unfold abody at h226 ⊢
  refine TA_jb (fun h => ?_) (fun h => ?_)
  · simp only [if_pos h] at h226 ⊢
    refine TA_AP (num_c (ch := 82) (fx := rf) (by decide) hR hq hq2 (by omega) (by decide)) (fun q1 x y => TA_AP (num_c (ch := 67) (fx := cf) (by decide) (by omega) x y (by rw [List.length_append]; omega) (by decide)) (fun q2 x2 y2 => ?_))
    exact h226 _ q2 (by rw [List.length_append, List.length_append]; omega) (List.append_assoc _ _ _)
  · simp only [if_neg h] at h226 ⊢
    have h168 : ∀ (z : TT) (p : Nat), z = (if cf = true then [36] else []) → 16 ≤ p → p ≤ 2 * 300 + 16 → TA (fc p 300 + 3) (fs p 300 + 262) (lu_address_168 cs (nI R) (nI C) (b01 rf) z (L, p)) (fun r => r = (tv (L ++ ((if cf = true then [36] else []) ++ (colL C ++ ((if rf = true then [36] else []) ++ digs R)))), cs)) := fun z p hz hp hp2 => by
      have hz1 : z.length ≤ 1 := by
        rw [hz]
        cases cf
        · exact Nat.zero_le _
        · exact Nat.le_refl _
      have h192 : ∀ (y : TT) (p : Nat), y = (if rf = true then [36] else []) → 16 ≤ p → p ≤ 2 * 300 + 16 → TA (fc p 300 + 3) (fs p 300 + 262) (lu_address_192 cs (nI R) y (L ++ z ++ colL C, p)) (fun r => r = (tv (L ++ ((if cf = true then [36] else []) ++ (colL C ++ ((if rf = true then [36] else []) ++ digs R)))), cs)) := fun y p hy hp hp2 => by
        have hy1 : y.length ≤ 1 := by
          rw [hy]
          cases rf
          · exact Nat.zero_le _
          · exact Nat.le_refl _
        refine TA_AP (AP_S hp hp2 (by rw [List.length_append, List.length_append]; omega) (by decide)) (fun q1 x1 x2 => TA_AP (AP_I (by omega) x1 x2 (by rw [List.length_append, List.length_append, List.length_append]; omega) (by decide)) (fun q2 x3 x4 => ?_))
        refine h226 _ q2 (by rw [List.length_append, List.length_append, List.length_append, List.length_append]; omega) ?_
        rw [← hz, ← hy, List.append_assoc, List.append_assoc, List.append_assoc]
      refine TA_AP (AP_S hp hp2 (by omega) (by decide)) (fun q1 x1 x2 => TA_AP (col_c hC1 hC x1 x2 (by rw [List.length_append]; omega) (by decide)) (fun q2 x3 x4 => ?_))
      cases rf with
      | true => exact TA_jbf (by decide) (h192 [36] q2 rfl x3 x4)
      | false => exact TA_jbt rfl (h192 [] q2 rfl x3 x4)
    cases cf with
    | true => exact TA_jbf (by decide) (h168 [36] q rfl hq hq2)
    | false => exact TA_jbt rfl (h168 [] q rfl hq hq2)
theorem addr_m {R C : Nat} {tr : Int32} {rf cf : Bool} (hR : R < 10000000) (hC1 : 1 ≤ C) (hC : C ≤ 16384) {L : TT} {m : GS} (hL : Mk L m) {Q : GS → Prop} (hk : ∀ m', Mk (L ++ abody tr R C rf cf) m' → Ch [30, 31] [16] m m' → Tr (f_mo_answerText m') Q) : Tr (mo_address_144 m (nI R) (nI C) tr (b01 rf) (b01 cf)) Q := by
  have h204 : ∀ m', Mk (L ++ abody tr R C rf cf) m' → Ch [30, 31] [16] m m' → Tr (mo_address_204 m') Q := fun m' a b => Tr_jc (hk m' a b) (fun r hr => Tr_some hr)
  unfold abody at h204
  refine Tr_jb (fun h => ?_) (fun h => ?_)
  · simp only [if_pos h] at h204
    refine Tr_jc (num_m (ch := 82) hR hL) (fun r ⟨r1, r2⟩ => Tr_jc (num_m (ch := 67) (by omega) r1) (fun s ⟨s1, s2⟩ => h204 s ?_ (Ch_trans r2 s2 (fun _ z => z) (fun _ z => z))))
    rw [← List.append_assoc]
    exact s1
  · simp only [if_neg h] at h204
    have h162 : ∀ m1, Mk (L ++ (if cf = true then [36] else [])) m1 → Ch [30, 31] [16] m m1 → Tr (mo_address_162 m1 (nI R) (nI C) (b01 rf)) Q := fun m1 a b => by
      refine Tr_jc (col_m hC1 hC a) (fun r ⟨r1, r2⟩ => ?_)
      have h178 : ∀ m2, Mk (L ++ (if cf = true then [36] else []) ++ colL C ++ (if rf = true then [36] else [])) m2 → Ch [30, 31] [16] m m2 → Tr (mo_address_178 m2 (nI R)) Q := fun m2 c d => by
        refine Tr_jc (number_m hR c) (fun s ⟨s1, s2⟩ => h204 s ?_ (Ch_trans d s2 (fun _ z => z) (fun _ z => z)))
        rw [List.append_assoc, List.append_assoc, List.append_assoc] at s1
        exact s1
      have hr := Ch_trans b r2 (fun _ z => z) (fun _ z => z)
      cases rf with
      | true =>
        refine Tr_jbf (by decide) (Tr_jc (make_m (c := 36) r1) (fun s ⟨s1, s2⟩ => h178 s s1 (Ch_trans hr s2 (fun _ z => z) (fun _ z => z))))
      | false =>
        refine Tr_jbt rfl (h178 r ?_ hr)
        rw [if_neg (show ¬ false = true by decide), List.append_nil]
        exact r1
    cases cf with
    | true => exact Tr_jbf (by decide) (Tr_jc (make_m (c := 36) hL) (fun s ⟨s1, s2⟩ => h162 s s1 s2))
    | false => exact Tr_jbt rfl (h162 m (by rw [if_neg (show ¬ false = true by decide), List.append_nil]; exact hL) Ch_refl)
theorem x_address {n u h : Nat} {cs0 cs : CS} {ms0 ms : GS} (I : CI n u h cs0 ms0 cs ms) (hn : 1 < n) (hM : Mk [] ms) : Sm 900 13000 (f_lu_address cs) (f_mo_address ms) (XE n u h cs0 ms0) := by
  have hn30 := I.1.2.2.1
  refine Sm_j0 (k_whole I (i := 0) (by omega)) (fun ⟨r, c1⟩ ⟨r', m1⟩ ⟨a1, a0, a2, a3, a4, a5⟩ => ?_)
  refine Sm_j0 (k_whole a1 (i := 1) (by omega)) (fun ⟨c, c2⟩ ⟨c', m2⟩ ⟨b1, b0, b2, b3, b4, b5⟩ => ?_)
  refine Sm_j0 (k_wholeOr b1 (i := 2) (by decide) 1 ⟨by decide, by decide⟩) (fun ⟨w, c3⟩ ⟨w', m3⟩ ⟨d1, d0, d2, d3, d4, d5⟩ => ?_)
  refine Sm_j0 (k_truthOr d1 (i := 3) (by decide) 1 (Or.inr rfl)) (fun ⟨tr, c4⟩ ⟨tr', m4⟩ ⟨e1, e0, e2, e3, e4, e5⟩ => ?_)
  dsimp only at *
  have hM4 := Mk_ch (Mk_ch (Mk_ch (Mk_ch hM a5 (by decide) (by decide) (by decide)) b5 (by decide) (by decide) (by decide)) d5 (by decide) (by decide) (by decide)) e5 (by decide) (by decide) (by decide)
  -- behind the name
  have go : ∀ (nm : Bool) (t : TT) (c5 : CS) (m5 : GS), CI n u h cs0 ms0 c5 m5 → (c5.1 1 6 = 0 → c4.1 1 6 = 0) → okT t → Txt 27 13 t m5 → (nm = false → t = []) → Mk [] m5 → Sm 890 12900 (jc (f_wf_isCell r c) (fun q24 => jb (q24 = 0) (lu_address_85 c5) (jb (w < 1) (lu_address_85 c5) (jb (w ≤ 4) (jb (2 < w) (lu_address_100 c5 r c w tr (b01 nm) t 0) (lu_address_100 c5 r c w tr (b01 nm) t 1)) (lu_address_85 c5))))) (mo_address_65 m5 r' c' w' tr' (b01 nm)) (XE n u h cs0 ms0) := by
    intro nm t c5 m5 I5 f5 ht hT hnm hM5
    have htl := ht.1
    have hv : c5.1 1 6 = 0 → r' = r ∧ c' = c ∧ w' = w ∧ tr' = tr := fun z => ⟨a4 (b0 (d0 (e0 (f5 z)))), b4 (d0 (e0 (f5 z))), d4 (e0 (f5 z)), e4 (f5 z)⟩
    have R88 : ¬ m5.1 0 22 = 0 → Tr (mo_address_88 m5 r' c' w' tr' (b01 nm)) (fun m => Ch SF0 SC m5 m) := fun he => Tr_jbf he (Tr_some Ch_refl)
    have R83 : ¬ m5.1 0 22 = 0 → Tr (mo_address_83 m5 r' c' w' tr' (b01 nm)) (fun m => Ch SF0 SC m5 m) := fun he => Tr_jce (fail_skip he) (R88 he)
    have Y0 : ¬ m5.1 0 22 = 0 → Tr (mo_address_65 m5 r' c' w' tr' (b01 nm)) (fun m => Ch SF0 SC m5 m) := fun he => by
      rcases cell_eq r' c' with ⟨-, -, k⟩ | ⟨-, -, k⟩
      · exact Tr_jce k (Tr_jb (fun _ => R83 he) (fun _ => Tr_jb (fun _ => R83 he) (fun _ => Tr_jb (fun _ => R88 he) (fun _ => R83 he))))
      · exact Tr_jce k (Tr_jb (fun _ => R83 he) (fun _ => Tr_jb (fun _ => R83 he) (fun _ => Tr_jb (fun _ => R88 he) (fun _ => R83 he))))
    have E83 : ∀ {x y z v : Int32}, Tr (mo_address_83 m5 x y z v (b01 nm)) (fun m => XE n u h cs0 ms0 (er 3, c5) m) := fun {x y z v} => Tr_jc (XE_err I5 (e := 3) (by decide) (by decide)) (fun m ⟨k1, k2, k3⟩ => Tr_jbf k3 (Tr_some k1))
    have X85 : TA 890 12900 (lu_address_85 c5) (fun r => r = (er 3, c5)) := TA_vl rfl
    rcases cell_eq r c with ⟨hcb, k1, k2⟩ | ⟨hcb, k1, k2⟩
    · by_cases hw1 : w < 1
      · exact Sm_fin I5 (V := er 3) (TA_jce k1 (TA_jbf (by decide) (TA_jbt hw1 X85))) Y0 (fun hf he => by
          obtain ⟨v1, v2, v3, v4⟩ := hv hf
          rw [v1, v2, v3, v4]
          exact Tr_jce k2 (Tr_jbf (by decide) (Tr_jbt hw1 E83)))
      · by_cases hw4 : w ≤ 4
        · obtain ⟨k, q1, q2, rfl⟩ := iB_one d2 hw1
          have hk4 : k ≤ 4 := (nI_leI (b := 4) (by omega) (by decide)).mp hw4
          obtain ⟨R, hR31, rfl⟩ := nI_of (x := r) (fun z => Int32.not_le.mpr (Int32.lt_of_lt_of_le z (by decide)) hcb.1)
          obtain ⟨C, hC31, rfl⟩ := nI_of (x := c) (fun z => Int32.not_le.mpr (Int32.lt_of_lt_of_le z (by decide)) hcb.2.2.1)
          have hR : R ≤ 1048576 := (nI_leI (b := 1048576) hR31 (by decide)).mp hcb.2.1
          have hC : C ≤ 16384 := (nI_leI (b := 16384) hC31 (by decide)).mp hcb.2.2.2
          have hC1 : 1 ≤ C := (nI_leI (a := 1) (by decide) hC31).mp hcb.2.2.1
          obtain ⟨rf, cf, hXs, hYs⟩ : ∃ rf cf : Bool, (∀ (P : VV × CS → Prop), TA 890 12900 (lu_address_117 c5 (nI R) (nI C) tr (b01 nm) t (b01 rf) (b01 cf)) P → TA 890 12900 (jb (2 < nI k) (lu_address_100 c5 (nI R) (nI C) (nI k) tr (b01 nm) t 0) (lu_address_100 c5 (nI R) (nI C) (nI k) tr (b01 nm) t 1)) P) ∧ (∀ (m : GS) (P : GS → Prop), Tr (mo_address_144 m (nI R) (nI C) tr (b01 rf) (b01 cf)) P → Tr (mo_address_120 m (nI R) (nI C) (nI k) tr) P) := by
            have hk : k = 1 ∨ k = 2 ∨ k = 3 ∨ k = 4 := by omega
            rcases hk with rfl | rfl | rfl | rfl
            · exact ⟨true, true, fun P q => TA_jbf (by decide) (TA_jbt (by decide) q), fun m P q => Tr_jbf (by decide) (Tr_jbt (by decide) q)⟩
            · exact ⟨true, false, fun P q => TA_jbf (by decide) (TA_jbf (by decide) (TA_jbf (by decide) q)), fun m P q => Tr_jbf (by decide) (Tr_jbf (by decide) q)⟩
            · exact ⟨false, true, fun P q => TA_jbt (by decide) (TA_jbf (by decide) (TA_jbt (by decide) q)), fun m P q => Tr_jbt (by decide) (Tr_jbt (by decide) q)⟩
            · exact ⟨false, false, fun P q => TA_jbt (by decide) (TA_jbf (by decide) (TA_jbf (by decide) q)), fun m P q => Tr_jbt (by decide) (Tr_jbf (by decide) q)⟩
          obtain ⟨B1, B2⟩ := abody_ok (tr := tr) (R := R) (C := C) (rf := rf) (cf := cf) (by omega) hC
          have fin : ∀ (L : TT), L.length ≤ 256 → (∀ c ∈ L, c < 256) → L = (if nm = true then t ++ [33] else []) → (∀ (P : VV × CS → Prop), (∀ q, 16 ≤ q → q ≤ 2 * 300 + 16 → TA (fc q 300 + 3) (fs q 300 + 262) (lu_address_149 c5 (nI R) (nI C) tr (b01 rf) (b01 cf) (L, q)) P) → TA 890 12900 (lu_address_117 c5 (nI R) (nI C) tr (b01 nm) t (b01 rf) (b01 cf)) P) → (m5.1 0 22 = 0 → ∀ (P : GS → Prop), (∀ m', Mk L m' → Ch [30, 31] [16] m5 m' → Tr (mo_address_120 m' (nI R) (nI C) (nI k) tr) P) → Tr (mo_address_88 m5 (nI R) (nI C) (nI k) tr (b01 nm)) P) → Sm 890 12900 (jc (f_wf_isCell (nI R) (nI C)) (fun q24 => jb (q24 = 0) (lu_address_85 c5) (jb (nI k < 1) (lu_address_85 c5) (jb (nI k ≤ 4) (jb (2 < nI k) (lu_address_100 c5 (nI R) (nI C) (nI k) tr (b01 nm) t 0) (lu_address_100 c5 (nI R) (nI C) (nI k) tr (b01 nm) t 1)) (lu_address_85 c5))))) (mo_address_65 m5 r' c' w' tr' (b01 nm)) (XE n u h cs0 ms0) := by
            intro L hL hL2 _ hX hY
            refine Sm_fin I5 (V := tv (L ++ abody tr R C rf cf)) (TA_jce k1 (TA_jbf (by decide) (TA_jbf hw1 (TA_jbt hw4 (hXs _ (hX _ (fun q x y => addr_c (by omega) hC1 hC x y hL))))))) Y0 (fun hf he => ?_)
            obtain ⟨v1, v2, v3, v4⟩ := hv hf
            rw [v1, v2, v3, v4]
            refine Tr_jce k2 (Tr_jbf (by decide) (Tr_jbf hw1 (Tr_jbt hw4 (hY he _ (fun m' y1 y2 => hYs m' _ (addr_m (by omega) hC1 hC y1 (fun m2 z1 z2 => ?_)))))))
            refine tv_m (CI_ref I5 (Ch_trans y2 z2 (fun _ z => z) (fun _ z => z)) (by decide) (by decide) (by decide)) z1 (okT_app hL2 B2) (by rw [List.length_append]; omega)
          cases nm with
          | true =>
            refine fin (t ++ [33]) (by rw [List.length_append]; show t.length + 1 ≤ 256; omega) (okT_app ht.2 (fun c hc => by simp at hc; omega)) rfl (fun P q => ?_) (fun he P q => ?_)
            · refine TA_mono (TA_ja (k := 2) (n := 20) (c := fc 16 300 + 3) (s := fs 16 300 + 262) (TA_jbf (by decide) (TA_AP (AP_S (L := []) (by decide) (by decide) (by show 0 + t.length ≤ 300; omega) (by decide)) (fun q1 x1 x2 => TA_AP (AP_C (ch := 33) (by decide) x1 x2 (by rw [List.nil_append]; omega) (by decide)) (fun q2 x3 x4 => ?_))))) (by decide) (by decide) (fun _ z => z)
              rw [List.nil_append]
              exact q q2 x3 x4
            · refine Tr_jbt he (Tr_jc (makeAll_m (by decide) (by decide) (by decide) htl hM5 hT) (fun s ⟨s1, s2⟩ => Tr_jbf (by decide) (Tr_jc (make_m (c := 33) s1) (fun y ⟨y1, y2⟩ => q y ?_ (Ch_trans s2 y2 (fun _ z => z) (fun _ z => z))))))
              rw [List.nil_append] at y1
              exact y1
          | false =>
            refine fin [] (Nat.zero_le _) (fun c hc => by cases hc) rfl (fun P q => ?_) (fun he P q => ?_)
            · exact TA_mono (TA_ja (k := 2) (n := 20) (TA_jbt rfl (q 16 (by decide) (by decide)))) (by decide) (by decide) (fun _ z => z)
            · refine Tr_jbt he (Tr_jc (makeAll_m (by decide) (by decide) (by decide) htl hM5 hT) (fun s ⟨s1, s2⟩ => Tr_jbt rfl (q s ?_ s2)))
              rw [hnm rfl, List.nil_append] at s1
              exact s1
        · exact Sm_fin I5 (V := er 3) (TA_jce k1 (TA_jbf (by decide) (TA_jbf hw1 (TA_jbf hw4 X85)))) Y0 (fun hf he => by
            obtain ⟨v1, v2, v3, v4⟩ := hv hf
            rw [v1, v2, v3, v4]
            exact Tr_jce k2 (Tr_jbf (by decide) (Tr_jbf hw1 (Tr_jbf hw4 E83))))
    · exact Sm_fin I5 (V := er 3) (TA_jce k1 (TA_jbt rfl X85)) Y0 (fun hf he => by
        obtain ⟨v1, v2, v3, v4⟩ := hv hf
        rw [v1, v2, v3, v4]
        exact Tr_jce k2 (Tr_jbt rfl E83))
  -- the name
  have unnamed : f_ar_isLeftOut c4 4 = some 1 → f_ar_nth c4 4 0 = some (0, 0, []) → ∀ {Y : Option GS}, Y = mo_address_47 m4 r' c' w' tr' → Sm 900 13000 (jc (f_ar_isLeftOut c4 4) (fun q29 => jb (q29 = 0) (lu_address_55 c4 r c w tr 1) (lu_address_55 c4 r c w tr 0))) Y (XE n u h cs0 ms0) := fun h1 h2 {Y} hY => by
    have hc : Ch [27] [] m4 (uI m4 0 27 0) := Ch_f Ch_refl (by decide)
    have g := go false [] c4 (uI m4 0 27 0) (CI_ref e1 hc (by decide) (by decide) (by decide)) (fun z => z) okT_nil ⟨uI_at, fun j hj => absurd hj (Nat.not_lt_zero j)⟩ (fun _ => rfl) (Mk_ch hM4 hc (by decide) (by decide) (by decide))
    rw [hY]
    unfold mo_address_47 mo_address_48
    refine Sm_Lc h1 (Sm_Lbf (by decide) (Sm_Ld (k1 := 0) (n1 := 0) (show f_ar_text c4 4 = some (([], c4), 0, 0) from e_c h2 rfl) (Sm_n (Sm_bt rfl ?_))))
    exact Sm_mono g (by decide) (by decide) (fun _ _ z => z)
  have hg := given_m e1.1 (i := 4) (by decide)
  by_cases h4 : 4 < n
  · rw [if_pos h4] at hg
    have ho := out_c e1.1 h4
    have ho' := isOut_m e1.1 h4
    by_cases h0 : aR c4 4 = 0
    · rw [if_pos h0] at ho ho'
      refine unnamed ho ?_ (e_c hg (e_bf (by decide) (e_c ho' (e_bf (by decide) rfl))))
      have := nth_c e1.1 h4 (k := 0) (by decide)
      unfold av at this
      rw [h0, Nat.zero_mul, if_neg (by decide)] at this
      exact this
    · rw [if_neg h0] at ho ho'
      have hc : Ch [27] [] m4 (uI m4 0 27 0) := Ch_f Ch_refl (by decide)
      have I5 := CI_ref e1 hc (by decide) (by decide) (by decide)
      have hY : jc (f_mo_isGiven m4 4) (fun q18 => jb (q18 = 0) (mo_address_47 m4 r' c' w' tr') (jc (f_mo_isOut m4 4) (fun q19 => jb (q19 = 0) (mo_address_48 m4 r' c' w' tr' 1) (mo_address_47 m4 r' c' w' tr')))) = jc (f_mo_textOf (uI m4 0 27 0) 4) (fun q13 => mo_address_65 q13 r' c' w' tr' 1) := e_c hg (e_bf (by decide) (e_c ho' (e_bt rfl (e_n (e_bf (by decide) rfl)))))
      refine Sm_R hY (Sm_Lc ho (Sm_Lbt rfl ?_))
      refine Sm_jj (k_text I5 (i := 4) h4) (fun ⟨t, c5⟩ m5 ⟨k1, k0, k2, k3, k4⟩ => ?_)
      exact Sm_mono (go true t c5 m5 k1 k0 k2 k3 (fun z => by cases z) (Mk_ch (Mk_ch hM4 hc (by decide) (by decide) (by decide)) k4 (by decide) (by decide) (by decide))) (by decide) (by decide) (fun _ _ z => z)
  · rw [if_neg h4] at hg
    exact unnamed (out_no e1.1 (i := 4) (by omega) (by decide)) (nth_no e1.1 (i := 4) (by omega) (by decide) 0) (e_c hg (e_bt rfl rfl))
