/-! ### patterns, the reference -/
/-- a row of letters in a cell of the reference -/
def Row (c : Nat) (t : TT) (m : GS) : Prop := ∀ j, j < t.length → m.1 c j = nI (t.getD j 0)
theorem isEscape_m {c i : Nat} {f : TT} {M : GS} (hf : okT f) (hF : Row c f M) (hi : i < f.length) : f_mo_isEscape M c (nI f.length) (nI i) = some (b01 (escB f i)) := by
  have hfl := hf.1
  have hc := okT_at hf i
  have hc1 := okT_at hf (i + 1)
  have no : ¬ escB f i = true → b01 (escB f i) = 0 := fun h => b01_0.mpr (Bool.eq_false_iff.mpr h)
  refine e_g (inb_of (by omega) (by decide)) ?_
  rw [nI_clamp (by omega), hF i hi]
  by_cases h126 : f.getD i 0 = 126
  · refine e_bt (by rw [h126]; rfl) ?_
    rw [nI_1]
    by_cases hi1 : i + 1 < f.length
    · have hin : inb (nI (i + 1)) 256 = true := inb_of (by omega) (by decide)
      have yes : (f.getD (i + 1) 0 = 63 ∨ f.getD (i + 1) 0 = 42 ∨ f.getD (i + 1) 0 = 126) → some (1 : Int32) = some (b01 (escB f i)) := fun h => by rw [escB_iff.mpr ⟨h126, hi1, h⟩]; rfl
      refine e_bf (nI_ge hi1 (by omega)) (e_g hin ?_)
      rw [nI_clamp (by omega), hF (i + 1) hi1]
      by_cases h1 : f.getD (i + 1) 0 = 63
      · exact e_bt (by rw [h1]; rfl) (yes (Or.inl h1))
      · refine e_bf (fun z => h1 ((nI_eq (b := 63) (by omega) (by decide)).mp z)) (e_g hin ?_)
        by_cases h2 : f.getD (i + 1) 0 = 42
        · exact e_bt (by rw [h2]; rfl) (yes (Or.inr (Or.inl h2)))
        · refine e_bf (fun z => h2 ((nI_eq (b := 42) (by omega) (by decide)).mp z)) (e_g hin ?_)
          by_cases h3 : f.getD (i + 1) 0 = 126
          · exact e_bt (by rw [h3]; rfl) (yes (Or.inr (Or.inr h3)))
          · refine e_bf (fun z => h3 ((nI_eq (b := 126) (by omega) (by decide)).mp z)) ?_
            rw [no (fun z => (escB_iff.mp z).2.2.elim h1 (fun y => y.elim h2 h3))]
    · refine e_bt (nI_le (by omega) (by omega)) ?_
      rw [no (fun z => hi1 (escB_iff.mp z).2.1)]
  · refine e_bf (fun z => h126 ((nI_eq (b := 126) (by omega) (by decide)).mp z)) ?_
    rw [no (fun z => h126 (escB_iff.mp z).1)]
theorem sgn_w (f : TT) (i : Nat) : (escB f i = false ∧ wnt f i = 42 ∧ sgn f i = 257) ∨ (escB f i = false ∧ wnt f i = 63 ∧ sgn f i = 256) ∨ (¬ (escB f i = false ∧ wnt f i = 42) ∧ ¬ (escB f i = false ∧ wnt f i = 63) ∧ sgn f i = grC (wnt f i)) := by
  unfold wnt sgn
  cases e : escB f i with
  | true =>
    refine Or.inr (Or.inr ⟨fun z => (by cases z.1), fun z => (by cases z.1), ?_⟩)
    rw [if_pos rfl, if_pos rfl]
    obtain ⟨-, -, h⟩ := escB_iff.mp e
    rcases h with h | h | h <;> rw [h] <;> rfl
  | false =>
    have nf : ¬ false = true := by decide
    rw [if_neg nf, if_neg nf]
    by_cases h1 : f.getD i 0 = 63
    · rw [if_pos h1]; exact Or.inr (Or.inl ⟨rfl, h1, rfl⟩)
    · rw [if_neg h1]
      by_cases h2 : f.getD i 0 = 42
      · rw [if_pos h2]; exact Or.inl ⟨rfl, h2, rfl⟩
      · rw [if_neg h2]
        exact Or.inr (Or.inr ⟨fun z => h2 z.2, fun z => h1 z.2, rfl⟩)
theorem wnt_lt {f : TT} (hf : okT f) (i : Nat) : wnt f i < 256 := by
  unfold wnt
  split
  · exact okT_at hf _
  · exact okT_at hf _
/-- the reference's row of places -/
def RM (r : Nat → Bool) (i a n : Nat) (M : GS) : Prop := ∀ k, a ≤ k → k ≤ n → M.1 18 (256 * i + k) = b01 (r k)
theorem Row_ch {c : Nat} {t : TT} {a b : GS} {F C : List Nat} (h : Row c t a) (k : Ch F C a b) (hc : c ∉ C) (h0 : c ≠ 0) : Row c t b := fun j hj => (congrFun (k.2.1 c h0 hc) j).trans (h j hj)
theorem i256 (i k : Nat) : 256 * nI i + nI k = nI (256 * i + k) := by
  show nI 256 * nI i + nI k = _
  rw [nI_mul, nI_add]
section PMM
variable {K52 : GS → Nat → Int32 → Nat → Int32 → Int32 → Int32 → Option (Int32 × GS)} {f x : TT} {w : Bool} {a i cf cx : Nat} {Q : Int32 × GS → Prop}
theorem m108 (hf : okT f) (hx : okT x) (hi : i < f.length) (hcf : cf ≠ 0 ∧ cf ∉ [18]) (hcx : cx ≠ 0 ∧ cx ∉ [18]) : ∀ (r fu : Nat) (M : GS), a + r ≤ x.length + 1 → r < fu → Row cx x M → (∀ i', i < i' → i' ≤ f.length → RM (mm w x (sgA f i')) i' a x.length M) → RM (mm w x (sgA f i)) i (a + r) x.length M → (∀ M', Ch [] [18] M M' → (∀ i', i ≤ i' → i' ≤ f.length → RM (mm w x (sgA f i')) i' a x.length M') → Tr (K52 M' cf (nI f.length) cx (nI x.length) (nI a) (nI i - 1)) Q) → Tr (mo_matches_108 K52 fu M cf (nI f.length) cx (nI x.length) (nI a) (nI i) (b01 (escB f i)) (nI (wnt f i)) (nI (nxt f i)) (nI (a + r) - 1)) Q := by
  have hfl := hf.1
  have hxl := hx.1
  obtain ⟨n1, n2, n3⟩ := nxt_b f i
  have n3 := n3 hi
  have hw := wnt_lt hf i
  have hgw := grC_lt hw
  intro r
  induction r with
  | zero =>
    intro fu M h1 hf2 hX hr hri hk
    obtain ⟨g, rfl⟩ : ∃ g, fu = g + 1 := ⟨fu - 1, by omega⟩
    have hlt : nI (a + 0) - 1 < nI a := by
      rw [Int32.lt_iff_toInt_lt, show (1 : Int32) = nI 1 from rfl, pk_sub_toInt (by omega) (by decide), nI_toInt (by omega)]
      omega
    refine Tr_jbt hlt (Tr_jn ?_)
    rw [i_m1]
    refine hk M Ch_refl (fun i' k1 k2 => ?_)
    by_cases e : i' = i
    · rw [e]; exact fun k q1 q2 => hri k (by omega) q2
    · exact hr i' (by omega) k2
  | succ r ih =>
    intro fu M h1 hf2 hX hr hri hk
    obtain ⟨g, rfl⟩ : ∃ g, fu = g + 1 := ⟨fu - 1, by omega⟩
    rw [show a + (r + 1) = (a + r) + 1 by omega, nI_pred]
    generalize hk0 : a + r = k at *
    have hkx : k ≤ x.length := by omega
    have rnx : ∀ q, a ≤ q → q ≤ x.length → M.1 18 (256 * nxt f i + q) = b01 (mm w x (sgA f (nxt f i)) q) := hr (nxt f i) (by omega) n3
    have hcons := sgA_cons hi
    -- the place's value laid
    have put : ∀ b : Bool, b = mm w x (sgA f i) k → Tr (mo_matches_265 K52 (mo_matches_108 K52 g) M cf (nI f.length) cx (nI x.length) (nI a) (nI i) (b01 (escB f i)) (nI (wnt f i)) (nI (nxt f i)) (nI k) (256 * nI i + nI k) (b01 b)) Q := fun b hb => by
      rw [i256]
      refine Tr_jg (inb_of (by omega) (by decide)) (Tr_jg (isB_b01 b) (Tr_jn (Tr_jn ?_)))
      rw [nI_clamp (by omega), i_m1]
      have hch : Ch [] [18] M (uI M 18 (256 * i + k) (b01 b)) := Ch_c Ch_refl (by decide) (by decide)
      refine ih g _ (by omega) (by omega) (Row_ch hX hch hcx.2 hcx.1) (fun i' k1 k2 q q1 q2 => ?_) (fun q q1 q2 => ?_) (fun M' c1 c2 => hk M' (Ch_trans hch c1 (fun _ z => z) (fun _ z => z)) c2)
      · rw [uI_ne (by omega)]; exact hr i' k1 k2 q q1 q2
      · by_cases e : q = k
        · rw [e, uI_at, hb]
        · rw [uI_ne (by omega)]; exact hri q (by omega) q2
    have hlt : ¬ nI k < nI a := nI_nlt (by omega) (by omega)
    -- behind one
    have one173 : ∀ (z : Bool), (sgn f i = 257 ∨ z = mm w x (sgA f i) k) → Tr (mo_matches_173 K52 (mo_matches_108 K52 g) M cf (nI f.length) cx (nI x.length) (nI a) (nI i) (b01 (escB f i)) (nI (wnt f i)) (nI (nxt f i)) (nI k) (b01 z)) Q := fun z hz => by
      have s191 : z = mm w x (sgA f i) k → Tr (mo_matches_191 K52 (mo_matches_108 K52 g) M cf (nI f.length) cx (nI x.length) (nI a) (nI i) (b01 (escB f i)) (nI (wnt f i)) (nI (nxt f i)) (nI k) (b01 z)) Q := fun hV => by
        unfold mo_matches_191 mo_matches_192
        exact Tr_jbt rfl (put z hV)
      rcases sgn_w f i with ⟨e1, e2, e3⟩ | ⟨e1, e2, e3⟩ | ⟨e1, e2, e3⟩
      · rw [e1, e2] at put
        rw [e1, e2]
        rw [e3] at hcons
        refine Tr_jbt rfl (Tr_jbt rfl (Tr_jbf (by decide) ?_))
        rw [i256 (nxt f i) k, i256 i k, nI_1]
        rw [i256] at put
        refine Tr_jg (inb_of (by omega) (by decide)) ?_
        rw [nI_clamp (by omega), rnx k (by omega) hkx]
        by_cases hke : k = x.length
        · have hV : mm w x (sgA f i) k = mm w x (sgA f (nxt f i)) k := by rw [hcons, hke]; exact mm_end
          rw [hV] at put
          cases e4 : mm w x (sgA f (nxt f i)) k with
          | false => rw [e4] at put; exact Tr_jbt rfl (Tr_jbt (nI_le (by omega) (by omega)) (put false rfl))
          | true => rw [e4] at put; exact Tr_jbf (by decide) (put true rfl)
        · have hV : mm w x (sgA f i) k = (mm w x (sgA f (nxt f i)) k || mm w x (sgA f i) (k + 1)) := by rw [hcons]; exact mm_star (by omega)
          rw [hV] at put
          cases e4 : mm w x (sgA f (nxt f i)) k with
          | false =>
            rw [e4] at put
            refine Tr_jbt rfl (Tr_jbf (nI_ge (by omega) (by omega)) (Tr_jg (inb_of (by omega) (by decide)) ?_))
            rw [nI_clamp (by omega)]
            have h5 := hri (k + 1) (by omega) (by omega)
            rw [show 256 * i + k + 1 = 256 * i + (k + 1) by omega, h5]
            cases e5 : mm w x (sgA f i) (k + 1) with
            | false => rw [e5] at put; exact Tr_jbt rfl (put false rfl)
            | true => rw [e5] at put; exact Tr_jbf (by decide) (put true rfl)
          | true => rw [e4] at put; exact Tr_jbf (by decide) (put true rfl)
      · have hV := hz.resolve_left (by rw [e3]; decide)
        exact Tr_jbf (by rw [e2]; decide) (s191 hV)
      · have hV := hz.resolve_left (by rw [e3]; omega)
        by_cases h42 : wnt f i = 42
        · refine Tr_jbt (by rw [h42]; rfl) (Tr_jbf (fun q => e1 ⟨b01_0.mp q, h42⟩) (s191 hV))
        · exact Tr_jbf (fun q => h42 ((nI_eq (b := 42) (by omega) (by decide)).mp q)) (s191 hV)
    have s172 : (sgn f i = 257 ∨ false = mm w x (sgA f i) k) → Tr (mo_matches_172 K52 (mo_matches_108 K52 g) M cf (nI f.length) cx (nI x.length) (nI a) (nI i) (b01 (escB f i)) (nI (wnt f i)) (nI (nxt f i)) (nI k)) Q := fun h => one173 false h
    refine Tr_jbf hlt ?_
    by_cases hke : x.length ≤ k
    · refine Tr_jbt (nI_le hke (by omega)) (s172 ?_)
      by_cases h257 : sgn f i = 257
      · exact Or.inl h257
      · refine Or.inr ?_
        rw [hcons, mm_one h257, decide_eq_false (by omega), Bool.false_and]
    · have hV : ¬ sgn f i = 257 → mm w x (sgA f i) k = ((decide (sgn f i = 256) || decide (sgn f i = grC (x.getD k 0))) && mm w x (sgA f (nxt f i)) (k + 1)) := fun h => by
        rw [hcons, mm_one h, decide_eq_true (show k < x.length by omega), Bool.true_and]
      have s149 : (sgn f i = 257 ∨ mm w x (sgA f i) k = mm w x (sgA f (nxt f i)) (k + 1)) → Tr (mo_matches_149 K52 (mo_matches_108 K52 g) M cf (nI f.length) cx (nI x.length) (nI a) (nI i) (b01 (escB f i)) (nI (wnt f i)) (nI (nxt f i)) (nI k)) Q := fun h => by
        unfold mo_matches_149
        rw [i256, nI_1]
        refine Tr_jg (inb_of (by omega) (by decide)) ?_
        rw [nI_clamp (by omega), show 256 * nxt f i + k + 1 = 256 * nxt f i + (k + 1) by omega, rnx (k + 1) (by omega) (by omega)]
        cases e4 : mm w x (sgA f (nxt f i)) (k + 1) with
        | false => exact Tr_jbt rfl (s172 (h.imp id (fun q => by rw [q, e4])))
        | true => exact Tr_jbf (by decide) (one173 true (h.imp id (fun q => by rw [q, e4])))
      have hc := okT_at hx k
      have hgc := grC_lt hc
      have s134 : (sgn f i = 257 ∨ sgn f i = grC (wnt f i)) → Tr (mo_matches_134 K52 (mo_matches_108 K52 g) M cf (nI f.length) cx (nI x.length) (nI a) (nI i) (b01 (escB f i)) (nI (wnt f i)) (nI (nxt f i)) (nI k)) Q := fun h => by
        refine Tr_jce (great_m hw) (Tr_jg (inb_of (by omega) (by decide)) ?_)
        rw [nI_clamp (by omega), hX k (by omega)]
        refine Tr_jce (great_m hc) ?_
        by_cases h257 : sgn f i = 257
        · exact Tr_jb (fun _ => s149 (Or.inl h257)) (fun _ => s172 (Or.inl h257))
        · have hg := h.resolve_left h257
          have hn256 : ¬ sgn f i = 256 := by rw [hg]; omega
          have hV' := hV h257
          rw [decide_eq_false hn256, Bool.false_or] at hV'
          by_cases h5 : sgn f i = grC (x.getD k 0)
          · rw [decide_eq_true h5, Bool.true_and] at hV'
            exact Tr_jbt (by rw [← hg, ← h5]) (s149 (Or.inr hV'))
          · rw [decide_eq_false h5, Bool.false_and] at hV'
            exact Tr_jbf (fun q => h5 (by rw [hg]; exact (nI_eq (by omega) (by omega)).mp q)) (s172 (Or.inr hV'.symm))
      refine Tr_jbf (nI_ge (by omega) (by omega)) ?_
      rcases sgn_w f i with ⟨e1, e2, e3⟩ | ⟨e1, e2, e3⟩ | ⟨e1, e2, e3⟩
      · exact Tr_jbf (by rw [e2]; decide) (s134 (Or.inl e3))
      · have hV' := hV (by rw [e3]; decide)
        rw [decide_eq_true e3, Bool.true_or, Bool.true_and] at hV'
        exact Tr_jbt (by rw [e2]; rfl) (Tr_jbt (by rw [e1]; rfl) (s149 (Or.inr hV')))
      · by_cases h63 : wnt f i = 63
        · exact Tr_jbt (by rw [h63]; rfl) (Tr_jbf (fun q => e2 ⟨b01_0.mp q, h63⟩) (s134 (Or.inr e3)))
        · exact Tr_jbf (fun q => h63 ((nI_eq (b := 63) (by omega) (by decide)).mp q)) (s134 (Or.inr e3))
end PMM
theorem m52 {f x : TT} {w : Bool} {a cf cx : Nat} (hf : okT f) (hx : okT x) (ha : a ≤ x.length) (hcf : cf ≠ 0 ∧ cf ∉ [18]) (hcx : cx ≠ 0 ∧ cx ∉ [18]) : ∀ (q fu : Nat) (M : GS), q ≤ f.length → q < fu → Row cf f M → Row cx x M → (∀ i', q ≤ i' → i' ≤ f.length → RM (mm w x (sgA f i')) i' a x.length M) → Tr (mo_matches_52 fu M cf (nI f.length) cx (nI x.length) (nI a) (nI q - 1)) (fun r => r.1 = b01 (mm w x (sgA f 0) a) ∧ Ch [] [18] M r.2) := by
  have hfl := hf.1
  have hxl := hx.1
  intro q
  induction q with
  | zero =>
    intro fu M h1 hf2 hF hX hr
    obtain ⟨g, rfl⟩ : ∃ g, fu = g + 1 := ⟨fu - 1, by omega⟩
    have h0 := hr 0 (Nat.zero_le _) (Nat.zero_le _) a (Nat.le_refl _) ha
    rw [Nat.mul_zero, Nat.zero_add] at h0
    refine Tr_jbt (by decide) (Tr_jg (inb_of (by omega) (by decide)) ?_)
    rw [nI_clamp (by omega), h0]
    exact Tr_jg (isB_b01 _) (Tr_some ⟨rfl, Ch_refl⟩)
  | succ q ih =>
    intro fu M h1 hf2 hF hX hr
    obtain ⟨g, rfl⟩ : ∃ g, fu = g + 1 := ⟨fu - 1, by omega⟩
    rw [nI_pred]
    have next : ∀ M', Ch [] [18] M M' → (∀ i', q ≤ i' → i' ≤ f.length → RM (mm w x (sgA f i')) i' a x.length M') → Tr (mo_matches_52 g M' cf (nI f.length) cx (nI x.length) (nI a) (nI q - 1)) (fun r => r.1 = b01 (mm w x (sgA f 0) a) ∧ Ch [] [18] M r.2) := fun M' c1 c2 =>
      Tr_mono (ih g M' (by omega) (by omega) (Row_ch hF c1 hcf.2 hcf.1) (Row_ch hX c1 hcx.2 hcx.1) c2) (fun r ⟨r1, r2⟩ => ⟨r1, Ch_trans c1 r2 (fun _ z => z) (fun _ z => z)⟩)
    have go := m108 (w := w) (a := a) (i := q) hf hx (by omega) hcf hcx (x.length + 1 - a) FU M (by omega) (FU_lt (by omega)) hX (fun i' k1 k2 => hr i' (by omega) k2) (fun k k1 k2 => by omega) next
    rw [show a + (x.length + 1 - a) = x.length + 1 by omega, nI_pred] at go
    refine Tr_jbf (nI_pos (by omega)) (Tr_jce (isEscape_m hf hF (by omega)) ?_)
    cases e : escB f q with
    | false =>
      rw [e, show wnt f q = f.getD q 0 by unfold wnt; rw [e]; rfl, show nxt f q = q + 1 by unfold nxt; rw [e]; rfl] at go
      refine Tr_jbt rfl (Tr_jg (inb_of (by omega) (by decide)) ?_)
      rw [nI_clamp (by omega), hF q (by omega)]
      refine Tr_jbt rfl ?_
      rw [nI_1]
      exact go
    | true =>
      have hi1 := (escB_iff.mp e).2.1
      rw [e, show wnt f q = f.getD (q + 1) 0 by unfold wnt; rw [e]; rfl, show nxt f q = q + 2 by unfold nxt; rw [e]; rfl] at go
      refine Tr_jbf (by decide) ?_
      rw [nI_1]
      refine Tr_jg (inb_of (by omega) (by decide)) ?_
      rw [nI_clamp (by omega), hF (q + 1) hi1]
      refine Tr_jbf (by decide) ?_
      rw [show nI q + 2 = nI (q + 2) from nI_add q 2]
      exact go
theorem matches_m {f x : TT} {w : Bool} {a cf cx : Nat} {M : GS} (hf : okT f) (hx : okT x) (ha : a ≤ x.length) (hcf : cf ≠ 0 ∧ cf ∉ [18]) (hcx : cx ≠ 0 ∧ cx ∉ [18]) (hF : Row cf f M) (hX : Row cx x M) : Tr (f_mo_matches M cf (nI f.length) cx (nI x.length) (nI a) (b01 w)) (fun r => r.1 = b01 (mm w x (sgA f 0) a) ∧ Ch [] [18] M r.2) := by
  have hfl := hf.1
  have hxl := hx.1
  have loop : ∀ (r fu : Nat) (M' : GS), a + r ≤ x.length + 1 → r < fu → Ch [] [18] M M' → RM (mm w x []) f.length (a + r) x.length M' → Tr (mo_matches_4 fu M' cf (nI f.length) cx (nI x.length) (nI a) (b01 w) (nI (a + r) - 1)) (fun r => r.1 = b01 (mm w x (sgA f 0) a) ∧ Ch [] [18] M r.2) := by
    intro r
    induction r with
    | zero =>
      intro fu M' h1 hf2 hc hr
      obtain ⟨g, rfl⟩ : ∃ g, fu = g + 1 := ⟨fu - 1, by omega⟩
      have hlt : nI (a + 0) - 1 < nI a := by
        rw [Int32.lt_iff_toInt_lt, show (1 : Int32) = nI 1 from rfl, pk_sub_toInt (by omega) (by decide), nI_toInt (by omega)]
        omega
      refine Tr_jbt hlt (Tr_jn ?_)
      refine Tr_mono (m52 hf hx ha hcf hcx f.length FU M' (Nat.le_refl _) (FU_lt (by omega)) (Row_ch hF hc hcf.2 hcf.1) (Row_ch hX hc hcx.2 hcx.1) (fun i' k1 k2 => ?_)) (fun r ⟨r1, r2⟩ => ⟨r1, Ch_trans hc r2 (fun _ z => z) (fun _ z => z)⟩)
      obtain rfl : i' = f.length := by omega
      rw [sgA_nil (Nat.le_refl _)]
      exact hr
    | succ r ih =>
      intro fu M' h1 hf2 hc hr
      obtain ⟨g, rfl⟩ : ∃ g, fu = g + 1 := ⟨fu - 1, by omega⟩
      rw [show a + (r + 1) = (a + r) + 1 by omega, nI_pred]
      have put : ∀ b : Bool, b = mm w x [] (a + r) → Tr (mo_matches_40 (mo_matches_4 g) M' cf (nI f.length) cx (nI x.length) (nI a) (b01 w) (nI (a + r)) (256 * nI f.length + nI (a + r)) (b01 b)) (fun r => r.1 = b01 (mm w x (sgA f 0) a) ∧ Ch [] [18] M r.2) := fun b hb => by
        rw [i256]
        refine Tr_jg (inb_of (by omega) (by decide)) (Tr_jg (isB_b01 b) (Tr_jn (Tr_jn ?_)))
        rw [nI_clamp (by omega), i_m1]
        refine ih g _ (by omega) (by omega) (Ch_c hc (by decide) (by decide)) (fun k k1 k2 => ?_)
        by_cases e : k = a + r
        · rw [e, uI_at, hb]
        · rw [uI_ne (by omega)]; exact hr k (by omega) k2
      refine Tr_jbf (nI_nlt (by omega) (by omega)) ?_
      cases w with
      | false => exact Tr_jbt rfl (put true rfl)
      | true =>
        refine Tr_jbf (by decide) ?_
        by_cases e : a + r = x.length
        · exact Tr_jbt (by rw [e]) (put true (by rw [e]; show true = (!true || decide (x.length = x.length)); rw [decide_eq_true rfl]; rfl))
        · exact Tr_jbf (fun z => e ((nI_eq (by omega) (by omega)).mp z)) (put false (by show false = (!true || decide (a + r = x.length)); rw [decide_eq_false e]; rfl))
  have := loop (x.length + 1 - a) FU M (by omega) (FU_lt (by omega)) Ch_refl (fun k k1 k2 => by omega)
  rw [show a + (x.length + 1 - a) = x.length + 1 by omega, nI_pred] at this
  exact this
/-! ### SEARCH -/
theorem first_b (P : Nat → Bool) (a : Nat) : ∀ n, (∃ p, a ≤ p ∧ p < a + n ∧ P p = true ∧ ∀ j, a ≤ j → j < p → P j = false) ∨ ∀ j, a ≤ j → j < a + n → P j = false := fun n => by
  rcases first_P (P := fun j => P j = true) a n with ⟨p, h1, h2, h3, h4⟩ | h
  · exact Or.inl ⟨p, h1, h2, h3, fun j j1 j2 => Bool.eq_false_iff.mpr (h4 j j1 j2)⟩
  · exact Or.inr (fun j j1 j2 => Bool.eq_false_iff.mpr (h j j1 j2))
theorem place_c {x S : TT} {r : Nat → Bool} (hx : okT x) : ∀ (m a fu : Nat) (cs : CS), a + m = x.length + 1 → m < fu → RC r x.length cs → (∀ p, a ≤ p → p ≤ x.length → r p = true → (∀ j, a ≤ j → j < p → r j = false) → pa_placeIn_9 fu cs x (nI a) = some (nI p, cs)) ∧ ((∀ j, a ≤ j → j ≤ x.length → r j = false) → pa_placeIn_9 fu cs x (nI a) = some (-1, cs)) := by
  have hxl := hx.1
  intro m
  induction m with
  | zero =>
    intro a fu cs h1 hf hr
    obtain ⟨g, rfl⟩ : ∃ g, fu = g + 1 := ⟨fu - 1, by omega⟩
    exact ⟨fun p h1 h2 => by omega, fun _ => e_c rfl (e_bt (nI_lt (by omega) (by omega)) rfl)⟩
  | succ m ih =>
    intro a fu cs h1 hf hr
    obtain ⟨g, rfl⟩ : ∃ g, fu = g + 1 := ⟨fu - 1, by omega⟩
    obtain ⟨k1, k2⟩ := ih (a + 1) g cs (by omega) (by omega) hr
    have step : ∀ res, (r a = false → pa_placeIn_9 g cs x (nI (a + 1)) = res) → (r a = true → some (nI a, cs) = res) → pa_placeIn_9 (g + 1) cs x (nI a) = res := fun res q1 q2 => by
      refine e_c rfl (e_bf (nI_nlt (by omega) (by omega)) (e_bf (nI_ge (b := 256) (by omega) (by decide)) (e_g (inb_of (by omega) (by decide)) ?_)))
      rw [nI_clamp (by omega), hr a (by omega)]
      cases e : r a with
      | false =>
        refine e_bt rfl (e_n ?_)
        rw [nI_1]
        exact q1 e
      | true => exact e_bf (by decide) (q2 e)
    refine ⟨fun p h1 h2 h3 h4 => step _ (fun e => ?_) (fun e => ?_), fun h => step _ (fun _ => k2 (fun j j1 j2 => h j (by omega) j2)) (fun e => by rw [h a (Nat.le_refl _) (by omega)] at e; cases e)⟩
    · refine k1 p ?_ h2 h3 (fun j j1 j2 => h4 j (by omega) j2)
      have : ¬ p = a := fun z => by rw [z, e] at h3; cases h3
      omega
    · have : ¬ a < p := fun z => by rw [h4 a (Nat.le_refl _) z] at e; cases e
      rw [show p = a by omega]
theorem searchM {n u h : Nat} {cs0 cs : CS} {ms0 : GS} {part text : TT} (hp : okT part) (ht : okT text) : ∀ (m a fu : Nat) (M : GS), a + m = text.length + 1 → m < fu → CI n u h cs0 ms0 cs M → Txt 29 15 part M → Txt 28 14 text M → (∀ p, a ≤ p → p ≤ text.length → mm false text (sgA part 0) p = true → (∀ j, a ≤ j → j < p → mm false text (sgA part 0) j = false) → Tr (mo_findText_57 fu M 1 (nI a)) (fun m => XE n u h cs0 ms0 ((1, FP.i2d (nI (p + 1)), []), cs) m)) ∧ ((∀ j, a ≤ j → j ≤ text.length → mm false text (sgA part 0) j = false) → Tr (mo_findText_57 fu M 1 (nI a)) (fun m => XE n u h cs0 ms0 (er 3, cs) m)) := by
  have htl := ht.1
  intro m
  induction m with
  | zero =>
    intro a fu M h1 hf I hC hB
    obtain ⟨g, rfl⟩ : ∃ g, fu = g + 1 := ⟨fu - 1, by omega⟩
    obtain rfl : a = text.length + 1 := by omega
    exact ⟨fun p h1 h2 => by omega, fun _ => Tr_jbt (by rw [hB.1]; exact nI_lt (by omega) (by omega)) (unfound_m I hB htl)⟩
  | succ m ih =>
    intro a fu M h1 hf I hC hB
    obtain ⟨g, rfl⟩ : ∃ g, fu = g + 1 := ⟨fu - 1, by omega⟩
    obtain ⟨⟨r, M2⟩, er2, hr, hch⟩ := matches_m (w := false) (a := a) (cf := 15) (cx := 14) hp ht (by omega) ⟨by decide, by decide⟩ ⟨by decide, by decide⟩ hC.2 hB.2
    rw [← hC.1, ← hB.1] at er2
    have I2 := CI_ref I hch (by decide) (by decide) (by decide)
    have hC2 := Txt_ch hC hch (by decide) (by decide) (by decide)
    have hB2 := Txt_ch hB hch (by decide) (by decide) (by decide)
    obtain ⟨k1, k2⟩ := ih (a + 1) g M2 (by omega) (by omega) I2 hC2 hB2
    dsimp only at hr
    have step : ∀ {V : VV}, (mm false text (sgA part 0) a = false → Tr (mo_findText_57 g M2 1 (nI (a + 1))) (fun m => XE n u h cs0 ms0 (V, cs) m)) → (mm false text (sgA part 0) a = true → Tr (mo_findText_127 M2 (nI a)) (fun m => XE n u h cs0 ms0 (V, cs) m)) → Tr (mo_findText_57 (g + 1) M 1 (nI a)) (fun m => XE n u h cs0 ms0 (V, cs) m) := fun q1 q2 => by
      refine Tr_jbf (by rw [hB.1]; exact nI_nlt (by omega) (by omega)) (Tr_jbf (by decide) (Tr_jce er2 ?_))
      dsimp only
      rw [hr]
      cases e : mm false text (sgA part 0) a with
      | false =>
        refine Tr_jbt rfl (Tr_jn ?_)
        rw [nI_1]
        exact q1 e
      | true => exact Tr_jbf (by decide) (q2 e)
    refine ⟨fun p h1 h2 h3 h4 => step (fun e => ?_) (fun e => ?_), fun h => step (fun _ => k2 (fun j j1 j2 => h j (by omega) j2)) (fun e => by rw [h a (Nat.le_refl _) (by omega)] at e; cases e)⟩
    · refine k1 p ?_ h2 h3 (fun j j1 j2 => h4 j (by omega) j2)
      have : ¬ p = a := fun z => by rw [z, e] at h3; cases h3
      omega
    · have : ¬ a < p := fun z => by rw [h4 a (Nat.le_refl _) z] at e; cases e
      rw [show p = a by omega]
      exact found_m I2 hB2 htl (by omega)
theorem x_search {n u h : Nat} {cs0 cs : CS} {ms0 ms : GS} (I : CI n u h cs0 ms0 cs ms) (hn : 1 < n) : Sm 900 13000 (f_tx_search cs) (f_mo_findText ms 1) (XE n u h cs0 ms0) := by
  refine Sm_jj2 (read_c I (i := 0) (by omega)) (fun ⟨part, ca⟩ m2 ⟨b1, b0, b2, c1, c2, c3⟩ => ?_)
  refine Sm_jj2 (read_b b1 (i := 1) (by omega)) (fun ⟨text, cb⟩ m3 ⟨d1, d0, d2, d3, d4, d5⟩ => ?_)
  refine Sm_j0 (k_wholeOr d1 (i := 2) (by decide) 1 ⟨by decide, by decide⟩) (fun ⟨s, cs1⟩ ⟨s', m4⟩ ⟨e1, e0, e2, e3, e4, e5⟩ => ?_)
  dsimp only at *
  have hC := Txt_ch (Txt_ch c1 d5 (by decide) (by decide) (by decide)) e5 (by decide) (by decide) (by decide)
  have hB := Txt_ch d3 e5 (by decide) (by decide) (by decide)
  have hpl := b2.1
  have htl := d2.1
  have Y0 : ¬ m4.1 0 22 = 0 → Tr (jb (s' < 1) (mo_findText_40 m4 1 s') (jb (s' ≤ ((m4.1 0 28) + 1)) (mo_findText_45 m4 1 s') (mo_findText_40 m4 1 s'))) (fun m => Ch SF0 SC m4 m) := fun he => by
    have R : Tr (mo_findText_45 m4 1 s') (fun m => Ch SF0 SC m4 m) := Tr_jbf he (Tr_some Ch_refl)
    have R2 : Tr (mo_findText_40 m4 1 s') (fun m => Ch SF0 SC m4 m) := Tr_jce (fail_skip he) R
    exact Tr_jb (fun _ => R2) (fun _ => Tr_jb (fun _ => R) (fun _ => R2))
  have E0 : Tr (mo_findText_40 m4 1 s') (fun m => XE n u h cs0 ms0 (er 3, cs1) m) := Tr_jc (XE_err e1 (e := 3) (by decide) (by decide)) (fun m ⟨m1, m2, m3⟩ => Tr_jbf m3 (Tr_some m1))
  by_cases hs : s < 1
  · exact Sm_fin e1 (V := er 3) (TA_jbt hs (TA_vl rfl)) Y0 (fun hf he => Tr_jbt (by rw [e4 hf]; exact hs) E0)
  obtain ⟨a, a1, a2, rfl⟩ := iB_one e2 hs
  have e1s : nI a - 1 = nI (a - 1) := nI_pre (by omega)
  by_cases hal : a ≤ text.length + 1
  · have hle : nI a ≤ m4.1 0 28 + 1 := by rw [hB.1, nI_1]; exact nI_le hal (by omega)
    have hle2 : nI a ≤ nI text.length + 1 := by rw [nI_1]; exact nI_le hal (by omega)
    obtain ⟨c2, ec2, p1, p2⟩ := read_p b2 cs1
    obtain ⟨⟨rr, c3'⟩, ec3, q1, q2, q3⟩ := matches_c (w := false) d2 (Nat.le_trans (sgA_le part) hpl) (sgA_bd b2 part.length 0 (by omega)) p2
    dsimp only at *
    have hcp : Cp [7, 43, 44] cs1 c3' := Cp_trans (D := [7, 43, 44]) ⟨p1.1, fun i hi => p1.2 i (fun z => hi (by revert z; simp; omega))⟩ q2 (by decide)
    have I3 := CI_cls e1 hcp (by decide)
    obtain ⟨P1, P2⟩ := place_c (S := []) d2 (text.length + 2 - a) (a - 1) FU c3' (by omega) (FU_lt (by omega)) q3
    obtain ⟨M1, M2⟩ := searchM (cs := c3') b2 d2 (text.length + 2 - a) (a - 1) FU m4 (by omega) (FU_lt (by omega)) I3 hC hB
    have hf1 : c3'.1 1 6 = cs1.1 1 6 := by rw [Cp_1 hcp (by decide)]
    rcases first_b (mm false text (sgA part 0)) (a - 1) (text.length + 2 - a) with ⟨p, p1, p2, p3, p4⟩ | hno
    · have hpt : p ≤ text.length := by omega
      refine Sm_fin I3 (V := (1, FP.i2d (nI (p + 1)), [])) (TA_jbf hs (TA_jce rfl (TA_jbt hle2 (TA_jce ec2 ?_)))) Y0 (fun hf he => ?_)
      · rw [e1s]
        refine TA_jce (a := (nI p, c3')) (e_c ec3 (P1 p p1 hpt p3 p4)) (TA_jbf (fun z => ?_) ?_)
        · have := congrArg Int32.toInt z
          rw [nI_toInt (by omega)] at this
          have h9 : (-1 : Int32).toInt = -1 := by decide
          omega
        · dsimp only
          rw [nI_1]
          exact TA_vl rfl
      · rw [e4 (by rw [← hf1]; exact hf)]
        refine Tr_jbf hs (Tr_jbt hle (Tr_jbt he (Tr_jn ?_)))
        rw [e1s]
        exact M1 p p1 hpt p3 p4
    · refine Sm_fin I3 (V := er 3) (TA_jbf hs (TA_jce rfl (TA_jbt hle2 (TA_jce ec2 ?_)))) Y0 (fun hf he => ?_)
      · rw [e1s]
        exact TA_jce (a := (-1, c3')) (e_c ec3 (P2 (fun j j1 j2 => hno j j1 (by omega)))) (TA_jbt rfl (TA_vl rfl))
      · rw [e4 (by rw [← hf1]; exact hf)]
        refine Tr_jbf hs (Tr_jbt hle (Tr_jbt he (Tr_jn ?_)))
        rw [e1s]
        exact M2 (fun j j1 j2 => hno j j1 (by omega))
  · refine Sm_fin e1 (V := er 3) (TA_jbf hs (TA_jce rfl (TA_jbf ?_ (TA_vl rfl)))) Y0 (fun hf he => ?_)
    · rw [nI_1]
      exact nI_ge (by omega) (by omega)
    · rw [e4 hf] at E0 ⊢
      refine Tr_jbf hs (Tr_jbf ?_ E0)
      rw [hB.1, nI_1]
      exact nI_ge (by omega) (by omega)
