/-! ### patterns -/
def escB (f : TT) (i : Nat) : Bool := decide (f.getD i 0 = 126) && (decide (i + 1 < f.length) && (decide (f.getD (i + 1) 0 = 63) || (decide (f.getD (i + 1) 0 = 42) || decide (f.getD (i + 1) 0 = 126))))
def wnt (f : TT) (i : Nat) : Nat := if escB f i = true then f.getD (i + 1) 0 else f.getD i 0
def sgn (f : TT) (i : Nat) : Nat := if escB f i = true then f.getD (i + 1) 0 else if f.getD i 0 = 63 then 256 else if f.getD i 0 = 42 then 257 else grC (f.getD i 0)
def nxt (f : TT) (i : Nat) : Nat := if escB f i = true then i + 2 else i + 1
def sgs (f : TT) : Nat → Nat → TT
  | 0, _ => []
  | m + 1, i => if f.length ≤ i then [] else sgn f i :: sgs f m (nxt f i)
theorem escB_iff {f : TT} {i : Nat} : escB f i = true ↔ f.getD i 0 = 126 ∧ i + 1 < f.length ∧ (f.getD (i + 1) 0 = 63 ∨ f.getD (i + 1) 0 = 42 ∨ f.getD (i + 1) 0 = 126) := by
  unfold escB
  simp only [Bool.and_eq_true, Bool.or_eq_true, decide_eq_true_eq]
theorem nxt_b (f : TT) (i : Nat) : i + 1 ≤ nxt f i ∧ nxt f i ≤ i + 2 ∧ (i < f.length → nxt f i ≤ f.length) := by
  unfold nxt
  by_cases h : escB f i = true
  · rw [if_pos h]
    have := (escB_iff.mp h).2.1
    omega
  · rw [if_neg h]
    omega
theorem sgs_fuel {f : TT} : ∀ (m i m' : Nat), f.length ≤ i + m → f.length ≤ i + m' → sgs f m i = sgs f m' i
  | 0, i, 0, _, _ => rfl
  | 0, i, m' + 1, h, _ => (if_pos (show f.length ≤ i by omega)).symm
  | m + 1, i, 0, _, h => if_pos (show f.length ≤ i by omega)
  | m + 1, i, m' + 1, h, h' => by
    have := (nxt_b f i).1
    show (if f.length ≤ i then [] else sgn f i :: sgs f m (nxt f i)) = (if f.length ≤ i then [] else sgn f i :: sgs f m' (nxt f i))
    rw [sgs_fuel m (nxt f i) m' (by omega) (by omega)]
/-- a pattern's signs from a place on -/
def sgA (f : TT) (i : Nat) : TT := sgs f f.length i
theorem sgA_nil {f : TT} {i : Nat} (h : f.length ≤ i) : sgA f i = [] := by
  unfold sgA
  cases e : f.length with
  | zero => rfl
  | succ p => exact if_pos h
theorem sgA_cons {f : TT} {i : Nat} (h : i < f.length) : sgA f i = sgn f i :: sgA f (nxt f i) := by
  have hn := (nxt_b f i).1
  obtain ⟨p, hp⟩ : ∃ p, f.length = p + 1 := ⟨f.length - 1, by omega⟩
  unfold sgA
  rw [hp]
  show (if f.length ≤ i then [] else sgn f i :: sgs f p (nxt f i)) = _
  rw [if_neg (by omega), sgs_fuel p (nxt f i) (p + 1) (by omega) (by omega)]
theorem sgA_len {f : TT} : ∀ (m i : Nat), i + m = f.length → (sgA f i).length ≤ m ∧ ∀ j, j ≤ i + m → i ≤ j → (sgA f j).length + j ≤ f.length := by
  intro m
  induction m with
  | zero =>
    intro i h
    have e : ∀ j, i ≤ j → sgA f j = [] := fun j hj => sgA_nil (by omega)
    exact ⟨by rw [e i (Nat.le_refl _)]; exact Nat.le_refl _, fun j h1 h2 => by rw [e j h2]; show 0 + j ≤ _; omega⟩
  | succ m ih =>
    intro i h
    obtain ⟨-, k2⟩ := ih (i + 1) (by omega)
    obtain ⟨n1, n2, n3⟩ := nxt_b f i
    have hh : (sgA f i).length + i ≤ f.length := by
      rw [sgA_cons (by omega), List.length_cons]
      have := k2 (nxt f i) (by have := n3 (by omega); omega) n1
      omega
    refine ⟨by omega, fun j h1 h2 => ?_⟩
    by_cases e : j = i
    · rw [e]; exact hh
    · exact k2 j (by omega) (by omega)
theorem sgA_le (f : TT) : (sgA f 0).length ≤ f.length := (sgA_len f.length 0 (by omega)).1
theorem sgn_le {f : TT} (hf : okT f) (i : Nat) : sgn f i ≤ 257 := by
  have h1 := okT_at hf (i + 1)
  have h2 := grC_lt (okT_at hf i)
  unfold sgn
  split
  · omega
  · split
    · omega
    · split <;> omega
theorem sgA_bd {f : TT} (hf : okT f) : ∀ (m i : Nat), f.length ≤ i + m → ∀ s ∈ sgA f i, s ≤ 257 := by
  intro m
  induction m with
  | zero => intro i h s hs; rw [sgA_nil (by omega)] at hs; cases hs
  | succ m ih =>
    intro i h s hs
    by_cases hi : i < f.length
    · rw [sgA_cons hi] at hs
      rcases List.mem_cons.mp hs with e | e
      · rw [e]; exact sgn_le hf i
      · exact ih (nxt f i) (by have := (nxt_b f i).1; omega) s e
    · rw [sgA_nil (by omega)] at hs; cases hs
/-- the class's cells that have changed -/
def Cp (D : List Nat) (a b : CS) : Prop := b.2 = a.2 ∧ ∀ i, i ∉ D → b.1 i = a.1 i
theorem Cp_refl {D : List Nat} {a : CS} : Cp D a a := ⟨rfl, fun _ _ => rfl⟩
theorem Cp_trans {D E : List Nat} {a b c : CS} (h : Cp D a b) (k : Cp E b c) (hE : ∀ x ∈ E, x ∈ D) : Cp D a c := ⟨k.1.trans h.1, fun i hi => (k.2 i (fun z => hi (hE i z))).trans (h.2 i hi)⟩
theorem Cp_uC {D : List Nat} {a b : CS} {i k : Nat} {x : Int32} (h : Cp D a b) (hi : i ∈ D) : Cp D a (uC b i k x) := ⟨h.1, fun j hj => (uC_off (fun z => hj (by rw [z]; exact hi))).trans (h.2 j hj)⟩
theorem Cp_Cf {D : List Nat} {a b : CS} (h : Cp D a b) (hD : ∀ x ∈ D, x ∈ [5, 7, 43, 44, 45]) : Cf a b := by
  have h1 : 1 ∉ D := fun z => absurd (hD 1 z) (by decide)
  exact ⟨h.1, fun i k _ hi => by rw [h.2 i (fun z => hi (hD i z))], fun z => by rw [h.2 1 h1] at z; exact z⟩
theorem Cp_1 {D : List Nat} {a b : CS} (h : Cp D a b) (hD : ∀ x ∈ D, x ∈ [5, 7, 43, 44, 45]) : b.1 1 = a.1 1 := h.2 1 (fun z => absurd (hD 1 z) (by decide))
theorem CI_cls {n u h : Nat} {cs0 cs cs' : CS} {ms0 ms : GS} {D : List Nat} (I : CI n u h cs0 ms0 cs ms) (hc : Cp D cs cs') (hD : ∀ x ∈ D, x ∈ [5, 7, 43, 44, 45]) : CI n u h cs0 ms0 cs' ms := by
  obtain ⟨e, e1, e2, e3⟩ := I.2.1
  exact CI_step (F := []) (C := []) I (Cp_Cf hc hD) Ch_refl ⟨e, e1, by rw [Cp_1 hc hD]; exact e2, e3⟩ (fun _ z => by cases z) (fun _ z => by cases z)
/-- the class's signs -/
def SgC (L : TT) (cs : CS) : Prop := cs.1 7 1 = nI L.length ∧ ∀ j, j < L.length → cs.1 43 j = nI (L.getD j 0)
theorem SgC_cp {L : TT} {a b : CS} (h : SgC L a) (k : Cp [44] a b) : SgC L b := ⟨by rw [k.2 7 (by decide)]; exact h.1, fun j hj => by rw [k.2 43 (by decide)]; exact h.2 j hj⟩
theorem SgC_put {L : TT} {cs : CS} {s : Nat} (h : SgC L cs) : SgC (L ++ [s]) (uC (uC cs 43 L.length (nI s)) 7 1 (nI (L.length + 1))) := by
  refine ⟨?_, fun j hj => ?_⟩
  · rw [uC_at, List.length_append]; rfl
  · rw [List.length_append] at hj
    have hj : j < L.length + 1 := hj
    rw [uC_off (by decide), getD_snoc hj]
    by_cases e : j = L.length
    · rw [if_pos e, e, uC_at]
    · rw [if_neg e, uC_ne e]
      exact h.2 j (by omega)
theorem special_c {c : Nat} (h : c < 256) : f_pa_isSpecial (nI c) = some (b01 (decide (c = 63) || (decide (c = 42) || decide (c = 126)))) := by
  have q : ∀ k : Nat, k < 256 → (nI c = nI k ↔ c = k) := fun k hk => nI_eq (by omega) (by omega)
  by_cases h1 : c = 63
  · subst h1; rfl
  · refine e_bf (fun z => h1 ((q 63 (by decide)).mp z)) ?_
    by_cases h2 : c = 42
    · subst h2; rfl
    · refine e_bf (fun z => h2 ((q 42 (by decide)).mp z)) ?_
      by_cases h3 : c = 126
      · subst h3; rfl
      · refine (e_bf (fun z => h3 ((q 126 (by decide)).mp z)) rfl).trans ?_
        rw [decide_eq_false h1, decide_eq_false h2, decide_eq_false h3]
        rfl
theorem rd137 {K : CS → TT → Int32 → Option CS} {cs : CS} {f L : TT} {i s : Nat} {Q : CS → Prop} (hL : SgC L cs) (hk : Tr (K (uC (uC cs 43 L.length (nI s)) 7 1 (nI (L.length + 1))) f (nI (i + 1))) Q) : Tr (pa_read_137 K (uC cs 43 L.length (nI s)) f (nI i)) Q := by
  refine Tr_jn (Tr_jn ?_)
  rw [uC_off (show (7 : Nat) ≠ 43 by decide), hL.1, nI_1, nI_1]
  exact hk
theorem rd82 {K : CS → TT → Int32 → Option CS} {cs : CS} {f L : TT} {i : Nat} {Q : CS → Prop} (hf : okT f) (hi : i < f.length) (he : ¬ escB f i = true) (hL : SgC L cs) (hl : L.length < 255) (hk : Tr (K (uC (uC cs 43 L.length (nI (sgn f i))) 7 1 (nI (L.length + 1))) f (nI (nxt f i))) Q) : Tr (pa_read_82 K cs f (nI i) (nI (f.getD i 0))) Q := by
  have hc := okT_at hf i
  have hin : inb (cs.1 7 1) 255 = true := by rw [hL.1]; exact inb_of hl (by decide)
  have ecl : (cs.1 7 1).toNatClampNeg = L.length := by rw [hL.1]; exact nI_clamp (by omega)
  have en : nxt f i = i + 1 := by unfold nxt; rw [if_neg he]
  have es : sgn f i = if f.getD i 0 = 63 then 256 else if f.getD i 0 = 42 then 257 else grC (f.getD i 0) := by unfold sgn; rw [if_neg he]
  rw [en] at hk
  by_cases h1 : f.getD i 0 = 63
  · rw [if_pos h1] at es
    rw [es] at hk
    refine Tr_jbt (by rw [h1]; rfl) (Tr_jg hin (Tr_jn ?_))
    rw [ecl]
    exact rd137 hL hk
  · refine Tr_jbf (fun z => h1 ((nI_eq (b := 63) (by omega) (by decide)).mp z)) ?_
    rw [if_neg h1] at es
    by_cases h2 : f.getD i 0 = 42
    · rw [if_pos h2] at es
      rw [es] at hk
      refine Tr_jbt (by rw [h2]; rfl) (Tr_jg hin (Tr_jn ?_))
      rw [ecl]
      exact rd137 hL hk
    · rw [if_neg h2] at es
      rw [es] at hk
      refine Tr_jbf (fun z => h2 ((nI_eq (b := 42) (by omega) (by decide)).mp z)) (Tr_jce (great_c hc) (Tr_jg hin (Tr_jn ?_)))
      rw [ecl]
      exact rd137 hL hk
theorem readC {f : TT} (hf : okT f) : ∀ (m i fu : Nat) (L : TT) (cs : CS), f.length ≤ i + m → i ≤ f.length → m < fu → L.length ≤ i → SgC L cs → Tr (pa_read_7 fu cs f (nI i)) (fun c => Cp [7, 43] cs c ∧ SgC (L ++ sgA f i) c) := by
  have hfl := hf.1
  have fin : ∀ (i g : Nat) (L : TT) (cs : CS), i = f.length → SgC L cs → Tr (pa_read_7 (g + 1) cs f (nI i)) (fun c => Cp [7, 43] cs c ∧ SgC (L ++ sgA f i) c) := fun i g L cs hi hL => by
    refine Tr_jce rfl (Tr_jbt (nI_le (by omega) (by omega)) (Tr_some ⟨Cp_refl, ?_⟩))
    rw [sgA_nil (by omega), List.append_nil]
    exact hL
  intro m
  induction m with
  | zero =>
    intro i fu L cs h1 h2 hf2 hl hL
    obtain ⟨g, rfl⟩ : ∃ g, fu = g + 1 := ⟨fu - 1, by omega⟩
    exact fin i g L cs (by omega) hL
  | succ m ih =>
    intro i fu L cs h1 h2 hf2 hl hL
    obtain ⟨g, rfl⟩ : ∃ g, fu = g + 1 := ⟨fu - 1, by omega⟩
    by_cases hi : i < f.length
    · obtain ⟨n1, n2, n3⟩ := nxt_b f i
      have hc := okT_at hf i
      have hc1 := okT_at hf (i + 1)
      have next : ∀ s, s = sgn f i → Tr (pa_read_7 g (uC (uC cs 43 L.length (nI s)) 7 1 (nI (L.length + 1))) f (nI (nxt f i))) (fun c => Cp [7, 43] cs c ∧ SgC (L ++ sgA f i) c) := fun s hs => by
        refine Tr_mono (ih (nxt f i) g (L ++ [s]) _ (by omega) (n3 hi) (by omega) (by rw [List.length_append]; show L.length + 1 ≤ _; omega) (SgC_put hL)) (fun c ⟨c1, c2⟩ => ⟨Cp_trans (Cp_uC (Cp_uC Cp_refl (by decide)) (by decide)) c1 (fun _ z => z), ?_⟩)
        rw [sgA_cons hi, ← hs]
        rw [List.append_assoc] at c2
        exact c2
      have plain : ¬ escB f i = true → Tr (pa_read_82 (pa_read_7 g) cs f (nI i) (nI (f.getD i 0))) (fun c => Cp [7, 43] cs c ∧ SgC (L ++ sgA f i) c) := fun he => rd82 hf hi he hL (by omega) (next _ rfl)
      refine Tr_jce rfl (Tr_jbf (nI_ge hi (by omega)) (Tr_jbf (by rw [hL.1]; exact nI_ge (b := 255) (by omega) (by decide)) (Tr_jce (charAt_ok hi hfl) ?_)))
      by_cases h126 : f.getD i 0 = 126
      · refine Tr_jbt (by rw [h126]; rfl) (Tr_jce rfl ?_)
        rw [nI_1]
        by_cases hi1 : i + 1 < f.length
        · refine Tr_jbf (nI_ge hi1 (by omega)) (Tr_jce (charAt_ok hi1 hfl) (Tr_jce (special_c hc1) ?_))
          by_cases hsp : f.getD (i + 1) 0 = 63 ∨ f.getD (i + 1) 0 = 42 ∨ f.getD (i + 1) 0 = 126
          · have he : escB f i = true := escB_iff.mpr ⟨h126, hi1, hsp⟩
            have hb : (decide (f.getD (i + 1) 0 = 63) || (decide (f.getD (i + 1) 0 = 42) || decide (f.getD (i + 1) 0 = 126))) = true := by
              simp only [Bool.or_eq_true, decide_eq_true_eq]
              exact hsp
            rw [hb]
            have hin : inb (cs.1 7 1) 255 = true := by rw [hL.1]; exact inb_of (by omega) (by decide)
            have ecl : (cs.1 7 1).toNatClampNeg = L.length := by rw [hL.1]; exact nI_clamp (by omega)
            refine Tr_jbf (by decide) (Tr_jn (Tr_jce (charAt_ok hi1 hfl) (Tr_jg hin (Tr_jn ?_))))
            rw [ecl]
            refine rd137 hL ?_
            have := next (f.getD (i + 1) 0) (by unfold sgn; rw [if_pos he])
            rw [show nxt f i = i + 1 + 1 by unfold nxt; rw [if_pos he]] at this
            exact this
          · have hb : (decide (f.getD (i + 1) 0 = 63) || (decide (f.getD (i + 1) 0 = 42) || decide (f.getD (i + 1) 0 = 126))) = false := by
              refine Bool.eq_false_iff.mpr fun z => hsp ?_
              simp only [Bool.or_eq_true, decide_eq_true_eq] at z
              exact z
            rw [hb]
            exact Tr_jbt rfl (plain (fun z => hsp (escB_iff.mp z).2.2))
        · exact Tr_jbt (nI_le (by omega) (by omega)) (plain (fun z => hi1 (escB_iff.mp z).2.1))
      · exact Tr_jbf (fun z => h126 ((nI_eq (b := 126) (by omega) (by decide)).mp z)) (plain (fun z => h126 (escB_iff.mp z).1))
    · exact fin i g L cs (by omega) hL
theorem read_p {f : TT} (hf : okT f) (cs : CS) : Tr (f_pa_read cs f) (fun c => Cp [7, 43] cs c ∧ SgC (sgA f 0) c) := by
  have hfl := hf.1
  refine Tr_jn (Tr_mono (readC hf f.length 0 FU [] (uC cs 7 1 0) (by omega) (Nat.zero_le _) (FU_lt (by omega)) (Nat.zero_le _) ⟨uC_at, fun j hj => absurd hj (Nat.not_lt_zero j)⟩) (fun c ⟨c1, c2⟩ => ⟨Cp_trans (Cp_uC Cp_refl (by decide)) c1 (fun _ z => z), c2⟩))
/-! what a pattern matches -/
def stR (r : Nat → Bool) : Nat → Nat → Bool
  | 0, k => r k
  | d + 1, k => r k || stR r d (k + 1)
def mm (w : Bool) (x : TT) : TT → Nat → Bool
  | [], k => !w || decide (k = x.length)
  | s :: ss, k => if s = 257 then stR (mm w x ss) (x.length - k) k else decide (k < x.length) && ((decide (s = 256) || decide (s = grC (x.getD k 0))) && mm w x ss (k + 1))
theorem mm_end {w : Bool} {x ss : TT} : mm w x (257 :: ss) x.length = mm w x ss x.length := by
  show (if 257 = 257 then stR (mm w x ss) (x.length - x.length) x.length else _) = _
  rw [if_pos rfl, Nat.sub_self]
  rfl
theorem mm_star {w : Bool} {x ss : TT} {k : Nat} (h : k < x.length) : mm w x (257 :: ss) k = (mm w x ss k || mm w x (257 :: ss) (k + 1)) := by
  show (if 257 = 257 then stR (mm w x ss) (x.length - k) k else _) = (_ || (if 257 = 257 then stR (mm w x ss) (x.length - (k + 1)) (k + 1) else _))
  rw [if_pos rfl, if_pos rfl]
  obtain ⟨d, hd⟩ : ∃ d, x.length - k = d + 1 := ⟨x.length - k - 1, by omega⟩
  rw [hd, show x.length - (k + 1) = d by omega]
  rfl
theorem mm_one {w : Bool} {x ss : TT} {s k : Nat} (h : ¬ s = 257) : mm w x (s :: ss) k = (decide (k < x.length) && ((decide (s = 256) || decide (s = grC (x.getD k 0))) && mm w x ss (k + 1))) := if_neg h
theorem isB_b01 (b : Bool) : isB (b01 b) = true := by cases b <;> rfl
theorem b01_0 {b : Bool} : b01 b = 0 ↔ b = false := by
  cases b
  · exact ⟨fun _ => rfl, fun _ => rfl⟩
  · exact ⟨fun z => absurd z (by decide), fun z => by cases z⟩
/-- the class's row of places -/
def RC (r : Nat → Bool) (n : Nat) (cs : CS) : Prop := ∀ k, k ≤ n → cs.1 44 k = b01 (r k)
section PMC
variable {K56 : CS → TT → Int32 → Int32 → Option (Int32 × CS)} {w : Bool} {x ss : TT} {q : Nat} {Q : Int32 × CS → Prop}
theorem m83 (hx : okT x) : ∀ (r fu : Nat) (cs : CS), r ≤ x.length → r < fu → (∀ k, k < r → cs.1 44 k = b01 (mm w x ss k)) → (∀ k, r ≤ k → k ≤ x.length → cs.1 44 k = b01 (mm w x (257 :: ss) k)) → (∀ c', Cp [44] cs c' → RC (mm w x (257 :: ss)) x.length c' → Tr (K56 c' x (nI x.length) (nI q - 1)) Q) → Tr (pa_matches_83 K56 fu cs x (nI x.length) (nI q) (nI r - 1)) Q := by
  have hxl := hx.1
  intro r
  induction r with
  | zero =>
    intro fu cs h1 hf h2 h3 hk
    obtain ⟨g, rfl⟩ : ∃ g, fu = g + 1 := ⟨fu - 1, by omega⟩
    refine Tr_jbt (by decide) (Tr_jn ?_)
    rw [i_m1]
    exact hk cs Cp_refl (fun k hk => h3 k (Nat.zero_le _) hk)
  | succ r ih =>
    intro fu cs h1 hf h2 h3 hk
    obtain ⟨g, rfl⟩ : ∃ g, fu = g + 1 := ⟨fu - 1, by omega⟩
    rw [nI_pred]
    have put : ∀ b : Bool, b = mm w x (257 :: ss) r → Tr (pa_matches_121 K56 (pa_matches_83 K56 g) cs x (nI x.length) (nI q) (nI r) (nI r) (b01 b)) Q := fun b hb => by
      refine Tr_jg (inb_of (by omega) (by decide)) (Tr_jg (isB_b01 b) (Tr_jn (Tr_jn ?_)))
      rw [nI_clamp (by omega), i_m1]
      refine ih g _ (by omega) (by omega) (fun k hk => ?_) (fun k k1 k2 => ?_) (fun c' c1 c2 => hk c' (Cp_trans (Cp_uC Cp_refl (by decide)) c1 (fun _ z => z)) c2)
      · rw [uC_ne (by omega)]; exact h2 k (by omega)
      · by_cases e : k = r
        · rw [e, uC_at, hb]
        · rw [uC_ne e]; exact h3 k (by omega) k2
    refine Tr_jbf (nI_pos (by omega)) (Tr_jg (inb_of (by omega) (by decide)) ?_)
    have hV : mm w x (257 :: ss) r = (mm w x ss r || mm w x (257 :: ss) (r + 1)) := mm_star (by omega)
    rw [hV] at put
    rw [nI_clamp (by omega), h2 r (by omega)]
    have h5 := h3 (r + 1) (by omega) h1
    cases e1 : mm w x ss r with
    | false =>
      rw [e1] at put
      refine Tr_jbt rfl ?_
      rw [nI_1]
      refine Tr_jg (inb_of (by omega) (by decide)) ?_
      rw [nI_clamp (by omega), h5]
      cases e2 : mm w x (257 :: ss) (r + 1) with
      | false => rw [e2] at put; exact Tr_jbt rfl (put false rfl)
      | true => rw [e2] at put; exact Tr_jbf (by decide) (put true rfl)
    | true =>
      rw [e1] at put
      exact Tr_jbf (by decide) (put true rfl)
theorem m134 (hx : okT x) {s : Nat} (hs : ¬ s = 257) (hs2 : s ≤ 257) : ∀ (m a fu : Nat) (cs : CS), a + m = x.length → m < fu → (∀ k, a ≤ k → k ≤ x.length → cs.1 44 k = b01 (mm w x ss k)) → (∀ k, k < a → cs.1 44 k = b01 (mm w x (s :: ss) k)) → (∀ c', Cp [44] cs c' → RC (mm w x (s :: ss)) x.length c' → Tr (K56 c' x (nI x.length) (nI q - 1)) Q) → Tr (pa_matches_134 K56 fu cs x (nI x.length) (nI q) (nI s) (nI a)) Q := by
  have hxl := hx.1
  intro m
  induction m with
  | zero =>
    intro a fu cs h1 hf h2 h3 hk
    obtain ⟨g, rfl⟩ : ∃ g, fu = g + 1 := ⟨fu - 1, by omega⟩
    obtain rfl : a = x.length := by omega
    refine Tr_jbt (nI_le (Nat.le_refl _) (by omega)) (Tr_jg (inb_of (by omega) (by decide)) (Tr_jn (Tr_jn ?_)))
    rw [nI_clamp (by omega), i_m1]
    refine hk _ (Cp_uC Cp_refl (by decide)) (fun k k1 => ?_)
    by_cases e : k = x.length
    · rw [e, uC_at, mm_one hs, decide_eq_false (Nat.lt_irrefl _), Bool.false_and]
      rfl
    · rw [uC_ne e]; exact h3 k (by omega)
  | succ m ih =>
    intro a fu cs h1 hf h2 h3 hk
    obtain ⟨g, rfl⟩ : ∃ g, fu = g + 1 := ⟨fu - 1, by omega⟩
    have put : ∀ b : Bool, b = mm w x (s :: ss) a → Tr (pa_matches_185 K56 (pa_matches_134 K56 g) cs x (nI x.length) (nI q) (nI s) (nI a) (nI a) (b01 b)) Q := fun b hb => by
      refine Tr_jg (inb_of (by omega) (by decide)) (Tr_jg (isB_b01 b) (Tr_jn (Tr_jn ?_)))
      rw [nI_clamp (by omega), nI_1]
      refine ih (a + 1) g _ (by omega) (by omega) (fun k k1 k2 => ?_) (fun k k1 => ?_) (fun c' c1 c2 => hk c' (Cp_trans (Cp_uC Cp_refl (by decide)) c1 (fun _ z => z)) c2)
      · rw [uC_ne (by omega)]; exact h2 k (by omega) k2
      · by_cases e : k = a
        · rw [e, uC_at, hb]
        · rw [uC_ne e]; exact h3 k (by omega)
    have hV : mm w x (s :: ss) a = ((decide (s = 256) || decide (s = grC (x.getD a 0))) && mm w x ss (a + 1)) := by
      rw [mm_one hs, decide_eq_true (show a < x.length by omega), Bool.true_and]
    rw [hV] at put
    refine Tr_jbf (nI_ge (by omega) (by omega)) ?_
    rw [nI_1]
    refine Tr_jg (inb_of (by omega) (by decide)) ?_
    rw [nI_clamp (by omega), h2 (a + 1) (by omega) (by omega)]
    have hc := okT_at hx a
    have hg := grC_lt hc
    cases e1 : mm w x ss (a + 1) with
    | false =>
      rw [e1, Bool.and_false] at put
      exact Tr_jbt rfl (put false rfl)
    | true =>
      rw [e1, Bool.and_true] at put
      refine Tr_jbf (by decide) ?_
      by_cases h256 : s = 256
      · rw [decide_eq_true h256, Bool.true_or] at put
        exact Tr_jbt (by rw [h256]; rfl) (put true rfl)
      · rw [decide_eq_false h256, Bool.false_or] at put
        refine Tr_jbf (fun z => h256 ((nI_eq (b := 256) (by omega) (by decide)).mp z)) (Tr_jce (charAt_ok (by omega) hxl) (Tr_jce (great_c hc) ?_))
        by_cases hg2 : s = grC (x.getD a 0)
        · rw [decide_eq_true hg2] at put
          exact Tr_jbt (by rw [hg2]) (put true rfl)
        · rw [decide_eq_false hg2] at put
          exact Tr_jbf (fun z => hg2 ((nI_eq (by omega) (by omega)).mp z)) (put false rfl)
end PMC
theorem m56 {w : Bool} {x S : TT} (hx : okT x) (hS : S.length ≤ 255) (hS2 : ∀ s ∈ S, s ≤ 257) : ∀ (q fu : Nat) (cs : CS), q ≤ S.length → q < fu → SgC S cs → RC (mm w x (S.drop q)) x.length cs → Tr (pa_matches_56 fu cs x (nI x.length) (nI q - 1)) (fun r => r.1 = b01 (mm w x S 0) ∧ Cp [44] cs r.2 ∧ RC (mm w x S) x.length r.2) := by
  have hxl := hx.1
  intro q
  induction q with
  | zero =>
    intro fu cs h1 hf hL hR
    obtain ⟨g, rfl⟩ : ∃ g, fu = g + 1 := ⟨fu - 1, by omega⟩
    rw [List.drop_zero] at hR
    have h0 := hR 0 (Nat.zero_le _)
    have e0 : (0 : Int32).toNatClampNeg = 0 := rfl
    refine Tr_jbt (by decide) (Tr_jg rfl ?_)
    rw [e0, h0]
    exact Tr_jg (isB_b01 _) (Tr_some ⟨rfl, Cp_refl, hR⟩)
  | succ q ih =>
    intro fu cs h1 hf hL hR
    obtain ⟨g, rfl⟩ : ∃ g, fu = g + 1 := ⟨fu - 1, by omega⟩
    rw [nI_pred]
    have hdrop : S.drop q = S.getD q 0 :: S.drop (q + 1) := by
      rw [List.drop_eq_getElem_cons (by omega), List.getD_eq_getElem?_getD, List.getElem?_eq_getElem (by omega)]
      rfl
    have hs : S.getD q 0 ≤ 257 := by
      rw [List.getD_eq_getElem?_getD, List.getElem?_eq_getElem (by omega)]
      exact hS2 _ (List.getElem_mem _)
    have next : ∀ c', Cp [44] cs c' → RC (mm w x (S.getD q 0 :: S.drop (q + 1))) x.length c' → Tr (pa_matches_56 g c' x (nI x.length) (nI q - 1)) (fun r => r.1 = b01 (mm w x S 0) ∧ Cp [44] cs r.2 ∧ RC (mm w x S) x.length r.2) := fun c' c1 c2 => by
      rw [← hdrop] at c2
      exact Tr_mono (ih g c' (by omega) (by omega) (SgC_cp hL c1) c2) (fun r ⟨r1, r2, r3⟩ => ⟨r1, Cp_trans c1 r2 (fun _ z => z), r3⟩)
    refine Tr_jbf (nI_pos (by omega)) (Tr_jg (inb_of (by omega) (by decide)) (Tr_jn ?_))
    rw [nI_clamp (by omega), hL.2 q (by omega)]
    by_cases h257 : S.getD q 0 = 257
    · rw [h257] at next
      refine Tr_jbt (by rw [h257]; rfl) (Tr_jn ?_)
      refine m83 hx x.length FU cs (Nat.le_refl _) (FU_lt (by omega)) (fun k hk => hR k (by omega)) (fun k k1 k2 => ?_) next
      obtain rfl : k = x.length := by omega
      rw [mm_end]
      exact hR _ (Nat.le_refl _)
    · refine Tr_jbf (fun z => h257 ((nI_eq (b := 257) (by omega) (by decide)).mp z)) ?_
      exact m134 hx h257 hs x.length 0 FU cs (by omega) (FU_lt (by omega)) (fun k _ k2 => hR k k2) (fun k hk => absurd hk (Nat.not_lt_zero k)) next
theorem matches_c {w : Bool} {x S : TT} (hx : okT x) (hS : S.length ≤ 255) (hS2 : ∀ s ∈ S, s ≤ 257) {cs : CS} (hL : SgC S cs) : Tr (f_pa_matches cs x (b01 w)) (fun r => r.1 = b01 (mm w x S 0) ∧ Cp [44] cs r.2 ∧ RC (mm w x S) x.length r.2) := by
  have hxl := hx.1
  have hmin := min_c (a := x.length) (b := 255) (by omega) (by decide)
  rw [Nat.min_eq_left hxl] at hmin
  refine Tr_jce rfl (Tr_jce hmin ?_)
  have loop : ∀ (m a fu : Nat) (c : CS), a + m = x.length + 1 → m < fu → Cp [44] cs c → (∀ k, k < a → c.1 44 k = b01 (mm w x [] k)) → Tr (pa_matches_14 fu c x (b01 w) (nI x.length) (nI a)) (fun r => r.1 = b01 (mm w x S 0) ∧ Cp [44] cs r.2 ∧ RC (mm w x S) x.length r.2) := by
    intro m
    induction m with
    | zero =>
      intro a fu c h1 hf hc hr
      obtain ⟨g, rfl⟩ : ∃ g, fu = g + 1 := ⟨fu - 1, by omega⟩
      have hL' := SgC_cp hL hc
      refine Tr_jbt (nI_lt (by omega) (by omega)) (Tr_jn ?_)
      rw [hL'.1]
      refine Tr_mono (m56 hx hS hS2 S.length FU c (Nat.le_refl _) (FU_lt (by omega)) hL' (fun k hk => ?_)) (fun r ⟨r1, r2, r3⟩ => ⟨r1, Cp_trans hc r2 (fun _ z => z), r3⟩)
      rw [List.drop_length]
      exact hr k (by omega)
    | succ m ih =>
      intro a fu c h1 hf hc hr
      obtain ⟨g, rfl⟩ : ∃ g, fu = g + 1 := ⟨fu - 1, by omega⟩
      have put : ∀ b : Bool, b = mm w x [] a → Tr (pa_matches_41 (pa_matches_14 g) c x (b01 w) (nI x.length) (nI a) (nI a) (b01 b)) (fun r => r.1 = b01 (mm w x S 0) ∧ Cp [44] cs r.2 ∧ RC (mm w x S) x.length r.2) := fun b hb => by
        refine Tr_jg (inb_of (by omega) (by decide)) (Tr_jg (isB_b01 b) (Tr_jn (Tr_jn ?_)))
        rw [nI_clamp (by omega), nI_1]
        refine ih (a + 1) g _ (by omega) (by omega) (Cp_uC hc (by decide)) (fun k hk => ?_)
        by_cases e : k = a
        · rw [e, uC_at, hb]
        · rw [uC_ne e]; exact hr k (by omega)
      refine Tr_jbf (nI_nlt (by omega) (by omega)) ?_
      cases w with
      | false => exact Tr_jbt rfl (put true rfl)
      | true =>
        refine Tr_jbf (by decide) ?_
        by_cases e : a = x.length
        · exact Tr_jbt (by rw [e]) (put true (by rw [e]; show true = (!true || decide (x.length = x.length)); rw [decide_eq_true rfl]; rfl))
        · exact Tr_jbf (fun z => e ((nI_eq (by omega) (by omega)).mp z)) (put false (by show false = (!true || decide (a = x.length)); rw [decide_eq_false e]; rfl))
  exact loop (x.length + 1) 0 FU cs (by omega) (FU_lt (by omega)) Cp_refl (fun k hk => absurd hk (Nat.not_lt_zero k))
