/-! ===== a StringBuilder at work ===== -/
abbrev BT : Type := TT × Nat
def sbF (b : Nat) (z n : Int32) (k : Nat) : Value := match k with
  | 0 => .ref b
  | 1 => .int 0
  | 2 => .int z
  | _ => .int n
/-- a StringBuilder at a, its bytes at b: the text, the room -/
def SB (ρ : RH) (H : Heap) (a b : Nat) (x : BT) : Prop := ∃ (z : Int32) (f : Nat → Int32), t_OB a ((rD ρ).1 10) 4 ((rD ρ).2 10) H (sbF b z (nI x.1.length)) ∧ H[b]? = some (vp_cell (rA ρ 4) (x.2, .inl f)) ∧ (∀ j, j < x.1.length → f j = sb_b (x.1.getD j 0)) ∧ sb_Fit f ∧ (∀ c ∈ x.1, c < 256) ∧ x.1.length ≤ x.2 ∧ x.2 < 2 ^ 20 ∧ a ≠ b ∧ (z = 0 ∨ z = 1)
theorem SB.lt {ρ : RH} {H : Heap} {a b : Nat} {x : BT} (h : SB ρ H a b x) : a < H.size ∧ b < H.size := by
  obtain ⟨z, f, h1, h2, -⟩ := h
  exact ⟨t_lt h1, hp_lt h2⟩
theorem SB.keep {ρ : RH} {H H1 : Heap} {a b : Nat} {x : BT} {Z : Nat → Prop} (h : SB ρ H a b x) (hk : kp Z H H1) (ha : ¬ Z a) (hb : ¬ Z b) : SB ρ H1 a b x := by
  obtain ⟨z, f, h1, h2, h3⟩ := h
  exact ⟨z, f, h1.kept (hk.2 a (t_lt h1) ha), by rw [hk.2 b (hp_lt h2) hb]; exact h2, h3⟩
def pe (P : Nat → Prop) (a b : Nat) : Nat → Prop := fun q => P q ∨ q = a ∨ q = b
abbrev ab (a b : Nat) : Nat → Prop := fun q => q = a ∨ q = b
section PE
variable {ρ : RH} {P : Nat → Prop} {ad : Nat → Nat} {st : CS} {H H1 : Heap} {a b b' : Nat}
theorem pe_hz : ∀ q, q < H.size → ab a b q → pe P a b q := fun _ _ h => Or.inr h
theorem pe_hp (hb : b' = b ∨ H.size ≤ b') : ∀ q, q < H.size → pe P a b' q → pe P a b q := by
  intro q hq h
  rcases h with h | h | h
  · exact Or.inl h
  · exact Or.inr (Or.inl h)
  · rcases hb with e | e
    · exact Or.inr (Or.inr (h.trans e))
    · omega
/-- behind a builder's call -/
theorem isS.sb {x : Nat} {t : TT} (h : isS ρ (pe P a b) H x t) (hk : kp (ab a b) H H1) (hb : b' = b ∨ H.size ≤ b') : isS ρ (pe P a b') H1 x t := h.step hk pe_hz (pe_hp hb)
theorem isV.sb {x : Nat} {t : VV} (h : isV ρ (pe P a b) H x t) (hk : kp (ab a b) H H1) (hb : b' = b ∨ H.size ≤ b') : isV ρ (pe P a b') H1 x t := h.step hk pe_hz (pe_hp hb)
theorem CC.sb (h : CC ρ (pe P a b) H) (hk : kp (ab a b) H H1) (hb : b' = b ∨ H.size ≤ b') : CC ρ (pe P a b') H1 := h.step hk pe_hz (pe_hp hb)
theorem pe_lt (hP : ∀ q, pe P a b q → q < H.size) (hk : kp (ab a b) H H1) (hb' : b' < H1.size) : ∀ q, pe P a b' q → q < H1.size := by
  intro q h
  rcases h with h | h | h
  · exact hk.lt (hP q (Or.inl h))
  · exact hk.lt (hP q (Or.inr (Or.inl h)))
  · omega
theorem CW.sb (h : CW ρ (pe P a b) ad st H) (hk : kp (ab a b) H H1) (hb : b' = b ∨ H.size ≤ b') (hb' : b' < H1.size) (hn : ∀ i, i < 46 → ¬ ab a b (ad i)) (hP : ∀ i, i < 46 → P (ad i)) : CW ρ (pe P a b') ad st H1 :=
  h.step hk pe_hz hn (pe_hp hb) (fun i hi => Or.inl (hP i hi)) (pe_lt h.2.1 hk hb')
/-- a new builder -/
theorem pe_new (ha : H.size ≤ a) (hb : H.size ≤ b) : ∀ q, q < H.size → pe P a b q → P q := by
  intro q hq h
  rcases h with h | h | h
  · exact h
  · omega
  · omega
abbrev no (_ : Nat) : Prop := False
theorem no_hz : ∀ q, q < H.size → no q → P q := fun _ _ h => False.elim h
theorem isS.new {x : Nat} {t : TT} (h : isS ρ P H x t) (hk : kp no H H1) (ha : H.size ≤ a) (hb : H.size ≤ b) : isS ρ (pe P a b) H1 x t := h.step hk no_hz (pe_new ha hb)
theorem isV.new {x : Nat} {t : VV} (h : isV ρ P H x t) (hk : kp no H H1) (ha : H.size ≤ a) (hb : H.size ≤ b) : isV ρ (pe P a b) H1 x t := h.step hk no_hz (pe_new ha hb)
theorem CC.new (h : CC ρ P H) (hk : kp no H H1) (ha : H.size ≤ a) (hb : H.size ≤ b) : CC ρ (pe P a b) H1 := h.step hk no_hz (pe_new ha hb)
theorem pe_ltn (hP : ∀ q, P q → q < H.size) (hk : kp no H H1) (ha : a < H1.size) (hb : b < H1.size) : ∀ q, pe P a b q → q < H1.size := by
  intro q h
  rcases h with h | h | h
  · exact hk.lt (hP q h)
  · omega
  · omega
theorem CW.new (h : CW ρ P ad st H) (hk : kp no H H1) (ha : H.size ≤ a) (hb : H.size ≤ b) (ha' : a < H1.size) (hb' : b < H1.size) : CW ρ (pe P a b) ad st H1 :=
  h.step hk no_hz (fun _ _ z => z) (pe_new ha hb) (fun i hi => Or.inl (h.1 i hi)) (pe_ltn h.2.1 hk ha' hb')
/-- the builder forgotten -/
theorem isS.un {x : Nat} {t : TT} (h : isS ρ (pe P a b) H x t) : isS ρ P H x t := h.step (kp.rf (Z := no)) no_hz (fun _ _ z => Or.inl z)
theorem isV.un {x : Nat} {t : VV} (h : isV ρ (pe P a b) H x t) : isV ρ P H x t := h.step (kp.rf (Z := no)) no_hz (fun _ _ z => Or.inl z)
theorem CW.un (h : CW ρ (pe P a b) ad st H) (hP : ∀ i, i < 46 → P (ad i)) : CW ρ P ad st H := h.step (kp.rf (Z := no)) no_hz (fun _ _ z => z) (fun _ _ z => Or.inl z) hP (fun q hq => h.2.1 q (Or.inl hq))
theorem CC.un (h : CC ρ (pe P a b) H) : CC ρ P H := h.step (kp.rf (Z := no)) no_hz (fun _ _ z => Or.inl z)
/-- the builder's own, where it was in P before -/
theorem CC_pe (h : CC ρ P H) (ha : P a) (hb : P b) : CC ρ (pe P a b) H := h.step (kp.rf (Z := no)) no_hz (fun q _ z => by
  rcases z with z | z | z
  · exact z
  · rw [z]; exact ha
  · rw [z]; exact hb)
theorem isS_pe {x : Nat} {t : TT} (h : isS ρ P H x t) (ha : P a) (hb : P b) : isS ρ (pe P a b) H x t := h.step (kp.rf (Z := no)) no_hz (fun q _ z => by
  rcases z with z | z | z
  · exact z
  · rw [z]; exact ha
  · rw [z]; exact hb)
theorem pe_in (hP : ∀ q, P q → q < H.size) (ha : P a) (hb : P b) : ∀ q, pe P a b q → q < H.size := by
  intro q h
  rcases h with h | h | h
  · exact hP q h
  · rw [h]; exact hP a ha
  · rw [h]; exact hP b hb
theorem isS_ab {x : Nat} {t : TT} (h : isS ρ (pe P a b) H x t) : isS ρ (ab a b) H x t := h.step (kp.rf (Z := no)) no_hz (fun _ _ z => Or.inr z)
/-- frames of calls -/
theorem kp_call {A1 Z : Nat → Prop} (h1 : H.size ≤ H1.size) (h2 : ∀ q : Nat, q < H.size → ¬ A1 q → H1[q]? = H[q]?) (hz : ∀ q, q < H.size → A1 q → Z q) : kp Z H H1 := ⟨h1, fun q hq hn => h2 q hq (fun z => hn (hz q hq z))⟩
def Pm (ad : Nat → Nat) : Nat → Prop := fun q => ∃ i, i < 46 ∧ q = ad i
theorem MA_Pm {w : WD} (hw : w.1 = 46) {sz : Nat} : ∀ q, q < sz → MA w ad sz q → Pm ad q := by
  intro q hq h
  rcases h with ⟨i, hi, e⟩ | h
  · exact ⟨i, by omega, e⟩
  · omega
theorem Pm_P (h : ∀ i, i < 46 → P (ad i)) {sz : Nat} : ∀ q, q < sz → Pm ad q → P q := by
  rintro q - ⟨i, hi, rfl⟩
  exact h i hi
end PE
/-- costs -/
def ja {α : Type} (k n : Nat) (o : Option (α × Nat × Nat)) : Option (α × Nat × Nat) := match o with | none => none | some (a, c, s) => some (a, k + c, n + s)
def jd {α β : Type} (o : Option (β × Nat × Nat)) (f : β → Option (α × Nat × Nat)) : Option (α × Nat × Nat) := match o with | none => none | some (b, c, s) => ja c s (f b)
theorem ja_some {α : Type} {k n : Nat} {o : Option (α × Nat × Nat)} {r : α × Nat × Nat} (h : ja k n o = some r) : ∃ r', o = some r' ∧ r.1 = r'.1 ∧ r.2.1 = k + r'.2.1 ∧ r.2.2 = n + r'.2.2 := by
  cases o with
  | none => cases h
  | some a => obtain ⟨a, c, s⟩ := a; cases h; exact ⟨_, rfl, rfl, rfl, rfl⟩
theorem jd_some {α β : Type} {o : Option (β × Nat × Nat)} {f : β → Option (α × Nat × Nat)} {r : α × Nat × Nat} (h : jd o f = some r) : ∃ (q : β × Nat × Nat) (r' : α × Nat × Nat), o = some q ∧ f q.1 = some r' ∧ r.1 = r'.1 ∧ r.2.1 = q.2.1 + r'.2.1 ∧ r.2.2 = q.2.2 + r'.2.2 := by
  cases o with
  | none => cases h
  | some a =>
    obtain ⟨a, c, s⟩ := a
    obtain ⟨r', h1, h2⟩ := ja_some (show ja c s (f a) = some r from h)
    exact ⟨_, r', rfl, h1, h2⟩
