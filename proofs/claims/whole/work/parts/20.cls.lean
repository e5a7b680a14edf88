def SRT : List (List Nat) := [[], [], [32, 62, 32], [97, 32, 103, 114, 105, 100, 32, 104, 97, 115, 32, 111, 110, 101, 32, 114, 111, 119, 32, 97, 110, 100, 32, 111, 110, 101, 32, 99, 111, 108, 117, 109, 110, 32, 97, 116, 32, 108, 101, 97, 115, 116], [116, 111, 111, 32, 109, 97, 110, 121, 32, 97, 114, 103, 117, 109, 101, 110, 116, 115, 32, 111, 114, 32, 118, 97, 108, 117, 101, 115], [110, 111, 32, 115, 117, 99, 104, 32, 102, 117, 110, 99, 116, 105, 111, 110, 32, 102, 111, 114, 32, 115, 111, 32, 109, 97, 110, 121, 32, 97, 114, 103, 117, 109, 101, 110, 116, 115], [], [84, 82, 85, 69], [70, 65, 76, 83, 69], [], [], [], [77, 32, 67, 77, 68, 32, 67, 68, 67, 32, 88, 67, 76, 32, 88, 76, 88, 32, 73, 88, 86, 32, 73, 86, 73, 32], [36], [], [91], [93], [89], [77], [68], [89, 77], [77, 68], [89, 68]]
def ZT7 : List Int32 := [48, 49, 50, 51, 52, 53, 54, 55, 56, 57, 48, 49, 50, 51, 52, 53, 54, 55, 56, 57, 48, 49, 50, 51, 52, 53, 54, 55, 56, 57, 48, 49, 50, 51, 52, 53, 54, 55, 56, 57, 48, 49, 50, 51, 52, 53, 54, 55, 56, 57, 48, 49, 50, 51, 52, 53, 54, 55, 56, 57, 48, 49, 50, 51, 52, 53, 54, 55, 56, 57, 48, 49, 50, 51, 52, 53, 54, 55, 56, 57, 48, 49, 50, 51, 52, 53, 54, 55, 56, 57, 48, 49, 50, 51, 52, 53, 54, 55, 56, 57]
def ZT8 : List Int32 := [48, 48, 48, 48, 48, 48, 48, 48, 48, 48, 49, 49, 49, 49, 49, 49, 49, 49, 49, 49, 50, 50, 50, 50, 50, 50, 50, 50, 50, 50, 51, 51, 51, 51, 51, 51, 51, 51, 51, 51, 52, 52, 52, 52, 52, 52, 52, 52, 52, 52, 53, 53, 53, 53, 53, 53, 53, 53, 53, 53, 54, 54, 54, 54, 54, 54, 54, 54, 54, 54, 55, 55, 55, 55, 55, 55, 55, 55, 55, 55, 56, 56, 56, 56, 56, 56, 56, 56, 56, 56, 57, 57, 57, 57, 57, 57, 57, 57, 57, 57]
def ZT9 : List Int32 := [1, 1, 1, 3, 2, 2, 4, 3, 2, 1, 1, 1, 1, 1, 3, 2, 1, 1, 1, 1, 1, 1, 2, 2, 3, 3, 2, 2, 2, 0, 0, 1, 1, 2, 1, 3, 3, 1, 1, 1, 1, 1, 1, 1, 1, 2, 2, 2, 3, 2, 2, 1, 1, 1, 1, 1, 1, 1, 1, 1, 1, 1, 1, 0, 1, 1, 0]
def ZT10 : List Int32 := [1, 2, 2, 3, 3, 3, 4, 4, 2, 1, 1, 1, 1, 30, 30, 2, 1, 1, 0, 0, 0, 1, 3, 2, 4, 4, 3, 3, 3, 1, 1, 1, 1, 5, 1, 3, 3, 1, 1, 1, 1, 1, 1, 2, 2, 2, 2, 2, 3, 3, 3, 0, 0, 1, 1, 1, 1, 1, 1, 1, 1, 1, 1, 0, 1, 1, 0]
def ZT11 : List Int32 := [1000, 900, 500, 400, 100, 90, 50, 40, 10, 9, 5, 4, 1]
def ZT12 : List Int32 := [0, 31, 59, 90, 120, 151, 181, 212, 243, 273, 304, 334]
def ZIL : List (Option Int32) := [some 1, none, some 1, some 0, some 8, none, none, none, none, none, none, none, none]
def ZTL : List (Option (Nat × List Int32)) := [none, none, none, none, none, none, none, some (1, ZT7), some (1, ZT8), some (2, ZT9), some (2, ZT10), some (2, ZT11), some (2, ZT12)]
def ZRL : List Bool := [false, true, false, false, false, true, true, false, false, false, false, false, false]
/-! ===== the class's world ===== -/
abbrev TT : Type := List Nat
abbrev VV : Type := Int32 × UInt64 × TT
abbrev CS : Type := (Nat → Nat → Int32) × (Nat → Nat → VV)
def kp (Z : Nat → Prop) (H H1 : Heap) : Prop := H.size ≤ H1.size ∧ ∀ q : Nat, q < H.size → ¬ Z q → H1[q]? = H[q]?
theorem kp.rf {Z : Nat → Prop} {H : Heap} : kp Z H H := ⟨Nat.le_refl _, fun _ _ _ => rfl⟩
theorem kp.lt {Z : Nat → Prop} {H H1 : Heap} (h : kp Z H H1) {q : Nat} (hq : q < H.size) : q < H1.size := Nat.lt_of_lt_of_le hq h.1
theorem kp.wk {Z Z' : Nat → Prop} {H H1 : Heap} (h : kp Z H H1) (hz : ∀ q, q < H.size → Z q → Z' q) : kp Z' H H1 := ⟨h.1, fun q hq hn => h.2 q hq (fun z => hn (hz q hq z))⟩
theorem kp.tr {Z : Nat → Prop} {H H1 H2 : Heap} (h : kp Z H H1) (h' : kp Z H1 H2) : kp Z H H2 := ⟨Nat.le_trans h.1 h'.1, fun q hq hn => (h'.2 q (h.lt hq) hn).trans (h.2 q hq hn)⟩
theorem hp_lt {H : Heap} {a : Nat} {c : Cell} (h : H[a]? = some c) : a < H.size := (Array.getElem?_eq_some_iff.mp h).1
/-- a byte array's picture: the characters t -/
def isY (ρ : RH) (P : Nat → Prop) (H : Heap) (b : Nat) (t : TT) : Prop := ∃ ca : Cell, H[b]? = some ca ∧ rB ρ ca.cls = 1 ∧ ca.vm ≠ .unknown ∧ (∀ k, ca.vm ≠ .statics k) ∧ t.length ≤ ca.slots.size ∧ ca.slots.size.toInt32 = nI t.length ∧ (∀ j, j < t.length → ca.slots[j]? = some (.int (sb_b (t.getD j 0)))) ∧ (∀ c ∈ t, c < 256) ∧ t.length < 2 ^ 31 ∧ ¬ P b
def isS (ρ : RH) (P : Nat → Prop) (H : Heap) (a : Nat) (t : TT) : Prop := ∃ (b : Nat) (cs : Cell), H[a]? = some cs ∧ cs.cls = (rD ρ).1 11 ∧ cs.vm.isStatics = false ∧ cs.vm ≠ .unknown ∧ cs.slots[(rD ρ).2 11 0]? = some (.ref b) ∧ cs.slots[(rD ρ).2 11 1]? = some (.int 0) ∧ isY ρ P H b t ∧ ¬ P a
def vF (v : VV) (s : Nat) (k : Nat) : Value := match k with
  | 0 => .int v.1
  | 1 => .double v.2.1
  | _ => .ref s
def isV (ρ : RH) (P : Nat → Prop) (H : Heap) (a : Nat) (v : VV) : Prop := ∃ s : Nat, t_OB a ((rD ρ).1 1) 3 ((rD ρ).2 1) H (vF v s) ∧ isS ρ P H s v.2.2 ∧ ¬ P a
theorem isY.step {ρ : RH} {P P' Z : Nat → Prop} {H H1 : Heap} {b : Nat} {t : TT} (h : isY ρ P H b t) (hk : kp Z H H1) (hz : ∀ q, q < H.size → Z q → P q) (hp : ∀ q, q < H.size → P' q → P q) : isY ρ P' H1 b t := by
  obtain ⟨ca, h1, h2, h3, h4, h5, h6, h7, h8, h9, h10⟩ := h
  exact ⟨ca, by rw [hk.2 b (hp_lt h1) (fun z => h10 (hz b (hp_lt h1) z))]; exact h1, h2, h3, h4, h5, h6, h7, h8, h9, fun z => h10 (hp b (hp_lt h1) z)⟩
theorem isS.step {ρ : RH} {P P' Z : Nat → Prop} {H H1 : Heap} {a : Nat} {t : TT} (h : isS ρ P H a t) (hk : kp Z H H1) (hz : ∀ q, q < H.size → Z q → P q) (hp : ∀ q, q < H.size → P' q → P q) : isS ρ P' H1 a t := by
  obtain ⟨b, cs, h1, h2, h3, h4, h5, h6, h7, h8⟩ := h
  exact ⟨b, cs, by rw [hk.2 a (hp_lt h1) (fun z => h8 (hz a (hp_lt h1) z))]; exact h1, h2, h3, h4, h5, h6, h7.step hk hz hp, fun z => h8 (hp a (hp_lt h1) z)⟩
theorem t_lt {o : Nat} {cC : ClassId} {N : Nat} {iS : Nat → Nat} {H : Heap} {V : Nat → Value} (h : t_OB o cC N iS H V) : o < H.size := by
  obtain ⟨cell, q, -⟩ := h
  exact hp_lt q
theorem isV.step {ρ : RH} {P P' Z : Nat → Prop} {H H1 : Heap} {a : Nat} {v : VV} (h : isV ρ P H a v) (hk : kp Z H H1) (hz : ∀ q, q < H.size → Z q → P q) (hp : ∀ q, q < H.size → P' q → P q) : isV ρ P' H1 a v := by
  obtain ⟨s, h1, h2, h3⟩ := h
  exact ⟨s, h1.kept (hk.2 a (t_lt h1) (fun z => h3 (hz a (t_lt h1) z))), h2.step hk hz hp, fun z => h3 (hp a (t_lt h1) z)⟩
theorem isS.keep {ρ : RH} {P Z : Nat → Prop} {H H1 : Heap} {a : Nat} {t : TT} (h : isS ρ P H a t) (hk : kp Z H H1) (hz : ∀ q, q < H.size → Z q → P q) : isS ρ P H1 a t := h.step hk hz (fun _ _ z => z)
theorem isV.keep {ρ : RH} {P Z : Nat → Prop} {H H1 : Heap} {a : Nat} {v : VV} (h : isV ρ P H a v) (hk : kp Z H H1) (hz : ∀ q, q < H.size → Z q → P q) : isV ρ P H1 a v := h.step hk hz (fun _ _ z => z)
theorem isS.lt {ρ : RH} {P : Nat → Prop} {H : Heap} {a : Nat} {t : TT} (h : isS ρ P H a t) : a < H.size := by
  obtain ⟨b, cs, h1, -⟩ := h
  exact hp_lt h1
theorem isV.lt {ρ : RH} {P : Nat → Prop} {H : Heap} {a : Nat} {v : VV} (h : isV ρ P H a v) : a < H.size := by
  obtain ⟨s, h1, -⟩ := h
  exact t_lt h1
theorem isS.ok {ρ : RH} {P : Nat → Prop} {H : Heap} {a : Nat} {t : TT} (h : isS ρ P H a t) : (∀ c ∈ t, c < 256) ∧ t.length < 2 ^ 31 := by
  obtain ⟨b, cs, h1, h2, h3, h4, h5, h6, h7, h8⟩ := h
  obtain ⟨ca, g1, g2, g3, g4, g5, g6, g7, g8, g9, g10⟩ := h7
  exact ⟨g8, g9⟩
/-- constants: texts, static tables -/
def zcell (ρ : RH) (P : Nat → Prop) (H : Heap) (k : Nat) (v : Value) : Prop := ∃ cell : Cell, H[rZa ρ k]? = some cell ∧ cell.vm.isStatics = true ∧ cell.slots[rZs ρ k]? = some v ∧ ¬ P (rZa ρ k)
def ztab (ρ : RH) (P : Nat → Prop) (H : Heap) (k ind : Nat) (l : List Int32) : Prop := zcell ρ P H k (.ref (rT ρ k)) ∧ ∃ ca : Cell, H[rT ρ k]? = some ca ∧ rB ρ ca.cls = ind ∧ ca.vm ≠ .unknown ∧ (∀ k, ca.vm ≠ .statics k) ∧ l.length ≤ ca.slots.size ∧ ca.slots.size.toInt32 = nI l.length ∧ (∀ j, j < l.length → ca.slots[j]? = some (.int (l.getD j 0))) ∧ ¬ P (rT ρ k)
def CC (ρ : RH) (P : Nat → Prop) (H : Heap) : Prop := (∀ (k : Nat) (t : TT), SRT[k]? = some t → isS ρ P H (rS ρ k) t) ∧ (∀ (k : Nat) (v : Int32), ZIL[k]? = some (some v) → zcell ρ P H k (.int v)) ∧ (∀ (k : Nat) (q : Nat × List Int32), ZTL[k]? = some (some q) → ztab ρ P H k q.1 q.2) ∧ ∀ k : Nat, ZRL[k]? = some true → zcell ρ P H k .null ∨ ∃ t, zcell ρ P H k (.ref t)
theorem zcell.step {ρ : RH} {P P' Z : Nat → Prop} {H H1 : Heap} {k : Nat} {v : Value} (h : zcell ρ P H k v) (hk : kp Z H H1) (hz : ∀ q, q < H.size → Z q → P q) (hp : ∀ q, q < H.size → P' q → P q) : zcell ρ P' H1 k v := by
  obtain ⟨cell, h1, h2, h3, h4⟩ := h
  exact ⟨cell, by rw [hk.2 _ (hp_lt h1) (fun z => h4 (hz _ (hp_lt h1) z))]; exact h1, h2, h3, fun z => h4 (hp _ (hp_lt h1) z)⟩
theorem CC.step {ρ : RH} {P P' Z : Nat → Prop} {H H1 : Heap} (h : CC ρ P H) (hk : kp Z H H1) (hz : ∀ q, q < H.size → Z q → P q) (hp : ∀ q, q < H.size → P' q → P q) : CC ρ P' H1 := by
  refine ⟨fun k t hkt => (h.1 k t hkt).step hk hz hp, fun k v hv => (h.2.1 k v hv).step hk hz hp, fun k q hq => ?_, fun k hr => ?_⟩
  · obtain ⟨h0, ca, h1, h2, h3, h4, h5, h6, h7, h8⟩ := h.2.2.1 k q hq
    exact ⟨h0.step hk hz hp, ca, by rw [hk.2 _ (hp_lt h1) (fun z => h8 (hz _ (hp_lt h1) z))]; exact h1, h2, h3, h4, h5, h6, h7, fun z => h8 (hp _ (hp_lt h1) z)⟩
  · rcases h.2.2.2 k hr with g | ⟨t, g⟩
    · exact Or.inl (g.step hk hz hp)
    · exact Or.inr ⟨t, g.step hk hz hp⟩
theorem CC.keep {ρ : RH} {P Z : Nat → Prop} {H H1 : Heap} (h : CC ρ P H) (hk : kp Z H H1) (hz : ∀ q, q < H.size → Z q → P q) : CC ρ P H1 := h.step hk hz (fun _ _ z => z)
def CR (ρ : RH) (P : Nat → Prop) (st : CS) (Rf : Nat → Nat → Nat) (H : Heap) : Prop := isS ρ P H (Rf 0 2) (st.2 0 2).2.2 ∧ isV ρ P H (Rf 1 0) (st.2 1 0) ∧ isV ρ P H (Rf 2 3) (st.2 2 3) ∧ (∀ j, j < 512 → isV ρ P H (Rf 40 j) (st.2 40 j)) ∧ ∀ j, j < 512 → isV ρ P H (Rf 42 j) (st.2 42 j)
def CG (st : CS) (Rf : Nat → Nat → Nat) : GS := (st.1, fun _ _ => 0, Rf)
def CW (ρ : RH) (P : Nat → Prop) (ad : Nat → Nat) (st : CS) (H : Heap) : Prop := (∀ i, i < 46 → P (ad i)) ∧ (∀ q, P q → q < H.size) ∧ CC ρ P H ∧ ∃ Rf, GW ρ wC ad (CG st Rf) H ∧ CR ρ P st Rf H
theorem CR.step {ρ : RH} {P P' Z : Nat → Prop} {st : CS} {Rf : Nat → Nat → Nat} {H H1 : Heap} (h : CR ρ P st Rf H) (hk : kp Z H H1) (hz : ∀ q, q < H.size → Z q → P q) (hp : ∀ q, q < H.size → P' q → P q) : CR ρ P' st Rf H1 :=
  ⟨h.1.step hk hz hp, h.2.1.step hk hz hp, h.2.2.1.step hk hz hp, fun j hj => (h.2.2.2.1 j hj).step hk hz hp, fun j hj => (h.2.2.2.2 j hj).step hk hz hp⟩
theorem gC.lt {ρ : RH} {ct : Nat → Nat → Nat} {ad : Nat → Nat} {st : GS} {i : Nat} {d : Nat × Nat} {H : Heap} (h : gC ρ ct ad st i d H) : ad i < H.size := by
  unfold gC at h
  split at h
  · exact t_lt h
  · exact hp_lt h
theorem CW.step {ρ : RH} {P P' Z : Nat → Prop} {ad : Nat → Nat} {st : CS} {H H1 : Heap} (h : CW ρ P ad st H) (hk : kp Z H H1) (hz : ∀ q, q < H.size → Z q → P q) (hn : ∀ i, i < 46 → ¬ Z (ad i)) (hp : ∀ q, q < H.size → P' q → P q) (hP : ∀ i, i < 46 → P' (ad i)) (hb : ∀ q, P' q → q < H1.size) : CW ρ P' ad st H1 := by
  obtain ⟨h1, h2, h3, Rf, h4, h5⟩ := h
  exact ⟨hP, hb, h3.step hk hz hp, Rf, h4.kept (fun i hi => hk.2 _ (gC.lt (h4.1 i hi)) (hn i hi)), h5.step hk hz hp⟩
/-- what the world does not touch changed, or only new cells came -/
theorem CW.keep {ρ : RH} {P Z : Nat → Prop} {ad : Nat → Nat} {st : CS} {H H1 : Heap} (h : CW ρ P ad st H) (hk : kp Z H H1) (hz : ∀ q, q < H.size → Z q → P q) (hn : ∀ i, i < 46 → ¬ Z (ad i)) : CW ρ P ad st H1 :=
  h.step hk hz hn (fun _ _ z => z) h.1 (fun q hq => hk.lt (h.2.1 q hq))
def uC (st : CS) (i k : Nat) (x : Int32) : CS := (fun i' => if i' = i then upd (st.1 i) k x else st.1 i', st.2)
def uV (st : CS) (i k : Nat) (v : VV) : CS := (st.1, fun i' => if i' = i then va_up (st.2 i) k v else st.2 i')
theorem CG_uI {st : CS} {Rf : Nat → Nat → Nat} {i k : Nat} {x : Int32} : uI (CG st Rf) i k x = CG (uC st i k x) Rf := rfl
theorem CW.int {ρ : RH} {P : Nat → Prop} {ad : Nat → Nat} {st : CS} {H H1 : Heap} {Rf : Nat → Nat → Nat} {i k : Nat} {x : Int32} (h : CW ρ P ad st H) (hR : CR ρ P st Rf H) (hG : GW ρ wC ad (CG (uC st i k x) Rf) H1) (hi : i < 46) (hk : kp (fun q => q = ad i) H H1) : CW ρ P ad (uC st i k x) H1 := by
  have hz : ∀ q, q < H.size → q = ad i → P q := fun q _ e => by rw [e]; exact h.1 i hi
  exact ⟨h.1, fun q hq => hk.lt (h.2.1 q hq), h.2.2.1.keep hk hz, Rf, hG, hR.step hk hz (fun _ _ z => z)⟩
