/-! ===== the pure part: class and reference as functions ===== -/
def Tr {α : Type} (o : Option α) (Q : α → Prop) : Prop := ∃ a, o = some a ∧ Q a
theorem Tr_some {α : Type} {a : α} {Q : α → Prop} (h : Q a) : Tr (some a) Q := ⟨a, rfl, h⟩
theorem Tr_jb {α : Type} {c : Prop} [Decidable c] {x y : Option α} {Q : α → Prop} (h1 : c → Tr x Q) (h2 : ¬ c → Tr y Q) : Tr (jb c x y) Q := by
  unfold jb
  by_cases hc : c
  · rw [if_pos hc]; exact h1 hc
  · rw [if_neg hc]; exact h2 hc
theorem Tr_jbt {α : Type} {c : Prop} [Decidable c] {x y : Option α} {Q : α → Prop} (hc : c) (h : Tr x Q) : Tr (jb c x y) Q := Tr_jb (fun _ => h) (fun n => absurd hc n)
theorem Tr_jbf {α : Type} {c : Prop} [Decidable c] {x y : Option α} {Q : α → Prop} (hc : ¬ c) (h : Tr y Q) : Tr (jb c x y) Q := Tr_jb (fun n => absurd n hc) (fun _ => h)
theorem Tr_jg {α : Type} {b : Bool} {x : Option α} {Q : α → Prop} (hb : b = true) (h : Tr x Q) : Tr (jg b x) Q := by
  unfold jg
  rw [if_pos hb]; exact h
theorem Tr_jn {α β : Type} {e : α} {k : α → Option β} {Q : β → Prop} (h : Tr (k e) Q) : Tr (jn e k) Q := h
theorem Tr_jc {α β : Type} {o : Option α} {k : α → Option β} {P : α → Prop} {Q : β → Prop} (h : Tr o P) (hk : ∀ a, P a → Tr (k a) Q) : Tr (jc o k) Q := by
  obtain ⟨a, rfl, hp⟩ := h
  exact hk a hp
theorem Tr_jce {α β : Type} {o : Option α} {a : α} {k : α → Option β} {Q : β → Prop} (h : o = some a) (hk : Tr (k a) Q) : Tr (jc o k) Q := by
  subst h
  exact hk
theorem Tr_mono {α : Type} {o : Option α} {P Q : α → Prop} (h : Tr o P) (hk : ∀ a, P a → Q a) : Tr o Q := by
  obtain ⟨a, e, hp⟩ := h
  exact ⟨a, e, hk a hp⟩
/-- .. with costs at most c cells and s slots -/
def TA {α : Type} (c s : Nat) (o : Option (α × Nat × Nat)) (Q : α → Prop) : Prop := ∃ a k n, o = some (a, k, n) ∧ k ≤ c ∧ n ≤ s ∧ Q a
theorem TA_some {α : Type} {a : α} {c s k n : Nat} {Q : α → Prop} (hk : k ≤ c) (hn : n ≤ s) (h : Q a) : TA c s (some (a, k, n)) Q := ⟨a, k, n, rfl, hk, hn, h⟩
theorem TA_jb {α : Type} {c s : Nat} {q : Prop} [Decidable q] {x y : Option (α × Nat × Nat)} {Q : α → Prop} (h1 : q → TA c s x Q) (h2 : ¬ q → TA c s y Q) : TA c s (jb q x y) Q := by
  unfold jb
  by_cases hc : q
  · rw [if_pos hc]; exact h1 hc
  · rw [if_neg hc]; exact h2 hc
theorem TA_jbt {α : Type} {c s : Nat} {q : Prop} [Decidable q] {x y : Option (α × Nat × Nat)} {Q : α → Prop} (hc : q) (h : TA c s x Q) : TA c s (jb q x y) Q := TA_jb (fun _ => h) (fun n => absurd hc n)
theorem TA_jbf {α : Type} {c s : Nat} {q : Prop} [Decidable q] {x y : Option (α × Nat × Nat)} {Q : α → Prop} (hc : ¬ q) (h : TA c s y Q) : TA c s (jb q x y) Q := TA_jb (fun n => absurd n hc) (fun _ => h)
theorem TA_jg {α : Type} {c s : Nat} {b : Bool} {x : Option (α × Nat × Nat)} {Q : α → Prop} (hb : b = true) (h : TA c s x Q) : TA c s (jg b x) Q := by
  unfold jg
  rw [if_pos hb]; exact h
theorem TA_jn {α β : Type} {c s : Nat} {e : β} {k : β → Option (α × Nat × Nat)} {Q : α → Prop} (h : TA c s (k e) Q) : TA c s (jn e k) Q := h
theorem TA_jc {α β : Type} {c s : Nat} {o : Option β} {k : β → Option (α × Nat × Nat)} {P : β → Prop} {Q : α → Prop} (h : Tr o P) (hk : ∀ a, P a → TA c s (k a) Q) : TA c s (jc o k) Q := by
  obtain ⟨a, rfl, hp⟩ := h
  exact hk a hp
theorem TA_jce {α β : Type} {c s : Nat} {o : Option β} {a : β} {k : β → Option (α × Nat × Nat)} {Q : α → Prop} (h : o = some a) (hk : TA c s (k a) Q) : TA c s (jc o k) Q := by
  subst h
  exact hk
theorem TA_ja {α : Type} {c s k n : Nat} {o : Option (α × Nat × Nat)} {Q : α → Prop} (h : TA c s o Q) : TA (k + c) (n + s) (ja k n o) Q := by
  obtain ⟨a, k1, n1, rfl, h1, h2, h3⟩ := h
  exact ⟨a, k + k1, n + n1, rfl, by omega, by omega, h3⟩
theorem TA_jd {α β : Type} {c s c1 s1 : Nat} {o : Option (β × Nat × Nat)} {f : β → Option (α × Nat × Nat)} {P : β → Prop} {Q : α → Prop} (h : TA c1 s1 o P) (hk : ∀ b, P b → TA c s (f b) Q) : TA (c1 + c) (s1 + s) (jd o f) Q := by
  obtain ⟨b, k1, n1, rfl, h1, h2, h3⟩ := h
  obtain ⟨a, k2, n2, e, h4, h5, h6⟩ := hk b h3
  refine ⟨a, k1 + k2, n1 + n2, ?_, by omega, by omega, h6⟩
  show ja k1 n1 (f b) = _
  rw [e]
  rfl
theorem TA_jde {α β : Type} {c s k1 n1 : Nat} {o : Option (β × Nat × Nat)} {b : β} {f : β → Option (α × Nat × Nat)} {Q : α → Prop} (h : o = some (b, k1, n1)) (hk : TA c s (f b) Q) : TA (k1 + c) (n1 + s) (jd o f) Q := TA_jd (P := fun x => x = b) ⟨b, k1, n1, h, Nat.le_refl _, Nat.le_refl _, rfl⟩ (fun x e => by subst e; exact hk)
theorem TA_mono {α : Type} {c s c1 s1 : Nat} {o : Option (α × Nat × Nat)} {P Q : α → Prop} (h : TA c s o P) (hc : c ≤ c1) (hs : s ≤ s1) (hk : ∀ a, P a → Q a) : TA c1 s1 o Q := by
  obtain ⟨a, k, n, e, h1, h2, hp⟩ := h
  exact ⟨a, k, n, e, by omega, by omega, hk a hp⟩
theorem e_bt {α : Type} {c : Prop} [Decidable c] {x y r : Option α} (h : c) (k : x = r) : jb c x y = r := (if_pos h).trans k
theorem e_bf {α : Type} {c : Prop} [Decidable c] {x y r : Option α} (h : ¬ c) (k : y = r) : jb c x y = r := (if_neg h).trans k
theorem e_g {α : Type} {b : Bool} {x r : Option α} (h : b = true) (k : x = r) : jg b x = r := (if_pos h).trans k
theorem e_n {α β : Type} {e : α} {f : α → Option β} {r : Option β} (k : f e = r) : jn e f = r := k
theorem e_c {α β : Type} {o : Option α} {a : α} {f : α → Option β} {r : Option β} (h : o = some a) (k : f a = r) : jc o f = r := by
  subst h
  exact k
theorem uI_at {st : GS} {i k : Nat} {x : Int32} : (uI st i k x).1 i k = x := by
  unfold uI upd
  simp
theorem uI_ne {st : GS} {i k j : Nat} {x : Int32} (h : j ≠ k) : (uI st i k x).1 i j = st.1 i j := by
  unfold uI upd
  simp [h]
theorem uD_at {st : GS} {i k : Nat} {x : UInt64} : (uD st i k x).2.1 i k = x := by
  unfold uD vf_upd
  simp
theorem uD_ne {st : GS} {i k j : Nat} {x : UInt64} (h : j ≠ k) : (uD st i k x).2.1 i j = st.2.1 i j := by
  unfold uD vf_upd
  simp [h]
theorem uC_at {st : CS} {i k : Nat} {x : Int32} : (uC st i k x).1 i k = x := by
  unfold uC upd
  simp
theorem uC_ne {st : CS} {i k j : Nat} {x : Int32} (h : j ≠ k) : (uC st i k x).1 i j = st.1 i j := by
  unfold uC upd
  simp [h]
theorem uC_off {st : CS} {i k j : Nat} {x : Int32} (h : j ≠ i) : (uC st i k x).1 j = st.1 j := by
  unfold uC
  simp [h]
theorem uI_off1 {st : GS} {i k j : Nat} {x : Int32} (h : j ≠ i) : (uI st i k x).1 j = st.1 j := by
  unfold uI
  simp [h]
theorem uV_at {st : CS} {i k : Nat} {x : VV} : (uV st i k x).2 i k = x := by
  unfold uV va_up
  simp
theorem uV_ne {st : CS} {i k j : Nat} {x : VV} (h : j ≠ k) : (uV st i k x).2 i j = st.2 i j := by
  unfold uV va_up
  simp [h]
/-! ### the relation of the states -/
def okT (t : TT) : Prop := t.length ≤ 255 ∧ ∀ c ∈ t, c < 256
def Rtape (tp : Nat) (cs : CS) (ms : GS) : Prop := cs.1 0 1 = nI tp ∧ ms.1 0 1 = nI tp ∧ tp ≤ 260 ∧ tp % 20 = 0 ∧ ∀ j, j < tp → ∃ b : Nat, b < 256 ∧ cs.1 39 j = nI b ∧ ms.1 1 j = nI b
def Rcut (cs : CS) (ms : GS) : Prop := okT (cs.2 0 2).2.2 ∧ ms.1 0 2 = nI (cs.2 0 2).2.2.length ∧ ∀ j, j < (cs.2 0 2).2.2.length → ms.1 2 j = nI ((cs.2 0 2).2.2.getD j 0)
def Rhome (cs : CS) (ms : GS) : Prop := cs.1 1 7 = ms.1 0 18 ∧ cs.1 1 8 = ms.1 0 19
def d125 : UInt64 := 4593671619917905920
def cellB (p q : Int32) : Prop := 1 ≤ p ∧ p ≤ 1048576 ∧ 1 ≤ q ∧ q ≤ 16384
/-- a value of the class's beside the reference's place j of a grid's arrays -/
def VR (v : VV) (kd nm fr sz le : Nat → Int32) (nu : Nat → UInt64) (h j : Nat) : Prop :=
  (v = (0, 0, []) ∧ kd j = 0) ∨ (∃ x : Int32, v = (1, FP.dmul (FP.i2d x) d125, []) ∧ kd j = 1 ∧ nu j = v.2.1) ∨
  (∃ (t : TT) (f : Nat), v = (2, 0, t) ∧ okT t ∧ kd j = 2 ∧ fr j = nI f ∧ sz j = nI t.length ∧ f + t.length ≤ h ∧ ∀ i, i < t.length → le (f + i) = nI (t.getD i 0)) ∨
  ((v = (3, 0, []) ∨ v = (3, 4607182418800017408, [])) ∧ kd j = 3 ∧ nu j = v.2.1) ∨
  ∃ e : Nat, 1 ≤ e ∧ e ≤ 8 ∧ v = (4, FP.i2d (nI e), []) ∧ kd j = 4 ∧ nu j = v.2.1
def GRr (cs : CS) (ms : GS) (u i : Nat) : Prop := ∃ r c f : Nat, cs.1 (9 + i) 0 = nI r ∧ cs.1 (9 + i) 1 = nI c ∧ cs.1 (9 + i) 2 = nI f ∧ ms.1 4 i = nI r ∧ ms.1 5 i = nI c ∧ ms.1 6 i = nI f ∧ r ≤ 512 ∧ c ≤ 512 ∧ (r = 0 ↔ c = 0) ∧ f + r * c ≤ u ∧ ((cs.1 (9 + i) 3 = 0 ∧ ms.1 7 i = 0) ∨ (cs.1 (9 + i) 3 = 1 ∧ ms.1 7 i = cs.1 (9 + i) 4 ∧ ms.1 8 i = cs.1 (9 + i) 5 ∧ cellB (ms.1 7 i) (ms.1 8 i)))
def Rargs (n u h : Nat) (cs : CS) (ms : GS) : Prop := cs.1 1 5 = nI n ∧ ms.1 0 7 = nI n ∧ n ≤ 30 ∧ cs.1 1 4 = nI u ∧ ms.1 0 8 = nI u ∧ u ≤ 512 ∧ (∀ i, i < n → GRr cs ms u i) ∧ (∀ k, k < 3 → cs.1 8 k = 0) ∧ cs.2 1 0 = (0, 0, []) ∧ ms.1 0 3 = nI h ∧ ms.1 9 512 = 0 ∧ ∀ j, j < u → VR (cs.2 40 j) (ms.1 9) (ms.1 9) (ms.1 10) (ms.1 11) (ms.1 3) (ms.2.1 12) h j
def deq (x y : UInt64) : Prop := x = y ∨ Op.cmpValue (FP.dcmp x y) .l = 0
/-- the value told -/
def Rtold (v : VV) (ms : GS) : Prop := ms.1 0 32 = v.1 ∧ (v.1 = 0 → v = (0, 0, [])) ∧ (v.1 = 2 → v.2.1 = 0 ∧ okT v.2.2 ∧ ms.1 0 33 = nI v.2.2.length ∧ ∀ j, j < v.2.2.length → ms.1 17 j = nI (v.2.2.getD j 0)) ∧ (¬ v.1 = 0 → ¬ v.1 = 2 → v.2.2 = [] ∧ deq v.2.1 (ms.2.1 0 34))
def Rans (h : Nat) (cs : CS) (ms : GS) : Prop := ∃ r c : Nat, cs.1 2 1 = nI r ∧ cs.1 2 2 = nI c ∧ ms.1 0 49 = nI r ∧ ms.1 0 50 = nI c ∧ 1 ≤ r ∧ 1 ≤ c ∧ r * c ≤ 512 ∧ Rtold (cs.2 2 3) ms ∧ ((ms.1 0 36 < 0 ∧ r = 1 ∧ c = 1 ∧ cs.2 2 3 = cs.2 42 0) ∨ (¬ ms.1 0 36 < 0 ∧ ∀ i, i < r * c → VR (cs.2 42 i) (ms.1 19) (ms.1 19) (ms.1 20) (ms.1 21) (ms.1 3) (ms.2.1 22) h i))
def RS (tp n u h : Nat) (cs : CS) (ms : GS) : Prop := Rtape tp cs ms ∧ Rcut cs ms ∧ Rhome cs ms ∧ Rargs n u h cs ms ∧ Rans h cs ms
theorem FU_lt {n : Nat} (h : n < 20000000) : n < FU := h
