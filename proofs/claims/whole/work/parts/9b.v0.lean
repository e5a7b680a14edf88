/-! ### the areas of the arguments stay one behind the other -/
/-- what comes out, if anything does -/
def Fx {α : Type} (o : Option α) (P : α → Prop) : Prop := ∀ a, o = some a → P a
section FX
variable {α β : Type} {P : α → Prop}
theorem Fx_some {a : α} (h : P a) : Fx (some a) P := fun b e => by injection e with e; rw [← e]; exact h
theorem Fx_none : Fx (none : Option α) P := fun b e => by cases e
theorem Fx_jb {c : Prop} [Decidable c] {x y : Option α} (h1 : Fx x P) (h2 : Fx y P) : Fx (jb c x y) P := by
  unfold jb
  split
  · exact h1
  · exact h2
theorem Fx_jg {b : Bool} {x : Option α} (h : Fx x P) : Fx (jg b x) P := by
  unfold jg
  split
  · exact h
  · exact Fx_none
theorem Fx_jn {e : β} {k : β → Option α} (h : Fx (k e) P) : Fx (jn e k) P := h
theorem Fx_jc {o : Option β} {Q : β → Prop} {k : β → Option α} (h : Fx o Q) (hk : ∀ a, Q a → Fx (k a) P) : Fx (jc o k) P := fun r e => by
  obtain ⟨a, e1, e2⟩ := jc_some e
  exact hk a (h a e1) r e2
theorem Fx_jca {o : Option β} {k : β → Option α} (hk : ∀ a, Fx (k a) P) : Fx (jc o k) P := Fx_jc (Q := fun _ => True) (fun _ _ => trivial) (fun a _ => hk a)
end FX
/-- with a cost -/
def Fy {α : Type} (o : Option (α × Nat × Nat)) (P : α → Prop) : Prop := ∀ a, o = some a → P a.1
section FY
variable {α β : Type} {P : α → Prop}
theorem Fy_some {a : α} {k n : Nat} (h : P a) : Fy (some (a, k, n)) P := fun b e => by injection e with e; rw [← e]; exact h
theorem Fy_jb {c : Prop} [Decidable c] {x y : Option (α × Nat × Nat)} (h1 : Fy x P) (h2 : Fy y P) : Fy (jb c x y) P := by
  unfold jb
  split
  · exact h1
  · exact h2
theorem Fy_jg {b : Bool} {x : Option (α × Nat × Nat)} (h : Fy x P) : Fy (jg b x) P := by
  unfold jg
  split
  · exact h
  · exact fun b e => by cases e
theorem Fy_jn {e : β} {k : β → Option (α × Nat × Nat)} (h : Fy (k e) P) : Fy (jn e k) P := h
theorem Fy_jc {o : Option β} {Q : β → Prop} {k : β → Option (α × Nat × Nat)} (h : Fx o Q) (hk : ∀ a, Q a → Fy (k a) P) : Fy (jc o k) P := fun r e => by
  obtain ⟨a, e1, e2⟩ := jc_some e
  exact hk a (h a e1) r e2
theorem Fy_jca {o : Option β} {k : β → Option (α × Nat × Nat)} (hk : ∀ a, Fy (k a) P) : Fy (jc o k) P := Fy_jc (Q := fun _ => True) (fun _ _ => trivial) (fun a _ => hk a)
theorem Fy_ja {k n : Nat} {o : Option (α × Nat × Nat)} (h : Fy o P) : Fy (ja k n o) P := fun r e => by
  cases o with
  | none => cases e
  | some a => injection e with e; rw [← e]; exact h a rfl
theorem Fy_jda {o : Option (β × Nat × Nat)} {k : β → Option (α × Nat × Nat)} (hk : ∀ a, Fy (k a) P) : Fy (jd o k) P := by
  cases o with
  | none => exact fun r e => by cases e
  | some a => exact Fy_ja (hk a.1)
end FY
/-- the arguments' rows stay -/
def Gs (a b : CS) : Prop := ∀ i, 9 ≤ i → i < 39 → ∀ k, k < 3 → b.1 i k = a.1 i k
theorem Gs_refl {a : CS} : Gs a a := fun _ _ _ _ _ => rfl
theorem Gs_1 {a b : CS} (h : b.1 = a.1) : Gs a b := fun i _ _ k _ => by rw [h]
theorem Gs_trans {a b c : CS} (h : Gs a b) (k : Gs b c) : Gs a c := fun i h1 h2 j hj => (k i h1 h2 j hj).trans (h i h1 h2 j hj)
theorem Gs_C {a b : CS} {i k : Nat} {x : Int32} (h : Gs a b) (hi : i < 9 ∨ 38 < i ∨ 2 < k) : Gs a (uC b i k x) := fun j h1 h2 q hq => by
  refine Eq.trans ?_ (h j h1 h2 q hq)
  by_cases e : j = i
  · rw [e]; exact uC_ne (by omega)
  · exact congrFun (uC_off e) q
theorem Gs_V {a b : CS} {i k : Nat} {v : VV} (h : Gs a b) : Gs a (uV b i k v) := h
theorem Gs_Dj {n : Nat} {a b : CS} (h : Gs a b) (hn : n ≤ 30) (hD : Dj n a) : Dj n b := Dj_of hD (fun i hi k hk => h (9 + i) (by omega) (by omega) k hk)
theorem g_lay {st : CS} {p : Int32} : Fx (f_wf_lay st p) (fun c => Gs st c) := by
  have loop : ∀ (fu : Nat) (b : CS) (x y : Int32), Gs st b → Fx (wf_lay_3 fu b x y) (fun c => Gs st c) := by
    intro fu
    induction fu with
    | zero => exact fun b x y h => Fx_none
    | succ fu ih =>
      intro b x y h
      have nx : ∀ c : CS, Gs st c → Fx (wf_lay_46 (wf_lay_3 fu) c x y) (fun c => Gs st c) := fun c hc => Fx_jn (ih c x _ hc)
      exact Fx_jb (Fx_some h) (Fx_jb (nx b h) (Fx_jg (Fx_jg (Fx_jn (Fx_jn (nx _ (Gs_C (Gs_C h (by omega)) (by omega))))))))
  exact loop FU st p 24 Gs_refl
theorem g_feed {st : CS} {p0 p1 p2 p3 p4 : Int32} : Fx (f_wf_feed st p0 p1 p2 p3 p4) (fun r => Gs st r.2) :=
  Fx_jb (Fx_jc g_lay (fun _ h1 => Fx_jc g_lay (fun _ h2 => Fx_jc g_lay (fun _ h3 => Fx_jc g_lay (fun _ h4 => Fx_jc g_lay (fun _ h5 => Fx_some (Gs_trans h1 (Gs_trans h2 (Gs_trans h3 (Gs_trans h4 h5)))))))))) (Fx_some Gs_refl)
theorem g_end {st : CS} {p : Int32} : Fy (f_wf_end st p) (fun r => Gs st r.2) := by
  have e62 : ∀ xb : BT, Fy (wf_end_62 st xb) (fun r => Gs st r.2) := fun xb => Fy_jda (fun t => Fy_jn (Fy_jn (Fy_some (Gs_C (Gs_V Gs_refl) (by decide)))))
  have loop : ∀ (fu : Nat) (x y : Int32) (xb : BT), Fy (wf_end_31 fu st x y xb) (fun r => Gs st r.2) := by
    intro fu
    induction fu with
    | zero => exact fun x y xb r e => by cases e
    | succ fu ih => exact fun x y xb => Fy_jb (e62 xb) (Fy_jb (e62 xb) (Fy_jg (Fy_jda (fun a => Fy_jn (ih x _ a)))))
  exact Fy_jb (Fy_some Gs_refl) (Fy_jb (Fy_some Gs_refl) (Fy_jb (Fy_ja (loop FU p 0 _)) (Fy_some Gs_refl)))
theorem g_home {st : CS} {p0 p1 : Int32} : Fx (f_wf_home st p0 p1) (fun r => Gs st r.2) :=
  Fx_jca (fun _ => Fx_jb (Fx_some Gs_refl) (Fx_jn (Fx_jn (Fx_some (Gs_C (Gs_C Gs_refl (by decide)) (by decide))))))
theorem g_stand {st : CS} {p0 p1 : Int32} : Fx (f_ar_stand st p0 p1) (fun r => Gs st r.2) :=
  Fx_jca (fun _ => Fx_jb (Fx_some Gs_refl) (Fx_jca (fun _ => Fx_jb (Fx_some Gs_refl) (Fx_jca (fun _ => Fx_jb (Fx_some Gs_refl) (Fx_jn (Fx_jn (Fx_jn (Fx_some (Gs_C (Gs_C (Gs_C Gs_refl (by omega)) (by omega)) (by omega)))))))))))
theorem g_range {st : CS} {p0 p1 : Int32} : Fx (f_wf_range st p0 p1) (fun r => Gs st r.2) :=
  Fx_jc g_stand (fun _ h => Fx_jg (Fx_some h))
theorem g_set {st : CS} {p0 : Int32} {v : VV} : Fx (f_ar_set st p0 v) (fun r => Gs st r.2) :=
  Fx_jca (fun _ => Fx_jb (Fx_some Gs_refl) (Fx_jb (Fx_some Gs_refl) (Fx_jb (Fx_jg (Fx_jn (Fx_some Gs_refl))) (Fx_some Gs_refl))))
theorem g_putText {st : CS} {p0 : Int32} : Fy (f_wf_putText st p0) (fun r => Gs st r.2) :=
  Fy_jda (fun _ => Fy_jc g_set (fun _ h => Fy_jg (Fy_some h)))
theorem g_put {st : CS} {p0 p1 : Int32} {p2 : UInt64} : Fy (f_wf_put st p0 p1 p2) (fun r => Gs st r.2) := by
  have a1 : ∀ z : Int32, Fy (wf_put_108 st p0 z) (fun r => Gs st r.2) := fun z => Fy_jda (fun _ => Fy_jc g_set (fun _ h => Fy_jg (Fy_some h)))
  have a2 : ∀ z : UInt64, Fy (wf_put_60 st p0 p2 z) (fun r => Gs st r.2) := fun z => Fy_jb (Fy_some Gs_refl) (Fy_jda (fun _ => Fy_jc g_set (fun _ h => Fy_jb (Fy_some h) (Fy_some h))))
  exact Fy_jb (Fy_jda (fun _ => Fy_jc g_set (fun _ h => Fy_jg (Fy_some h)))) (Fy_jb (Fy_jb (a2 _) (a2 _)) (Fy_jb (Fy_some Gs_refl) (Fy_jb (Fy_jb (a1 _) (a1 _)) (Fy_jb (Fy_jca (fun _ => Fy_jda (fun _ => Fy_jc g_set (fun _ h => Fy_jg (Fy_some h))))) (Fy_some Gs_refl)))))
theorem g_look {st : CS} {p0 p1 : Int32} : Fx (f_wf_look st p0 p1) (fun r => Gs st r.2) := by
  have t : Fx (f_an_tell st p0 p1) (fun r => Gs st r.2) := Fx_jb (Fx_some Gs_refl) (Fx_jb (Fx_some Gs_refl) (Fx_jb (Fx_some Gs_refl) (Fx_jb (Fx_some Gs_refl) (Fx_jb (Fx_jg (Fx_jn (Fx_some Gs_refl))) (Fx_some Gs_refl)))))
  exact Fx_jc t (fun _ h => Fx_jb (Fx_some h) (Fx_some h))
/-- a new argument: its row, and how many there are -/
def Ga (a b : CS) : Prop := b.1 1 5 = a.1 1 5 + 1 ∧ b.1 (9 + (a.1 1 5).toNatClampNeg) 2 = a.1 1 4 ∧ ∀ i, 9 ≤ i → i < 39 → i ≠ 9 + (a.1 1 5).toNatClampNeg → ∀ k, b.1 i k = a.1 i k
theorem g_add {st : CS} {p0 p1 : Int32} : Fx (f_ar_add st p0 p1) (fun r => ¬ r.1 = 0 → Ga st r.2) := by
  have loop : ∀ (fu : Nat) (b : CS) (x : Int64) (y : Int32), b.1 1 5 = st.1 1 5 → b.1 (9 + (st.1 1 5).toNatClampNeg) 2 = st.1 1 4 → (∀ i, 9 ≤ i → i < 39 → i ≠ 9 + (st.1 1 5).toNatClampNeg → ∀ k, b.1 i k = st.1 i k) → Fx (ar_add_84 fu b x y) (fun r => ¬ r.1 = 0 → Ga st r.2) := by
    intro fu
    induction fu with
    | zero => exact fun b x y _ _ _ => Fx_none
    | succ fu ih =>
      intro b x y h1 h2 h3
      refine Fx_jb (Fx_jn (Fx_some (fun _ => ⟨?_, ?_, fun i i1 i2 i3 k => ?_⟩))) (Fx_jg (Fx_jn (Fx_jn (Fx_jn (ih _ x _ ?_ ?_ (fun i i1 i2 i3 k => ?_))))))
      · rw [uC_at, h1]
      · rw [uC_off (by omega)]; exact h2
      · rw [uC_off (by omega)]; exact h3 i i1 i2 i3 k
      · exact (uC_ne (by decide)).trans h1
      · rw [uC_off (by omega)]; exact h2
      · rw [uC_off (by omega)]; exact h3 i i1 i2 i3 k
  refine Fx_jn (Fx_jb (Fx_some (fun z => absurd rfl z)) (Fx_jb (Fx_some (fun z => absurd rfl z)) (Fx_jb (Fx_jg (Fx_jn (Fx_jn (Fx_jn (Fx_jn (Fx_jn (loop FU _ _ _ ?_ ?_ (fun i i1 i2 i3 k => ?_)))))))) (Fx_some (fun z => absurd rfl z)))))
  · rw [uC_off (by omega), uC_off (by omega), uC_off (by omega), uC_off (by omega)]
  · rw [uC_ne (by decide), uC_at, uC_off (by omega), uC_off (by omega)]
  · rw [uC_off i3, uC_off i3, uC_off i3, uC_off i3]
theorem g_argument {st : CS} {p0 p1 : Int32} : Fx (f_wf_argument st p0 p1) (fun c => Ga st c) := by
  have a38 : ∀ x y : Int32, Fx (wf_argument_38 st x y) (fun c => Ga st c) := fun x y => Fx_jc g_add (fun a h r e => by
    unfold jb at e
    by_cases g : a.1 = 0
    · rw [if_pos g] at e; cases e
    · rw [if_neg g] at e; injection e with e; rw [← e]; exact h g)
  have a13 : ∀ z : Int32, Fx (wf_argument_13 st p0 p1 z) (fun c => Ga st c) := fun z => Fx_jb (Fx_jb Fx_none (Fx_jb (a38 _ _) Fx_none)) (a38 _ _)
  exact Fx_jb (Fx_jb (a13 _) (a13 _)) (a13 _)
theorem Ga_Dj {n n' u u' h h' : Nat} {a b : CS} {m m' : GS} (hA : Rargs n u h a m) (hB : Rargs n' u' h' b m') (hG : Ga a b) (hD : Dj n a) : n' = n + 1 ∧ Dj n' b := by
  obtain ⟨g1, g2, g3⟩ := hG
  have hn30 := hA.2.2.1
  have e5 : a.1 1 5 = nI n := hA.1
  have ecl : (a.1 1 5).toNatClampNeg = n := by rw [e5]; exact nI_clamp (by omega)
  rw [ecl] at g2 g3
  have hn' : n' = n + 1 := by
    have : nI n' = nI (n + 1) := by rw [← hB.1, g1, e5, nI_1]
    exact (nI_eq (by have := hB.2.2.1; omega) (by omega)).mp this
  have hn : n < 30 := by have := hB.2.2.1; omega
  refine ⟨hn', ?_⟩
  subst hn'
  have hu : a.1 1 4 = nI u := hA.2.2.2.1
  have hu5 : u ≤ 512 := hA.2.2.2.2.2.1
  have row : ∀ i, i < n → aF b i = aF a i ∧ aR b i = aR a i ∧ aC b i = aC a i := fun i hi => by
    unfold aF aR aC
    rw [g3 (9 + i) (by omega) (by omega) (by omega), g3 (9 + i) (by omega) (by omega) (by omega), g3 (9 + i) (by omega) (by omega) (by omega)]
    exact ⟨rfl, rfl, rfl⟩
  have last : aF b n = u := by
    unfold aF
    rw [g2, hu]
    exact nI_clamp (by omega)
  intro i j hij hj
  obtain ⟨r1, r2, r3⟩ := row i (by omega)
  rw [r1, r2, r3]
  by_cases e : j = n
  · rw [e, last]
    obtain ⟨k1, k2, k3, k4, k5, k6, k7, k8, k9, k10, k11, k12⟩ := geo hA (show i < n by omega)
    omega
  · rw [(row j (by omega)).1]
    exact hD i j hij (by omega)
