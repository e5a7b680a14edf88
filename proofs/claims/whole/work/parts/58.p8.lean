/-! ### call: the frames, and both sides in step -/
def Ch (F C : List Nat) (a b : GS) : Prop := (∀ k, k ∉ F → b.1 0 k = a.1 0 k) ∧ (∀ i, i ≠ 0 → i ∉ C → b.1 i = a.1 i) ∧ (∀ k, k ∉ F → b.2.1 0 k = a.2.1 0 k) ∧ ∀ i, i ≠ 0 → b.2.1 i = a.2.1 i
theorem Ch_refl {F C : List Nat} {a : GS} : Ch F C a a := ⟨fun _ _ => rfl, fun _ _ _ => rfl, fun _ _ => rfl, fun _ _ => rfl⟩
theorem Ch_mono {F C G D : List Nat} {a b : GS} (h : Ch F C a b) (h1 : ∀ x ∈ F, x ∈ G) (h2 : ∀ x ∈ C, x ∈ D) : Ch G D a b := ⟨fun k hk => h.1 k (fun z => hk (h1 k z)), fun i i0 hi => h.2.1 i i0 (fun z => hi (h2 i z)), fun k hk => h.2.2.1 k (fun z => hk (h1 k z)), h.2.2.2⟩
theorem Ch_trans {F C G D : List Nat} {a b c : GS} (h : Ch F C a b) (h' : Ch G D b c) (h1 : ∀ x ∈ G, x ∈ F) (h2 : ∀ x ∈ D, x ∈ C) : Ch F C a c := by
  have k := Ch_mono h' h1 h2
  exact ⟨fun x hx => (k.1 x hx).trans (h.1 x hx), fun i i0 hi => (k.2.1 i i0 hi).trans (h.2.1 i i0 hi), fun x hx => (k.2.2.1 x hx).trans (h.2.2.1 x hx), fun i i0 => (k.2.2.2 i i0).trans (h.2.2.2 i i0)⟩
theorem Ch_f {F C : List Nat} {a b : GS} {k : Nat} {x : Int32} (h : Ch F C a b) (hk : k ∈ F) : Ch F C a (uI b 0 k x) := by
  refine ⟨fun j hj => ?_, fun i i0 hi => ?_, h.2.2.1, h.2.2.2⟩
  · rw [uI_ne (fun z => hj (by rw [z]; exact hk))]; exact h.1 j hj
  · rw [uI_off1 i0]; exact h.2.1 i i0 hi
theorem Ch_c {F C : List Nat} {a b : GS} {i k : Nat} {x : Int32} (h : Ch F C a b) (hi : i ∈ C) (h0 : i ≠ 0) : Ch F C a (uI b i k x) := by
  refine ⟨fun j hj => ?_, fun j j0 hj => ?_, h.2.2.1, h.2.2.2⟩
  · rw [uI_off1 (fun z => h0 z.symm)]; exact h.1 j hj
  · rw [uI_off1 (fun z => hj (by rw [z]; exact hi))]; exact h.2.1 j j0 hj
theorem Ch_d {F C : List Nat} {a b : GS} {k : Nat} {x : UInt64} (h : Ch F C a b) (hk : k ∈ F) : Ch F C a (uD b 0 k x) := by
  refine ⟨h.1, h.2.1, fun j hj => ?_, fun i i0 => ?_⟩
  · rw [uD_ne (fun z => hj (by rw [z]; exact hk))]; exact h.2.2.1 j hj
  · exact (show (uD b 0 k x).2.1 i = b.2.1 i from if_neg i0).trans (h.2.2.2 i i0)
def Txt (f c : Nat) (t : TT) (m : GS) : Prop := m.1 0 f = nI t.length ∧ ∀ j, j < t.length → m.1 c j = nI (t.getD j 0)
theorem Txt_ch {F C : List Nat} {f c : Nat} {t : TT} {a b : GS} (h : Txt f c t a) (k : Ch F C a b) (hf : f ∉ F) (hc : c ∉ C) (h0 : c ≠ 0) : Txt f c t b := ⟨(k.1 f hf).trans h.1, fun j hj => (congrFun (k.2.1 c h0 hc) j).trans (h.2 j hj)⟩
/-- both faults -/
def FR (cs : CS) (ms : GS) : Prop := ∃ e : Nat, e ≤ 8 ∧ cs.1 1 6 = nI e ∧ ms.1 0 22 = nI e
def Cf (a b : CS) : Prop := b.2 = a.2 ∧ (∀ i k, ¬ (i = 1 ∧ k = 6) → i ∉ [5, 7, 43, 44, 45] → b.1 i k = a.1 i k) ∧ (b.1 1 6 = 0 → a.1 1 6 = 0)
theorem Cf_refl {a : CS} : Cf a a := ⟨rfl, fun _ _ _ _ => rfl, fun h => h⟩
theorem Cf_trans {a b c : CS} (h : Cf a b) (k : Cf b c) : Cf a c := ⟨k.1.trans h.1, fun i j h1 h2 => (k.2.1 i j h1 h2).trans (h.2.1 i j h1 h2), fun z => h.2.2 (k.2.2 z)⟩
theorem Cf_fault {a b : CS} {x : Int32} (h : Cf a b) (h0 : a.1 1 6 = 0) : Cf a (uC b 1 6 x) := by
  refine ⟨h.1, fun i k h1 h2 => ?_, fun _ => h0⟩
  by_cases e : i = 1
  · subst e
    rw [uC_ne (fun z => h1 ⟨rfl, z⟩)]; exact h.2.1 1 k h1 h2
  · rw [uC_off e]; exact h.2.1 i k h1 h2
theorem Cf_cell {a b : CS} {i k : Nat} {x : Int32} (h : Cf a b) (hi : i ∈ [5, 7, 43, 44, 45]) : Cf a (uC b i k x) := by
  have h1 : i ≠ 1 := fun z => by subst z; revert hi; decide
  refine ⟨h.1, fun j q h1 h2 => ?_, fun z => h.2.2 ?_⟩
  · rw [uC_off (fun z => h2 (by rw [z]; exact hi))]; exact h.2.1 j q h1 h2
  · rw [uC_off (fun w => h1 w.symm)] at z; exact z
theorem Cf_row {a b : CS} (h : Cf a b) {i : Nat} (h1 : i ≠ 1) (h2 : i ∉ [5, 7, 43, 44, 45]) : b.1 i = a.1 i := funext fun k => h.2.1 i k (fun z => h1 z.1) h2
theorem Rargs_ch {n u h : Nat} {cs cs' : CS} {ms ms' : GS} {F C : List Nat} (hR : Rargs n u h cs ms) (hc : Cf cs cs') (hm : Ch F C ms ms') (h1 : ∀ x ∈ F, x ∉ [3, 7, 8]) (h2 : ∀ x ∈ C, x ∉ [3, 4, 5, 6, 7, 8, 9, 10, 11]) : Rargs n u h cs' ms' := by
  have f : ∀ k, k ∈ [3, 7, 8] → ms'.1 0 k = ms.1 0 k := fun k hk => hm.1 k (fun z => h1 k z hk)
  have g : ∀ k, k ≠ 0 → k ∈ [3, 4, 5, 6, 7, 8, 9, 10, 11] → ms'.1 k = ms.1 k := fun k h0 hk => hm.2.1 k h0 (fun z => h2 k z hk)
  refine Rargs_mv hR (hc.2.1 1 5 (by decide) (by decide)) (hc.2.1 1 4 (by decide) (by decide)) (fun i g1 g2 => Cf_row hc (by omega) (by simp; omega)) (by rw [hc.1]) (by rw [hc.1]) (f 7 (by decide)) (f 8 (by decide)) (f 3 (by decide)) (g 3 (by decide) (by decide)) (g 4 (by decide) (by decide)) (g 5 (by decide) (by decide)) (g 6 (by decide) (by decide)) (g 7 (by decide) (by decide)) (g 8 (by decide) (by decide)) (g 9 (by decide) (by decide)) (g 10 (by decide) (by decide)) (g 11 (by decide) (by decide)) (hm.2.2.2 12 (by decide))
def SF : List Nat := [20, 21, 22, 27, 28, 29, 30, 31, 32, 33, 34, 42, 43, 44, 46, 47, 48]
def SC : List Nat := [13, 14, 15, 16, 17, 18]
/-- within a call: the arguments, the fault, and what may have changed -/
def CI (n u h : Nat) (cs0 : CS) (ms0 : GS) (cs : CS) (ms : GS) : Prop := Rargs n u h cs ms ∧ FR cs ms ∧ Cf cs0 cs ∧ Ch SF SC ms0 ms ∧ h ≤ 140000
theorem SF_ok : ∀ x ∈ SF, x ∉ [3, 7, 8] := by decide
theorem SC_ok : ∀ x ∈ SC, x ∉ [3, 4, 5, 6, 7, 8, 9, 10, 11] := by decide
theorem CI_step {n u h : Nat} {cs0 cs cs' : CS} {ms0 ms ms' : GS} {F C : List Nat} (I : CI n u h cs0 ms0 cs ms) (hc : Cf cs cs') (hm : Ch F C ms ms') (hf : FR cs' ms') (h1 : ∀ x ∈ F, x ∈ SF) (h2 : ∀ x ∈ C, x ∈ SC) : CI n u h cs0 ms0 cs' ms' := by
  obtain ⟨i1, i2, i3, i4, i5⟩ := I
  exact ⟨Rargs_ch i1 hc (Ch_mono hm h1 h2) SF_ok SC_ok, hf, Cf_trans i3 hc, Ch_trans i4 hm h1 h2, i5⟩
/-- a step of the reference alone, that leaves its error -/
theorem CI_ref {n u h : Nat} {cs0 cs : CS} {ms0 ms ms' : GS} {F C : List Nat} (I : CI n u h cs0 ms0 cs ms) (hm : Ch F C ms ms') (h1 : ∀ x ∈ F, x ∈ SF) (h2 : ∀ x ∈ C, x ∈ SC) (h22 : 22 ∉ F) : CI n u h cs0 ms0 cs ms' := by
  obtain ⟨e, e1, e2, e3⟩ := I.2.1
  exact CI_step I Cf_refl hm ⟨e, e1, e2, (hm.1 22 h22).trans e3⟩ h1 h2
/-! both sides in step: the class's cost, and what holds of both ends -/
def Sm {α β : Type} (c s : Nat) (X : Option (α × Nat × Nat)) (Y : Option β) (Q : α → β → Prop) : Prop := TA c s X (fun a => Tr Y (Q a))
section SMS
variable {α β γ δ : Type} {C S : Nat} {X X' : Option (α × Nat × Nat)} {Y Y' : Option β} {Q : α → β → Prop}
theorem Sm_mono {c s : Nat} {P : α → β → Prop} (h : Sm c s X Y P) (hc : c ≤ C) (hs : s ≤ S) (hk : ∀ a b, P a b → Q a b) : Sm C S X Y Q := TA_mono h hc hs (fun a ha => Tr_mono ha (fun b hb => hk a b hb))
theorem Sm_end {a : α} {b : β} {k n : Nat} (h : Q a b) (hk : k ≤ C := by exact Nat.zero_le _) (hn : n ≤ S := by exact Nat.zero_le _) : Sm C S (some (a, k, n)) (some b) Q := TA_some hk hn (Tr_some h)
theorem Sm_Lb {q : Prop} [Decidable q] (h1 : q → Sm C S X Y Q) (h2 : ¬ q → Sm C S X' Y Q) : Sm C S (jb q X X') Y Q := TA_jb h1 h2
theorem Sm_Lbt {q : Prop} [Decidable q] (hc : q) (h : Sm C S X Y Q) : Sm C S (jb q X X') Y Q := TA_jbt hc h
theorem Sm_Lbf {q : Prop} [Decidable q] (hc : ¬ q) (h : Sm C S X' Y Q) : Sm C S (jb q X X') Y Q := TA_jbf hc h
theorem Sm_Lg {b : Bool} (hb : b = true) (h : Sm C S X Y Q) : Sm C S (jg b X) Y Q := TA_jg hb h
theorem Sm_Ln {e : γ} {k : γ → Option (α × Nat × Nat)} (h : Sm C S (k e) Y Q) : Sm C S (jn e k) Y Q := h
theorem Sm_Lc {o : Option γ} {a : γ} {k : γ → Option (α × Nat × Nat)} (h : o = some a) (hk : Sm C S (k a) Y Q) : Sm C S (jc o k) Y Q := TA_jce h hk
theorem Sm_LcT {o : Option γ} {P : γ → Prop} {k : γ → Option (α × Nat × Nat)} (h : Tr o P) (hk : ∀ a, P a → Sm C S (k a) Y Q) : Sm C S (jc o k) Y Q := TA_jc h hk
theorem Sm_La {k n : Nat} (h : Sm (C - k) (S - n) X Y Q) (hc : k ≤ C := by decide) (hs : n ≤ S := by decide) : Sm C S (ja k n X) Y Q := TA_mono (TA_ja h) (by omega) (by omega) (fun _ z => z)
theorem Sm_Ld {o : Option (γ × Nat × Nat)} {f : γ → Option (α × Nat × Nat)} {b : γ} {k1 n1 : Nat} (h : o = some (b, k1, n1)) (hk : Sm (C - k1) (S - n1) (f b) Y Q) (hc : k1 ≤ C := by decide) (hs : n1 ≤ S := by decide) : Sm C S (jd o f) Y Q := TA_mono (TA_jde h hk) (by omega) (by omega) (fun _ z => z)
theorem Sm_LdT {c1 s1 : Nat} {o : Option (γ × Nat × Nat)} {f : γ → Option (α × Nat × Nat)} {P : γ → Prop} (h : TA c1 s1 o P) (hk : ∀ b, P b → Sm (C - c1) (S - s1) (f b) Y Q) (hc : c1 ≤ C := by decide) (hs : s1 ≤ S := by decide) : Sm C S (jd o f) Y Q := TA_mono (TA_jd h hk) (by omega) (by omega) (fun _ z => z)
theorem Sm_R (e : Y = Y') (h : Sm C S X Y' Q) : Sm C S X Y Q := by rw [e]; exact h
theorem Sm_bt {q : Prop} [Decidable q] (hq : q) (h : Sm C S X Y Q) : Sm C S X (jb q Y Y') Q := Sm_R (if_pos hq) h
theorem Sm_bf {q : Prop} [Decidable q] (hq : ¬ q) (h : Sm C S X Y' Q) : Sm C S X (jb q Y Y') Q := Sm_R (if_neg hq) h
theorem Sm_b {q : Prop} [Decidable q] (h1 : q → Sm C S X Y Q) (h2 : ¬ q → Sm C S X Y' Q) : Sm C S X (jb q Y Y') Q := by
  by_cases hq : q
  · exact Sm_bt hq (h1 hq)
  · exact Sm_bf hq (h2 hq)
theorem Sm_g {b : Bool} (hb : b = true) (h : Sm C S X Y Q) : Sm C S X (jg b Y) Q := Sm_R (if_pos hb) h
theorem Sm_n {e : δ} {k : δ → Option β} (h : Sm C S X (k e) Q) : Sm C S X (jn e k) Q := h
theorem Sm_c {o : Option δ} {a : δ} {k : δ → Option β} (h : o = some a) (hk : Sm C S X (k a) Q) : Sm C S X (jc o k) Q := by subst h; exact hk
theorem Sm_cT {o : Option δ} {P : δ → Prop} {k : δ → Option β} (h : Tr o P) (hk : ∀ a, P a → Sm C S X (k a) Q) : Sm C S X (jc o k) Q := by
  obtain ⟨a, rfl, hp⟩ := h
  exact hk a hp
/-- a step of both -/
theorem Sm_jj {c1 s1 : Nat} {o : Option (γ × Nat × Nat)} {f : γ → Option (α × Nat × Nat)} {o' : Option δ} {f' : δ → Option β} {P : γ → δ → Prop} (h : Sm c1 s1 o o' P) (hk : ∀ a b, P a b → Sm (C - c1) (S - s1) (f a) (f' b) Q) (hc : c1 ≤ C := by decide) (hs : s1 ≤ S := by decide) : Sm C S (jd o f) (jc o' f') Q :=
  TA_mono (TA_jd h (fun a ⟨b, e, hp⟩ => TA_mono (hk a b hp) (Nat.le_refl _) (Nat.le_refl _) (fun r hr => by subst e; exact hr))) (by omega) (by omega) (fun _ z => z)
theorem Sm_j0 {o : Option γ} {f : γ → Option (α × Nat × Nat)} {o' : Option δ} {f' : δ → Option β} {P : γ → δ → Prop} (h : Tr o (fun a => Tr o' (P a))) (hk : ∀ a b, P a b → Sm C S (f a) (f' b) Q) : Sm C S (jc o f) (jc o' f') Q := by
  obtain ⟨a, rfl, b, rfl, hp⟩ := h
  exact hk a b hp
end SMS
/-! ### faults -/
theorem fail_ok {n u h : Nat} {cs0 cs : CS} {ms0 ms : GS} (I : CI n u h cs0 ms0 cs ms) {e : Nat} (h1 : 1 ≤ e) (h8 : e ≤ 8) : Tr (f_ar_fail cs (nI e)) (fun a => Tr (f_mo_fail ms (nI e)) (fun m => CI n u h cs0 ms0 a m ∧ ¬ a.1 1 6 = 0 ∧ Ch [22] [] ms m)) := by
  obtain ⟨f, f1, f2, f3⟩ := id I.2.1
  by_cases hf : f = 0
  · subst hf
    refine Tr_jbt (by rw [f2]; rfl) (Tr_jn (Tr_some (Tr_jbt (by rw [f3]; rfl) (Tr_jn (Tr_some ?_)))))
    have hm : Ch [22] [] ms (uI ms 0 22 (nI e)) := Ch_f Ch_refl (by decide)
    exact ⟨CI_step I (Cf_fault Cf_refl (by rw [f2]; rfl)) hm ⟨e, h8, uC_at, uI_at⟩ (by decide) (by decide), by rw [uC_at]; exact nI_ne0 (by omega) (by omega), hm⟩
  · have nz : ¬ cs.1 1 6 = 0 := by rw [f2]; exact nI_ne0 (by omega) (by omega)
    exact Tr_jbf nz (Tr_some (Tr_jbf (by rw [f3]; exact nI_ne0 (by omega) (by omega)) (Tr_some ⟨I, nz, Ch_refl⟩)))
/-- the reference fails alone -/
theorem failM {ms : GS} {f e : Nat} (hf : f ≤ 8) (f3 : ms.1 0 22 = nI f) (h1 : 1 ≤ e) (h8 : e ≤ 8) : Tr (f_mo_fail ms (nI e)) (fun m => m.1 0 22 = nI (if f = 0 then e else f) ∧ Ch [22] [] ms m) := by
  by_cases h0 : f = 0
  · subst h0
    refine Tr_jbt (by rw [f3]; rfl) (Tr_jn (Tr_some ⟨?_, Ch_f Ch_refl (by decide)⟩))
    rw [if_pos rfl]; exact uI_at
  · refine Tr_jbf (by rw [f3]; exact nI_ne0 (by omega) (by omega)) (Tr_some ⟨?_, Ch_refl⟩)
    rw [if_neg h0]; exact f3
/-! ### the values of an argument -/
def okV (v : VV) : Prop := v = (0, 0, []) ∨ (∃ x : Int32, v = (1, FP.dmul (FP.i2d x) d125, [])) ∨ (∃ t : TT, v = (2, 0, t) ∧ okT t) ∨ (v = (3, 0, []) ∨ v = (3, 4607182418800017408, [])) ∨ ∃ e : Nat, 1 ≤ e ∧ e ≤ 8 ∧ v = (4, FP.i2d (nI e), [])
theorem VR_ok {v : VV} {kd nm fr sz le : Nat → Int32} {nu : Nat → UInt64} {h j : Nat} (hv : VR v kd nm fr sz le nu h j) : okV v := by
  rcases hv with ⟨g, -⟩ | ⟨x, g, -⟩ | ⟨t, f, g1, g2, -⟩ | ⟨g, -⟩ | ⟨e, e1, e8, g, -⟩
  · exact Or.inl g
  · exact Or.inr (Or.inl ⟨x, g⟩)
  · exact Or.inr (Or.inr (Or.inl ⟨t, g1, g2⟩))
  · exact Or.inr (Or.inr (Or.inr (Or.inl g)))
  · exact Or.inr (Or.inr (Or.inr (Or.inr ⟨e, e1, e8, g⟩)))
def aR (cs : CS) (i : Nat) : Nat := (cs.1 (9 + i) 0).toNatClampNeg
def aC (cs : CS) (i : Nat) : Nat := (cs.1 (9 + i) 1).toNatClampNeg
def aF (cs : CS) (i : Nat) : Nat := (cs.1 (9 + i) 2).toNatClampNeg
/-- an argument's k-th value -/
def av (cs : CS) (i k : Nat) : VV := if k < aR cs i * aC cs i then cs.2 40 (aF cs i + k) else (0, 0, [])
/-- its place in the reference -/
def ap (cs : CS) (i k : Nat) : Nat := if aR cs i = 0 then 512 else aF cs i + k
theorem geo {n u h : Nat} {cs : CS} {ms : GS} (hA : Rargs n u h cs ms) {i : Nat} (hi : i < n) : cs.1 (9 + i) 0 = nI (aR cs i) ∧ cs.1 (9 + i) 1 = nI (aC cs i) ∧ cs.1 (9 + i) 2 = nI (aF cs i) ∧ ms.1 4 i = nI (aR cs i) ∧ ms.1 5 i = nI (aC cs i) ∧ ms.1 6 i = nI (aF cs i) ∧ aR cs i ≤ 512 ∧ aC cs i ≤ 512 ∧ (aR cs i = 0 ↔ aC cs i = 0) ∧ aF cs i + aR cs i * aC cs i ≤ u ∧ u ≤ 512 ∧ n ≤ 30 := by
  obtain ⟨r, c, f, g1, g2, g3, g4, g5, g6, g7, g8, g9, g10, g11⟩ := hA.2.2.2.2.2.2.1 i hi
  have hu := hA.2.2.2.2.2.1
  have e1 : aR cs i = r := by unfold aR; rw [g1, nI_clamp (by omega)]
  have e2 : aC cs i = c := by unfold aC; rw [g2, nI_clamp (by omega)]
  have e3 : aF cs i = f := by unfold aF; rw [g3, nI_clamp (by omega)]
  rw [e1, e2, e3]
  exact ⟨g1, g2, g3, g4, g5, g6, g7, g8, g9, g10, hu, hA.2.2.1⟩
theorem av_ok {n u h : Nat} {cs : CS} {ms : GS} (hA : Rargs n u h cs ms) {i : Nat} (hi : i < n) (k : Nat) : okV (av cs i k) := by
  obtain ⟨-, -, -, -, -, -, -, -, -, g10, -⟩ := geo hA hi
  unfold av
  split
  · exact VR_ok (hA.2.2.2.2.2.2.2.2.2.2.2 _ (by omega))
  · exact Or.inl rfl
theorem nth_c {n u h : Nat} {cs : CS} {ms : GS} (hA : Rargs n u h cs ms) {i : Nat} (hi : i < n) {k : Nat} (hk : k < 2 ^ 31) : f_ar_nth cs (nI i) (nI k) = some (av cs i k) := by
  obtain ⟨g1, g2, g3, g4, g5, g6, g7, g8, g9, g10, g11, g12⟩ := geo hA hi
  have hm : aR cs i * aC cs i ≤ 512 := by omega
  refine e_c (grid_at hA i hi) (e_bf (nI_pos hk) ?_)
  rw [g1, g2, g3, nI_mul]
  unfold av
  by_cases g : aR cs i * aC cs i ≤ k
  · rw [if_neg (by omega)]
    refine e_bt (nI_le g hk) ?_
    rw [hA.2.2.2.2.2.2.2.2.1]
  · rw [if_pos (by omega)]
    refine e_bf (nI_ge (by omega) (by omega)) ?_
    rw [nI_add]
    refine e_bt (nI_lt (b := 512) (by omega) (by decide)) (e_g (inb_of (by omega) (by decide)) ?_)
    rw [nI_clamp (by omega)]
theorem nth_no {n u h : Nat} {cs : CS} {ms : GS} (hA : Rargs n u h cs ms) {i : Nat} (hi : n ≤ i) (h31 : i < 2 ^ 31) (k : Int32) : f_ar_nth cs (nI i) k = some (0, 0, []) := by
  refine e_c (grid_no hA i hi h31) ?_
  rw [hA.2.2.2.2.2.2.2.1 0 (by decide), hA.2.2.2.2.2.2.2.1 1 (by decide), hA.2.2.2.2.2.2.2.2.1]
  by_cases g : k < 0
  · exact e_bt g rfl
  · exact e_bf g (e_bt (Int32.not_lt.mp g) rfl)
def Taken (v : VV) (m : GS) : Prop := m.1 0 20 = v.1 ∧ m.2.1 0 21 = v.2.1 ∧ Txt 27 13 v.2.2 m
theorem takeM {ms : GS} {v : VV} {h j : Nat} (hv : VR v (ms.1 9) (ms.1 9) (ms.1 10) (ms.1 11) (ms.1 3) (ms.2.1 12) h j) (hj : j < 513) (hh : h ≤ 140000) : Tr (f_mo_take ms (nI j)) (fun m => Taken v m ∧ Ch [20, 21, 27] [13] ms m) := by
  have hin : inb (nI j) 513 = true := inb_of hj (by decide)
  have ecl : (nI j).toNatClampNeg = j := nI_clamp (by omega)
  have f36 : ∀ (M : GS) (z : UInt64), Ch [20, 21, 27] [13] ms M → ¬ M.1 0 20 = 2 → M.1 0 20 = v.1 → z = v.2.1 → v.2.2 = [] → Tr (mo_take_36 M (nI j) z) (fun m => Taken v m ∧ Ch [20, 21, 27] [13] ms m) := fun M z hM h2 h20 hz ht => by
    refine Tr_jn (Tr_jbf h2 (Tr_jn (Tr_jbt (by exact Int32.le_refl _) (Tr_some ⟨⟨h20, ?_, ?_, ?_⟩, ?_⟩))))
    · exact (uD_at (st := M)).trans hz
    · rw [ht]; exact uI_at
    · rw [ht]; exact fun j hj => absurd hj (Nat.not_lt_zero j)
    · exact Ch_f (Ch_d hM (by decide)) (by decide)
  have hM0 : Ch [20, 21, 27] [13] ms (uI ms 0 20 (ms.1 9 j)) := Ch_f Ch_refl (by decide)
  have num : ∀ (v1 : ms.1 9 j = v.1), ¬ v.1 = 0 → ¬ v.1 = 2 → ms.2.1 12 j = v.2.1 → v.2.2 = [] → Tr (f_mo_take ms (nI j)) (fun m => Taken v m ∧ Ch [20, 21, 27] [13] ms m) := fun v1 v0 v2 v3 v4 => by
    refine Tr_jg hin (Tr_jn ?_)
    rw [ecl]
    refine Tr_jbf (fun z => v0 (v1.symm.trans z)) (Tr_jbf (fun z => v2 (v1.symm.trans z)) (Tr_jg hin ?_))
    exact f36 _ _ hM0 (fun z => v2 (v1.symm.trans z)) v1 v3 v4
  rcases hv with ⟨rfl, k0⟩ | ⟨x, rfl, k0, k1⟩ | ⟨t, f, rfl, ht, k0, k1, k2, k3, k4⟩ | ⟨rfl | rfl, k0, k1⟩ | ⟨e, e1, e8, rfl, k0, k1⟩
  · refine Tr_jg hin (Tr_jn ?_)
    rw [ecl]
    refine Tr_jbt k0 ?_
    exact f36 _ FP.dconst0 hM0 (fun z => absurd (k0.symm.trans z) (by decide)) k0 rfl rfl
  · exact num k0 (show ¬ (1 : Int32) = 0 by decide) (show ¬ (1 : Int32) = 2 by decide) k1 rfl
  · refine Tr_jg hin (Tr_jn ?_)
    rw [ecl]
    refine Tr_jbf (fun z => absurd (k0.symm.trans z) (by decide)) (Tr_jbt k0 (Tr_jn (Tr_jbt k0 (Tr_jg hin ?_))))
    rw [ecl]
    show Tr (mo_take_58 (uD (uI ms 0 20 (ms.1 9 j)) 0 21 FP.dconst0) (nI j) (ms.1 11 j)) _
    rw [k2]
    refine Tr_jn ?_
    have loop : ∀ (m i fu : Nat) (M : GS), i + m = t.length → m < fu → M.1 0 27 = nI t.length → M.1 10 j = nI f → (∀ q, q < t.length → M.1 3 (f + q) = nI (t.getD q 0)) → (∀ q, q < i → M.1 13 q = nI (t.getD q 0)) → Ch [20, 21, 27] [13] ms M → M.1 0 20 = 2 → M.2.1 0 21 = 0 → Tr (mo_take_63 fu M (nI j) (nI i)) (fun r => Taken (2, 0, t) r ∧ Ch [20, 21, 27] [13] ms r) := by
      intro m
      have htl := ht.1
      induction m with
      | zero =>
        intro i fu M hi hf h27 h10 h3 h13 hM h20 h21
        obtain ⟨g, rfl⟩ : ∃ g, fu = g + 1 := ⟨fu - 1, by omega⟩
        exact Tr_jbt (by rw [h27]; exact nI_le (by omega) (by omega)) (Tr_some ⟨⟨h20, h21, h27, fun q hq => h13 q (by have : q < t.length := hq; omega)⟩, hM⟩)
      | succ m ih =>
        intro i fu M hi hf h27 h10 h3 h13 hM h20 h21
        obtain ⟨g, rfl⟩ : ∃ g, fu = g + 1 := ⟨fu - 1, by omega⟩
        refine Tr_jbf (by rw [h27]; exact nI_ge (by omega) (by omega)) (Tr_jg hin (Tr_jg (by rw [ecl, h10, nI_add]; exact inb_of (by omega) (by decide)) (Tr_jg (inb_of (by omega) (by decide)) (Tr_jn (Tr_jn ?_)))))
        rw [ecl, h10, nI_add, nI_clamp (by omega), nI_clamp (by omega), nI_1, h3 i (by omega)]
        refine ih (i + 1) g (uI M 13 i (nI (t.getD i 0))) (by omega) (by omega) h27 h10 h3 (fun q hq => ?_) (Ch_c hM (by decide) (by decide)) h20 h21
        by_cases e : q = i
        · rw [e, uI_at]
        · rw [uI_ne e]; exact h13 q (by omega)
    exact loop t.length 0 FU _ (by omega) (FU_lt (by have := ht.1; omega)) rfl k1 k4 (fun q hq => absurd hq (Nat.not_lt_zero q)) (Ch_f (Ch_d hM0 (by decide)) (by decide)) k0 rfl
  · exact num k0 (show ¬ (3 : Int32) = 0 by decide) (show ¬ (3 : Int32) = 2 by decide) k1 rfl
  · exact num k0 (show ¬ (3 : Int32) = 0 by decide) (show ¬ (3 : Int32) = 2 by decide) k1 rfl
  · exact num k0 (show ¬ (4 : Int32) = 0 by decide) (show ¬ (4 : Int32) = 2 by decide) k1 rfl
