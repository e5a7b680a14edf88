/-! ### the answer of the reference: a part of the grid, kept -/
def KF (a b : GS) : Prop := (∀ i, i ≠ 19 → i ≠ 20 → i ≠ 21 → b.1 i = a.1 i) ∧ ∀ i, i ≠ 22 → b.2.1 i = a.2.1 i
def KV (a b : GS) (P : Nat → VV) (h j : Nat) : Prop := ∀ i, i < j → VR (P i) (b.1 19) (b.1 19) (b.1 20) (b.1 21) (a.1 3) (b.2.1 22) h i
def kb (K : GS → Int32 → Option GS) (st : GS) (x1 q11 : Int32) : Option GS := jg (inb q11 513) (jg (inb x1 512) (jn (uI st 19 x1.toNatClampNeg (st.1 9 q11.toNatClampNeg)) (fun st14 => jg (inb q11 513) (jb ((st14.1 9 q11.toNatClampNeg) = 0) (mo_keep_185 K  st14 x1 q11 x1) (jg (inb q11 513) (jb ((st14.1 9 q11.toNatClampNeg) = 2) (mo_keep_185 K  st14 x1 q11 x1) (jg (inb q11 513) (mo_keep_196 K  st14 x1 q11 x1 (st14.2.1 12 q11.toNatClampNeg)))))))))
theorem VR_cp {v : VV} {kd fr sz kd' fr' sz' le : Nat → Int32} {nu nu' : Nat → UInt64} {h i j : Nat} (hv : VR v kd kd fr sz le nu h j) (e1 : kd' i = kd j) (e2 : fr' i = fr j) (e3 : sz' i = sz j) (e4 : ¬ kd j = 0 → ¬ kd j = 2 → nu' i = nu j) : VR v kd' kd' fr' sz' le nu' h i := by
  rcases hv with ⟨g0, g1⟩ | ⟨x, g0, g1, g2⟩ | ⟨t, f, g1, g2, g3, g4, g5, g6, g7⟩ | ⟨g0, g1, g2⟩ | ⟨e, h1, h8, g0, g1, g2⟩
  · exact Or.inl ⟨g0, e1.trans g1⟩
  · exact Or.inr (Or.inl ⟨x, g0, e1.trans g1, (e4 (by rw [g1]; decide) (by rw [g1]; decide)).trans g2⟩)
  · exact Or.inr (Or.inr (Or.inl ⟨t, f, g1, g2, e1.trans g3, e2.trans g4, e3.trans g5, g6, g7⟩))
  · exact Or.inr (Or.inr (Or.inr (Or.inl ⟨g0, e1.trans g1, (e4 (by rw [g1]; decide) (by rw [g1]; decide)).trans g2⟩)))
  · exact Or.inr (Or.inr (Or.inr (Or.inr ⟨e, h1, h8, g0, e1.trans g1, (e4 (by rw [g1]; decide) (by rw [g1]; decide)).trans g2⟩)))
def kS (st : GS) (i j : Nat) (z : UInt64) : GS := uI (uI (uD (uI st 19 i (st.1 9 j)) 22 i z) 20 i (st.1 10 j)) 21 i (st.1 11 j)
theorem kS_19 {st : GS} {i j : Nat} {z : UInt64} : (kS st i j z).1 19 = upd (st.1 19) i (st.1 9 j) := rfl
theorem kS_20 {st : GS} {i j : Nat} {z : UInt64} : (kS st i j z).1 20 = upd (st.1 20) i (st.1 10 j) := rfl
theorem kS_21 {st : GS} {i j : Nat} {z : UInt64} : (kS st i j z).1 21 = upd (st.1 21) i (st.1 11 j) := rfl
theorem kS_22 {st : GS} {i j : Nat} {z : UInt64} : (kS st i j z).2.1 22 = vf_upd (st.2.1 22) i z := rfl
theorem upd_at {f : Nat → Int32} {i : Nat} {x : Int32} : upd f i x i = x := if_pos rfl
theorem upd_ne {f : Nat → Int32} {i j : Nat} {x : Int32} (h : j ≠ i) : upd f i x j = f j := if_neg h
theorem vfu_at {f : Nat → UInt64} {i : Nat} {x : UInt64} : vf_upd f i x i = x := if_pos rfl
theorem vfu_ne {f : Nat → UInt64} {i j : Nat} {x : UInt64} (h : j ≠ i) : vf_upd f i x j = f j := if_neg h
theorem kS_KF {a st : GS} {i j : Nat} {z : UInt64} (h : KF a st) : KF a (kS st i j z) := by
  refine ⟨fun k h1 h2 h3 => ?_, fun k hk => ?_⟩
  · refine Eq.trans ?_ (h.1 k h1 h2 h3)
    unfold kS
    rw [uI_off1 h3, uI_off1 h2]
    exact uI_off1 h1
  · exact (if_neg hk).trans (h.2 k hk)
theorem kS_KV {a st : GS} {P : Nat → VV} {h i j : Nat} {z : UInt64} (hV : KV a st P h i) (hv : VR (P i) (st.1 9) (st.1 9) (st.1 10) (st.1 11) (a.1 3) (st.2.1 12) h j) (hz : ¬ st.1 9 j = 0 → ¬ st.1 9 j = 2 → z = st.2.1 12 j) : KV a (kS st i j z) P h (i + 1) := by
  intro q hq
  rw [kS_19, kS_20, kS_21, kS_22]
  by_cases e : q = i
  · subst e
    exact VR_cp hv upd_at upd_at upd_at (fun g1 g2 => vfu_at.trans (hz g1 g2))
  · exact VR_cp (hV q (by omega)) (upd_ne e) (upd_ne e) (upd_ne e) (fun _ _ => vfu_ne e)
theorem kb_step {K : GS → Int32 → Option GS} {a st : GS} {P : Nat → VV} {h i j : Nat} {Q : GS → Prop} (hi : i < 512) (hj : j < 513) (hF : KF a st) (hV : KV a st P h i) (hv : VR (P i) (st.1 9) (st.1 9) (st.1 10) (st.1 11) (a.1 3) (st.2.1 12) h j) (hK : ∀ s, KF a s → KV a s P h (i + 1) → Tr (K s (nI (i + 1))) Q) : Tr (kb K st (nI i) (nI j)) Q := by
  have b1 : inb (nI j) 513 = true := inb_of hj (by decide)
  have b2 : inb (nI i) 512 = true := inb_of hi (by decide)
  have c1 : (nI i).toNatClampNeg = i := nI_clamp (by omega)
  have c2 : (nI j).toNatClampNeg = j := nI_clamp (by omega)
  have k196 : ∀ z : UInt64, (¬ st.1 9 j = 0 → ¬ st.1 9 j = 2 → z = st.2.1 12 j) → Tr (mo_keep_196 K (uI st 19 i (st.1 9 j)) (nI i) (nI j) (nI i) z) Q := fun z hz => by
    unfold mo_keep_196
    rw [c1, c2]
    refine Tr_jg b2 (Tr_jn (Tr_jg b1 (Tr_jg b2 (Tr_jn (Tr_jg b1 (Tr_jg b2 (Tr_jn (Tr_jn ?_))))))))
    rw [nI_1]
    exact hK (kS st i j z) (kS_KF hF) (kS_KV hV hv hz)
  unfold kb
  rw [c1, c2]
  refine Tr_jg b1 (Tr_jg b2 (Tr_jn (Tr_jg b1 (Tr_jb (fun q => k196 _ (fun g _ => absurd q g)) (fun q => Tr_jg b1 (Tr_jb (fun q2 => k196 _ (fun _ g => absurd q2 g)) (fun q2 => Tr_jg b1 (k196 _ (fun _ _ => rfl)))))))))
/-- what the reference needs of one value of the part -/
def KS (a : GS) (cs : CS) (pos : Nat → Nat → Nat) (H W : Nat) : Prop := ∀ (K : GS → Int32 → Option GS) (st : GS) (x y : Nat) (i : Int32), KF a st → x < H → y < W → jb ((st.1 0 41) = 0) (mo_keep_123 K  st i (nI x) (nI y) (st.1 0 36) (st.1 0 37) (nI x)) (mo_keep_123 K  st i (nI x) (nI y) (st.1 0 36) (st.1 0 37) (nI y)) = kb K st i (nI (ap cs 0 (pos x y)))
/-- after the telling -/
def KE (a : GS) (m : GS) : Prop := (∀ i, i ≠ 0 → i ≠ 17 → i ≠ 19 → i ≠ 20 → i ≠ 21 → m.1 i = a.1 i) ∧ (∀ k, k ≠ 32 → k ≠ 33 → m.1 0 k = a.1 0 k)
theorem keep_loop {n u h H W : Nat} {cs : CS} {a : GS} {pos : Nat → Nat → Nat} (hA : Rargs n u h cs a) (hn : 0 < n) (hh : h ≤ 140000) (h36 : a.1 0 36 = 0) (h49 : a.1 0 49 = nI H) (h50 : a.1 0 50 = nI W) (hH : 0 < H) (hW : 0 < W) (hH5 : H ≤ 512) (hW5 : W ≤ 512) (hHW : H * W ≤ 512) (hS : KS a cs pos H W) (hp : ∀ x y, x < H → y < W → pos x y < one1 (aR cs 0) * one1 (aC cs 0)) : ∀ (r i fu : Nat) (st : GS), i + r = H * W → r < fu → KF a st → KV a st (PO cs pos W) h i → Tr (mo_keep_68 fu st (nI i)) (fun m => KE a m ∧ Rtold (PO cs pos W 0) m ∧ ∀ i, i < H * W → VR (PO cs pos W i) (m.1 19) (m.1 19) (m.1 20) (m.1 21) (m.1 3) (m.2.1 22) h i) := by
  have hpos : 0 < H * W := Nat.mul_pos hH hW
  intro r
  induction r with
  | zero =>
    intro i fu st hi hf hF hV
    obtain ⟨g, rfl⟩ : ∃ g, fu = g + 1 := ⟨fu - 1, by omega⟩
    have e0 : st.1 0 = a.1 0 := hF.1 0 (by decide) (by decide) (by decide)
    have e3 : st.1 3 = a.1 3 := hF.1 3 (by decide) (by decide) (by decide)
    have n36 : ¬ st.1 0 36 < 0 := by rw [e0, h36]; decide
    have en : i = H * W := by omega
    refine Tr_jbf n36 (Tr_jbt (by rw [e0, h49, h50, nI_mul]; exact nI_le (by omega) (by omega)) (Tr_jbf n36 ?_))
    have hv0 := hV 0 (by omega)
    rw [← e3] at hv0
    refine Tr_jc (tellM (ms := st) (j := 0) hv0 (by decide) hh) (fun m ⟨m1, m2, m3, m4, m5, m6⟩ => Tr_some ⟨⟨fun k k0 k17 k19 k20 k21 => (m5 k k0 k17).trans (hF.1 k k19 k20 k21), fun k k1 k2 => (m6 k k1 k2).trans (congrFun e0 k)⟩, m1, fun q hq => ?_⟩)
    rw [m5 19 (by decide) (by decide), m5 20 (by decide) (by decide), m5 21 (by decide) (by decide), m5 3 (by decide) (by decide), m3 22 (by decide), e3]
    exact hV q (by omega)
  | succ r ih =>
    intro i fu st hi hf hF hV
    obtain ⟨g, rfl⟩ : ∃ g, fu = g + 1 := ⟨fu - 1, by omega⟩
    have e0 : st.1 0 = a.1 0 := hF.1 0 (by decide) (by decide) (by decide)
    have e50 : st.1 0 50 = nI W := by rw [e0, h50]
    have n36 : ¬ st.1 0 36 < 0 := by rw [e0, h36]; decide
    have hz : nz (st.1 0 50) = true := by
      rw [e50]
      exact decide_eq_true (fun z => by have := (nI_eq (a := W) (b := 0) (by omega) (by decide)).mp z; omega)
    refine Tr_jbf n36 (Tr_jbf (by rw [e0, h49, h50, nI_mul]; exact nI_ge (by omega) (by omega)) (Tr_jg hz (Tr_jn (Tr_jg hz (Tr_jn ?_)))))
    rw [e50, nI_div (by omega) (by omega), nI_mul, show nI i - nI (i / W * W) = nI (i % W) by rw [nI_sub (Nat.div_mul_le_self i W)]; congr 1; have := Nat.div_add_mod i W; rw [Nat.mul_comm] at this; omega]
    have hx : i / W < H := Nat.div_lt_of_lt_mul (by rw [Nat.mul_comm]; omega)
    have hy : i % W < W := Nat.mod_lt _ hW
    rw [hS (mo_keep_68 g) st (i / W) (i % W) (nI i) hF hx hy]
    have hpp := hp _ _ hx hy
    have hap : ap cs 0 (pos (i / W) (i % W)) < 513 := by
      obtain ⟨g1, g2, g3, g4, g5, g6, g7, g8, g9, g10, g11, g12⟩ := geo hA hn
      unfold ap
      rcases one1_mul _ _ g9 with ⟨k1, k2⟩ | ⟨k1, k2⟩
      · rw [if_pos k1]; decide
      · rw [if_neg k1]; omega
    refine kb_step (P := PO cs pos W) (h := h) (a := a) (by omega) hap hF hV ?_ (fun s s1 s2 => ih (i + 1) g s (by omega) (by omega) s1 s2)
    have hv := vr_at hA hn hpp
    rw [hF.1 9 (by decide) (by decide) (by decide), hF.1 10 (by decide) (by decide) (by decide), hF.1 11 (by decide) (by decide) (by decide), hF.2 12 (by decide)]
    exact hv
