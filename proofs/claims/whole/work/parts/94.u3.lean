/-! ### the end of a call -/
/-- what a call leaves alone -/
def St (tp : Nat) (cs : CS) (ms : GS) : Prop := Rtape tp cs ms ∧ Rcut cs ms ∧ Rhome cs ms ∧ ms.1 0 36 = -1 ∧ ms.1 0 0 = 0
def QQ (tp h : Nat) (a : Int32 × CS) (b : Int32 × GS) : Prop := a.1 = b.1 ∧ (∃ h', h' ≤ h ∧ RS tp 0 0 h' a.2 b.2) ∧ b.2.1 0 0 = 0
def Fq (V : VV) (m : GS) : Prop := (m.1 0 22 = 0 ∧ TV V m) ∨ ∃ e : Nat, 1 ≤ e ∧ e ≤ 8 ∧ m.1 0 22 = nI e ∧ V = er e
def bS (c : CS) (V : VV) : CS := uV (uV (uC (uC c 2 1 1) 2 2 1) 42 0 V) 2 3 V
def cl (c : CS) : CS := uC (uC c 1 5 0) 1 4 0
theorem become_c {c : CS} {V : VV} : f_an_become c V = some (bS c V) := e_n (e_n (e_g (by decide) rfl))
theorem bS_Ca {c : CS} {V : VV} : Ca c (bS c V) := Ca_V (Ca_V (Ca_C (Ca_C Ca_refl)) (Or.inr rfl)) (Or.inl rfl)
theorem c166_one {c : CS} (h1 : c.1 2 1 = 1) (h2 : c.1 2 2 = 1) : wf_call_166 c = some (((c.2 2 3).1, cl c), 0, 0) := by
  refine e_c (a := cl c) rfl (e_c (a := (1 : Int32)) ?_ (e_bf (by decide) rfl))
  exact e_bt h1 (e_bt h2 rfl)
theorem c166_many {c : CS} (h : ¬ (c.1 2 1 = 1 ∧ c.1 2 2 = 1)) : wf_call_166 c = some ((64, cl c), 0, 0) := by
  refine e_c (a := cl c) rfl (e_c (a := (0 : Int32)) ?_ (e_bt rfl rfl))
  by_cases h1 : c.1 2 1 = 1
  · exact e_bt h1 (e_bf (fun z => h ⟨h1, z⟩) rfl)
  · exact e_bf h1 rfl
/-- the relation behind a call -/
theorem RS_0 {tp n u h h' : Nat} {cs0 ca c : CS} {ms0 m m' : GS} (hs : St tp cs0 ms0) (hA : Rargs n u h ca m) (hf : Cf cs0 ca) (hc : Ca ca c) (e1 : m'.1 1 = ms0.1 1) (e2 : m'.1 2 = ms0.1 2) (e9 : m'.1 9 = m.1 9) (k : ∀ i, i ∈ [1, 2, 18, 19] → m'.1 0 i = ms0.1 0 i) (k7 : m'.1 0 7 = 0) (k8 : m'.1 0 8 = 0) (k3 : m'.1 0 3 = nI h') (hR : Rans h' (cl c) m') : RS tp 0 0 h' (cl c) m' := by
  obtain ⟨hT, hC, hH, -, -⟩ := hs
  have c0 : (cl c).1 0 = cs0.1 0 := (hc.1 0 (by decide)).trans (Cf_row hf (by decide) (by decide))
  have c39 : (cl c).1 39 = cs0.1 39 := (hc.1 39 (by decide)).trans (Cf_row hf (by decide) (by decide))
  have c1 : ∀ j, j ≠ 4 → j ≠ 5 → j ≠ 6 → (cl c).1 1 j = cs0.1 1 j := fun j h4 h5 h6 => by
    have : (cl c).1 1 j = c.1 1 j := (uC_ne h4).trans (uC_ne h5)
    rw [this, hc.1 1 (by decide)]
    exact hf.2.1 1 j (fun z => h6 z.2) (by decide)
  have v0 : (cl c).2 0 = cs0.2 0 := (hc.2 0 (by decide) (by decide)).trans (by rw [hf.1])
  refine ⟨⟨?_, (k 1 (by decide)).trans hT.2.1, hT.2.2.1, hT.2.2.2.1, fun j hj => ?_⟩, ⟨?_, ?_, fun j hj => ?_⟩, ⟨?_, ?_⟩, ?_, hR⟩
  · rw [c0]; exact hT.1
  · rw [c39, e1]; exact hT.2.2.2.2 j hj
  · rw [v0]; exact hC.1
  · rw [v0]; exact (k 2 (by decide)).trans hC.2.1
  · rw [v0] at hj ⊢; rw [e2]; exact hC.2.2 j hj
  · rw [c1 7 (by decide) (by decide) (by decide)]; exact hH.1.trans (k 18 (by decide)).symm
  · rw [c1 8 (by decide) (by decide) (by decide)]; exact hH.2.trans (k 19 (by decide)).symm
  · refine ⟨rfl, k7, Nat.zero_le _, rfl, k8, Nat.zero_le _, fun i hi => absurd hi (Nat.not_lt_zero i), fun q hq => ?_, ?_, k3, ?_, fun i hi => absurd hi (Nat.not_lt_zero i)⟩
    · have : (cl c).1 8 = ca.1 8 := hc.1 8 (by decide)
      rw [this]; exact hA.2.2.2.2.2.2.2.1 q hq
    · have : (cl c).2 1 = ca.2 1 := hc.2 1 (by decide) (by decide)
      rw [this]; exact hA.2.2.2.2.2.2.2.2.1
    · rw [e9]; exact hA.2.2.2.2.2.2.2.2.2.2.1
/-- the reference's end, one value -/
def kO (M : GS) : GS := uI (uI (uI (uI (uI M 0 49 1) 0 50 1) 0 7 0) 0 8 0) 0 3 0
theorem m157_one {M : GS} (h36 : M.1 0 36 = -1) : mo_call_157 M = some (M.1 0 32, kO M) := by
  have n1 : ¬ (0 : Int32) ≤ M.1 0 36 := by rw [h36]; decide
  have n2 : M.1 0 36 < 0 := by rw [h36]; decide
  have hk : f_mo_keep M = some (uI (uI M 0 49 1) 0 50 1) := by
    refine e_bf n1 (e_n (e_bf n1 (e_n ?_)))
    show mo_keep_68 (19999999 + 1) _ _ = _
    exact e_bt n2 (e_bt n2 rfl)
  exact e_c hk (e_n (e_n (e_bf n1 (e_n (e_bf n1 rfl)))))
theorem tail_one {tp n u h : Nat} {cs0 ca c : CS} {ms0 m : GS} {V : VV} (hs : St tp cs0 ms0) (hA : Rargs n u h ca m) (hf : Cf cs0 ca) (hm : Ch SF SC ms0 m) (hF : Fq V m) (hc : Ca ca c) (d1 : c.1 2 1 = 1) (d2 : c.1 2 2 = 1) (d3 : c.2 2 3 = V) (d4 : c.2 42 0 = V) : Tr (mo_call_131 m) (fun b => QQ tp h (V.1, cl c) b) := by
  have m36 : m.1 0 36 = -1 := (hm.1 36 (by decide)).trans hs.2.2.2.1
  have m00 : m.1 0 0 = 0 := (hm.1 0 (by decide)).trans hs.2.2.2.2
  have fin : ∀ M : GS, M.1 0 36 = -1 → Rtold V M → (∀ i, i ≠ 0 → M.1 i = m.1 i) → (∀ k, k ≠ 32 → k ≠ 36 → M.1 0 k = m.1 0 k) → Tr (mo_call_157 M) (fun b => QQ tp h (V.1, cl c) b) := fun M h36 ht hcc hk => by
    have ek : ∀ k, k ∈ [0, 1, 2, 18, 19] → (kO M).1 0 k = M.1 0 k := fun k hk => by
      simp only [List.mem_cons, List.not_mem_nil, or_false] at hk
      rcases hk with rfl | rfl | rfl | rfl | rfl <;> rfl
    have eK : ∀ k, k ∈ [0, 1, 2, 18, 19] → (kO M).1 0 k = ms0.1 0 k := fun k h => by
      have h' := h
      simp only [List.mem_cons, List.not_mem_nil, or_false] at h'
      rw [ek k h, hk k (by omega) (by omega)]
      refine hm.1 k ?_
      rcases h' with rfl | rfl | rfl | rfl | rfl <;> decide
    have ec : ∀ i, i ≠ 0 → (kO M).1 i = m.1 i := fun i hi => by
      refine Eq.trans ?_ (hcc i hi)
      unfold kO
      rw [uI_off1 hi, uI_off1 hi, uI_off1 hi, uI_off1 hi]
      exact uI_off1 hi
    refine ⟨_, m157_one h36, ⟨ht.1.symm, ⟨0, Nat.zero_le _, RS_0 hs hA hf hc ?_ ?_ (ec 9 (by decide)) (fun i hi => eK i (List.mem_cons_of_mem _ hi)) rfl rfl rfl ?_⟩, ?_⟩⟩
    · rw [ec 1 (by decide)]; exact hm.2.1 1 (by decide) (by decide)
    · rw [ec 2 (by decide)]; exact hm.2.1 2 (by decide) (by decide)
    · refine ⟨1, 1, d1, d2, rfl, rfl, Nat.le_refl _, Nat.le_refl _, by decide, ?_, Or.inl ⟨?_, rfl, rfl, ?_⟩⟩
      · have : (cl c).2 2 3 = V := d3
        rw [this]; exact ht
      · have : (kO M).1 0 36 = M.1 0 36 := rfl
        rw [this, h36]; decide
      · exact d3.trans d4.symm
    · rw [eK 0 (by decide)]; exact hs.2.2.2.2
  rcases hF with ⟨h0, ht⟩ | ⟨e, e1, e8, he, rfl⟩
  · refine Tr_jbt h0 (fin m m36 ht (fun _ _ => rfl) (fun _ _ _ => rfl))
  · have hne : ¬ m.1 0 22 = 0 := by
      rw [he]
      exact fun z => by have := (nI_eq (a := e) (b := 0) (by omega) (by decide)).mp z; omega
    refine Tr_jbf hne (Tr_jn (Tr_jn (Tr_jn (fin _ rfl ?_ (fun i hi => ?_) (fun k h1 h2 => ?_)))))
    · refine ⟨rfl, fun z => absurd (show (4 : Int32) = 0 from z) (by decide), fun z => absurd (show (4 : Int32) = 2 from z) (by decide), fun _ _ => ⟨rfl, Or.inl ?_⟩⟩
      show FP.i2d (nI e) = FP.i2d (m.1 0 22)
      rw [he]
    · exact (uI_off1 hi).trans (uI_off1 hi)
    · exact (uI_ne (st := uI m 0 36 (-1)) h1).trans (uI_ne h2)
/-- a function's two ends, and the call's -/
theorem call_XE {tp n u h : Nat} {cs0 : CS} {ms0 m : GS} {a : VV × CS} (hs : St tp cs0 ms0) (hX : XE n u h cs0 ms0 a m) : TA 1 3 (wf_call_135 a.2 a.1) (fun r => Tr (mo_call_131 m) (fun b => QQ tp h r b)) := by
  obtain ⟨hA, hf, hm, hF⟩ := hX
  have t163 : ∀ {V : VV}, Fq V m → TA 0 0 (wf_call_163 a.2 V) (fun r => Tr (mo_call_131 m) (fun b => QQ tp h r b)) := fun {V} hV => by
    have e : wf_call_163 a.2 V = some ((V.1, cl (bS a.2 V)), 0, 0) := e_c become_c (c166_one rfl rfl)
    rw [e]
    exact TA_some (Nat.le_refl _) (Nat.le_refl _) (tail_one hs hA hf hm hV bS_Ca rfl rfl rfl rfl)
  rcases hF with ⟨h0, h1, ht⟩ | ⟨e, e1, e8, he, hv⟩
  · exact TA_jbt h0 (TA_mono (t163 (Or.inl ⟨h1, ht⟩)) (by decide) (by decide) (fun _ z => z))
  · rcases hv with hv | ⟨hv, hq⟩
    · have hne : ¬ a.2.1 1 6 = 0 := by
        rw [hv]
        exact fun z => by have := (nI_eq (a := e) (b := 0) (by omega) (by decide)).mp z; omega
      refine TA_jbf hne (TA_mono (TA_jde (c := 0) (s := 0) rfl ?_) (by decide) (by decide) (fun _ z => z))
      rw [hv]
      exact t163 (V := er e) (Or.inr ⟨e, e1, e8, he, rfl⟩)
    · exact TA_jbt hv (TA_mono (t163 (Or.inr ⟨e, e1, e8, he, hq⟩)) (by decide) (by decide) (fun _ z => z))
/-- the reference's end, a part -/
def SP : List Nat := [36, 37, 38, 39, 40, 41] ++ SF
theorem tail_part {tp n u h H W : Nat} {cs0 ca c : CS} {ms0 m : GS} {pos : Nat → Nat → Nat} (hs : St tp cs0 ms0) (hA : Rargs n u h ca m) (hn : 0 < n) (hh : h ≤ 140000) (hf : Cf cs0 ca) (hm : Ch SP SC ms0 m) (h22 : m.1 0 22 = 0) (h36 : m.1 0 36 = 0) (hH : 0 < H) (hW : 0 < W) (hH5 : H ≤ 512) (hW5 : W ≤ 512) (hHW : H * W ≤ 512) (hsz : (m.1 0 41 = 0 ∧ m.1 0 39 = nI H ∧ m.1 0 40 = nI W) ∨ (¬ m.1 0 41 = 0 ∧ m.1 0 40 = nI H ∧ m.1 0 39 = nI W)) (hS : KS (uI (uI m 0 49 (nI H)) 0 50 (nI W)) ca pos H W) (hp : ∀ x y, x < H → y < W → pos x y < one1 (aR ca 0) * one1 (aC ca 0)) (hI : AI ca c H W (PO ca pos W) (H * W)) (ht : c.2 2 3 = PO ca pos W 0) : Tr (mo_call_131 m) (fun b => QQ tp h (64, cl c) b) := by
  have n1 : (0 : Int32) ≤ m.1 0 36 := by rw [h36]; decide
  have hpos : 0 < H * W := Nat.mul_pos hH hW
  have hA2 : Rargs n u h ca (uI (uI m 0 49 (nI H)) 0 50 (nI W)) := hA
  have loop := keep_loop hA2 hn hh h36 rfl rfl hH hW hH5 hW5 hHW hS hp (H * W) 0 FU _ (by omega) (FU_lt (by omega)) ⟨fun _ _ _ _ => rfl, fun _ _ => rfl⟩ (fun i hi => absurd hi (Nat.not_lt_zero i))
  have hk : f_mo_keep m = mo_keep_68 FU (uI (uI m 0 49 (nI H)) 0 50 (nI W)) 0 := by
    rcases hsz with ⟨g1, g2, g3⟩ | ⟨g1, g2, g3⟩
    · refine e_bt n1 (e_bt g1 ?_)
      rw [g2]
      refine e_n (e_bt n1 (e_bt g1 ?_))
      show mo_keep_63 _ (m.1 0 40) = _
      rw [g3]
      rfl
    · refine e_bt n1 (e_bf g1 ?_)
      rw [g2]
      refine e_n (e_bt n1 (e_bf g1 ?_))
      show mo_keep_63 _ (m.1 0 39) = _
      rw [g3]
      rfl
  refine Tr_jbt h22 (Tr_jc (P := fun M => KE (uI (uI m 0 49 (nI H)) 0 50 (nI W)) M ∧ Rtold (PO ca pos W 0) M ∧ ∀ i, i < H * W → VR (PO ca pos W i) (M.1 19) (M.1 19) (M.1 20) (M.1 21) (M.1 3) (M.2.1 22) h i) (by rw [hk]; exact loop) (fun M ⟨⟨k1, k2⟩, k3, k4⟩ => ?_))
  have e36 : M.1 0 36 = 0 := (k2 36 (by decide) (by decide)).trans h36
  have n2 : (0 : Int32) ≤ M.1 0 36 := by rw [e36]; decide
  refine Tr_jn (Tr_jn (Tr_jbt n2 (Tr_jn (Tr_jbt n2 (Tr_some ?_)))))
  have f0 : ∀ k, k ∉ SP → k ≠ 49 → k ≠ 50 → M.1 0 k = ms0.1 0 k := fun k hk h1 h2 => by
    have h32 : k ≠ 32 := fun z => hk (by rw [z]; decide)
    have h33 : k ≠ 33 := fun z => hk (by rw [z]; decide)
    rw [k2 k h32 h33, uI_ne h2]
    exact (uI_ne (st := m) h1).trans (hm.1 k hk)
  have e3 : M.1 0 3 = nI h := (k2 3 (by decide) (by decide)).trans hA.2.2.2.2.2.2.2.2.2.1
  refine ⟨rfl, ⟨h, Nat.le_refl _, RS_0 hs hA hf hI.1 ?_ ?_ ?_ (fun i hi => ?_) rfl rfl e3 ?_⟩, ?_⟩
  · exact (k1 1 (by decide) (by decide) (by decide) (by decide) (by decide)).trans (hm.2.1 1 (by decide) (by decide))
  · exact (k1 2 (by decide) (by decide) (by decide) (by decide) (by decide)).trans (hm.2.1 2 (by decide) (by decide))
  · exact k1 9 (by decide) (by decide) (by decide) (by decide) (by decide)
  · simp only [List.mem_cons, List.not_mem_nil, or_false] at hi
    rcases hi with rfl | rfl | rfl | rfl
    · exact f0 1 (by decide) (by decide) (by decide)
    · exact f0 2 (by decide) (by decide) (by decide)
    · exact f0 18 (by decide) (by decide) (by decide)
    · exact f0 19 (by decide) (by decide) (by decide)
  · refine ⟨H, W, hI.2.1, hI.2.2.1, (k2 49 (by decide) (by decide)).trans rfl, (k2 50 (by decide) (by decide)).trans rfl, hH, hW, hHW, ?_, Or.inr ⟨?_, fun i hi => ?_⟩⟩
    · have : (cl c).2 2 3 = PO ca pos W 0 := ht
      rw [this]; exact k3
    · show ¬ M.1 0 36 < 0
      rw [e36]; decide
    · have : (cl c).2 42 i = PO ca pos W i := hI.2.2.2 i hi
      rw [this]; exact k4 i hi
  · exact (f0 0 (by decide) (by decide) (by decide)).trans hs.2.2.2.2
