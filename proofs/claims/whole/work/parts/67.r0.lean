/-! ### what both answer -/
def TV (v : VV) (m : GS) : Prop := m.1 0 32 = v.1 ∧ (v.1 = 0 → v = (0, 0, [])) ∧ (v.1 = 2 → v.2.1 = 0 ∧ okT v.2.2 ∧ m.1 0 33 = nI v.2.2.length ∧ ∀ j, j < v.2.2.length → m.1 17 j = nI (v.2.2.getD j 0)) ∧ (¬ v.1 = 0 → ¬ v.1 = 2 → v.2.2 = [] ∧ deq v.2.1 (m.2.1 0 34))
theorem TV_R {v : VV} {m : GS} (h : TV v m) : Rtold v m := h
/-- both ends of a function: the class's value, its fault, and the reference's state -/
def Fin (v : VV) (cs : CS) (m : GS) : Prop := (cs.1 1 6 = 0 ∧ m.1 0 22 = 0 ∧ TV v m) ∨ ∃ e : Nat, 1 ≤ e ∧ e ≤ 8 ∧ m.1 0 22 = nI e ∧ (cs.1 1 6 = nI e ∨ (cs.1 1 6 = 0 ∧ v = (4, FP.i2d (nI e), [])))
/-- the end of a function's two sides -/
def XE (n u h : Nat) (cs0 : CS) (ms0 : GS) (a : VV × CS) (m : GS) : Prop := Rargs n u h a.2 m ∧ Cf cs0 a.2 ∧ Ch SF SC ms0 m ∧ Fin a.1 a.2 m
theorem XE_fault {n u h : Nat} {cs0 cs : CS} {ms0 ms : GS} {v : VV} (I : CI n u h cs0 ms0 cs ms) (hf : ¬ cs.1 1 6 = 0) : XE n u h cs0 ms0 (v, cs) ms := by
  obtain ⟨e, e1, e2, e3⟩ := id I.2.1
  have : ¬ e = 0 := fun z => hf (by rw [e2, z]; rfl)
  exact ⟨I.1, I.2.2.1, I.2.2.2.1, Or.inr ⟨e, by omega, e1, e3, Or.inl e2⟩⟩
theorem XE_told {n u h : Nat} {cs0 cs : CS} {ms0 ms : GS} {v : VV} (I : CI n u h cs0 ms0 cs ms) (ht : TV v ms) : XE n u h cs0 ms0 (v, cs) ms := by
  by_cases hf : cs.1 1 6 = 0
  · exact ⟨I.1, I.2.2.1, I.2.2.2.1, Or.inl ⟨hf, (FR_0 I).mp hf, ht⟩⟩
  · exact XE_fault I hf
/-- the class answers an error, the reference fails -/
theorem XE_err {n u h e : Nat} {cs0 cs : CS} {ms0 ms : GS} (I : CI n u h cs0 ms0 cs ms) (h1 : 1 ≤ e) (h8 : e ≤ 8) : Tr (f_mo_fail ms (nI e)) (fun m => XE n u h cs0 ms0 ((4, FP.i2d (nI e), []), cs) m ∧ Ch [22] [] ms m ∧ ¬ m.1 0 22 = 0) := by
  obtain ⟨f, f1, f2, f3⟩ := id I.2.1
  refine Tr_mono (failM f1 f3 h1 h8) (fun m ⟨m1, m2⟩ => ⟨⟨Rargs_ch I.1 Cf_refl m2 (by decide) (by decide), I.2.2.1, Ch_trans I.2.2.2.1 m2 (by decide) (by decide), Or.inr ?_⟩, m2, ?_⟩)
  · by_cases h0 : f = 0
    · rw [if_pos h0] at m1
      exact ⟨e, h1, h8, m1, Or.inr ⟨by rw [f2, h0]; rfl, rfl⟩⟩
    · rw [if_neg h0] at m1
      exact ⟨f, by omega, f1, m1, Or.inl f2⟩
  · rw [m1]
    split
    · exact nI_ne0 (by omega) (by omega)
    · exact nI_ne0 (by omega) (by omega)
/-- what the reference does behind its failing, when it does no harm -/
theorem XE_ch {n u h : Nat} {cs0 : CS} {ms0 m m' : GS} {a : VV × CS} {F C : List Nat} (h1 : XE n u h cs0 ms0 a m) (hc : Ch F C m m') (hf : ¬ m.1 0 22 = 0) (h22 : 22 ∉ F) (f1 : ∀ x ∈ F, x ∈ SF) (f2 : ∀ x ∈ C, x ∈ SC) : XE n u h cs0 ms0 a m' := by
  obtain ⟨x1, x2, x3, x4⟩ := h1
  refine ⟨Rargs_ch x1 Cf_refl (Ch_mono hc f1 f2) SF_ok SC_ok, x2, Ch_trans x3 hc f1 f2, ?_⟩
  rcases x4 with ⟨-, y, -⟩ | ⟨e, e1, e2, e3, e4⟩
  · exact absurd y hf
  · exact Or.inr ⟨e, e1, e2, (hc.1 22 h22).trans e3, e4⟩
theorem answerNumber_m {v w : UInt64} {m : GS} (he : v = w) : Tr (f_mo_answerNumber m w) (fun r => TV (1, v, []) r ∧ Ch [32, 34] [] m r) := by
  subst he
  have hm : Ch [32, 34] [] m (uI m 0 32 1) := Ch_f Ch_refl (by decide)
  refine Tr_jn (Tr_jb (fun q => Tr_jn (Tr_some ⟨⟨?_, ?_, ?_, ?_⟩, Ch_d hm (by decide)⟩)) (fun q => Tr_jn (Tr_some ⟨⟨?_, ?_, ?_, ?_⟩, Ch_d hm (by decide)⟩)))
  · rfl
  · exact fun z => absurd (show (1 : Int32) = 0 from z) (by decide)
  · exact fun z => absurd (show (1 : Int32) = 2 from z) (by decide)
  · refine fun _ _ => ⟨rfl, Or.inr ?_⟩
    rw [uD_at]
    exact q
  · rfl
  · exact fun z => absurd (show (1 : Int32) = 0 from z) (by decide)
  · exact fun z => absurd (show (1 : Int32) = 2 from z) (by decide)
  · refine fun _ _ => ⟨rfl, Or.inl ?_⟩
    rw [uD_at]
/-- the reference's number, whatever it is -/
theorem answerAny_m {w : UInt64} {m : GS} : Tr (f_mo_answerNumber m w) (fun r => Ch [32, 34] [] m r) := by
  have hm : Ch [32, 34] [] m (uI m 0 32 1) := Ch_f Ch_refl (by decide)
  exact Tr_jn (Tr_jb (fun q => Tr_jn (Tr_some (Ch_d hm (by decide)))) (fun q => Tr_jn (Tr_some (Ch_d hm (by decide)))))
theorem answerTruth_m {b : Int32} {m : GS} : Tr (f_mo_answerTruth m b) (fun r => TV (3, if b = 0 then 0 else 4607182418800017408, []) r ∧ Ch [32, 34] [] m r) := by
  have hm : Ch [32, 34] [] m (uI m 0 32 3) := Ch_f Ch_refl (by decide)
  have n0 : ∀ d : UInt64, (3, d, ([] : TT)).1 = (0 : Int32) → (3, d, ([] : TT)) = ((0 : Int32), (0 : UInt64), ([] : TT)) := fun d z => absurd (show (3 : Int32) = 0 from z) (by decide)
  by_cases hb : b = 0
  · rw [if_pos hb]
    refine Tr_jn (Tr_jbt hb (Tr_jn (Tr_some ⟨⟨rfl, n0 _, fun z => absurd (show (3 : Int32) = 2 from z) (by decide), fun _ _ => ⟨rfl, Or.inl ?_⟩⟩, Ch_d hm (by decide)⟩)))
    rw [uD_at]
    rfl
  · rw [if_neg hb]
    refine Tr_jn (Tr_jbf hb (Tr_jn (Tr_some ⟨⟨rfl, n0 _, fun z => absurd (show (3 : Int32) = 2 from z) (by decide), fun _ _ => ⟨rfl, Or.inl ?_⟩⟩, Ch_d hm (by decide)⟩)))
    rw [uD_at]
    rfl
theorem toB_loop {t : TT} (htl : t.length ≤ 255) {Q : GS → Prop} : ∀ (k i fu : Nat) (M : GS), i + k = t.length → k < fu → Txt 27 13 t M → (∀ q, q < i → M.1 14 q = nI (t.getD q 0)) → (∀ M', Ch [] [14] M M' → Txt 27 13 t M' → (∀ q, q < t.length → M'.1 14 q = nI (t.getD q 0)) → Tr (jn (uI M' 0 28 (M'.1 0 27)) (fun st1 => some st1)) Q) → Tr (mo_toB_2 fu M (nI i)) Q := by
  intro k
  induction k with
  | zero =>
    intro i fu M hi hf hT hd hend
    obtain ⟨g, rfl⟩ : ∃ g, fu = g + 1 := ⟨fu - 1, by omega⟩
    exact Tr_jbt (by rw [hT.1]; exact nI_le (by omega) (by omega)) (hend M Ch_refl hT (fun q hq => hd q (by omega)))
  | succ k ih =>
    intro i fu M hi hf hT hd hend
    obtain ⟨g, rfl⟩ : ∃ g, fu = g + 1 := ⟨fu - 1, by omega⟩
    have hin : inb (nI i) 256 = true := inb_of (by omega) (by decide)
    refine Tr_jbf (by rw [hT.1]; exact nI_ge (by omega) (by omega)) (Tr_jg hin (Tr_jg hin (Tr_jn (Tr_jn ?_))))
    rw [nI_clamp (by omega), nI_1, hT.2 i (by omega)]
    have hc : Ch [] [14] M (uI M 14 i (nI (t.getD i 0))) := Ch_c Ch_refl (by decide) (by decide)
    refine ih (i + 1) g _ (by omega) (by omega) (Txt_ch hT hc (by decide) (by decide) (by decide)) (fun q hq => ?_) (fun M' c1 c2 c3 => hend M' (Ch_trans hc c1 (fun _ z => z) (fun _ z => z)) c2 c3)
    by_cases e : q = i
    · rw [e, uI_at]
    · rw [uI_ne e]; exact hd q (by omega)
theorem toC_loop {t : TT} (htl : t.length ≤ 255) {Q : GS → Prop} : ∀ (k i fu : Nat) (M : GS), i + k = t.length → k < fu → Txt 27 13 t M → (∀ q, q < i → M.1 15 q = nI (t.getD q 0)) → (∀ M', Ch [] [15] M M' → Txt 27 13 t M' → (∀ q, q < t.length → M'.1 15 q = nI (t.getD q 0)) → Tr (jn (uI M' 0 29 (M'.1 0 27)) (fun st1 => some st1)) Q) → Tr (mo_toC_2 fu M (nI i)) Q := by
  intro k
  induction k with
  | zero =>
    intro i fu M hi hf hT hd hend
    obtain ⟨g, rfl⟩ : ∃ g, fu = g + 1 := ⟨fu - 1, by omega⟩
    exact Tr_jbt (by rw [hT.1]; exact nI_le (by omega) (by omega)) (hend M Ch_refl hT (fun q hq => hd q (by omega)))
  | succ k ih =>
    intro i fu M hi hf hT hd hend
    obtain ⟨g, rfl⟩ : ∃ g, fu = g + 1 := ⟨fu - 1, by omega⟩
    have hin : inb (nI i) 256 = true := inb_of (by omega) (by decide)
    refine Tr_jbf (by rw [hT.1]; exact nI_ge (by omega) (by omega)) (Tr_jg hin (Tr_jg hin (Tr_jn (Tr_jn ?_))))
    rw [nI_clamp (by omega), nI_1, hT.2 i (by omega)]
    have hc : Ch [] [15] M (uI M 15 i (nI (t.getD i 0))) := Ch_c Ch_refl (by decide) (by decide)
    refine ih (i + 1) g _ (by omega) (by omega) (Txt_ch hT hc (by decide) (by decide) (by decide)) (fun q hq => ?_) (fun M' c1 c2 c3 => hend M' (Ch_trans hc c1 (fun _ z => z) (fun _ z => z)) c2 c3)
    by_cases e : q = i
    · rw [e, uI_at]
    · rw [uI_ne e]; exact hd q (by omega)
theorem ansV_loop {t : TT} (htl : t.length ≤ 255) {Q : GS → Prop} : ∀ (k i fu : Nat) (M : GS), i + k = t.length → k < fu → Txt 27 13 t M → (∀ q, q < i → M.1 17 q = nI (t.getD q 0)) → (∀ M', Ch [] [17] M M' → Txt 27 13 t M' → (∀ q, q < t.length → M'.1 17 q = nI (t.getD q 0)) → Tr (some M') Q) → Tr (mo_answerValue_31 fu M (nI i)) Q := by
  intro k
  induction k with
  | zero =>
    intro i fu M hi hf hT hd hend
    obtain ⟨g, rfl⟩ : ∃ g, fu = g + 1 := ⟨fu - 1, by omega⟩
    exact Tr_jbt (by rw [hT.1]; exact nI_le (by omega) (by omega)) (hend M Ch_refl hT (fun q hq => hd q (by omega)))
  | succ k ih =>
    intro i fu M hi hf hT hd hend
    obtain ⟨g, rfl⟩ : ∃ g, fu = g + 1 := ⟨fu - 1, by omega⟩
    have hin : inb (nI i) 256 = true := inb_of (by omega) (by decide)
    refine Tr_jbf (by rw [hT.1]; exact nI_ge (by omega) (by omega)) (Tr_jg hin (Tr_jg hin (Tr_jn (Tr_jn ?_))))
    rw [nI_clamp (by omega), nI_1, hT.2 i (by omega)]
    have hc : Ch [] [17] M (uI M 17 i (nI (t.getD i 0))) := Ch_c Ch_refl (by decide) (by decide)
    refine ih (i + 1) g _ (by omega) (by omega) (Txt_ch hT hc (by decide) (by decide) (by decide)) (fun q hq => ?_) (fun M' c1 c2 c3 => hend M' (Ch_trans hc c1 (fun _ z => z) (fun _ z => z)) c2 c3)
    by_cases e : q = i
    · rw [e, uI_at]
    · rw [uI_ne e]; exact hd q (by omega)
theorem ansT_loop {t : TT} (htl : t.length ≤ 255) {Q : GS → Prop} : ∀ (k i fu : Nat) (M : GS), i + k = t.length → k < fu → Txt 30 16 t M → (∀ q, q < i → M.1 17 q = nI (t.getD q 0)) → (∀ M', Ch [] [17] M M' → Txt 30 16 t M' → (∀ q, q < t.length → M'.1 17 q = nI (t.getD q 0)) → Tr (jb ((M'.1 0 31) = 0) (some M') (jc (f_mo_fail M' 3) (fun q1 => some q1))) Q) → Tr (mo_answerText_15 fu M (nI i)) Q := by
  intro k
  induction k with
  | zero =>
    intro i fu M hi hf hT hd hend
    obtain ⟨g, rfl⟩ : ∃ g, fu = g + 1 := ⟨fu - 1, by omega⟩
    exact Tr_jbt (by rw [hT.1]; exact nI_le (by omega) (by omega)) (hend M Ch_refl hT (fun q hq => hd q (by omega)))
  | succ k ih =>
    intro i fu M hi hf hT hd hend
    obtain ⟨g, rfl⟩ : ∃ g, fu = g + 1 := ⟨fu - 1, by omega⟩
    have hin : inb (nI i) 256 = true := inb_of (by omega) (by decide)
    refine Tr_jbf (by rw [hT.1]; exact nI_ge (by omega) (by omega)) (Tr_jg hin (Tr_jg hin (Tr_jn (Tr_jn ?_))))
    rw [nI_clamp (by omega), nI_1, hT.2 i (by omega)]
    have hc : Ch [] [17] M (uI M 17 i (nI (t.getD i 0))) := Ch_c Ch_refl (by decide) (by decide)
    refine ih (i + 1) g _ (by omega) (by omega) (Txt_ch hT hc (by decide) (by decide) (by decide)) (fun q hq => ?_) (fun M' c1 c2 c3 => hend M' (Ch_trans hc c1 (fun _ z => z) (fun _ z => z)) c2 c3)
    by_cases e : q = i
    · rw [e, uI_at]
    · rw [uI_ne e]; exact hd q (by omega)
theorem toB_m {t : TT} {m : GS} (ht : okT t) (hT : Txt 27 13 t m) : Tr (f_mo_toB m) (fun r => Txt 28 14 t r ∧ Txt 27 13 t r ∧ Ch [28] [14] m r) := by
  refine toB_loop ht.1 t.length 0 FU m (by omega) (FU_lt (by have := ht.1; omega)) hT (fun q hq => absurd hq (Nat.not_lt_zero q)) (fun M c1 c2 c3 => Tr_jn (Tr_some ⟨⟨?_, c3⟩, ?_, Ch_f (Ch_mono c1 (by decide) (by decide)) (by decide)⟩))
  · rw [uI_at]; exact c2.1
  · exact Txt_ch c2 (F := [28]) (C := []) (Ch_f Ch_refl (by decide)) (by decide) (by decide) (by decide)
theorem toC_m {t : TT} {m : GS} (ht : okT t) (hT : Txt 27 13 t m) : Tr (f_mo_toC m) (fun r => Txt 29 15 t r ∧ Txt 27 13 t r ∧ Ch [29] [15] m r) := by
  refine toC_loop ht.1 t.length 0 FU m (by omega) (FU_lt (by have := ht.1; omega)) hT (fun q hq => absurd hq (Nat.not_lt_zero q)) (fun M c1 c2 c3 => Tr_jn (Tr_some ⟨⟨?_, c3⟩, ?_, Ch_f (Ch_mono c1 (by decide) (by decide)) (by decide)⟩))
  · rw [uI_at]; exact c2.1
  · exact Txt_ch c2 (F := [29]) (C := []) (Ch_f Ch_refl (by decide)) (by decide) (by decide) (by decide)
/-- what has been made: the class's text, and the reference's, which stops at 255 -/
def Mk (L : TT) (m : GS) : Prop := (L.length ≤ 255 ∧ m.1 0 31 = 0 ∧ Txt 30 16 L m) ∨ (255 < L.length ∧ m.1 0 31 = 1 ∧ m.1 0 30 = nI 255)
theorem Mk_ch {F C : List Nat} {L : TT} {a b : GS} (h : Mk L a) (k : Ch F C a b) (h1 : 30 ∉ F) (h2 : 31 ∉ F) (h3 : 16 ∉ C) : Mk L b := by
  rcases h with ⟨x, y, z⟩ | ⟨x, y, z⟩
  · exact Or.inl ⟨x, (k.1 31 h2).trans y, Txt_ch z k h1 h3 (by decide)⟩
  · exact Or.inr ⟨x, (k.1 31 h2).trans y, (k.1 30 h1).trans z⟩
theorem make_m {L : TT} {c : Nat} {m : GS} (h : Mk L m) : Tr (f_mo_make m (nI c)) (fun r => Mk (L ++ [c]) r ∧ Ch [30, 31] [16] m r) := by
  have e18 : Tr (mo_make_18 m (nI c)) (fun r => r.1 0 31 = 1 ∧ r.1 0 30 = m.1 0 30 ∧ Ch [30, 31] [16] m r) := by
    unfold mo_make_18 mo_make_23
    refine Tr_jg rfl (Tr_jn (Tr_jbf ?_ (Tr_some ⟨rfl, rfl, Ch_f Ch_refl (by decide)⟩)))
    exact (by decide : ¬ (1 : Int32) = 0)
  rcases h with ⟨x, y, z⟩ | ⟨x, y, z⟩
  · by_cases hl : L.length = 255
    · refine Tr_jbt y (Tr_jbt (by rw [z.1, hl]; rfl) (Tr_mono e18 (fun r ⟨r1, r2, r3⟩ => ⟨Or.inr ⟨by rw [List.length_append]; show 255 < L.length + 1; omega, r1, r2.trans (by rw [z.1, hl])⟩, r3⟩)))
    · refine Tr_jbt y (Tr_jbf (fun q => hl ((nI_eq (b := 255) (by omega) (by decide)).mp (z.1.symm.trans q))) (Tr_jg rfl (Tr_jn (Tr_jbt (show (0 : Int32) = 0 from rfl) (Tr_jg ?_ (Tr_jn (Tr_jn (Tr_some ⟨Or.inl ⟨?_, rfl, ?_, fun j hj => ?_⟩, ?_⟩))))))))
      · show inb (m.1 0 30) 256 = true
        rw [z.1]; exact inb_of (by omega) (by decide)
      · rw [List.length_append]; show L.length + 1 ≤ 255; omega
      · rw [uI_at]
        show m.1 0 30 + 1 = _
        rw [z.1, nI_1, List.length_append]
        rfl
      · rw [List.length_append] at hj
        have hj : j < L.length + 1 := hj
        have e30 : ((uI m 0 31 0).1 0 30).toNatClampNeg = L.length := by
          show (m.1 0 30).toNatClampNeg = _
          rw [z.1, nI_clamp (by omega)]
        rw [getD_snoc hj, uI_off1 (by decide), e30]
        by_cases e : j = L.length
        · rw [if_pos e, e, uI_at]
        · rw [if_neg e, uI_ne e]
          exact z.2 j (by omega)
      · exact Ch_f (Ch_c (Ch_f Ch_refl (by decide)) (by decide) (by decide)) (by decide)
  · refine Tr_jbf (by rw [y]; decide) (Tr_mono e18 (fun r ⟨r1, r2, r3⟩ => ⟨Or.inr ⟨by rw [List.length_append]; show 255 < L.length + 1; omega, r1, r2.trans z⟩, r3⟩))
/-- a stretch of a row -/
def seg (t : TT) (a b : Nat) : TT := (t.drop a).take (b - a)
theorem seg_len {t : TT} {a b : Nat} (hb : b ≤ t.length) : (seg t a b).length = b - a := by
  unfold seg
  rw [List.length_take, List.length_drop]
  omega
theorem seg_all {t : TT} : seg t 0 t.length = t := by
  unfold seg
  rw [List.drop_zero, Nat.sub_zero, List.take_length]
theorem seg_nil {t : TT} {a b : Nat} (h : b ≤ a) : seg t a b = [] := by
  unfold seg
  rw [show b - a = 0 by omega, List.take_zero]
theorem seg_cons {t : TT} {a b : Nat} (h : a < b) (hb : b ≤ t.length) : seg t a b = t.getD a 0 :: seg t (a + 1) b := by
  unfold seg
  obtain ⟨c, hc⟩ : ∃ c, b - a = c + 1 := ⟨b - a - 1, by omega⟩
  rw [hc, show b - (a + 1) = c by omega, List.drop_eq_getElem_cons (by omega), List.take_succ_cons, List.getD_eq_getElem?_getD, List.getElem?_eq_getElem (by omega)]
  rfl
theorem seg_mem {t : TT} {a b c : Nat} (h : c ∈ seg t a b) : c ∈ t := List.mem_of_mem_drop (List.mem_of_mem_take h)
theorem makeOf_m {t : TT} {f c : Nat} (hc : c ≠ 0) (hc16 : c ≠ 16) (hf : f ∉ [30, 31]) (htl : t.length ≤ 255) {b : Nat} (hb : b ≤ t.length) : ∀ (k a fu : Nat) (L : TT) (m : GS), (a + k = b ∨ (b ≤ a ∧ k = 0 ∧ a ≤ 1000)) → k < fu → Mk L m → Txt f c t m → Tr (mo_makeOf_3 fu m c (nI b) (nI a)) (fun r => Mk (L ++ seg t a b) r ∧ Ch [30, 31] [16] m r) := by
  intro k
  induction k with
  | zero =>
    intro a fu L m hk hf hL hT
    obtain ⟨g, rfl⟩ : ∃ g, fu = g + 1 := ⟨fu - 1, by omega⟩
    have hab : b ≤ a ∧ a ≤ 1000 := by omega
    rw [seg_nil hab.1, List.append_nil]
    exact Tr_jbt (nI_le hab.1 (by omega)) (Tr_some ⟨hL, Ch_refl⟩)
  | succ k ih =>
    intro a fu L m hk hf2 hL hT
    obtain ⟨g, rfl⟩ : ∃ g, fu = g + 1 := ⟨fu - 1, by omega⟩
    have hab : a + (k + 1) = b := by omega
    refine Tr_jbf (nI_ge (by omega) (by omega)) (Tr_jg (inb_of (by omega) (by decide)) ?_)
    rw [nI_clamp (by omega), hT.2 a (by omega)]
    refine Tr_jc (make_m hL) (fun r ⟨r1, r2⟩ => Tr_jn ?_)
    rw [nI_1]
    have hT' := Txt_ch hT r2 hf (by simp [hc16]) hc
    refine Tr_mono (ih (a + 1) g (L ++ [t.getD a 0]) r (by omega) (by omega) r1 hT') (fun s ⟨s1, s2⟩ => ⟨?_, Ch_trans r2 s2 (fun _ z => z) (fun _ z => z)⟩)
    rw [seg_cons (by omega) hb]
    rw [List.append_assoc] at s1
    exact s1
/-- the texts' answer, of both -/
theorem t_answer {n u h q : Nat} {cs0 cs : CS} {ms0 ms : GS} {L : TT} (I : CI n u h cs0 ms0 cs ms) (hM : Mk L ms) (hc : ∀ c ∈ L, c < 256) (hL : L.length < 2 ^ 31) : Sm 3 262 (f_wf_textOrTooLong (L, q)) (f_mo_answerText ms) (fun v m => XE n u h cs0 ms0 (v, cs) m) := by
  have hA : Ch [32, 33] [17] ms (uI (uI ms 0 32 2) 0 33 (ms.1 0 30)) := Ch_f (Ch_f Ch_refl (by decide)) (by decide)
  rcases hM with ⟨x, y, z⟩ | ⟨x, y, z⟩
  · refine Sm_Lc rfl (Sm_Lbt (nI_le (b := 255) x (by decide)) ?_)
    refine Sm_mono (c := 2 + 1) (s := (4 + 255) + 3) (TA_toS (x := (L, q)) (n := 255) x (TA_jde (c := 0) (s := 0) (show f_vl_ofText L = some ((2, 0, L), 1, 3) from rfl) ?_)) (by decide) (by decide) (fun _ _ w => w)
    refine TA_some (Nat.le_refl _) (Nat.le_refl _) ?_
    have htl : L.length ≤ 255 := x
    have hA' := Txt_ch z hA (by decide) (by decide) (by decide)
    refine Tr_jn (Tr_jn (ansT_loop htl L.length 0 FU _ (by omega) (FU_lt (by omega)) hA' (fun q hq => absurd hq (Nat.not_lt_zero q)) (fun M c1 c2 c3 => ?_)))
    have hall := Ch_trans hA (Ch_mono c1 (fun _ w => by cases w) (fun _ w => w)) (fun _ w => w) (fun _ w => w)
    have h31 : M.1 0 31 = 0 := (hall.1 31 (by decide)).trans y
    refine Tr_jbt h31 (Tr_some ?_)
    have I' := CI_ref I hall (by decide) (by decide) (by decide)
    refine XE_told I' ⟨?_, fun w => absurd (show (2 : Int32) = 0 from w) (by decide), fun _ => ⟨rfl, ⟨x, hc⟩, ?_, c3⟩, fun _ w => absurd rfl w⟩
    · exact (c1.1 32 (by decide)).trans rfl
    · rw [c1.1 33 (by decide)]
      exact (uI_at).trans z.1
  · refine Sm_Lc rfl (Sm_Lbf (nI_ge (a := 255) x hL) (Sm_Ld (show f_vl_ofError 3 = some ((4, FP.i2d 3, []), 1, 3) from rfl) ?_))
    refine TA_some (Nat.zero_le _) (Nat.zero_le _) ?_
    -- the reference copies what it has, whatever stands there
    have loop : ∀ (k i fu : Nat) (M : GS), i + k = 255 → k < fu → M.1 0 30 = nI 255 → M.1 0 31 = 1 → Tr (mo_answerText_15 fu M (nI i)) (fun r => ∃ M', Ch [] [17] M M' ∧ f_mo_fail M' 3 = some r) := by
      intro k
      induction k with
      | zero =>
        intro i fu M hi hf h30 h31
        obtain ⟨g, rfl⟩ : ∃ g, fu = g + 1 := ⟨fu - 1, by omega⟩
        refine Tr_jbt (by rw [h30]; exact nI_le (by omega) (by omega)) (Tr_jbf (by rw [h31]; decide) ?_)
        by_cases h22 : M.1 0 22 = 0
        · have e : f_mo_fail M 3 = some (uI M 0 22 3) := e_bt h22 rfl
          exact Tr_jce e (Tr_some ⟨M, Ch_refl, e⟩)
        · have e : f_mo_fail M 3 = some M := e_bf h22 rfl
          exact Tr_jce e (Tr_some ⟨M, Ch_refl, e⟩)
      | succ k ih =>
        intro i fu M hi hf h30 h31
        obtain ⟨g, rfl⟩ : ∃ g, fu = g + 1 := ⟨fu - 1, by omega⟩
        have hin : inb (nI i) 256 = true := inb_of (by omega) (by decide)
        refine Tr_jbf (by rw [h30]; exact nI_ge (by omega) (by omega)) (Tr_jg hin (Tr_jg hin (Tr_jn (Tr_jn ?_))))
        rw [nI_1]
        refine Tr_mono (ih (i + 1) g _ (by omega) (by omega) h30 h31) (fun r ⟨M', m1, m2⟩ => ⟨M', Ch_trans (Ch_c Ch_refl (by decide) (by decide)) m1 (fun _ w => w) (fun _ w => w), m2⟩)
    refine Tr_jn (Tr_jn (Tr_mono (loop 255 0 FU _ rfl (FU_lt (by decide)) z y) (fun r ⟨M', m1, m2⟩ => ?_)))
    have hall := Ch_trans hA (Ch_mono m1 (fun _ w => by cases w) (fun _ w => w)) (fun _ w => w) (fun _ w => w)
    have I' := CI_ref I hall (by decide) (by decide) (by decide)
    obtain ⟨m, em, x1, -⟩ := XE_err I' (e := 3) (by decide) (by decide)
    have : m = r := Option.some.inj (em.symm.trans m2)
    rw [← this]
    exact x1
theorem lesser_m {a b : Nat} (ha : a < 2 ^ 31) (hb : b < 2 ^ 31) : f_mo_lesser (nI a) (nI b) = some (nI (min a b)) := by
  by_cases h : b ≤ a
  · rw [Nat.min_eq_right h]
    exact e_bt (nI_le h ha) rfl
  · rw [Nat.min_eq_left (by omega)]
    exact e_bf (nI_ge (by omega) hb) rfl
theorem min_c {a b : Nat} (ha : a < 2 ^ 31) (hb : b < 2 ^ 31) : f_ma_min (nI a) (nI b) = some (nI (min a b)) := by
  by_cases h : b < a
  · rw [Nat.min_eq_right (by omega)]
    exact e_bt (nI_lt h ha) rfl
  · rw [Nat.min_eq_left (by omega)]
    exact e_bf (nI_nlt (by omega) hb) rfl
theorem sub_c {t : TT} {a b : Nat} (hab : a ≤ b) (hb : b ≤ t.length) (htl : t.length ≤ 255) : f_js_substring t (nI a) (nI b) = some (seg t a b, 2, 4 + (b - a)) := by
  refine e_g ?_ ?_
  · rw [nI_toInt (by omega), nI_toInt (by omega)]
    simp only [Bool.and_eq_true, decide_eq_true_eq]
    omega
  · rw [nI_clamp (by omega), nI_clamp (by omega)]
    rfl
