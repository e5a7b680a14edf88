/-! ### look-ups -/
def hq (t : TT) : Nat → Bool
  | 0 => false
  | i + 1 => hq t i || (decide (t.getD i 0 = 63) || decide (t.getD i 0 = 42))
theorem hq_iff {t : TT} : ∀ {n : Nat}, hq t n = true ↔ ∃ j, j < n ∧ (t.getD j 0 = 63 ∨ t.getD j 0 = 42)
  | 0 => ⟨fun z => (by cases z), fun ⟨j, h, _⟩ => absurd h (Nat.not_lt_zero j)⟩
  | n + 1 => by
    show (hq t n || _) = true ↔ _
    rw [Bool.or_eq_true, hq_iff (n := n), Bool.or_eq_true, decide_eq_true_eq, decide_eq_true_eq]
    refine ⟨fun z => ?_, fun ⟨j, h1, h2⟩ => ?_⟩
    · rcases z with ⟨j, h1, h2⟩ | h
      · exact ⟨j, by omega, h2⟩
      · exact ⟨n, by omega, h⟩
    · by_cases e : j = n
      · subst e; exact Or.inr h2
      · exact Or.inl ⟨j, by omega, h2⟩
theorem ix_sign {t : TT} (ht : okT t) (c : Nat) : (0 ≤ ixOf t c ∧ ∃ j, j < t.length ∧ t.getD j 0 = c) ∨ (ixOf t c < 0 ∧ ∀ j, j < t.length → ¬ t.getD j 0 = c) := by
  have htl := ht.1
  rcases first_at t c t.length (Nat.le_refl _) with ⟨p, p1, p2, p3⟩ | p1
  · refine Or.inl ⟨?_, p, p1, p2⟩
    rw [ix_hit p1 (mem_take (by omega) p3) p2]
    exact nI_pos' (by omega)
  · refine Or.inr ⟨?_, p1⟩
    rw [ix_miss (mem_take (Nat.le_refl _) p1)]
    decide
/-- what is wanted, as the reference keeps it -/
def WT (x : VV) (m : GS) : Prop := m.1 0 46 = x.1 ∧ m.2.1 0 47 = x.2.1 ∧ Txt 28 14 x.2.2 m ∧ m.1 0 48 = b01 (hq x.2.2 x.2.2.length)
theorem WT_ch {F C : List Nat} {x : VV} {a b : GS} (h : WT x a) (k : Ch F C a b) (h1 : 46 ∉ F) (h2 : 47 ∉ F) (h3 : 48 ∉ F) (h4 : 28 ∉ F) (h5 : 14 ∉ C) : WT x b := ⟨(k.1 46 h1).trans h.1, (k.2.2.1 47 h2).trans h.2.1, Txt_ch h.2.2.1 k h4 h5 (by decide), (k.1 48 h3).trans h.2.2.2⟩
theorem want60 {t : TT} (ht : okT t) : ∀ (m i fu : Nat) (M : GS), i + m = t.length → m < fu → Txt 28 14 t M → M.1 0 48 = b01 (hq t i) → Tr (mo_want_60 fu M (nI i)) (fun r => r.1 0 48 = b01 (hq t t.length) ∧ Ch [48] [] M r) := by
  have htl := ht.1
  intro m
  induction m with
  | zero =>
    intro i fu M hi hf hT h48
    obtain ⟨g, rfl⟩ : ∃ g, fu = g + 1 := ⟨fu - 1, by omega⟩
    obtain rfl : i = t.length := by omega
    exact Tr_jbt (by rw [hT.1]; exact Int32.le_refl _) (Tr_some ⟨h48, Ch_refl⟩)
  | succ m ih =>
    intro i fu M hi hf hT h48
    obtain ⟨g, rfl⟩ : ∃ g, fu = g + 1 := ⟨fu - 1, by omega⟩
    have hc := okT_at ht i
    have put : ∀ b : Bool, b = hq t (i + 1) → Tr (mo_want_103 (mo_want_60 g) M (nI i) (b01 b)) (fun r => r.1 0 48 = b01 (hq t t.length) ∧ Ch [48] [] M r) := fun b hb => by
      refine Tr_jg (isB_b01 b) (Tr_jn (Tr_jn ?_))
      rw [nI_1]
      have hch : Ch [48] [] M (uI M 0 48 (b01 b)) := Ch_f Ch_refl (by decide)
      exact Tr_mono (ih (i + 1) g _ (by omega) (by omega) (Txt_ch hT hch (by decide) (by decide) (by decide)) (by rw [uI_at, hb])) (fun r ⟨r1, r2⟩ => ⟨r1, Ch_trans hch r2 (fun _ z => z) (fun _ z => z)⟩)
    have hV : hq t (i + 1) = (hq t i || (decide (t.getD i 0 = 63) || decide (t.getD i 0 = 42))) := rfl
    rw [hV] at put
    have hin : inb (nI i) 256 = true := inb_of (by omega) (by decide)
    refine Tr_jbf (by rw [hT.1]; exact nI_ge (by omega) (by omega)) ?_
    rw [h48]
    cases e : hq t i with
    | true => rw [e] at put; exact Tr_jbf (by decide) (put true rfl)
    | false =>
      rw [e, Bool.false_or] at put
      refine Tr_jbt rfl (Tr_jg hin ?_)
      rw [nI_clamp (by omega), hT.2 i (by omega)]
      by_cases h1 : t.getD i 0 = 63
      · exact Tr_jbt (by rw [h1]; rfl) (put true (by rw [decide_eq_true h1]; rfl))
      · refine Tr_jbf (fun z => h1 ((nI_eq (b := 63) (by omega) (by decide)).mp z)) (Tr_jg hin ?_)
        by_cases h2 : t.getD i 0 = 42
        · exact Tr_jbt (by rw [h2]; rfl) (put true (by rw [decide_eq_true h2, Bool.or_true]))
        · exact Tr_jbf (fun z => h2 ((nI_eq (b := 42) (by omega) (by decide)).mp z)) (put false (by rw [decide_eq_false h1, decide_eq_false h2]; rfl))
theorem okV_t {v : VV} (h : okV v) : okT v.2.2 := by
  rcases h with rfl | ⟨x, rfl⟩ | ⟨t, rfl, ht⟩ | (rfl | rfl) | ⟨e, e1, e8, rfl⟩
  · exact okT_nil
  · exact okT_nil
  · exact ht
  · exact okT_nil
  · exact okT_nil
  · exact okT_nil
/-- what is sought: the class's value, and what the reference wants -/
theorem sought_ok {n u h : Nat} {cs0 cs : CS} {ms0 ms : GS} (I : CI n u h cs0 ms0 cs ms) (hn : 0 < n) : Sm 1 3 (f_lu_sought cs) (f_mo_want ms 0) (fun a m => CI n u h cs0 ms0 a.2 m ∧ (a.2.1 1 6 = 0 → cs.1 1 6 = 0) ∧ okV a.1 ∧ ¬ a.1.1 = 0 ∧ (a.2.1 1 6 = 0 → ¬ a.1.1 = 4) ∧ WT a.1 m ∧ Ch [20, 21, 22, 27, 28, 46, 47, 48] [13, 14] ms m) := by
  have hok := av_ok I.1 hn 0
  generalize hv : av cs 0 0 = v at hok
  have hnth := nth_c I.1 hn (k := 0) (by decide)
  rw [hv] at hnth
  have htx := okV_t hok
  obtain ⟨m1, em1, I1, T1, ch1⟩ := takeOf_m I hn
  rw [hv] at T1
  obtain ⟨m2, em2, B2, A2, ch2⟩ := toB_m htx T1.2.2
  have I2 := CI_ref I1 ch2 (by decide) (by decide) (by decide)
  have k20 : m2.1 0 20 = v.1 := (ch2.1 20 (by decide)).trans T1.1
  have k21 : m2.2.1 0 21 = v.2.1 := (ch2.2.2.1 21 (by decide)).trans T1.2.1
  -- behind the look at errors
  have rest : ∀ (ca : CS) (m3 : GS), CI n u h cs0 ms0 ca m3 → (ca.1 1 6 = 0 → cs.1 1 6 = 0) → (ca.1 1 6 = 0 → ¬ v.1 = 4) → Ch [22] [] m2 m3 → Sm 1 3 (lu_sought_30 ca v) (mo_want_26 m3) (fun a m => CI n u h cs0 ms0 a.2 m ∧ (a.2.1 1 6 = 0 → cs.1 1 6 = 0) ∧ okV a.1 ∧ ¬ a.1.1 = 0 ∧ (a.2.1 1 6 = 0 → ¬ a.1.1 = 4) ∧ WT a.1 m ∧ Ch [20, 21, 22, 27, 28, 46, 47, 48] [13, 14] ms m) := fun ca m3 I3 f3 f4 ch3 => by
    have B3 := Txt_ch B2 ch3 (by decide) (by decide) (by decide)
    have call : Ch [20, 21, 22, 27, 28, 46, 47, 48] [13, 14] ms m3 := Ch_trans (Ch_trans (Ch_mono ch1 (by decide) (by decide)) ch2 (by decide) (by decide)) ch3 (by decide) (by decide)
    have w42 : ∀ x : VV, x.2.1 = v.2.1 → x.2.2 = v.2.2 → Tr (mo_want_42 m3 x.1) (fun m => CI n u h cs0 ms0 ca m ∧ WT x m ∧ Ch [20, 21, 22, 27, 28, 46, 47, 48] [13, 14] ms m) := fun x hx1 hx2 => by
      refine Tr_jn (Tr_jn (Tr_jn ?_))
      have hch : Ch [46, 47, 48] [] m3 (uI (uD (uI m3 0 46 x.1) 0 47 (m3.2.1 0 21)) 0 48 0) := Ch_f (Ch_d (Ch_f Ch_refl (by decide)) (by decide)) (by decide)
      refine Tr_mono (want60 (t := v.2.2) htx v.2.2.length 0 FU _ (by omega) (FU_lt (by have := htx.1; omega)) (Txt_ch B3 hch (by decide) (by decide) (by decide)) uI_at) (fun m ⟨q1, q2⟩ => ?_)
      have hch2 := Ch_trans hch (Ch_mono q2 (G := [46, 47, 48]) (by decide) (fun _ z => z)) (fun _ z => z) (fun _ z => z)
      refine ⟨CI_ref I3 hch2 (by decide) (by decide) (by decide), ⟨?_, ?_, ?_, ?_⟩, Ch_trans call hch2 (by decide) (fun _ z => by cases z)⟩
      · rw [q2.1 46 (by decide)]; rfl
      · rw [q2.2.2.1 47 (by decide), hx1]
        show m3.2.1 0 21 = _
        rw [ch3.2.2.1 21 (by decide)]
        exact k21
      · rw [hx2]; exact Txt_ch B3 hch2 (by decide) (by decide) (by decide)
      · rw [hx2]; exact q1
    have k20' : m3.1 0 20 = v.1 := (ch3.1 20 (by decide)).trans k20
    by_cases h0 : v.1 = 0
    · have hv0 : v.2.1 = 0 ∧ v.2.2 = [] := by
        rcases hok with rfl | ⟨x, rfl⟩ | ⟨t, rfl, ht⟩ | (rfl | rfl) | ⟨e, e1, e8, rfl⟩
        · exact ⟨rfl, rfl⟩
        · exact absurd (show (1 : Int32) = 0 from h0) (by decide)
        · exact absurd (show (2 : Int32) = 0 from h0) (by decide)
        · exact absurd (show (3 : Int32) = 0 from h0) (by decide)
        · exact absurd (show (3 : Int32) = 0 from h0) (by decide)
        · exact absurd (show (4 : Int32) = 0 from h0) (by decide)
      obtain ⟨m, em, r1, r2, r3⟩ := w42 (1, 0, []) hv0.1.symm hv0.2.symm
      refine Sm_Lbt h0 (Sm_bt (k20'.trans h0) (Sm_Ld (show f_vl_ofNumber FP.dconst0 = some ((1, 0, []), 1, 3) from rfl) (TA_some (Nat.zero_le _) (Nat.zero_le _) ⟨m, em, r1, f3, Or.inr (Or.inl ⟨0, ?_⟩), (show ¬ (1 : Int32) = 0 by decide), fun _ => (show ¬ (1 : Int32) = 4 by decide), r2, r3⟩)))
      show (1, 0, []) = (1, FP.dmul (FP.i2d 0) d125, [])
      rw [show FP.dmul (FP.i2d 0) d125 = 0 by decide +kernel]
    · obtain ⟨m, em, r1, r2, r3⟩ := w42 v rfl rfl
      refine Sm_Lbf h0 (Sm_bf (fun z => h0 (k20'.symm.trans z)) ?_)
      rw [k20']
      exact TA_some (Nat.zero_le _) (Nat.zero_le _) ⟨m, em, r1, f3, hok, h0, f4, r2, r3⟩
  refine Sm_Lc hnth (Sm_c em1 (Sm_c em2 ?_))
  by_cases h4 : v.1 = 4
  · obtain ⟨e, e1, e8, ev⟩ : ∃ e : Nat, 1 ≤ e ∧ e ≤ 8 ∧ v = (4, FP.i2d (nI e), []) := by
      rcases hok with rfl | ⟨x, rfl⟩ | ⟨t, rfl, ht⟩ | (rfl | rfl) | ⟨e, e1, e8, rfl⟩
      · exact absurd (show (0 : Int32) = 4 from h4) (by decide)
      · exact absurd (show (1 : Int32) = 4 from h4) (by decide)
      · exact absurd (show (2 : Int32) = 4 from h4) (by decide)
      · exact absurd (show (3 : Int32) = 4 from h4) (by decide)
      · exact absurd (show (3 : Int32) = 4 from h4) (by decide)
      · exact ⟨e, e1, e8, rfl⟩
    have ed : FP.d2i v.2.1 = nI e := by rw [ev]; exact FP.Core.d2i_i2d _
    refine Sm_Lbt h4 (Sm_bt (k20.trans h4) ?_)
    rw [k21, ed]
    refine Sm_j0 (fail_ok (CI_self I2) e1 e8) (fun a m3 ⟨c1, c2, c3⟩ => ?_)
    obtain ⟨I3, f3⟩ := CI_two I2 c1
    exact rest a m3 I3 f3 (fun z => absurd z c2) c3
  · exact Sm_Lbf h4 (Sm_bf (fun z => h4 (k20.symm.trans z)) (rest cs m2 I2 (fun z => z) (fun _ => h4) Ch_refl))
/-! how two values stand -/
def tcmp (a b : TT) : Nat → Nat → Int32
  | 0, _ => nI a.length - nI b.length
  | m + 1, k => if grC (a.getD k 0) = grC (b.getD k 0) then tcmp a b m (k + 1) else nI (grC (a.getD k 0)) - nI (grC (b.getD k 0))
def ordI (v x : VV) : Int32 := if v.1 = 2 then tcmp v.2.2 x.2.2 (min v.2.2.length x.2.2.length) 0 else if 0 ≤ Op.cmpValue (FP.dcmp v.2.1 x.2.1) .g then (if Op.cmpValue (FP.dcmp v.2.1 x.2.1) .l ≤ 0 then 0 else 1) else -1
theorem sub_0 {a b : Nat} (ha : a < 2 ^ 30) (hb : b < 2 ^ 30) : (nI a - nI b = 0) ↔ a = b := by
  refine ⟨fun z => ?_, fun z => by rw [z, nI_sub (Nat.le_refl _), Nat.sub_self]; rfl⟩
  have h := congrArg Int32.toInt z
  rw [pk_sub_toInt ha hb] at h
  have h0 : (0 : Int32).toInt = 0 := by decide
  omega
theorem order_c {v x : VV} (hv : okT v.2.2) (hx : okT x.2.2) : f_lu_order v x = some (ordI v x) := by
  have hvl := hv.1
  have hxl := hx.1
  unfold ordI
  by_cases h2 : v.1 = 2
  · rw [if_pos h2]
    have hmin := min_c (a := v.2.2.length) (b := x.2.2.length) (by omega) (by omega)
    refine e_bt h2 (e_c rfl (e_c rfl (e_c hmin ?_)))
    have loop : ∀ (m k fu : Nat), k + m = min v.2.2.length x.2.2.length → m < fu → lu_order_62 fu v x (nI (min v.2.2.length x.2.2.length)) (nI k) = some (tcmp v.2.2 x.2.2 m k) := by
      intro m
      induction m with
      | zero =>
        intro k fu hk hf
        obtain ⟨g, rfl⟩ : ∃ g, fu = g + 1 := ⟨fu - 1, by omega⟩
        exact e_bt (nI_le (by omega) (by omega)) (e_c rfl (e_c rfl rfl))
      | succ m ih =>
        intro k fu hk hf
        obtain ⟨g, rfl⟩ : ∃ g, fu = g + 1 := ⟨fu - 1, by omega⟩
        have c1 := okT_at hv k
        have c2 := okT_at hx k
        have g1 := grC_lt c1
        have g2 := grC_lt c2
        refine e_bf (nI_ge (by omega) (by omega)) (e_c (charAt_ok (by omega) hvl) (e_c (great_c c1) (e_c (charAt_ok (by omega) hxl) (e_c (great_c c2) (e_n ?_)))))
        show _ = some (if grC (v.2.2.getD k 0) = grC (x.2.2.getD k 0) then _ else _)
        by_cases he : grC (v.2.2.getD k 0) = grC (x.2.2.getD k 0)
        · rw [if_pos he]
          refine e_bt ((sub_0 (by omega) (by omega)).mpr he) (e_n ?_)
          rw [nI_1]
          exact ih (k + 1) g (by omega) (by omega)
        · rw [if_neg he]
          exact e_bf (fun z => he ((sub_0 (by omega) (by omega)).mp z)) rfl
    exact loop _ 0 FU (Nat.zero_add _) (FU_lt (by omega))
  · rw [if_neg h2]
    refine e_bf h2 ?_
    by_cases h3 : 0 ≤ Op.cmpValue (FP.dcmp v.2.1 x.2.1) .g
    · rw [if_pos h3]
      refine e_bt h3 ?_
      by_cases h4 : Op.cmpValue (FP.dcmp v.2.1 x.2.1) .l ≤ 0
      · rw [if_pos h4]; exact e_bt h4 rfl
      · rw [if_neg h4]; exact e_bf h4 rfl
    · rw [if_neg h3]; exact e_bf h3 rfl
theorem lies_m {v x : VV} {m : GS} (hv : okT v.2.2) (hx : okT x.2.2) (hT : Taken v m) (hW : WT x m) : f_mo_lies m = some (ordI v x) := by
  have hvl := hv.1
  have hxl := hx.1
  obtain ⟨t1, t2, t3⟩ := hT
  obtain ⟨w1, w2, w3, w4⟩ := hW
  unfold ordI
  by_cases h2 : v.1 = 2
  · rw [if_pos h2]
    refine e_bt (t1.trans h2) ?_
    have loop : ∀ (r k fu : Nat), k + r = min v.2.2.length x.2.2.length → r < fu → mo_lies_44 fu m (nI k) = some (tcmp v.2.2 x.2.2 r k) := by
      intro r
      induction r with
      | zero =>
        intro k fu hk hf
        obtain ⟨g, rfl⟩ : ∃ g, fu = g + 1 := ⟨fu - 1, by omega⟩
        have e107 : mo_lies_107 m = some (nI v.2.2.length - nI x.2.2.length) := by
          unfold mo_lies_107
          rw [t3.1, w3.1]
        by_cases hk2 : v.2.2.length ≤ k
        · exact e_bt (by rw [t3.1]; exact nI_le hk2 (by omega)) e107
        · exact e_bf (by rw [t3.1]; exact nI_ge (by omega) (by omega)) (e_bt (by rw [w3.1]; exact nI_le (by omega) (by omega)) e107)
      | succ r ih =>
        intro k fu hk hf
        obtain ⟨g, rfl⟩ : ∃ g, fu = g + 1 := ⟨fu - 1, by omega⟩
        have c1 := okT_at hv k
        have c2 := okT_at hx k
        have g1 := grC_lt c1
        have g2 := grC_lt c2
        have hin : inb (nI k) 256 = true := inb_of (by omega) (by decide)
        have e1 : f_mo_great (m.1 13 (nI k).toNatClampNeg) = some (nI (grC (v.2.2.getD k 0))) := by rw [nI_clamp (by omega), t3.2 k (by omega)]; exact great_m c1
        have e2 : f_mo_great (m.1 14 (nI k).toNatClampNeg) = some (nI (grC (x.2.2.getD k 0))) := by rw [nI_clamp (by omega), w3.2 k (by omega)]; exact great_m c2
        refine e_bf (by rw [t3.1]; exact nI_ge (by omega) (by omega)) (e_bf (by rw [w3.1]; exact nI_ge (by omega) (by omega)) (e_g hin (e_c e1 (e_g hin (e_c e2 ?_)))))
        show _ = some (if grC (v.2.2.getD k 0) = grC (x.2.2.getD k 0) then _ else _)
        by_cases he : grC (v.2.2.getD k 0) = grC (x.2.2.getD k 0)
        · rw [if_pos he]
          refine e_bt (by rw [he]) (e_n ?_)
          rw [nI_1]
          exact ih (k + 1) g (by omega) (by omega)
        · rw [if_neg he]
          exact e_bf (fun z => he ((nI_eq (by omega) (by omega)).mp z)) (e_g hin (e_c e1 (e_g hin (e_c e2 rfl))))
    exact loop _ 0 FU (Nat.zero_add _) (FU_lt (by omega))
  · rw [if_neg h2]
    refine e_bf (fun z => h2 (t1.symm.trans z)) ?_
    rw [t2, w2]
    by_cases h3 : 0 ≤ Op.cmpValue (FP.dcmp v.2.1 x.2.1) .g
    · rw [if_pos h3]
      refine e_bt h3 ?_
      by_cases h4 : Op.cmpValue (FP.dcmp v.2.1 x.2.1) .l ≤ 0
      · rw [if_pos h4]; exact e_bt h4 rfl
      · rw [if_neg h4]; exact e_bf h4 rfl
    · rw [if_neg h3]; exact e_bf h3 rfl
/-- whether a value fits: how is 0 exactly, 1 not above, else not below -/
def fitB (how : Int32) (o : Int32) : Bool := if how = 0 then decide (o = 0) else if how = 1 then !decide (0 < o) else !decide (o < 0)
theorem fits_c (o how : Int32) : f_lu_fits o how = some (b01 (fitB how o)) := by
  unfold fitB
  by_cases h0 : how = 0
  · rw [if_pos h0]
    refine e_bt h0 ?_
    by_cases k : o = 0
    · rw [decide_eq_true k]; exact e_bt k rfl
    · rw [decide_eq_false k]; exact e_bf k rfl
  · rw [if_neg h0]
    refine e_bf h0 ?_
    by_cases h1 : how = 1
    · rw [if_pos h1]
      refine e_bt h1 ?_
      by_cases k : 0 < o
      · rw [decide_eq_true k]; exact e_bt k rfl
      · rw [decide_eq_false k]; exact e_bf k rfl
    · rw [if_neg h1]
      refine e_bf h1 ?_
      by_cases k : o < 0
      · rw [decide_eq_true k]; exact e_bt k rfl
      · rw [decide_eq_false k]; exact e_bf k rfl
def patB (how : Int32) (x : VV) : Bool := decide (how = 0) && hq x.2.2 x.2.2.length
def hit (how : Int32) (x v : VV) : Bool := decide (v.1 = x.1) && (if patB how x = true then mm true v.2.2 (sgA x.2.2 0) 0 else fitB how (ordI v x))
def fres (one : Bool) (f : Nat → Bool) : Nat → Nat → Option Nat → Option Nat
  | 0, _, b => b
  | m + 1, k, b => if f k = true then (if one = true then some k else fres one f m (k + 1) (some k)) else fres one f m (k + 1) b
def oI : Option Nat → Int32
  | none => -1
  | some k => nI k
theorem fres_lt {one : Bool} {f : Nat → Bool} : ∀ (m k : Nat) (b : Option Nat), (∀ j, b = some j → j < k) → ∀ j, fres one f m k b = some j → j < k + m
  | 0, k, b, hb, j, h => hb j h
  | m + 1, k, b, hb, j, h => by
    have h : (if f k = true then (if one = true then some k else fres one f m (k + 1) (some k)) else fres one f m (k + 1) b) = some j := h
    by_cases e : f k = true
    · rw [if_pos e] at h
      by_cases o : one = true
      · rw [if_pos o] at h
        injection h with h
        omega
      · rw [if_neg o] at h
        have := fres_lt m (k + 1) (some k) (fun j hj => by injection hj with hj; omega) j h
        omega
    · rw [if_neg e] at h
      have := fres_lt m (k + 1) b (fun j hj => by have := hb j hj; omega) j h
      omega
theorem oI_none {o : Option Nat} (h : ∀ j, o = some j → j < 2 ^ 31) : (oI o = -1) ↔ o = none := by
  cases o with
  | none => exact ⟨fun _ => rfl, fun _ => rfl⟩
  | some k =>
    refine ⟨fun z => ?_, fun z => by cases z⟩
    have z2 := congrArg Int32.toInt (show nI k = -1 from z)
    rw [nI_toInt (h k rfl)] at z2
    have h9 : (-1 : Int32).toInt = -1 := by decide
    omega
theorem oI_neg {o : Option Nat} (h : ∀ j, o = some j → j < 2 ^ 31) : (0 ≤ oI o) ↔ ¬ o = none := by
  cases o with
  | none => exact ⟨fun z => absurd z (by decide), fun z => absurd rfl z⟩
  | some k => exact ⟨fun _ z => (by cases z), fun _ => nI_pos' (h k rfl)⟩
section FND
variable {n u h : Nat} {cs0 cs : CS} {ms0 ms : GS} {i step many : Nat} {x : VV} {how : Int32}
theorem find66 (hA : Rargs n u h cs ms) (hi : i < n) (hx : okT x.2.2) (hst : ∀ k, k < many → k * step < 2 ^ 31) (hm : many ≤ 512) : ∀ (m k fu : Nat) (b : Option Nat) (c : CS), k + m = many → m < fu → Cp [7, 43, 44] cs c → (patB how x = true → SgC (sgA x.2.2 0) c) → Tr (lu_find_66 fu c x (nI i) (nI step) (nI many) how (b01 (patB how x)) (oI b) (nI k)) (fun r => r.1 = oI (fres (decide (how = 0)) (fun k => hit how x (av cs i (k * step))) m k b) ∧ Cp [7, 43, 44] cs r.2) := by
  intro m
  induction m with
  | zero =>
    intro k fu b c hk hf hc hp
    obtain ⟨g, rfl⟩ : ∃ g, fu = g + 1 := ⟨fu - 1, by omega⟩
    exact Tr_jbt (nI_le (by omega) (by omega)) (Tr_some ⟨rfl, hc⟩)
  | succ m ih =>
    intro k fu b c hk hf hc hp
    obtain ⟨g, rfl⟩ : ∃ g, fu = g + 1 := ⟨fu - 1, by omega⟩
    have hA' : Rargs n u h c ms := Rargs_ch (F := []) (C := []) hA (Cp_Cf hc (by decide)) Ch_refl (fun _ z => by cases z) (fun _ z => by cases z)
    have hn30 := hA.2.2.1
    have hav : av c i (k * step) = av cs i (k * step) := av_cf (Cp_Cf hc (by decide)) (by omega)
    have hok := av_ok hA hi (k * step)
    refine Tr_jbf (nI_ge (by omega) (by omega)) ?_
    rw [nI_mul]
    refine Tr_jce (nth_c hA' hi (hst k (by omega))) ?_
    rw [hav]
    generalize hv : av cs i (k * step) = v at hok
    have hvt := okV_t hok
    -- the end of a step
    have next : ∀ (c' : CS) (b' : Option Nat), Cp [7, 43, 44] cs c' → (patB how x = true → SgC (sgA x.2.2 0) c') → fres (decide (how = 0)) (fun k => hit how x (av cs i (k * step))) (m + 1) k b = fres (decide (how = 0)) (fun k => hit how x (av cs i (k * step))) m (k + 1) b' → Tr (lu_find_160 (lu_find_66 g) c' x (nI i) (nI step) (nI many) how (b01 (patB how x)) (oI b') (nI k)) (fun r => r.1 = oI (fres (decide (how = 0)) (fun k => hit how x (av cs i (k * step))) (m + 1) k b) ∧ Cp [7, 43, 44] cs r.2) := fun c' b' c1 c2 c3 => by
      refine Tr_jn ?_
      rw [nI_1, c3]
      exact ih (k + 1) g b' c' (by omega) (by omega) c1 c2
    have hF : fres (decide (how = 0)) (fun k => hit how x (av cs i (k * step))) (m + 1) k b = (if hit how x v = true then (if decide (how = 0) = true then some k else fres (decide (how = 0)) (fun k => hit how x (av cs i (k * step))) m (k + 1) (some k)) else fres (decide (how = 0)) (fun k => hit how x (av cs i (k * step))) m (k + 1) b) := by
      rw [← hv]; rfl
    have fin : ∀ (c' : CS), Cp [7, 43, 44] cs c' → (patB how x = true → SgC (sgA x.2.2 0) c') → ∀ z : Bool, z = hit how x v → Tr (lu_find_131 (lu_find_66 g) c' x (nI i) (nI step) (nI many) how (b01 (patB how x)) (oI b) (nI k) (b01 z)) (fun r => r.1 = oI (fres (decide (how = 0)) (fun k => hit how x (av cs i (k * step))) (m + 1) k b) ∧ Cp [7, 43, 44] cs r.2) := fun c' c1 c2 z hz => by
      rw [← hz] at hF
      cases z with
      | false =>
        rw [if_neg (by decide)] at hF
        exact Tr_jbt rfl (Tr_jbt rfl (next c' b c1 c2 hF))
      | true =>
        rw [if_pos rfl] at hF
        refine Tr_jbf (by decide) ?_
        by_cases h0 : how = 0
        · rw [if_pos (decide_eq_true h0)] at hF
          refine Tr_jbt h0 (Tr_some ⟨?_, c1⟩)
          rw [hF]; rfl
        · rw [if_neg (by rw [decide_eq_false h0]; decide)] at hF
          exact Tr_jbf h0 (Tr_jbf (by decide) (next c' (some k) c1 c2 hF))
    by_cases hk1 : v.1 = x.1
    · refine Tr_jbt hk1 ?_
      have hh : hit how x v = (if patB how x = true then mm true v.2.2 (sgA x.2.2 0) 0 else fitB how (ordI v x)) := by
        unfold hit
        rw [decide_eq_true hk1, Bool.true_and]
      cases hpb : patB how x with
      | false =>
        rw [hpb, if_neg (by decide)] at hh
        rw [hpb] at fin hp
        refine Tr_jbt rfl (Tr_jce (order_c hvt hx) (Tr_jce (fits_c _ _) (fin c hc hp _ hh.symm)))
      | true =>
        rw [hpb, if_pos rfl] at hh
        rw [hpb] at fin hp
        refine Tr_jbf (by decide) (Tr_jc (matches_c (w := true) hvt (Nat.le_trans (sgA_le x.2.2) hx.1) (sgA_bd hx x.2.2.length 0 (by omega)) (hp rfl)) (fun r ⟨r1, r2, _⟩ => ?_))
        rw [r1]
        exact fin r.2 (Cp_trans hc r2 (by decide)) (fun _ => SgC_cp (hp rfl) r2) _ hh.symm
    · refine Tr_jbf hk1 (next c b hc hp ?_)
      rw [hF, if_neg]
      unfold hit
      rw [decide_eq_false hk1, Bool.false_and]
      decide
theorem find_c (hA : Rargs n u h cs ms) (hi : i < n) (hx : okV x) (hst : ∀ k, k < many → k * step < 2 ^ 31) (hm : many ≤ 512) : Tr (f_lu_find cs x (nI i) (nI step) (nI many) how) (fun r => r.1 = oI (fres (decide (how = 0)) (fun k => hit how x (av cs i (k * step))) many 0 none) ∧ Cp [7, 43, 44] cs r.2) := by
  have hxt := okV_t hx
  have c41 : patB how x = false → Tr (lu_find_41 cs x (nI i) (nI step) (nI many) how) (fun r => r.1 = oI (fres (decide (how = 0)) (fun k => hit how x (av cs i (k * step))) many 0 none) ∧ Cp [7, 43, 44] cs r.2) := fun hp => by
    have := find66 (how := how) hA hi hxt hst hm many 0 FU none cs (by omega) (FU_lt (by omega)) Cp_refl (fun z => by rw [hp] at z; cases z)
    rw [hp] at this
    unfold lu_find_41 lu_find_42
    exact Tr_jbt rfl this
  have c37 : patB how x = true → Tr (lu_find_37 cs x (nI i) (nI step) (nI many) how) (fun r => r.1 = oI (fres (decide (how = 0)) (fun k => hit how x (av cs i (k * step))) many 0 none) ∧ Cp [7, 43, 44] cs r.2) := fun hp => by
    unfold lu_find_37 lu_find_42
    refine Tr_jbf (by decide) (Tr_jc (read_p hxt cs) (fun c ⟨c1, c2⟩ => ?_))
    have := find66 (how := how) hA hi hxt hst hm many 0 FU none c (by omega) (FU_lt (by omega)) ⟨c1.1, fun i hi => c1.2 i (fun z => hi (by revert z; simp; omega))⟩ (fun _ => c2)
    rw [hp] at this
    exact this
  by_cases h0 : how = 0
  · refine Tr_jbt h0 ?_
    have hp : patB how x = hq x.2.2 x.2.2.length := by unfold patB; rw [decide_eq_true h0, Bool.true_and]
    by_cases h2 : x.1 = 2
    · refine Tr_jbt h2 (Tr_jce (a := ixOf x.2.2 63) (e_g (by decide) rfl) ?_)
      rcases ix_sign hxt 63 with ⟨g1, j, j1, j2⟩ | ⟨g1, g2⟩
      · exact Tr_jbt g1 (c37 (by rw [hp]; exact hq_iff.mpr ⟨j, j1, Or.inl j2⟩))
      · refine Tr_jbf (fun z => Int32.not_lt.mpr z g1) (Tr_jce (a := ixOf x.2.2 42) (e_g (by decide) rfl) ?_)
        rcases ix_sign hxt 42 with ⟨k1, j, j1, j2⟩ | ⟨k1, k2⟩
        · exact Tr_jbf (fun z => Int32.not_lt.mpr k1 z) (c37 (by rw [hp]; exact hq_iff.mpr ⟨j, j1, Or.inr j2⟩))
        · refine Tr_jbt k1 (c41 ?_)
          rw [hp]
          refine Bool.eq_false_iff.mpr fun z => ?_
          obtain ⟨j, j1, j2⟩ := hq_iff.mp z
          exact j2.elim (g2 j j1) (k2 j j1)
    · refine Tr_jbf h2 (c41 ?_)
      have ht : x.2.2 = [] := by
        rcases hx with rfl | ⟨y, rfl⟩ | ⟨t, rfl, ht⟩ | (rfl | rfl) | ⟨e, e1, e8, rfl⟩
        · rfl
        · rfl
        · exact absurd rfl h2
        · rfl
        · rfl
        · rfl
      rw [hp, ht]
      rfl
  · exact Tr_jbf h0 (c41 (by unfold patB; rw [decide_eq_false h0, Bool.false_and]))
/-- the reference's way of finding -/
theorem find6 {way : Int32} (hway : (way = 0 ∧ how = 0) ∨ (0 < way ∧ how = 1) ∨ (way < 0 ∧ ¬ how = 0 ∧ ¬ how = 1)) (hi : i < n) (hx : okT x.2.2) (hst : ∀ k, k < many → k * step < one1 (aR cs i) * one1 (aC cs i)) (hm : many ≤ 512) : ∀ (m k fu : Nat) (b : Option Nat) (M : GS), k + m = many → m < fu → CI n u h cs0 ms0 cs M → WT x M → (∀ j, b = some j → j < 2 ^ 31) → (how = 0 → ∀ j, b = some j → fres true (fun k => hit how x (av cs i (k * step))) m k b = some j) ∨ True → Tr (mo_find_6 fu M (nI i) 0 (nI step) (nI many) way (oI b) (nI k)) (fun r => r.1 = oI (if how = 0 ∧ ¬ b = none then b else fres (decide (how = 0)) (fun k => hit how x (av cs i (k * step))) m k b) ∧ CI n u h cs0 ms0 cs r.2 ∧ Ch [20, 21, 27] [13, 18] M r.2) := by
  intro m
  induction m with
  | zero =>
    intro k fu b M hk hf I hW hb _
    obtain ⟨g, rfl⟩ : ∃ g, fu = g + 1 := ⟨fu - 1, by omega⟩
    refine Tr_jbt (nI_le (by omega) (by omega)) (Tr_some ⟨?_, I, Ch_refl⟩)
    split
    · rfl
    · rfl
  | succ m ih =>
    intro k fu b M hk hf I hW hb _
    obtain ⟨g, rfl⟩ : ∃ g, fu = g + 1 := ⟨fu - 1, by omega⟩
    have hn30 := I.1.2.2.1
    obtain ⟨g1, g2, g3, g4, g5, g6, g7, g8, g9, g10, g11, g12⟩ := geo I.1 hi
    have hok := av_ok I.1 hi (k * step)
    have hkm := hst k (by omega)
    have hxl := hx.1
    generalize hres : (if how = 0 ∧ ¬ b = none then b else fres (decide (how = 0)) (fun k => hit how x (av cs i (k * step))) (m + 1) k b) = res
    have hY : mo_find_6 (g + 1) M (nI i) 0 (nI step) (nI many) way (oI b) (nI k) = mo_find_41 (mo_find_6 g) M (nI i) 0 (nI step) (nI many) way (oI b) (nI k) (nI (ap cs i (k * step))) := by
      refine e_bf (nI_ge (by omega) (by omega)) (e_c (isOut_m I.1 hi) ?_)
      unfold ap
      by_cases h0 : aR cs i = 0
      · rw [if_pos h0, if_pos h0]
        exact e_bf (by decide) rfl
      · rw [if_neg h0, if_neg h0]
        refine e_bt rfl (e_g (inb_of (by omega) (by decide)) ?_)
        rw [nI_clamp (by omega), g6, nI_mul, Int32.add_zero, nI_add, Nat.mul_comm step k]
    rw [hY]
    refine Tr_jc (take_m I hi hkm) (fun M1 ⟨I1, T1, ch1⟩ => ?_)
    generalize hv : av cs i (k * step) = v at T1 hok
    have hvt := okV_t hok
    have hvl := hvt.1
    have W1 := WT_ch hW ch1 (by decide) (by decide) (by decide) (by decide) (by decide)
    have hF : fres (decide (how = 0)) (fun k => hit how x (av cs i (k * step))) (m + 1) k b = (if hit how x v = true then (if decide (how = 0) = true then some k else fres (decide (how = 0)) (fun k => hit how x (av cs i (k * step))) m (k + 1) (some k)) else fres (decide (how = 0)) (fun k => hit how x (av cs i (k * step))) m (k + 1) b) := by
      rw [← hv]; rfl
    have next : ∀ (M' : GS) (b' : Option Nat), Ch [20, 21, 27] [13, 18] M M' → CI n u h cs0 ms0 cs M' → WT x M' → (∀ j, b' = some j → j < 2 ^ 31) → (if how = 0 ∧ ¬ b' = none then b' else fres (decide (how = 0)) (fun k => hit how x (av cs i (k * step))) m (k + 1) b') = res → Tr (mo_find_163 (mo_find_6 g) M' (nI i) 0 (nI step) (nI many) way (oI b') (nI k)) (fun r => r.1 = oI res ∧ CI n u h cs0 ms0 cs r.2 ∧ Ch [20, 21, 27] [13, 18] M r.2) := fun M' b' c1 c2 c3 c4 c5 => by
      refine Tr_jn ?_
      rw [nI_1]
      refine Tr_mono (ih (k + 1) g b' M' (by omega) (by omega) c2 c3 c4 (Or.inr trivial)) (fun r ⟨r1, r2, r3⟩ => ⟨?_, r2, Ch_trans c1 r3 (fun _ z => z) (fun _ z => z)⟩)
      rw [r1, c5]
    have miss : hit how x v = false → (if how = 0 ∧ ¬ b = none then b else fres (decide (how = 0)) (fun k => hit how x (av cs i (k * step))) m (k + 1) b) = res := fun hh => by
      rw [hh, if_neg (show ¬ false = true by decide)] at hF
      rw [← hres, hF]
    have fin : ∀ (M' : GS), Ch [20, 21, 27] [13, 18] M M' → CI n u h cs0 ms0 cs M' → WT x M' → ∀ z : Bool, z = hit how x v → Tr (mo_find_142 (mo_find_6 g) M' (nI i) 0 (nI step) (nI many) way (oI b) (nI k) (b01 z)) (fun r => r.1 = oI res ∧ CI n u h cs0 ms0 cs r.2 ∧ Ch [20, 21, 27] [13, 18] M r.2) := fun M' c1 c2 c3 z hz => by
      cases z with
      | false => exact Tr_jbt rfl (next M' b c1 c2 c3 hb (miss hz.symm))
      | true =>
        refine Tr_jbf (by decide) ?_
        rw [← hz, if_pos rfl] at hF
        have take : (if how = 0 ∧ ¬ b = none then b else (if decide (how = 0) = true then some k else fres (decide (how = 0)) (fun k => hit how x (av cs i (k * step))) m (k + 1) (some k))) = res := by rw [← hF]; exact hres
        have e159 : ¬ (how = 0 ∧ ¬ b = none) → Tr (mo_find_159 (mo_find_6 g) M' (nI i) 0 (nI step) (nI many) way (nI k)) (fun r => r.1 = oI res ∧ CI n u h cs0 ms0 cs r.2 ∧ Ch [20, 21, 27] [13, 18] M r.2) := fun hc => by
          rw [if_neg hc] at take
          refine next M' (some k) c1 c2 c3 (fun j hj => by injection hj with hj; omega) ?_
          by_cases h0 : how = 0
          · rw [if_pos (decide_eq_true h0)] at take
            rw [if_pos ⟨h0, fun z => by cases z⟩]
            exact take
          · rw [if_neg (by rw [decide_eq_false h0]; decide)] at take
            rw [if_neg (fun z => h0 z.1)]
            exact take
        by_cases hw0 : way = 0
        · have h0 : how = 0 := by
            rcases hway with ⟨_, q⟩ | ⟨q, _⟩ | ⟨q, _⟩
            · exact q
            · rw [hw0] at q; exact absurd q (by decide)
            · rw [hw0] at q; exact absurd q (by decide)
          refine Tr_jbt hw0 ?_
          by_cases hbn : b = none
          · exact Tr_jbf (fun z => (oI_neg hb).mp z hbn) (e159 (fun z => z.2 hbn))
          · refine Tr_jbt ((oI_neg hb).mpr hbn) (next M' b c1 c2 c3 hb ?_)
            rw [if_pos ⟨h0, hbn⟩] at take ⊢
            exact take
        · refine Tr_jbf hw0 (e159 (fun z => hw0 ?_))
          rcases hway with ⟨q, _⟩ | ⟨_, q⟩ | ⟨_, q, _⟩
          · exact q
          · rw [q] at z; exact absurd z.1 (by decide)
          · exact absurd z.1 q
    by_cases hk1 : v.1 = x.1
    · have ch1' : Ch [20, 21, 27] [13, 18] M M1 := Ch_mono ch1 (by decide) (by decide)
      have hh : hit how x v = (if patB how x = true then mm true v.2.2 (sgA x.2.2 0) 0 else fitB how (ordI v x)) := by
        unfold hit
        rw [decide_eq_true hk1, Bool.true_and]
      refine Tr_jbt (T1.1.trans (hk1.trans W1.1.symm)) ?_
      have hl := lies_m hvt hx T1 W1
      have npat : ¬ how = 0 → hit how x v = fitB how (ordI v x) := fun h0 => by
        rw [hh, if_neg]
        unfold patB
        rw [decide_eq_false h0, Bool.false_and]
        decide
      rcases hway with ⟨w0, h0⟩ | ⟨w0, h1⟩ | ⟨w0, h0, h1⟩
      · refine Tr_jbt (by rw [w0]; decide) (Tr_jbt (by rw [w0]; decide) ?_)
        have hp : patB how x = hq x.2.2 x.2.2.length := by unfold patB; rw [decide_eq_true h0, Bool.true_and]
        rw [hp] at hh
        rw [W1.2.2.2]
        cases hqe : hq x.2.2 x.2.2.length with
        | false =>
          rw [hqe, if_neg (by decide)] at hh
          refine Tr_jbt rfl (Tr_jce hl ?_)
          unfold fitB at hh
          rw [if_pos h0] at hh
          by_cases ho : ordI v x = 0
          · rw [decide_eq_true ho] at hh
            exact Tr_jbt ho (fin M1 ch1' I1 W1 true hh.symm)
          · rw [decide_eq_false ho] at hh
            exact Tr_jbf ho (fin M1 ch1' I1 W1 false hh.symm)
        | true =>
          rw [hqe, if_pos rfl] at hh
          obtain ⟨⟨r, M2⟩, er, r1, r2⟩ := matches_m (w := true) (a := 0) (cf := 14) (cx := 13) hx hvt (Nat.zero_le _) ⟨by decide, by decide⟩ ⟨by decide, by decide⟩ W1.2.2.1.2 T1.2.2.2
          rw [← W1.2.2.1.1, ← T1.2.2.1] at er
          refine Tr_jbf (by decide) (Tr_jce er ?_)
          dsimp only at r1 r2 ⊢
          rw [r1]
          exact fin M2 (Ch_trans ch1' r2 (fun _ z => by cases z) (by decide)) (CI_ref I1 r2 (by decide) (by decide) (by decide)) (WT_ch W1 r2 (by decide) (by decide) (by decide) (by decide) (by decide)) _ hh.symm
      · have hh := npat (by rw [h1]; decide)
        unfold fitB at hh
        rw [if_neg (by rw [h1]; decide), if_pos h1] at hh
        refine Tr_jbf (Int32.not_le.mpr w0) (Tr_jce hl ?_)
        by_cases ho : 0 < ordI v x
        · rw [decide_eq_true ho] at hh
          exact Tr_jbt ho (fin M1 ch1' I1 W1 false hh.symm)
        · rw [decide_eq_false ho] at hh
          exact Tr_jbf ho (fin M1 ch1' I1 W1 true hh.symm)
      · have hh := npat h0
        unfold fitB at hh
        rw [if_neg h0, if_neg h1] at hh
        refine Tr_jbt (Int32.le_of_lt w0) (Tr_jbf (Int32.not_le.mpr w0) (Tr_jce hl ?_))
        by_cases ho : ordI v x < 0
        · rw [decide_eq_true ho] at hh
          exact Tr_jbt ho (fin M1 ch1' I1 W1 false hh.symm)
        · rw [decide_eq_false ho] at hh
          exact Tr_jbf ho (fin M1 ch1' I1 W1 true hh.symm)
    · refine Tr_jbf (fun z => hk1 (T1.1.symm.trans (z.trans W1.1))) (next M1 b (Ch_mono ch1 (by decide) (by decide)) I1 W1 hb (miss ?_))
      unfold hit
      rw [decide_eq_false hk1, Bool.false_and]
theorem find_m {way : Int32} (hway : (way = 0 ∧ how = 0) ∨ (0 < way ∧ how = 1) ∨ (way < 0 ∧ ¬ how = 0 ∧ ¬ how = 1)) (I : CI n u h cs0 ms0 cs ms) (hi : i < n) (hx : okT x.2.2) (hW : WT x ms) (hst : ∀ k, k < many → k * step < one1 (aR cs i) * one1 (aC cs i)) (hm : many ≤ 512) : Tr (f_mo_find ms (nI i) 0 (nI step) (nI many) way) (fun r => r.1 = oI (fres (decide (how = 0)) (fun k => hit how x (av cs i (k * step))) many 0 none) ∧ CI n u h cs0 ms0 cs r.2 ∧ Ch [20, 21, 27] [13, 18] ms r.2) := by
  refine Tr_mono (find6 (how := how) hway hi hx hst hm many 0 FU none ms (by omega) (FU_lt (by omega)) I hW (fun j hj => by cases hj) (Or.inr trivial)) (fun r ⟨r1, r2, r3⟩ => ⟨?_, r2, r3⟩)
  rw [r1, if_neg (fun z => z.2 rfl)]
end FND
