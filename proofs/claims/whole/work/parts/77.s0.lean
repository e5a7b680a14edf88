/-! ### TEXTJOIN -/
theorem textOf_c0 {cs : CS} {v : VV} (h1 : ¬ v.1 = 1) {a : TT × CS} {k n : Nat} (e : f_ar_textOf cs v = some (a, k, n)) : k = 0 ∧ n = 0 := by
  have out : ∀ {b : TT × CS}, some (b, 0, 0) = some (a, k, n) → k = 0 ∧ n = 0 := fun q => by
    injection q with q
    injection q with _ q
    injection q with q1 q2
    exact ⟨q1.symm, q2.symm⟩
  have e := jb_f h1 e
  by_cases h2 : v.1 = 2
  · exact out (jb_t h2 e)
  · have e := jb_f h2 e
    by_cases h3 : v.1 = 3
    · have e := jb_t h3 e
      by_cases h : (Op.cmpValue (FP.dcmp v.2.1 FP.dconst0) .l) = 0
      · exact out (jb_t h e)
      · exact out (jb_f h e)
    · have e := jb_f h3 e
      by_cases h4 : v.1 = 4
      · obtain ⟨q, -, e⟩ := jc_some (jb_t h4 e)
        exact out e
      · exact out (jb_f h4 e)
def nw (v : VV) : Nat := if v.1 = 1 then 1 else 0
/-- only a number's text costs -/
theorem textOf_w {n u h : Nat} {cs0 cs : CS} {ms0 ms : GS} {v : VV} (I : CI n u h cs0 ms0 cs ms) (hv : okV v) (hT : Taken v ms) : Sm (4 * nw v) (40 * nw v) (f_ar_textOf cs v) (f_mo_textTaken ms) (fun a m => CI n u h cs0 ms0 a.2 m ∧ okT a.1 ∧ Txt 27 13 a.1 m ∧ Ch [22, 27] [13] ms m) := by
  obtain ⟨a, k, s, e, hk, hs, hb⟩ := textOf_ok I hv hT
  unfold nw
  by_cases h : v.1 = 1
  · rw [if_pos h]; exact ⟨a, k, s, e, hk, hs, hb⟩
  · obtain ⟨k0, n0⟩ := textOf_c0 h e
    rw [if_neg h]; exact ⟨a, k, s, e, by omega, by omega, hb⟩
def aws (L t : TT) : TT := if 255 < L.length then L else L ++ t
def jsk (x2 : Int32) (t : TT) : Bool := !decide (x2 = 0) && decide (t.length = 0)
theorem aws_len {L t : TT} (hL : L.length ≤ 510) (ht : t.length ≤ 255) : (aws L t).length ≤ 510 := by
  unfold aws
  split
  · exact hL
  · rw [List.length_append]; omega
theorem Sh_aws {L S t : TT} (h : Sh L S) : Sh (aws L t) (S ++ t) := by
  unfold aws
  rcases h with rfl | ⟨h1, h2⟩
  · by_cases g : 255 < L.length
    · rw [if_pos g]
      exact Or.inr ⟨g, by rw [List.length_append]; omega⟩
    · rw [if_neg g]; exact Or.inl rfl
  · rw [if_pos h1]
    exact Or.inr ⟨h1, by rw [List.length_append]; omega⟩
theorem joinC {β : Type} {K32 : CS → TT → Int32 → Int32 → Int32 → BT → Option ((VV × CS) × Nat × Nat)} {K58 : CS → TT → Int32 → Int32 → Int32 → Int32 → Int32 → BT → Option ((VV × CS) × Nat × Nat)} {st : CS} {tb t L : TT} {x2 x4 x5 x6 x7 : Int32} {q C0 S0 : Nat} {Y : Option β} {Q : VV × CS → β → Prop} (htb : tb.length ≤ 255) (ht : t.length ≤ 255) (hL : L.length ≤ 510) (hq : 16 ≤ q) (hq2 : q ≤ 2 * 510 + 16)
    (k : ∀ (L' : TT) (q' : Nat), 16 ≤ q' → q' ≤ 2 * 510 + 16 → L' = (if jsk x2 t = true then L else aws (aws L (if x4 = 0 then tb else [])) t) → L'.length ≤ 510 → Sm (fc q' 510 + C0) (fs q' 510 + S0) (tx_join_121 K32 K58 st tb x2 (if jsk x2 t = true then x4 else 0) x5 x6 x7 (L', q')) Y Q) :
    Sm (fc q 510 + C0) (fs q 510 + S0) (jb (x2 = 0) (tx_join_97 K32 K58 st tb x2 x4 x5 x6 x7 t (L, q)) (jc (f_js_isEmpty t) (fun q11 => jb (q11 = 0) (tx_join_97 K32 K58 st tb x2 x4 x5 x6 x7 t (L, q)) (tx_join_121 K32 K58 st tb x2 x4 x5 x6 x7 (L, q))))) Y Q := by
  have app : jsk x2 t = false → Sm (fc q 510 + C0) (fs q 510 + S0) (tx_join_97 K32 K58 st tb x2 x4 x5 x6 x7 t (L, q)) Y Q := fun hj => by
    have nj : ¬ jsk x2 t = true := fun z => by rw [hj] at z; cases z
    simp only [if_neg nj] at k
    have go : ∀ z : TT, z.length ≤ 255 → z = (if x4 = 0 then tb else []) → Sm (fc q 510 + C0) (fs q 510 + S0) (tx_join_109 K32 K58 st tb x2 x5 x6 x7 t z (L, q)) Y Q := fun z hz he => by
      have inner : ∀ (L1 : TT) (q1 : Nat), 16 ≤ q1 → q1 ≤ 2 * 510 + 16 → L1 = aws L z → Sm (fc q1 510 + C0) (fs q1 510 + S0) (jd (f_tx_appendWhileShort (L1, q1) t) (fun q4 => tx_join_121 K32 K58 st tb x2 0 x5 x6 x7 q4)) Y Q := fun L1 q1 a1 a2 a3 => by
        have hl1 : L1.length ≤ 510 := by rw [a3]; exact aws_len hL hz
        have hend : ∀ L2 : TT, L2 = aws L1 t → L2 = aws (aws L (if x4 = 0 then tb else [])) t := fun L2 h2 => by
          rw [← he, ← a3]; exact h2
        refine Sm_aws a1 a2 (by decide) (by decide) ht (by omega) (fun hs q2 b1 b2 => ?_) (fun hs => ?_)
        · exact k (L1 ++ t) q2 b1 b2 (hend _ (by unfold aws; rw [if_neg (by omega)])) (by rw [List.length_append]; omega)
        · exact k L1 q1 a1 a2 (hend _ (by unfold aws; rw [if_pos hs])) hl1
      refine Sm_aws hq hq2 (by decide) (by decide) hz (by omega) (fun hs q1 a1 a2 => ?_) (fun hs => ?_)
      · exact inner (L ++ z) q1 a1 a2 (by unfold aws; rw [if_neg (by omega)])
      · exact inner L q hq hq2 (by unfold aws; rw [if_pos hs])
    by_cases h4 : x4 = 0
    · exact Sm_Lbt h4 (go tb htb (by rw [if_pos h4]))
    · exact Sm_Lbf h4 (go [] (Nat.zero_le _) (by rw [if_neg h4]))
  by_cases h2 : x2 = 0
  · exact Sm_Lbt h2 (app (by unfold jsk; rw [decide_eq_true h2]; rfl))
  · refine Sm_Lbf h2 (Sm_Lc rfl ?_)
    by_cases h0 : t.length = 0
    · rw [if_pos h0]
      have hj : jsk x2 t = true := by unfold jsk; rw [decide_eq_false h2, decide_eq_true h0]; rfl
      have := k L q hq hq2 (by rw [if_pos hj]) hL
      rw [if_pos hj] at this
      exact Sm_Lbf (by decide) this
    · rw [if_neg h0]
      exact Sm_Lbt rfl (app (by unfold jsk; rw [decide_eq_false h0, Bool.and_false]))
theorem makeOfW {c b : Nat} (hb : b ≤ 256) : ∀ (k a fu : Nat) (m : GS), a + k = b → k < fu → MkW m → Tr (mo_makeOf_3 fu m c (nI b) (nI a)) (fun r => MkW r ∧ Ch [30, 31] [16] m r) := by
  intro k
  induction k with
  | zero =>
    intro a fu m hk hf hL
    obtain ⟨g, rfl⟩ : ∃ g, fu = g + 1 := ⟨fu - 1, by omega⟩
    exact Tr_jbt (nI_le (by omega) (by omega)) (Tr_some ⟨hL, Ch_refl⟩)
  | succ k ih =>
    intro a fu m hk hf2 hL
    obtain ⟨g, rfl⟩ : ∃ g, fu = g + 1 := ⟨fu - 1, by omega⟩
    refine Tr_jbf (nI_ge (by omega) (by omega)) (Tr_jg (inb_of (by omega) (by decide)) (Tr_jc (makeW hL) (fun r ⟨r1, r2⟩ => Tr_jn ?_)))
    rw [nI_1]
    exact Tr_mono (ih (a + 1) g r (by omega) (by omega) r1) (fun s ⟨s1, s2⟩ => ⟨s1, Ch_trans r2 s2 (fun _ z => z) (fun _ z => z)⟩)
theorem makeAllW {t : TT} {f c : Nat} {m : GS} (hc : c ≠ 0) (hc16 : c ≠ 16) (hf : f ∉ [30, 31]) (htl : t.length ≤ 255) (hW : MkW m) (hT : Txt f c t m) : ∃ r, f_mo_makeOf m c 0 (m.1 0 f) = some r ∧ MkW r ∧ Ch [30, 31] [16] m r ∧ ∀ L, Mk L m → Mk (L ++ t) r := by
  obtain ⟨r, er, r1, r2⟩ := makeOfW (c := c) (b := t.length) (by omega) t.length 0 FU m (by omega) (FU_lt (by omega)) hW
  have e : f_mo_makeOf m c 0 (m.1 0 f) = some r := by rw [hT.1]; exact er
  refine ⟨r, e, r1, r2, fun L hL => ?_⟩
  obtain ⟨r', e', q1, -⟩ := makeAll_m hc hc16 hf htl hL hT
  have : r = r' := Option.some.inj (e.symm.trans e')
  rw [this]
  exact q1
theorem joinM {K19 : GS → Int32 → Int32 → Int32 → Option GS} {K30 : GS → Int32 → Int32 → Int32 → Int32 → Option GS} {m : GS} {x1 x2 x3 x4 : Int32} {t tb : TT} (hW : MkW m) (hT : Txt 27 13 t m) (hB : Txt 28 14 tb m) (ht : t.length ≤ 255) (htb : tb.length ≤ 255) : ∃ m'', (jb (x1 = 0) (mo_join_91 K19 K30 m x1 x2 x3 x4) (jb ((m.1 0 27) = 0) (mo_join_123 K19 K30 m x1 x2 x3 x4) (mo_join_91 K19 K30 m x1 x2 x3 x4))) = mo_join_123 K19 K30 m'' x1 (if jsk x1 t = true then x2 else 1) x3 x4 ∧ MkW m'' ∧ Ch [30, 31] [16] m m'' ∧ ∀ S, Mk S m → Mk (if jsk x1 t = true then S else S ++ ((if x2 = 0 then [] else tb) ++ t)) m'' := by
  have h108 : ∀ m1, MkW m1 → Txt 27 13 t m1 → ∃ m'', mo_join_108 K19 K30 m1 x1 x3 x4 = mo_join_123 K19 K30 m'' x1 1 x3 x4 ∧ MkW m'' ∧ Ch [30, 31] [16] m1 m'' ∧ ∀ S, Mk S m1 → Mk (S ++ t) m'' := fun m1 w1 t1 => by
    obtain ⟨r, e, r1, r2, r3⟩ := makeAllW (by decide) (by decide) (by decide) ht w1 t1
    exact ⟨r, e_c e rfl, r1, r2, r3⟩
  have h91 : ∃ m'', mo_join_91 K19 K30 m x1 x2 x3 x4 = mo_join_123 K19 K30 m'' x1 1 x3 x4 ∧ MkW m'' ∧ Ch [30, 31] [16] m m'' ∧ ∀ S, Mk S m → Mk (S ++ ((if x2 = 0 then [] else tb) ++ t)) m'' := by
    by_cases h2 : x2 = 0
    · obtain ⟨m'', e, a1, a2, a3⟩ := h108 m hW hT
      refine ⟨m'', e_bt h2 e, a1, a2, fun S hS => ?_⟩
      rw [if_pos h2]
      exact a3 S hS
    · obtain ⟨r, e, r1, r2, r3⟩ := makeAllW (by decide) (by decide) (by decide) htb hW hB
      obtain ⟨m'', e2, a1, a2, a3⟩ := h108 r r1 (Txt_ch hT r2 (by decide) (by decide) (by decide))
      refine ⟨m'', e_bf h2 (e_c e e2), a1, Ch_trans r2 a2 (fun _ z => z) (fun _ z => z), fun S hS => ?_⟩
      rw [if_neg h2, ← List.append_assoc]
      exact a3 _ (r3 S hS)
  obtain ⟨m'', e, a1, a2, a3⟩ := h91
  by_cases h1 : x1 = 0
  · have nj : ¬ jsk x1 t = true := by unfold jsk; rw [decide_eq_true h1, Bool.not_true, Bool.false_and]; decide
    rw [if_neg nj]
    exact ⟨m'', e_bt h1 e, a1, a2, fun S hS => by rw [if_neg nj]; exact a3 S hS⟩
  · by_cases h0 : t.length = 0
    · have hj : jsk x1 t = true := by unfold jsk; rw [decide_eq_false h1, decide_eq_true h0]; rfl
      rw [if_pos hj]
      exact ⟨m, e_bf h1 (e_bt (by rw [hT.1, h0]; rfl) rfl), hW, Ch_refl, fun S hS => by rw [if_pos hj]; exact hS⟩
    · have nj : ¬ jsk x1 t = true := by unfold jsk; rw [decide_eq_false h0, Bool.and_false]; decide
      rw [if_neg nj]
      exact ⟨m'', e_bf h1 (e_bf (by rw [hT.1]; exact nI_ne0 (by omega) (by omega)) e), a1, a2, fun S hS => by rw [if_neg nj]; exact a3 S hS⟩
theorem PH_mono {f : Nat → VV} {a : Nat} : ∀ {b : Nat}, a ≤ b → PH f a ≤ PH f b
  | 0, h => by rw [show a = 0 by omega]; exact Nat.le_refl _
  | b + 1, h => by
    by_cases e : a = b + 1
    · rw [e]; exact Nat.le_refl _
    · have := PH_mono (f := f) (a := a) (b := b) (by omega)
      show _ ≤ PH f b + _
      omega
theorem Sm_jjc {α β γ δ : Type} {C S c1 s1 : Nat} {Q : α → β → Prop} {o : Option (γ × Nat × Nat)} {f : γ → Option (α × Nat × Nat)} {o' : Option δ} {f' : δ → Option β} {P : γ → δ → Prop} (h : Sm c1 s1 o o' P) (hk : ∀ a b, P a b → Sm C S (f a) (f' b) Q) : Sm (c1 + C) (s1 + S) (jd o f) (jc o' f') Q :=
  TA_jd h (fun a ⟨b, e, hp⟩ => TA_mono (hk a b hp) (Nat.le_refl _) (Nat.le_refl _) (fun r hr => by subst e; exact hr))
/-- how far a join has come, on both sides -/
def JI (n u h : Nat) (cs0 : CS) (ms0 : GS) (tb : TT) (x2 y1 : Int32) (cb : CS) (m : GS) (L : TT) (q : Nat) (x4 y2 : Int32) (N : Nat) : Prop :=
  CI n u h cs0 ms0 cb m ∧ MkW m ∧ Txt 28 14 tb m ∧ 16 ≤ q ∧ q ≤ 2 * 510 + 16 ∧ L.length ≤ 510 ∧ (cb.1 1 6 = 0 → y1 = x2 ∧ ∃ fl S, x4 = b01 fl ∧ y2 = b01 (!fl) ∧ Sh L S ∧ Mk S m ∧ (∀ c ∈ S, c < 256) ∧ S.length ≤ N)
theorem JI_N {n u h : Nat} {cs0 : CS} {ms0 : GS} {tb : TT} {x2 y1 : Int32} {cb : CS} {m : GS} {L : TT} {q : Nat} {x4 y2 : Int32} {N M : Nat} (j : JI n u h cs0 ms0 tb x2 y1 cb m L q x4 y2 N) (hN : N ≤ M) : JI n u h cs0 ms0 tb x2 y1 cb m L q x4 y2 M := by
  obtain ⟨j1, j2, j3, j4, j5, j6, j7⟩ := j
  refine ⟨j1, j2, j3, j4, j5, j6, fun z => ?_⟩
  obtain ⟨a, fl, S, b1, b2, b3, b4, b5, b6⟩ := j7 z
  exact ⟨a, fl, S, b1, b2, b3, b4, b5, by omega⟩
section TJ
variable {n u h : Nat} {cs0 : CS} {ms0 : GS} {tb : TT} {x2 y1 : Int32}
theorem join30 {i F G : Nat} (hi : i < n) (hn : n ≤ 30) (htb : okT tb)
    (next : ∀ (cb : CS) (m : GS) (L : TT) (q : Nat) (x4 y2 : Int32) (w : Nat), JI n u h cs0 ms0 tb x2 y1 cb m L q x4 y2 (510 * (512 * (i + 1))) → PH (cs0.2 40) u ≤ w + PH (cs0.2 40) (aF cs0 i + aR cs0 i * aC cs0 i) → Sm (4 * w + (fc q 510 + 3)) (40 * w + (fs q 510 + 262)) (tx_join_32 F cb tb x2 x4 (nI (i + 1)) (L, q)) (mo_join_19 G m y1 y2 (nI (i + 1))) (XE n u h cs0 ms0)) :
    ∀ (r k fu gu : Nat) (cb : CS) (m : GS) (L : TT) (q : Nat) (x4 y2 : Int32) (w : Nat), k + r = one1 (aR cs0 i) * one1 (aC cs0 i) → r < fu → r < gu → JI n u h cs0 ms0 tb x2 y1 cb m L q x4 y2 (510 * (512 * i + k)) → PH (cs0.2 40) u ≤ w + PH (cs0.2 40) (aF cs0 i + min k (aR cs0 i * aC cs0 i)) → Sm (4 * w + (fc q 510 + 3)) (40 * w + (fs q 510 + 262)) (tx_join_58 (tx_join_32 F) fu cb tb x2 x4 (nI i) (nI (one1 (aR cs0 i) * one1 (aC cs0 i))) (nI k) (L, q)) (mo_join_30 (mo_join_19 G) gu m y1 y2 (nI i) (nI k)) (XE n u h cs0 ms0) := by
  intro r
  induction r with
  | zero =>
    intro k fu gu cb m L q x4 y2 w hk hf hg J hw
    obtain ⟨f, rfl⟩ : ∃ f, fu = f + 1 := ⟨fu - 1, by omega⟩
    obtain ⟨g, rfl⟩ : ∃ g, gu = g + 1 := ⟨gu - 1, by omega⟩
    have I := J.1
    obtain ⟨ea, ec, ef⟩ := aR_cf I.2.2.1 (i := i) (by omega)
    obtain ⟨g1, g2, g3, g4, g5, g6, g7, g8, g9, g10, g11, g12⟩ := geo I.1 hi
    rw [ea, ec, ef] at g10
    rw [ea, ec] at g9
    have hmany : one1 (aR cs0 i) * one1 (aC cs0 i) ≤ 512 := by
      rcases one1_mul _ _ g9 with ⟨a1, a2⟩ | ⟨a1, a2⟩ <;> omega
    have hmin : min k (aR cs0 i * aC cs0 i) = aR cs0 i * aC cs0 i := by
      rcases one1_mul _ _ g9 with ⟨a1, a2⟩ | ⟨a1, a2⟩
      · rw [a1, Nat.zero_mul]; omega
      · omega
    rw [hmin] at hw
    refine Sm_Lbt (nI_le (by omega) (by omega)) (Sm_Ln (Sm_c (rows_m I.1 hi) (Sm_c (cols_m I.1 hi) ?_)))
    rw [ea, ec, nI_mul, nI_1]
    exact Sm_bt (nI_le (by omega) (by omega)) (Sm_n (next cb m L q x4 y2 w (JI_N J (by omega)) hw))
  | succ r ih =>
    intro k fu gu cb m L q x4 y2 w hk hf hg J hw
    obtain ⟨f, rfl⟩ : ∃ f, fu = f + 1 := ⟨fu - 1, by omega⟩
    obtain ⟨g, rfl⟩ : ∃ g, gu = g + 1 := ⟨gu - 1, by omega⟩
    obtain ⟨I, j2, j3, j4, j5, j6, j7⟩ := J
    obtain ⟨ea, ec, ef⟩ := aR_cf I.2.2.1 (i := i) (by omega)
    obtain ⟨g1, g2, g3, g4, g5, g6, g7, g8, g9, g10, g11, g12⟩ := geo I.1 hi
    have hin : inb (nI i) 30 = true := inb_of (by omega) (by decide)
    have ecl : (nI i).toNatClampNeg = i := nI_clamp (by omega)
    have hav : av cb i k = av cs0 i k := av_cf I.2.2.1 (by omega)
    have hok := av_ok I.1 hi k
    have hkm : k < one1 (aR cb i) * one1 (aC cb i) := by rw [ea, ec]; omega
    have hmany : one1 (aR cs0 i) * one1 (aC cs0 i) ≤ 512 := by
      rcases one1_mul _ _ g9 with ⟨a1, a2⟩ | ⟨a1, a2⟩
      · rw [← ea, ← ec]; omega
      · rw [← ea, ← ec]; omega
    -- the weight of this value
    have hg10 : aF cs0 i + aR cs0 i * aC cs0 i ≤ u := by rw [← ea, ← ec, ← ef]; exact g10
    obtain ⟨w', hw1, hw2⟩ : ∃ w', w = w' + nw (av cb i k) ∧ PH (cs0.2 40) u ≤ w' + PH (cs0.2 40) (aF cs0 i + min (k + 1) (aR cs0 i * aC cs0 i)) := by
      unfold nw
      by_cases h1 : (av cb i k).1 = 1
      · rw [if_pos h1]
        rw [hav] at h1
        unfold av at h1
        by_cases hin2 : k < aR cs0 i * aC cs0 i
        · rw [if_pos hin2] at h1
          rw [Nat.min_eq_left (by omega)] at hw
          rw [Nat.min_eq_left (by omega)]
          have e1 : PH (cs0.2 40) (aF cs0 i + (k + 1)) = PH (cs0.2 40) (aF cs0 i + k) + 1 := by
            show PH (cs0.2 40) (aF cs0 i + k) + (if (cs0.2 40 (aF cs0 i + k)).1 = 1 then 1 else 0) = _
            rw [if_pos h1]
          have e2 := PH_mono (f := cs0.2 40) (show aF cs0 i + (k + 1) ≤ u by omega)
          exact ⟨w - 1, by omega, by omega⟩
        · rw [if_neg hin2] at h1
          exact absurd (show (0 : Int32) = 1 from h1) (by decide)
      · rw [if_neg h1]
        have e2 := PH_mono (f := cs0.2 40) (show aF cs0 i + min k (aR cs0 i * aC cs0 i) ≤ aF cs0 i + min (k + 1) (aR cs0 i * aC cs0 i) by omega)
        exact ⟨w, by omega, by omega⟩
    subst hw1
    -- the reference comes to its value
    have hY : mo_join_30 (mo_join_19 G) (g + 1) m y1 y2 (nI i) (nI k) = mo_join_70 (mo_join_19 G) (mo_join_30 (mo_join_19 G) g) m y1 y2 (nI i) (nI k) (nI (ap cb i k)) := by
      refine e_c (rows_m I.1 hi) (e_c (cols_m I.1 hi) ?_)
      rw [ea, ec, nI_mul]
      refine e_bf (nI_ge (by omega) (by omega)) (e_c (isOut_m I.1 hi) ?_)
      unfold ap
      by_cases h0 : aR cb i = 0
      · rw [if_pos h0, if_pos h0]
        exact e_bf (by decide) rfl
      · rw [if_neg h0, if_neg h0]
        refine e_bt rfl (e_g hin ?_)
        rw [ecl, g6, nI_add]
    rw [hY]
    refine Sm_Lbf (nI_ge (by omega) (by omega)) (Sm_Lc (nth_c I.1 hi (by omega)) (Sm_cT (take_m I hi hkm) (fun m1 ⟨I1, T1, ch1⟩ => ?_)))
    have key := textOf_w (CI_self I1) hok T1
    refine Sm_mono (c := 4 * nw (av cb i k) + (4 * w' + (fc q 510 + 3))) (s := 40 * nw (av cb i k) + (40 * w' + (fs q 510 + 262))) (Sm_jjc key (fun a m2 ⟨b1, b2, b3, b4⟩ => ?_)) (by omega) (by omega) (fun _ _ z => z)
    obtain ⟨I2, f2⟩ := CI_two I1 b1
    obtain ⟨t, cb2⟩ := a
    dsimp only at *
    have hB2 := Txt_ch (Txt_ch j3 ch1 (by decide) (by decide) (by decide)) b4 (by decide) (by decide) (by decide)
    have hW2 : MkW m2 := by
      obtain ⟨k0, k1, k2⟩ := j2
      exact ⟨k0, k1, (b4.1 30 (by decide)).trans ((ch1.1 30 (by decide)).trans k2)⟩
    obtain ⟨m3, eY, w3, ch3, s3⟩ := joinM (K19 := mo_join_19 G) (K30 := mo_join_30 (mo_join_19 G) g) (x1 := y1) (x2 := y2) (x3 := nI i) (x4 := nI k) hW2 b3 hB2 b2.1 htb.1
    have I3 := CI_ref I2 ch3 (by decide) (by decide) (by decide)
    have hB3 := Txt_ch hB2 ch3 (by decide) (by decide) (by decide)
    refine Sm_R eY ?_
    refine Sm_mono (c := fc q 510 + (4 * w' + 3)) (s := fs q 510 + (40 * w' + 262)) (joinC htb.1 b2.1 j6 j4 j5 (fun L' q' c1 c2 c3 c4 => ?_)) (by omega) (by omega) (fun _ _ z => z)
    refine Sm_Ln (Sm_n ?_)
    rw [nI_1]
    refine Sm_mono (ih (k + 1) f g cb2 m3 L' q' (if jsk x2 t = true then x4 else 0) (if jsk y1 t = true then y2 else 1) w' (by omega) (by omega) (by omega) ⟨I3, w3, hB3, c1, c2, c4, fun z => ?_⟩ hw2) (by omega) (by omega) (fun _ _ z => z)
    obtain ⟨y12, fl, S, d1, d2, d3, d4, d5, d6⟩ := j7 (f2 z)
    subst y12
    refine ⟨rfl, ?_⟩
    have hM2 := Mk_ch (Mk_ch d4 ch1 (by decide) (by decide) (by decide)) b4 (by decide) (by decide) (by decide)
    have hM3 := s3 S hM2
    by_cases hj : jsk y1 t = true
    · rw [if_pos hj] at hM3 c3 ⊢
      rw [if_pos hj]
      exact ⟨fl, S, d1, d2, by rw [c3]; exact d3, hM3, d5, by omega⟩
    · rw [if_neg hj] at hM3 c3 ⊢
      rw [if_neg hj]
      have hz : (if x4 = 0 then tb else []) = (if y2 = 0 then [] else tb) := by
        rw [d1, d2]
        cases fl <;> rfl
      rw [hz] at c3
      refine ⟨false, _, rfl, rfl, ?_, hM3, ?_, ?_⟩
      · rw [c3, ← List.append_assoc]
        exact Sh_aws (Sh_aws d3)
      · refine okT_app d5 (okT_app ?_ b2.2)
        split
        · exact fun c hc => by cases hc
        · exact htb.2
      · have h1 := b2.1
        have h2 := htb.1
        have h3 : (if y2 = 0 then [] else tb : TT).length ≤ 255 := by
          split
          · exact Nat.zero_le _
          · exact h2
        rw [List.length_append, List.length_append]
        omega
theorem join19 (hn : n ≤ 30) (htb : okT tb) (hD : ∀ i j, i < j → j < n → aF cs0 i + aR cs0 i * aC cs0 i ≤ aF cs0 j) : ∀ (r i F G : Nat) (cb : CS) (m : GS) (L : TT) (q : Nat) (x4 y2 : Int32) (w : Nat), i + r = n → r < F → r < G → JI n u h cs0 ms0 tb x2 y1 cb m L q x4 y2 (510 * (512 * i)) → (i < n → PH (cs0.2 40) u ≤ w + PH (cs0.2 40) (aF cs0 i)) → Sm (4 * w + (fc q 510 + 3)) (40 * w + (fs q 510 + 262)) (tx_join_32 F cb tb x2 x4 (nI i) (L, q)) (mo_join_19 G m y1 y2 (nI i)) (XE n u h cs0 ms0) := by
  intro r
  induction r with
  | zero =>
    intro i F G cb m L q x4 y2 w hi hF hG J hw
    obtain ⟨f, rfl⟩ : ∃ f, F = f + 1 := ⟨F - 1, by omega⟩
    obtain ⟨g, rfl⟩ : ∃ g, G = g + 1 := ⟨G - 1, by omega⟩
    obtain rfl : i = n := by omega
    obtain ⟨I, j2, j3, j4, j5, j6, j7⟩ := J
    refine Sm_Lbt (by rw [I.1.1]; exact Int32.le_refl _) (Sm_bt (by rw [I.1.2.1]; exact Int32.le_refl _) ?_)
    refine TA_mono (tv_end (C := 3) (S := 262) (by omega) (by decide) (by decide)) (by omega) (by omega) (fun a ha => ?_)
    subst ha
    by_cases hz : cb.1 1 6 = 0
    · obtain ⟨y12, fl, S, d1, d2, d3, d4, d5, d6⟩ := j7 hz
      rw [Sh_tv d3]
      exact Tr_jc (tv_m I d4 d5 (by omega)) (fun m hm => Tr_some hm)
    · exact Tr_jc (answerW j2 (fun z => hz ((FR_0 I).mpr z))) (fun m hm => Tr_some (XE_fault (CI_ref I hm (by decide) (by decide) (by decide)) hz))
  | succ r ih =>
    intro i F G cb m L q x4 y2 w hi hF hG J hw
    obtain ⟨f, rfl⟩ : ∃ f, F = f + 1 := ⟨F - 1, by omega⟩
    obtain ⟨g, rfl⟩ : ∃ g, G = g + 1 := ⟨G - 1, by omega⟩
    have I := J.1
    have hin : i < n := by omega
    obtain ⟨ea, ec, ef⟩ := aR_cf I.2.2.1 (i := i) (by omega)
    obtain ⟨g1, g2, g3, g4, g5, g6, g7, g8, g9, g10, g11, g12⟩ := geo I.1 hin
    rw [ea, ec] at g9
    rw [ea, ec, ef] at g10
    have hmany : one1 (aR cs0 i) * one1 (aC cs0 i) ≤ 512 := by
      rcases one1_mul _ _ g9 with ⟨a1, a2⟩ | ⟨a1, a2⟩ <;> omega
    have hmc := many_c I.1 hin
    rw [ea, ec] at hmc
    refine Sm_Lbf (by rw [I.1.1]; exact nI_ge hin (by omega)) (Sm_bf (by rw [I.1.2.1]; exact nI_ge hin (by omega)) (Sm_Lc hmc ?_))
    refine join30 (F := f) (G := g) hin hn htb (fun cb' m' L' q' x4' y2' w' J' hw' => ?_) _ 0 FU FU cb m L q x4 y2 w (Nat.zero_add _) (FU_lt (by omega)) (FU_lt (by omega)) J (by rw [Nat.zero_min, Nat.add_zero]; exact hw hin)
    refine ih (i + 1) f g cb' m' L' q' x4' y2' w' (by omega) (by omega) (by omega) J' (fun hi1 => ?_)
    have := PH_mono (f := cs0.2 40) (hD i (i + 1) (by omega) hi1)
    omega
end TJ
theorem x_join {n u h : Nat} {cs0 cs : CS} {ms0 ms : GS} (I : CI n u h cs0 ms0 cs ms) (hn : 1 < n) (hM : Mk [] ms) (hD : ∀ i j, i < j → j < n → aF cs0 i + aR cs0 i * aC cs0 i ≤ aF cs0 j) : Sm (900 + 4 * PH (cs0.2 40) u) (13000 + 40 * PH (cs0.2 40) u) (f_tx_join cs) (f_mo_join ms) (XE n u h cs0 ms0) := by
  have hn30 := I.1.2.2.1
  refine Sm_mono (c := 4 + (2 + (4 * PH (cs0.2 40) u + (62 + 3)))) (s := 40 + (20 + (40 * PH (cs0.2 40) u + (2008 + 262)))) ?_ (by omega) (by omega) (fun _ _ z => z)
  obtain ⟨⟨tb, ca⟩, k1, s1, e1, l1, l2, m2, em2, b1, b0, b2, c1, c2, c3⟩ := read_b I (i := 0) (by omega)
  dsimp only at *
  obtain ⟨⟨x2, cb⟩, e2, ⟨y1, m3⟩, em3, d1, d0, d2, d3, d4, d5⟩ := k_truth b1 (i := 1) (by omega)
  dsimp only at *
  have hB := Txt_ch c1 d5 (by decide) (by decide) (by decide)
  have hM3 := Mk_ch (Mk_ch hM c3 (by decide) (by decide) (by decide)) d5 (by decide) (by decide) (by decide)
  have hY : f_mo_join ms = mo_join_19 FU m3 y1 0 (nI 2) := by
    obtain ⟨q, eq1, eq2⟩ := jc_some em2
    exact e_c eq1 (e_c eq2 (e_c em3 rfl))
  rw [hY]
  refine Sm_mono (c := k1 + (2 + (4 * PH (cs0.2 40) u + (62 + 3)))) (s := s1 + (20 + (40 * PH (cs0.2 40) u + (2008 + 262)))) (TA_jde e1 (TA_jce e2 (TA_ja ?_))) (by omega) (by omega) (fun _ _ z => z)
  refine join19 hn30 b2 hD (n - 2) 2 FU FU cb m3 [] 16 1 0 (PH (cs0.2 40) u) (by omega) (FU_lt (by omega)) (FU_lt (by omega)) ⟨d1, Mk_W hM3, hB, by decide, by decide, by decide, fun z => ⟨d4 z, true, [], rfl, rfl, Or.inl rfl, hM3, fun c hc => (by cases hc), Nat.zero_le _⟩⟩ (fun _ => Nat.le_add_right _ _)
