theorem tv_end {L : TT} {q C S : Nat} {st : CS} (hL : L.length < 2 ^ 31) (hC : 3 ≤ C) (hS : 262 ≤ S) : TA C S (jd (f_wf_textOrTooLong (L, q)) (fun q1 => some ((q1, st), 0, 0))) (fun r => r = (tv L, st)) :=
  TA_mono (TA_jd (c := 0) (s := 0) (Q := fun r => r = (tv L, st)) (tv_c (q := q) hL) (fun v hv => TA_some (Nat.le_refl _) (Nat.le_refl _) (by rw [hv]))) (by omega) (by omega) (fun _ z => z)
theorem iB_low {w : Int32} (hw : iB w) (hw0 : ¬ w < 0) : ∃ k : Nat, k ≤ 1000000000 ∧ w = nI k := by
  obtain ⟨k, hk, rfl⟩ := nI_of hw0
  have := hw.2
  rw [nI_toInt hk] at this
  exact ⟨k, by omega, rfl⟩
theorem iB_one {w : Int32} (hw : iB w) (hw0 : ¬ w < 1) : ∃ k : Nat, 1 ≤ k ∧ k ≤ 1000000000 ∧ w = nI k := by
  obtain ⟨k, h1, hk, rfl⟩ := i_one hw0
  have := hw.2
  rw [nI_toInt hk] at this
  exact ⟨k, h1, by omega, rfl⟩
theorem tv_le {L : TT} (h : L.length ≤ 255) : tv L = (2, 0, L) := by
  unfold tv
  rw [if_pos h]
theorem seg_ans {n u h : Nat} {cs0 cs : CS} {ms0 my : GS} {t : TT} (d1 : CI n u h cs0 ms0 cs my) (hM : Mk [] my) (hB : Txt 28 14 t my) (ht : okT t) {a b : Nat} (hab : a ≤ b) (hb : b ≤ t.length) : Tr (jc (f_mo_makeOf my 14 (nI a) (nI b)) (fun q3 => jc (f_mo_answerText q3) (fun q4 => some q4))) (fun m => XE n u h cs0 ms0 ((2, 0, seg t a b), cs) m) := by
  have htl := ht.1
  refine Tr_jc (makeOf_m (f := 28) (c := 14) (by decide) (by decide) (by decide) htl hb (b - a) a FU [] my (Or.inl (by omega)) (FU_lt (by omega)) hM hB) (fun r ⟨r1, r2⟩ => ?_)
  have := tv_m (CI_ref d1 r2 (by decide) (by decide) (by decide)) r1 (fun c hc => ht.2 c (seg_mem hc)) (by rw [List.nil_append, seg_len hb]; omega)
  rw [List.nil_append, tv_le (by rw [seg_len hb]; omega)] at this
  exact Tr_jc this (fun m hm => Tr_some hm)
theorem CI_self {n u h : Nat} {cs0 cs : CS} {ms0 ms : GS} (I : CI n u h cs0 ms0 cs ms) : CI n u h cs ms cs ms := ⟨I.1, I.2.1, Cf_refl, Ch_refl, I.2.2.2.2⟩
theorem CI_two {n u h : Nat} {cs0 cs a : CS} {ms0 ms m : GS} (I : CI n u h cs0 ms0 cs ms) (J : CI n u h cs ms a m) : CI n u h cs0 ms0 a m ∧ (a.1 1 6 = 0 → cs.1 1 6 = 0) := ⟨⟨J.1, J.2.1, Cf_trans I.2.2.1 J.2.2.1, Ch_trans I.2.2.2.1 J.2.2.2.1 (fun _ z => z) (fun _ z => z), I.2.2.2.2⟩, J.2.2.1.2.2⟩
section KK
variable {n u h i : Nat} {cs0 cs : CS} {ms0 ms : GS}
theorem k_text (I : CI n u h cs0 ms0 cs ms) (hi : i < n) : Sm 4 40 (f_ar_text cs (nI i)) (f_mo_textOf ms (nI i)) (fun a m => CI n u h cs0 ms0 a.2 m ∧ (a.2.1 1 6 = 0 → cs.1 1 6 = 0) ∧ okT a.1 ∧ Txt 27 13 a.1 m ∧ Ch [20, 21, 22, 27] [13] ms m) :=
  Sm_mono (t_text (CI_self I) hi) (Nat.le_refl _) (Nat.le_refl _) (fun _ _ ⟨b1, b2⟩ => ⟨(CI_two I b1).1, (CI_two I b1).2, b2⟩)
/-- a text read, and copied into b -/
theorem read_b (I : CI n u h cs0 ms0 cs ms) (hi : i < n) : Sm 4 40 (f_ar_text cs (nI i)) (jc (f_mo_textOf ms (nI i)) (fun q => f_mo_toB q)) (fun a m => CI n u h cs0 ms0 a.2 m ∧ (a.2.1 1 6 = 0 → cs.1 1 6 = 0) ∧ okT a.1 ∧ Txt 28 14 a.1 m ∧ Txt 27 13 a.1 m ∧ Ch [20, 21, 22, 27, 28] [13, 14] ms m) := by
  refine TA_mono (k_text I hi) (Nat.le_refl _) (Nat.le_refl _) (fun a ⟨m, em, b1, b0, b2, b3, b4⟩ => ?_)
  refine Tr_jce em (Tr_mono (toB_m b2 b3) (fun m2 ⟨c1, c2, c3⟩ => ⟨CI_ref b1 c3 (by decide) (by decide) (by decide), b0, b2, c1, c2, Ch_trans (Ch_mono b4 (by decide) (by decide)) c3 (by decide) (by decide)⟩))
theorem read_c (I : CI n u h cs0 ms0 cs ms) (hi : i < n) : Sm 4 40 (f_ar_text cs (nI i)) (jc (f_mo_textOf ms (nI i)) (fun q => f_mo_toC q)) (fun a m => CI n u h cs0 ms0 a.2 m ∧ (a.2.1 1 6 = 0 → cs.1 1 6 = 0) ∧ okT a.1 ∧ Txt 29 15 a.1 m ∧ Txt 27 13 a.1 m ∧ Ch [20, 21, 22, 27, 29] [13, 15] ms m) := by
  refine TA_mono (k_text I hi) (Nat.le_refl _) (Nat.le_refl _) (fun a ⟨m, em, b1, b0, b2, b3, b4⟩ => ?_)
  refine Tr_jce em (Tr_mono (toC_m b2 b3) (fun m2 ⟨c1, c2, c3⟩ => ⟨CI_ref b1 c3 (by decide) (by decide) (by decide), b0, b2, c1, c2, Ch_trans (Ch_mono b4 (by decide) (by decide)) c3 (by decide) (by decide)⟩))
theorem k_whole (I : CI n u h cs0 ms0 cs ms) (hi : i < n) : Tr (f_ar_whole cs (nI i)) (fun a => Tr (f_mo_whole1 ms (nI i)) (fun b => CI n u h cs0 ms0 a.2 b.2 ∧ (a.2.1 1 6 = 0 → cs.1 1 6 = 0) ∧ iB a.1 ∧ iB b.1 ∧ (a.2.1 1 6 = 0 → b.1 = a.1) ∧ Ch [20, 21, 22, 27] [13] ms b.2)) :=
  Tr_mono (t_whole (CI_self I) hi) (fun _ ha => Tr_mono ha (fun _ ⟨b1, b2⟩ => ⟨(CI_two I b1).1, (CI_two I b1).2, b2⟩))
theorem k_wholeOr (I : CI n u h cs0 ms0 cs ms) (h31 : i < 30) (p1 : Int32) (hp : iB p1) : Tr (f_ar_wholeOr cs (nI i) p1) (fun a => Tr (f_mo_whole2 ms (nI i) p1) (fun b => CI n u h cs0 ms0 a.2 b.2 ∧ (a.2.1 1 6 = 0 → cs.1 1 6 = 0) ∧ iB a.1 ∧ iB b.1 ∧ (a.2.1 1 6 = 0 → b.1 = a.1) ∧ Ch [20, 21, 22, 27] [13] ms b.2)) :=
  Tr_mono (t_wholeOr (CI_self I) h31 p1 hp) (fun _ ha => Tr_mono ha (fun _ ⟨b1, b2⟩ => ⟨(CI_two I b1).1, (CI_two I b1).2, b2⟩))
theorem k_truth (I : CI n u h cs0 ms0 cs ms) (hi : i < n) : Tr (f_ar_truth cs (nI i)) (fun a => Tr (f_mo_truth1 ms (nI i)) (fun b => CI n u h cs0 ms0 a.2 b.2 ∧ (a.2.1 1 6 = 0 → cs.1 1 6 = 0) ∧ (a.1 = 0 ∨ a.1 = 1) ∧ (b.1 = 0 ∨ b.1 = 1) ∧ (a.2.1 1 6 = 0 → b.1 = a.1) ∧ Ch [20, 21, 22, 27] [13] ms b.2)) :=
  Tr_mono (t_truth (CI_self I) hi) (fun _ ha => Tr_mono ha (fun _ ⟨b1, b2⟩ => ⟨(CI_two I b1).1, (CI_two I b1).2, b2⟩))
theorem k_truthOr (I : CI n u h cs0 ms0 cs ms) (h31 : i < 30) (p1 : Int32) (hp : p1 = 0 ∨ p1 = 1) : Tr (f_ar_truthOr cs (nI i) p1) (fun a => Tr (f_mo_truth2 ms (nI i) p1) (fun b => CI n u h cs0 ms0 a.2 b.2 ∧ (a.2.1 1 6 = 0 → cs.1 1 6 = 0) ∧ (a.1 = 0 ∨ a.1 = 1) ∧ (b.1 = 0 ∨ b.1 = 1) ∧ (a.2.1 1 6 = 0 → b.1 = a.1) ∧ Ch [20, 21, 22, 27] [13] ms b.2)) :=
  Tr_mono (t_truthOr (CI_self I) h31 p1 hp) (fun _ ha => Tr_mono ha (fun _ ⟨b1, b2⟩ => ⟨(CI_two I b1).1, (CI_two I b1).2, b2⟩))
theorem k_day (I : CI n u h cs0 ms0 cs ms) (hi : i < n) : Tr (f_ar_day cs (nI i)) (fun r => Tr (f_mo_dayOf ms (nI i)) (fun b => CI n u h cs0 ms0 r.2 b.2 ∧ (r.2.1 1 6 = 0 → cs.1 1 6 = 0) ∧ (∃ d : Nat, d ≤ 2958465 ∧ r.1 = nI d ∧ (r.2.1 1 6 = 0 → b.1 = nI d)) ∧ (∃ d : Nat, d ≤ 2958465 ∧ b.1 = nI d) ∧ Ch [20, 21, 22, 27] [13] ms b.2)) :=
  Tr_mono (t_day (CI_self I) hi) (fun _ ha => Tr_mono ha (fun _ ⟨b1, b2⟩ => ⟨(CI_two I b1).1, (CI_two I b1).2, b2⟩))
end KK
/-- a step of both, of which the reference's is two -/
theorem Sm_jj2 {α β γ δ ε : Type} {C S : Nat} {Q : α → β → Prop} {c1 s1 : Nat} {o : Option (γ × Nat × Nat)} {f : γ → Option (α × Nat × Nat)} {o' : Option ε} {o2 : ε → Option δ} {f' : δ → Option β} {P : γ → δ → Prop} (h : Sm c1 s1 o (jc o' o2) P) (hk : ∀ a b, P a b → Sm (C - c1) (S - s1) (f a) (f' b) Q) (hc : c1 ≤ C := by decide) (hs : s1 ≤ S := by decide) : Sm C S (jd o f) (jc o' (fun q => jc (o2 q) f')) Q := by
  have e : jc o' (fun q => jc (o2 q) f') = jc (jc o' o2) f' := by
    cases o' <;> rfl
  rw [e]
  exact Sm_jj h hk hc hs
/-- MID -/
theorem x_middle {n u h : Nat} {cs0 cs : CS} {ms0 ms : GS} (I : CI n u h cs0 ms0 cs ms) (hn : 2 < n) (hM : Mk [] ms) : Sm 900 13000 (f_tx_middle cs) (f_mo_middle ms) (XE n u h cs0 ms0) := by
  refine Sm_jj2 (read_b I (i := 0) (by omega)) (fun ⟨t, ca⟩ m2 ⟨b1, b0, b2, c1, c2, c3⟩ => ?_)
  have hM2 := Mk_ch hM c3 (by decide) (by decide) (by decide)
  refine Sm_j0 (k_whole b1 (i := 1) (by omega)) (fun ⟨s, cs1⟩ ⟨s', m3⟩ ⟨d1, d0, d2, d3, d4, d5⟩ => ?_)
  refine Sm_j0 (k_whole d1 (i := 2) (by omega)) (fun ⟨k, cs2⟩ ⟨k', m4⟩ ⟨e1, e0, e2, e3, e4, e5⟩ => ?_)
  dsimp only at *
  have hB := Txt_ch (Txt_ch c1 d5 (by decide) (by decide) (by decide)) e5 (by decide) (by decide) (by decide)
  have hM3 := Mk_ch (Mk_ch hM2 d5 (by decide) (by decide) (by decide)) e5 (by decide) (by decide) (by decide)
  have htl := b2.1
  have Y0 : ¬ m4.1 0 22 = 0 → Tr (jb (s' < 1) (mo_middle_30 m4 s' k') (jb (0 ≤ k') (mo_middle_35 m4 s' k') (mo_middle_30 m4 s' k'))) (fun m => Ch SF0 SC m4 m) := fun he => by
    have R : Tr (mo_middle_35 m4 s' k') (fun m => Ch SF0 SC m4 m) := Tr_jbf he (Tr_some Ch_refl)
    have R2 : Tr (mo_middle_30 m4 s' k') (fun m => Ch SF0 SC m4 m) := Tr_jce (fail_skip he) R
    exact Tr_jb (fun _ => R2) (fun _ => Tr_jb (fun _ => R) (fun _ => R2))
  have E0 : Tr (mo_middle_30 m4 s' k') (fun m => XE n u h cs0 ms0 (er 3, cs2) m) := Tr_jc (XE_err e1 (e := 3) (by decide) (by decide)) (fun m ⟨m1, m2, m3⟩ => Tr_jbf m3 (Tr_some m1))
  by_cases hs : s < 1
  · refine Sm_fin e1 (V := er 3) (TA_jbt hs (TA_vl rfl)) Y0 (fun hf he => ?_)
    have hs' : s' < 1 := by rw [d4 (e0 hf)]; exact hs
    exact Tr_jbt hs' E0
  by_cases hk : k < 0
  · refine Sm_fin e1 (V := er 3) (TA_jbf hs (TA_jbf (Int32.not_le.mpr hk) (TA_vl rfl))) Y0 (fun hf he => ?_)
    have hs' : ¬ s' < 1 := by rw [d4 (e0 hf)]; exact hs
    have hk' : ¬ 0 ≤ k' := by rw [e4 hf]; exact Int32.not_le.mpr hk
    exact Tr_jbf hs' (Tr_jbf hk' E0)
  obtain ⟨a, a1, a2, rfl⟩ := iB_one d2 hs
  obtain ⟨b, b5, rfl⟩ := iB_low e2 hk
  have e1s : nI a - 1 = nI (a - 1) := nI_pre (by omega)
  refine Sm_fin e1 (V := (2, 0, seg t (min (a - 1) t.length) (min (a - 1) t.length + min b (t.length - min (a - 1) t.length)))) ?_ Y0 (fun hf he => ?_)
  · refine TA_jbf hs (TA_jbt (Int32.not_lt.mp hk) (TA_jce rfl (TA_jce (by rw [e1s]; exact min_c (by omega) (by omega)) (TA_jce rfl ?_))))
    rw [nI_sub (Nat.min_le_right _ _)]
    refine TA_jce (min_c (by omega) (by omega)) ?_
    rw [nI_add]
    exact TA_mono (TA_jde (c := 800) (s := 11000) (sub_c (by omega) (by omega) htl) (TA_vl rfl)) (by decide) (by omega) (fun _ z => z)
  · rw [d4 (e0 hf), e4 hf]
    refine Tr_jbf hs (Tr_jbt (Int32.not_lt.mp hk) (Tr_jbt he ?_))
    rw [e1s, hB.1]
    refine Tr_jce (lesser_m (by omega) (by omega)) ?_
    rw [nI_sub (Nat.min_le_right _ _)]
    refine Tr_jce (lesser_m (by omega) (by omega)) ?_
    rw [nI_add]
    exact seg_ans e1 hM3 hB b2 (by omega) (by omega)
/-- whether a text stands in another at a place -/
def isP (part text : TT) (at_ : Nat) : Prop := at_ + part.length ≤ text.length ∧ ∀ k, k < part.length → text.getD (at_ + k) 0 = part.getD k 0
theorem stands_m {part text : TT} {fx cx ff cf at_ : Nat} {m : GS} (hp : okT part) (ht : okT text) (hX : Txt fx cx text m) (hF : Txt ff cf part m) (ha : at_ ≤ 600) : (isP part text at_ → f_mo_stands m cx (nI text.length) cf (nI part.length) (nI at_) = some 1) ∧ (¬ isP part text at_ → f_mo_stands m cx (nI text.length) cf (nI part.length) (nI at_) = some 0) := by
  have hpl := hp.1
  have htl := ht.1
  have off : ∀ (g k : Nat), mo_stands_19 (g + 1) m cx cf (nI part.length) (nI at_) 0 (nI k) = some 0 := fun g k => by
    by_cases h : nI part.length ≤ nI k
    · exact e_bt h (e_g rfl rfl)
    · exact e_bf h (e_bt rfl (e_g rfl rfl))
  have loop : at_ + part.length ≤ text.length → ∀ (r k fu : Nat), k + r = part.length → r + 1 < fu → ((∀ j, k ≤ j → j < part.length → text.getD (at_ + j) 0 = part.getD j 0) → mo_stands_19 fu m cx cf (nI part.length) (nI at_) 1 (nI k) = some 1) ∧ ((∃ j, k ≤ j ∧ j < part.length ∧ ¬ text.getD (at_ + j) 0 = part.getD j 0) → mo_stands_19 fu m cx cf (nI part.length) (nI at_) 1 (nI k) = some 0) := by
    intro hle r
    induction r with
    | zero =>
      intro k fu hk hf
      obtain ⟨g, rfl⟩ : ∃ g, fu = g + 1 := ⟨fu - 1, by omega⟩
      exact ⟨fun _ => e_bt (nI_le (by omega) (by omega)) (e_g rfl rfl), fun ⟨j, h1, h2, _⟩ => by omega⟩
    | succ r ih =>
      intro k fu hk hf
      obtain ⟨g, rfl⟩ : ∃ g, fu = g + 1 := ⟨fu - 1, by omega⟩
      have step : ∀ res, (text.getD (at_ + k) 0 = part.getD k 0 → mo_stands_19 g m cx cf (nI part.length) (nI at_) 1 (nI (k + 1)) = res) → (¬ text.getD (at_ + k) 0 = part.getD k 0 → (some 0 : Option Int32) = res) → mo_stands_19 (g + 1) m cx cf (nI part.length) (nI at_) 1 (nI k) = res := fun res h1 h2 => by
        refine e_bf (nI_ge (by omega) (by omega)) (e_bf (by decide) (e_g (by rw [nI_add]; exact inb_of (by omega) (by decide)) (e_g (inb_of (by omega) (by decide)) ?_)))
        rw [nI_add, nI_clamp (by omega), nI_clamp (by omega), hX.2 _ (by omega), hF.2 _ (by omega)]
        have c1 := okT_at ht (at_ + k)
        have c2 := okT_at hp k
        by_cases e : text.getD (at_ + k) 0 = part.getD k 0
        · refine e_bt (by rw [e]) (e_n ?_)
          rw [nI_1]
          exact h1 e
        · refine e_bf (fun z => e ((nI_eq (by omega) (by omega)).mp z)) (e_n ?_)
          rw [nI_1]
          obtain ⟨g', rfl⟩ : ∃ g', g = g' + 1 := ⟨g - 1, by omega⟩
          exact (off g' (k + 1)).trans (h2 e)
      obtain ⟨i1, i2⟩ := ih (k + 1) g (by omega) (by omega)
      refine ⟨fun h => step _ (fun _ => i1 (fun j h1 h2 => h j (by omega) h2)) (fun e => absurd (h k (Nat.le_refl _) (by omega)) e), fun ⟨j, h1, h2, h3⟩ => step _ (fun e => i2 ⟨j, ?_, h2, h3⟩) (fun _ => rfl)⟩
      have : ¬ j = k := fun z => h3 (by rw [z]; exact e)
      omega
  have top : f_mo_stands m cx (nI text.length) cf (nI part.length) (nI at_) = if at_ + part.length ≤ text.length then mo_stands_19 FU m cx cf (nI part.length) (nI at_) 1 (nI 0) else some 0 := by
    by_cases hle : at_ + part.length ≤ text.length
    · rw [if_pos hle]
      exact e_bf (by rw [nI_add]; exact nI_nlt hle (by omega)) rfl
    · rw [if_neg hle]
      exact e_bt (by rw [nI_add]; exact nI_lt (by omega) (by omega)) (off 19999999 0)
  rw [top]
  by_cases hle : at_ + part.length ≤ text.length
  · rw [if_pos hle]
    obtain ⟨l1, l2⟩ := loop hle part.length 0 FU (by omega) (FU_lt (by omega))
    refine ⟨fun h => l1 (fun j _ h2 => h.2 j h2), fun h => l2 (Classical.byContradiction fun q => h ⟨hle, fun k hk => Classical.byContradiction fun e => q ⟨k, Nat.zero_le _, hk, e⟩⟩)⟩
  · rw [if_neg hle]
    exact ⟨fun h => absurd h.1 hle, fun _ => rfl⟩
theorem isAt_c {part text : TT} {at_ : Nat} (hp : okT part) (ht : okT text) (ha : at_ < 2 ^ 30) : (isP part text at_ → f_tx_isAt part text (nI at_) = some 1) ∧ (¬ isP part text at_ → f_tx_isAt part text (nI at_) = some 0) := by
  have hpl := hp.1
  have htl := ht.1
  have loop : at_ + part.length ≤ text.length → ∀ (r k fu : Nat), k + r = part.length → r < fu → ((∀ j, k ≤ j → j < part.length → text.getD (at_ + j) 0 = part.getD j 0) → tx_isAt_21 fu part text (nI at_) (nI k) = some 1) ∧ ((∃ j, k ≤ j ∧ j < part.length ∧ ¬ text.getD (at_ + j) 0 = part.getD j 0) → tx_isAt_21 fu part text (nI at_) (nI k) = some 0) := by
    intro hle r
    induction r with
    | zero =>
      intro k fu hk hf
      obtain ⟨g, rfl⟩ : ∃ g, fu = g + 1 := ⟨fu - 1, by omega⟩
      exact ⟨fun _ => e_c rfl (e_bt (nI_le (by omega) (by omega)) rfl), fun ⟨j, h1, h2, _⟩ => by omega⟩
    | succ r ih =>
      intro k fu hk hf
      obtain ⟨g, rfl⟩ : ∃ g, fu = g + 1 := ⟨fu - 1, by omega⟩
      have c1 := okT_at ht (at_ + k)
      have c2 := okT_at hp k
      have step : ∀ res, (text.getD (at_ + k) 0 = part.getD k 0 → tx_isAt_21 g part text (nI at_) (nI (k + 1)) = res) → (¬ text.getD (at_ + k) 0 = part.getD k 0 → (some 0 : Option Int32) = res) → tx_isAt_21 (g + 1) part text (nI at_) (nI k) = res := fun res h1 h2 => by
        refine e_c rfl (e_bf (nI_ge (by omega) (by omega)) (e_c (by rw [nI_add]; exact charAt_ok (by omega) htl) (e_c (charAt_ok (by omega) hpl) ?_)))
        by_cases e : text.getD (at_ + k) 0 = part.getD k 0
        · refine e_bt (by rw [e]) (e_n ?_)
          rw [nI_1]
          exact h1 e
        · exact e_bf (fun z => e ((nI_eq (by omega) (by omega)).mp z)) (h2 e)
      obtain ⟨i1, i2⟩ := ih (k + 1) g (by omega) (by omega)
      refine ⟨fun h => step _ (fun _ => i1 (fun j h1 h2 => h j (by omega) h2)) (fun e => absurd (h k (Nat.le_refl _) (by omega)) e), fun ⟨j, h1, h2, h3⟩ => step _ (fun e => i2 ⟨j, ?_, h2, h3⟩) (fun _ => rfl)⟩
      have : ¬ j = k := fun z => h3 (by rw [z]; exact e)
      omega
  have hsub : ∀ a b : Nat, a ≤ 255 → b ≤ 255 → (nI a - nI b).toInt = (a : Int) - (b : Int) := fun a b h1 h2 => pk_sub_toInt (by omega) (by omega)
  have hcmp : (nI at_ ≤ nI text.length - nI part.length) ↔ at_ + part.length ≤ text.length := by
    rw [Int32.le_iff_toInt_le, hsub _ _ htl hpl, nI_toInt (by omega)]
    omega
  by_cases hle : at_ + part.length ≤ text.length
  · obtain ⟨l1, l2⟩ := loop hle part.length 0 FU (by omega) (FU_lt (by omega))
    have top : f_tx_isAt part text (nI at_) = tx_isAt_21 FU part text (nI at_) (nI 0) := e_bf (nI_pos (by omega)) (e_c rfl (e_c rfl (e_bt (hcmp.mpr hle) rfl)))
    rw [top]
    exact ⟨fun h => l1 (fun j _ h2 => h.2 j h2), fun h => l2 (Classical.byContradiction fun q => h ⟨hle, fun k hk => Classical.byContradiction fun e => q ⟨k, Nat.zero_le _, hk, e⟩⟩)⟩
  · have top : f_tx_isAt part text (nI at_) = some 0 := e_bf (nI_pos (by omega)) (e_c rfl (e_c rfl (e_bf (fun z => hle (hcmp.mp z)) rfl)))
    rw [top]
    exact ⟨fun h => absurd h.1 hle, fun _ => rfl⟩
theorem ext_getD {a b : TT} (hl : a.length = b.length) (h : ∀ k, k < a.length → a.getD k 0 = b.getD k 0) : a = b := by
  refine List.ext_getElem hl (fun k h1 h2 => ?_)
  have := h k h1
  rw [List.getD_eq_getElem?_getD, List.getD_eq_getElem?_getD, List.getElem?_eq_getElem h1, List.getElem?_eq_getElem h2] at this
  exact this
/-- EXACT -/
theorem x_exact {n u h : Nat} {cs0 cs : CS} {ms0 ms : GS} (I : CI n u h cs0 ms0 cs ms) (hn : 1 < n) : Sm 900 13000 (f_tx_exact cs) (f_mo_exact ms) (XE n u h cs0 ms0) := by
  refine Sm_jj2 (read_b I (i := 0) (by omega)) (fun ⟨t, ca⟩ m2 ⟨b1, b0, b2, c1, c2, c3⟩ => ?_)
  refine Sm_jj (k_text b1 (i := 1) (by omega)) (fun ⟨t', cb⟩ m3 ⟨d1, d0, d2, d3, d5⟩ => ?_)
  dsimp only at *
  have hB := Txt_ch c1 d5 (by decide) (by decide) (by decide)
  have h1 := b2.1
  have h2 := d2.1
  have fin : ∀ b : Int32, TA 892 12920 (jd (f_vl_ofTruth b) (fun q6 => some ((q6, cb), 0, 0))) (fun r => r = ((3, if b = 0 then 0 else 4607182418800017408, []), cb)) := fun b => TA_vl rfl
  have R : ∀ b : Int32, Tr (mo_exact_55 m3 b) (fun m => XE n u h cs0 ms0 ((3, if b = 0 then 0 else 4607182418800017408, []), cb) m) := fun b => Tr_jc (answerTruth_m (b := b) (m := m3)) (fun m ⟨k1, k2⟩ => Tr_some (XE_told (CI_ref d1 k2 (by decide) (by decide) (by decide)) k1))
  have top : Sm 892 12920 (jd (f_vl_ofTruth (if t = t' then 1 else 0)) (fun q6 => some ((q6, cb), 0, 0))) (jb ((m3.1 0 27) = (m3.1 0 28)) (jc (f_mo_stands m3 14 (m3.1 0 28) 13 (m3.1 0 27) 0) (fun q5 => jb (q5 = 0) (mo_exact_54 m3) (mo_exact_55 m3 1))) (mo_exact_54 m3)) (XE n u h cs0 ms0) := by
    obtain ⟨s1, s2⟩ := stands_m (at_ := 0) d2 b2 hB d3 (by decide)
    rw [← hB.1, ← d3.1] at s1 s2
    by_cases e : t = t'
    · subst e
      rw [if_pos rfl]
      refine TA_mono (fin 1) (Nat.le_refl _) (Nat.le_refl _) (fun r hr => ?_)
      subst hr
      have hp : isP t t 0 := ⟨by omega, fun k hk => by rw [Nat.zero_add]⟩
      exact Tr_jbt (by rw [hB.1, d3.1]) (Tr_jce (s1 hp) (Tr_jbf (by decide) (R 1)))
    · rw [if_neg e]
      refine TA_mono (fin 0) (Nat.le_refl _) (Nat.le_refl _) (fun r hr => ?_)
      subst hr
      by_cases hl : t'.length = t.length
      · have hp : ¬ isP t' t 0 := fun hp => e (ext_getD hl.symm (fun k hk => by have := hp.2 k (by omega); rw [Nat.zero_add] at this; exact this))
        exact Tr_jbt (by rw [hB.1, d3.1, hl]) (Tr_jce (s2 hp) (Tr_jbt rfl (R 0)))
      · exact Tr_jbf (fun z => hl ((nI_eq (by omega) (by omega)).mp (by rw [← hB.1, ← d3.1]; exact z))) (R 0)
  exact Sm_Lc rfl top
/-! answers of the reference in an error's wake -/
def MkW (m : GS) : Prop := ∃ k : Nat, k ≤ 255 ∧ m.1 0 30 = nI k
theorem Mk_W {L : TT} {m : GS} (h : Mk L m) : MkW m := by
  rcases h with ⟨x, y, z⟩ | ⟨x, y, z⟩
  · exact ⟨_, x, z.1⟩
  · exact ⟨255, Nat.le_refl _, z⟩
theorem makeW {m : GS} {x : Int32} (h : MkW m) : Tr (f_mo_make m x) (fun r => MkW r ∧ Ch [30, 31] [16] m r) := by
  obtain ⟨k, hk, h30⟩ := h
  have e18 : Tr (mo_make_18 m x) (fun r => MkW r ∧ Ch [30, 31] [16] m r) := by
    unfold mo_make_18 mo_make_23
    refine Tr_jg rfl (Tr_jn (Tr_jbf ?_ (Tr_some ⟨⟨k, hk, h30⟩, Ch_f Ch_refl (by decide)⟩)))
    exact (by decide : ¬ (1 : Int32) = 0)
  refine Tr_jb (fun _ => Tr_jb (fun _ => e18) (fun q => ?_)) (fun _ => e18)
  have hk2 : k < 255 := by
    refine Nat.lt_of_le_of_ne hk (fun z => q ?_)
    rw [h30, z]
    rfl
  refine Tr_jg rfl (Tr_jn (Tr_jbt (show (0 : Int32) = 0 from rfl) (Tr_jg ?_ (Tr_jn (Tr_jn (Tr_some ⟨⟨k + 1, hk2, ?_⟩, ?_⟩))))))
  · show inb (m.1 0 30) 256 = true
    rw [h30]; exact inb_of (by omega) (by decide)
  · rw [uI_at]
    show m.1 0 30 + 1 = _
    rw [h30, nI_1]
  · exact Ch_f (Ch_c (Ch_f Ch_refl (by decide)) (by decide) (by decide)) (by decide)
theorem answerW {m : GS} (h : MkW m) (he : ¬ m.1 0 22 = 0) : Tr (f_mo_answerText m) (fun r => Ch [32, 33] [17] m r) := by
  obtain ⟨k0, hk0, h30⟩ := h
  have loop : ∀ (k i fu : Nat) (M : GS), i + k = k0 → k < fu → M.1 0 30 = nI k0 → ¬ M.1 0 22 = 0 → Tr (mo_answerText_15 fu M (nI i)) (fun r => Ch [] [17] M r) := by
    intro k
    induction k with
    | zero =>
      intro i fu M hi hf h30 h22
      obtain ⟨g, rfl⟩ : ∃ g, fu = g + 1 := ⟨fu - 1, by omega⟩
      refine Tr_jbt (by rw [h30]; exact nI_le (by omega) (by omega)) (Tr_jb (fun _ => Tr_some Ch_refl) (fun _ => Tr_jce (fail_skip h22) (Tr_some Ch_refl)))
    | succ k ih =>
      intro i fu M hi hf h30 h22
      obtain ⟨g, rfl⟩ : ∃ g, fu = g + 1 := ⟨fu - 1, by omega⟩
      have hin : inb (nI i) 256 = true := inb_of (by omega) (by decide)
      refine Tr_jbf (by rw [h30]; exact nI_ge (by omega) (by omega)) (Tr_jg hin (Tr_jg hin (Tr_jn (Tr_jn ?_))))
      rw [nI_1]
      exact Tr_mono (ih (i + 1) g _ (by omega) (by omega) h30 h22) (fun r m1 => Ch_trans (Ch_c Ch_refl (by decide) (by decide)) m1 (fun _ w => w) (fun _ w => w))
  refine Tr_jn (Tr_jn (Tr_mono (loop k0 0 FU _ (by omega) (FU_lt (by omega)) h30 he) (fun r m1 => ?_)))
  exact Ch_trans (Ch_f (Ch_f Ch_refl (by decide)) (by decide)) m1 (fun _ w => by cases w) (fun _ w => w)
/-- CHAR -/
theorem x_char {n u h : Nat} {cs0 cs : CS} {ms0 ms : GS} (I : CI n u h cs0 ms0 cs ms) (hn : 0 < n) (hM : Mk [] ms) : Sm 900 13000 (f_tx_character cs) (f_mo_character ms 0) (XE n u h cs0 ms0) := by
  refine Sm_bt rfl (Sm_j0 (k_whole I (i := 0) hn) (fun ⟨x, ca⟩ ⟨y, m2⟩ ⟨b1, b0, b2, b3, b4, b5⟩ => ?_))
  dsimp only at *
  have hM2 := Mk_ch hM b5 (by decide) (by decide) (by decide)
  have Y56 : ¬ m2.1 0 22 = 0 → Tr (mo_character_56 m2 y) (fun m => Ch SF0 SC m2 m) := fun he => Tr_jc (makeW (Mk_W hM2)) (fun r ⟨r1, r2⟩ => Tr_jc (answerW r1 (by rw [r2.1 22 (by decide)]; exact he)) (fun r' r3 => Tr_some (Ch_trans (Ch_mono r2 (by decide) (by decide)) r3 (by decide) (by decide))))
  have Y0 : ¬ m2.1 0 22 = 0 → Tr (jb (y < 1) (mo_character_51 m2 y) (jb (y ≤ 255) (mo_character_56 m2 y) (mo_character_51 m2 y))) (fun m => Ch SF0 SC m2 m) := fun he => by
    have R2 : Tr (mo_character_51 m2 y) (fun m => Ch SF0 SC m2 m) := Tr_jce (fail_skip he) (Y56 he)
    exact Tr_jb (fun _ => R2) (fun _ => Tr_jb (fun _ => Y56 he) (fun _ => R2))
  have E0 : Tr (mo_character_51 m2 y) (fun m => XE n u h cs0 ms0 (er 3, ca) m) := Tr_jc (XE_err b1 (e := 3) (by decide) (by decide)) (fun m ⟨k1, k2, k3⟩ => Tr_jc (makeW (Mk_W (Mk_ch hM2 k2 (by decide) (by decide) (by decide)))) (fun r ⟨r1, r2⟩ => Tr_jc (answerW r1 (by rw [r2.1 22 (by decide)]; exact k3)) (fun r' r3 => Tr_some (XE_ch k1 (Ch_trans (F := [30, 31, 32, 33]) (C := [16, 17]) (Ch_mono r2 (by decide) (by decide)) r3 (by decide) (by decide)) k3 (by decide) (by decide) (by decide)))))
  by_cases hs : x < 1
  · refine Sm_fin b1 (V := er 3) (TA_jbt hs (TA_vl rfl)) Y0 (fun hf he => ?_)
    exact Tr_jbt (by rw [b4 hf]; exact hs) E0
  by_cases h255 : x ≤ 255
  · obtain ⟨k, k1, k2, rfl⟩ := iB_one b2 hs
    have k255 : k ≤ 255 := (nI_leI (a := k) (b := 255) (by omega) (by decide)).mp h255
    refine Sm_fin b1 (V := tv ([] ++ [k])) (TA_jbf hs (TA_jbt h255 ?_)) Y0 (fun hf he => ?_)
    · refine TA_mono (TA_ja (k := 2) (n := 20) (c := 800) (s := 12000) ?_) (by decide) (by decide) (fun _ z => z)
      rw [u16 (by omega)]
      refine TA_mono (TA_jde (c := 700) (s := 11000) (appC16 (c := k) (L := []) (by omega) (by decide)) ?_) (by decide) (by decide) (fun _ z => z)
      exact tv_end (L := [] ++ [k]) (by show 1 < 2 ^ 31; decide) (by decide) (by decide)
    · rw [b4 hf]
      refine Tr_jbf hs (Tr_jbt h255 (Tr_jc (make_m hM2) (fun r ⟨r1, r2⟩ => Tr_jc (tv_m (CI_ref b1 r2 (by decide) (by decide) (by decide)) r1 ?_ (by show 1 < _; decide)) (fun r' hr => Tr_some hr))))
      intro c hc
      have : c = k := by simpa using hc
      omega
  · refine Sm_fin b1 (V := er 3) (TA_jbf hs (TA_jbf h255 (TA_vl rfl))) Y0 (fun hf he => ?_)
    exact Tr_jbf (by rw [b4 hf]; exact hs) (Tr_jbf (by rw [b4 hf]; exact h255) E0)
/-- CODE -/
theorem x_code {n u h : Nat} {cs0 cs : CS} {ms0 ms : GS} (I : CI n u h cs0 ms0 cs ms) (hn : 0 < n) : Sm 900 13000 (f_tx_code cs) (f_mo_character ms 1) (XE n u h cs0 ms0) := by
  refine Sm_bf (by decide) (Sm_jj (k_text I (i := 0) hn) (fun ⟨t, ca⟩ m2 ⟨b1, b0, b2, b3, b5⟩ => ?_))
  dsimp only at *
  have htl := b2.1
  have Y21 : ∀ m : GS, Tr (mo_character_21 m) (fun r => Ch [32, 34] [] m r) := fun m => Tr_jg (by decide) (Tr_jc answerAny_m (fun r hr => Tr_some hr))
  have Y0 : ¬ m2.1 0 22 = 0 → Tr (jb ((m2.1 0 27) = 0) (jc (f_mo_fail m2 3) (fun q8 => mo_character_21 q8)) (mo_character_21 m2)) (fun m => Ch SF0 SC m2 m) := fun he => by
    have R : Tr (mo_character_21 m2) (fun m => Ch SF0 SC m2 m) := Tr_mono (Y21 m2) (fun r hr => Ch_mono hr (by decide) (by decide))
    exact Tr_jb (fun _ => Tr_jce (fail_skip he) R) (fun _ => R)
  by_cases h0 : t.length = 0
  · refine Sm_fin b1 (V := er 3) (TA_jce rfl ?_) Y0 (fun hf he => ?_)
    · rw [if_pos h0]
      exact TA_jbf (by decide) (TA_vl rfl)
    · refine Tr_jbt (by rw [b3.1, h0]; rfl) (Tr_jc (XE_err b1 (e := 3) (by decide) (by decide)) (fun m ⟨k1, k2, k3⟩ => Tr_mono (Y21 m) (fun r hr => XE_ch k1 hr k3 (by decide) (by decide) (by decide))))
  · refine Sm_fin b1 (V := (1, FP.i2d (nI (t.getD 0 0)), [])) (TA_jce rfl ?_) Y0 (fun hf he => ?_)
    · rw [if_neg h0]
      exact TA_jbt rfl (TA_jce (charAt_ok (k := 0) (by omega) htl) (TA_vl rfl))
    · refine Tr_jbf (by rw [b3.1]; exact nI_ne0 (by omega) (by omega)) (Tr_jg (by decide) ?_)
      have e13 : m2.1 13 (0 : Int32).toNatClampNeg = nI (t.getD 0 0) := b3.2 0 (by omega)
      rw [e13]
      exact Tr_jc (XE_num b1 (fun _ => rfl)) (fun m hm => Tr_some hm)
