/-! SUBSTITUTE -/
def isPb (p t : TT) (a : Nat) : Bool := decide (0 < p.length) && decide (a + p.length ≤ t.length) && (List.range p.length).all (fun k => t.getD (a + k) 0 == p.getD k 0)
theorem isPb_iff {p t : TT} {a : Nat} (h0 : 0 < p.length) : isPb p t a = true ↔ isP p t a := by
  unfold isPb isP
  simp only [Bool.and_eq_true, decide_eq_true_eq, List.all_eq_true, List.mem_range, beq_iff_eq]
  exact ⟨fun h => ⟨h.1.2, h.2⟩, fun h => ⟨⟨h0, h.1⟩, h.2⟩⟩
def sbs (t p r : TT) (each : Bool) (k : Nat) : Nat → Nat → Nat → TT
  | 0, _, _ => []
  | m + 1, a, nu => if a < t.length then (if isPb p t a = true then (if each = true ∨ nu + 1 = k then r else p) ++ sbs t p r each k m (a + p.length) (nu + 1) else [t.getD a 0] ++ sbs t p r each k m (a + 1) nu) else []
theorem sbs_end {t p r : TT} {each : Bool} {k m a nu : Nat} (h : t.length ≤ a) : sbs t p r each k m a nu = [] := by
  cases m with
  | zero => rfl
  | succ m =>
    show (if a < t.length then _ else _) = _
    rw [if_neg (by omega)]
theorem sbs_hit {t p r : TT} {each : Bool} {k m a nu : Nat} (h : a < t.length) (hp : isPb p t a = true) : sbs t p r each k (m + 1) a nu = (if each = true ∨ nu + 1 = k then r else p) ++ sbs t p r each k m (a + p.length) (nu + 1) := by
  show (if a < t.length then _ else _) = _
  rw [if_pos h, if_pos hp]
theorem sbs_miss {t p r : TT} {each : Bool} {k m a nu : Nat} (h : a < t.length) (hp : ¬ isPb p t a = true) : sbs t p r each k (m + 1) a nu = [t.getD a 0] ++ sbs t p r each k m (a + 1) nu := by
  show (if a < t.length then _ else _) = _
  rw [if_pos h, if_neg hp]
theorem sbs_ok {t p r : TT} (ht : okT t) (hp : okT p) (hr : okT r) {each : Bool} {k : Nat} : ∀ m a nu, (sbs t p r each k m a nu).length ≤ 255 * m ∧ ∀ c ∈ sbs t p r each k m a nu, c < 256
  | 0, _, _ => ⟨Nat.zero_le _, fun c hc => by cases hc⟩
  | m + 1, a, nu => by
    by_cases h : a < t.length
    · by_cases hb : isPb p t a = true
      · rw [sbs_hit h hb]
        obtain ⟨i1, i2⟩ := sbs_ok ht hp hr (each := each) (k := k) m (a + p.length) (nu + 1)
        have h1 := hp.1
        have h2 := hr.1
        by_cases e : each = true ∨ nu + 1 = k
        · rw [if_pos e]
          exact ⟨by rw [List.length_append]; omega, okT_app hr.2 i2⟩
        · rw [if_neg e]
          exact ⟨by rw [List.length_append]; omega, okT_app hp.2 i2⟩
      · rw [sbs_miss h hb]
        obtain ⟨i1, i2⟩ := sbs_ok ht hp hr (each := each) (k := k) m (a + 1) nu
        refine ⟨by rw [List.length_append]; show 1 + _ ≤ _; omega, okT_app (fun c hc => ?_) i2⟩
        have : c = t.getD a 0 := by simpa using hc
        rw [this]
        exact okT_at ht a
    · rw [sbs_end (by omega)]
      exact ⟨Nat.zero_le _, fun c hc => by cases hc⟩
theorem tv_grow {L S : TT} (h : 255 < L.length) : tv L = tv (L ++ S) := tv_long h (by rw [List.length_append]; omega)
theorem subC {cs : CS} {t p r : TT} (ht : okT t) (hp : okT p) (hr : okT r) (h0 : 0 < p.length) {each : Bool} {k : Nat} (hk : k < 2 ^ 31) : ∀ (m a nu q fu : Nat) (L : TT), t.length ≤ a + m → m < fu → a ≤ 600 → nu ≤ a → L.length ≤ 510 → 16 ≤ q → q ≤ 2 * 510 + 16 → TA (fc q 510 + 3) (fs q 510 + 262) (tx_substitute_102 fu cs t p r (b01 each) (nI k) (nI nu) (nI a) (L, q)) (fun x => x = (tv (L ++ sbs t p r each k m a nu), cs)) := by
  have htl := ht.1
  have hpl := hp.1
  have hrl := hr.1
  intro m
  have stop : ∀ (q : Nat) (L : TT) (S : TT), L.length ≤ 510 → tv L = tv (L ++ S) → TA (fc q 510 + 3) (fs q 510 + 262) (tx_substitute_188 cs (L, q)) (fun x => x = (tv (L ++ S), cs)) := fun q L S hL e => by
    rw [← e]
    exact tv_end (by omega) (by omega) (by omega)
  induction m with
  | zero =>
    intro a nu q fu L ha hf ha2 hnu hL hq hq2
    obtain ⟨f, rfl⟩ : ∃ f, fu = f + 1 := ⟨fu - 1, by omega⟩
    exact TA_jce rfl (TA_jbt (nI_le (by omega) (by omega)) (stop q L _ hL (by rw [sbs_end (by omega), List.append_nil])))
  | succ m ih =>
    intro a nu q fu L ha hf ha2 hnu hL hq hq2
    obtain ⟨f, rfl⟩ : ∃ f, fu = f + 1 := ⟨fu - 1, by omega⟩
    by_cases hat : t.length ≤ a
    · exact TA_jce rfl (TA_jbt (nI_le hat (by omega)) (stop q L _ hL (by rw [sbs_end hat, List.append_nil])))
    · refine TA_jce rfl (TA_jbf (nI_ge (by omega) (by omega)) (TA_jce rfl ?_))
      by_cases hL2 : 255 < L.length
      · exact TA_jbt (nI_lt (a := 255) hL2 (by show L.length < _; omega)) (stop q L _ hL (tv_grow hL2))
      · refine TA_jbf (nI_nlt (a := 255) (by show L.length ≤ _; omega) (by decide)) ?_
        obtain ⟨i1, i2⟩ := isAt_c (at_ := a) hp ht (by omega)
        by_cases hb : isPb p t a = true
        · have hP := (isPb_iff h0).mp hb
          have hal : a + p.length ≤ t.length := hP.1
          rw [sbs_hit (by omega) hb]
          refine TA_jce (i1 hP) (TA_jbf (by decide) (TA_jn ?_))
          rw [nI_1]
          have go : ∀ z : TT, z.length ≤ 255 → TA (fc q 510 + 3) (fs q 510 + 262) (tx_substitute_154 (tx_substitute_102 f) cs t p r (b01 each) (nI k) (nI (nu + 1)) (nI a) z (L, q)) (fun x => x = (tv (L ++ (z ++ sbs t p r each k m (a + p.length) (nu + 1))), cs)) := fun z hz => by
            refine TA_appS (x := (L, q)) hq hq2 (by show L.length + _ ≤ _; omega) (by decide) (fun q' h1 h2 => TA_jce rfl (TA_jn ?_))
            rw [nI_add, ← List.append_assoc]
            exact ih (a + p.length) (nu + 1) q' f (L ++ z) (by omega) (by omega) (by omega) (by omega) (by rw [List.length_append]; omega) h1 h2
          by_cases e1 : each = true
          · rw [if_pos (Or.inl e1)]
            have := go r hrl
            rw [e1] at this ⊢
            exact TA_jbf (by decide) this
          · rw [show each = false by simpa using e1] at go ⊢
            refine TA_jbt rfl ?_
            by_cases e2 : nu + 1 = k
            · rw [if_pos (Or.inr e2)]
              exact TA_jbt (by rw [e2]) (go r hrl)
            · rw [if_neg (fun z => z.elim (fun y => by cases y) e2)]
              exact TA_jbf (fun z => e2 ((nI_eq (by omega) hk).mp z)) (go p hpl)
        · rw [sbs_miss (by omega) hb]
          refine TA_jce (i2 (fun z => hb ((isPb_iff h0).mpr z))) (TA_jbt rfl (TA_jce (charAt_ok (by omega) htl) ?_))
          refine TA_appC (x := (L, q)) (okT_at ht a) hq hq2 (by show L.length + 1 ≤ _; omega) (by decide) (fun q' h1 h2 => TA_jn ?_)
          rw [nI_1, ← List.append_assoc]
          exact ih (a + 1) nu q' f (L ++ [t.getD a 0]) (by omega) (by omega) (by omega) (by omega) (by rw [List.length_append]; show L.length + 1 ≤ _; omega) h1 h2
/-- makeOf of a row whose size stands elsewhere -/
theorem makeOf_r {t : TT} {c : Nat} (hc : c ≠ 0) (hc16 : c ≠ 16) (htl : t.length ≤ 255) {b : Nat} (hb : b ≤ t.length) : ∀ (k a fu : Nat) (L : TT) (m : GS), a + k = b → k < fu → Mk L m → (∀ j, j < t.length → m.1 c j = nI (t.getD j 0)) → Tr (mo_makeOf_3 fu m c (nI b) (nI a)) (fun r => Mk (L ++ seg t a b) r ∧ Ch [30, 31] [16] m r) := by
  intro k
  induction k with
  | zero =>
    intro a fu L m hk hf hL hT
    obtain ⟨g, rfl⟩ : ∃ g, fu = g + 1 := ⟨fu - 1, by omega⟩
    rw [seg_nil (by omega), List.append_nil]
    exact Tr_jbt (nI_le (by omega) (by omega)) (Tr_some ⟨hL, Ch_refl⟩)
  | succ k ih =>
    intro a fu L m hk hf2 hL hT
    obtain ⟨g, rfl⟩ : ∃ g, fu = g + 1 := ⟨fu - 1, by omega⟩
    refine Tr_jbf (nI_ge (by omega) (by omega)) (Tr_jg (inb_of (by omega) (by decide)) ?_)
    rw [nI_clamp (by omega), hT a (by omega)]
    refine Tr_jc (make_m hL) (fun r ⟨r1, r2⟩ => Tr_jn ?_)
    rw [nI_1]
    refine Tr_mono (ih (a + 1) g (L ++ [t.getD a 0]) r (by omega) (by omega) r1 (fun j hj => (congrFun (r2.2.1 c hc (by simp [hc16])) j).trans (hT j hj))) (fun s ⟨s1, s2⟩ => ⟨?_, Ch_trans r2 s2 (fun _ z => z) (fun _ z => z)⟩)
    rw [seg_cons (by omega) hb]
    rw [List.append_assoc] at s1
    exact s1
theorem isP_seg {p t : TT} {a : Nat} (h : isP p t a) : seg t a (a + p.length) = p := by
  have hl : (seg t a (a + p.length)).length = p.length := by rw [seg_len h.1]; omega
  refine ext_getD hl (fun k hk => ?_)
  rw [hl] at hk
  unfold seg
  rw [List.getD_eq_getElem?_getD, List.getElem?_take, if_pos (by omega), List.getElem?_drop, ← List.getD_eq_getElem?_getD]
  exact h.2 k hk
theorem subM {t p r : TT} (ht : okT t) (hp : okT p) (hr : okT r) {each : Bool} {k : Nat} (hk : k < 2 ^ 31) (hk1 : 1 ≤ k) {Q : GS → Prop} : ∀ (m a nu fu : Nat) (L : TT) (M : GS), t.length ≤ a + m → m < fu → a ≤ 600 → nu ≤ a → Mk L M → Txt 28 14 t M → Txt 29 15 p M → (∀ j, j < r.length → M.1 17 j = nI (r.getD j 0)) → (∀ M', Mk (L ++ sbs t p r each k m a nu) M' → Ch [30, 31] [16] M M' → Tr (f_mo_answerText M') Q) → Tr (mo_substitute_105 fu M (nI r.length) (if each = true then 0 else nI k) (nI a) (nI nu)) Q := by
  have htl := ht.1
  have hpl := hp.1
  have hrl := hr.1
  intro m
  induction m with
  | zero =>
    intro a nu fu L M ha hf ha2 hnu hL hB hC hA hend
    obtain ⟨f, rfl⟩ : ∃ f, fu = f + 1 := ⟨fu - 1, by omega⟩
    rw [sbs_end (by omega), List.append_nil] at hend
    exact Tr_jbt (by rw [hB.1]; exact nI_le (by omega) (by omega)) (Tr_jc (hend M hL Ch_refl) (fun r hr => Tr_some hr))
  | succ m ih =>
    intro a nu fu L M ha hf ha2 hnu hL hB hC hA hend
    obtain ⟨f, rfl⟩ : ∃ f, fu = f + 1 := ⟨fu - 1, by omega⟩
    by_cases hat : t.length ≤ a
    · rw [sbs_end hat, List.append_nil] at hend
      exact Tr_jbt (by rw [hB.1]; exact nI_le hat (by omega)) (Tr_jc (hend M hL Ch_refl) (fun r hr => Tr_some hr))
    · refine Tr_jbf (by rw [hB.1]; exact nI_ge (by omega) (by omega)) ?_
      -- a step behind which L is L' and the place a'
      have next : ∀ (M1 : GS) (L' : TT) (a' nu' : Nat), Mk L' M1 → Ch [30, 31] [16] M M1 → t.length ≤ a' + m → a' ≤ 600 → nu' ≤ a' → L ++ sbs t p r each k (m + 1) a nu = L' ++ sbs t p r each k m a' nu' → Tr (mo_substitute_105 f M1 (nI r.length) (if each = true then 0 else nI k) (nI a') (nI nu')) Q := fun M1 L' a' nu' k1 k2 k3 k4 k5 k6 => by
        refine ih a' nu' f L' M1 k3 (by omega) k4 k5 k1 (Txt_ch hB k2 (by decide) (by decide) (by decide)) (Txt_ch hC k2 (by decide) (by decide) (by decide)) (fun j hj => (congrFun (k2.2.1 17 (by decide) (by decide)) j).trans (hA j hj)) (fun M' m1 m2 => hend M' (by rw [k6]; exact m1) (Ch_trans k2 m2 (fun _ z => z) (fun _ z => z)))
      by_cases hb : isPb p t a = true
      · have h0 : 0 < p.length := by
          unfold isPb at hb
          simp only [Bool.and_eq_true, decide_eq_true_eq] at hb
          exact hb.1.1
        have hP := (isPb_iff h0).mp hb
        have hal : a + p.length ≤ t.length := hP.1
        obtain ⟨s1, -⟩ := stands_m (at_ := a) hp ht hB hC (by omega)
        rw [← hB.1, ← hC.1] at s1
        refine Tr_jbf (by rw [hC.1]; exact nI_nle h0 (by omega)) (Tr_jce (s1 hP) (Tr_jbf (by decide) ?_))
        have hs := sbs_hit (t := t) (p := p) (r := r) (each := each) (k := k) (m := m) (nu := nu) (show a < t.length by omega) hb
        have h181 : (each = true ∨ nu + 1 = k) → Tr (mo_substitute_181 (mo_substitute_105 f) M (nI r.length) (if each = true then 0 else nI k) (nI a) (nI (nu + 1))) Q := fun e => by
          rw [if_pos e] at hs
          refine Tr_jc (makeOf_r (c := 17) (by decide) (by decide) hrl (b := r.length) (Nat.le_refl _) r.length 0 FU L M (by omega) (FU_lt (by omega)) hL hA) (fun M1 ⟨r1, r2⟩ => Tr_jn ?_)
          rw [seg_all] at r1
          rw [show M1.1 0 29 = nI p.length from (r2.1 29 (by decide)).trans hC.1, nI_add]
          exact next M1 (L ++ r) (a + p.length) (nu + 1) r1 r2 (by omega) (by omega) (by omega) (by rw [hs, List.append_assoc])
        have h201 : ¬ (each = true ∨ nu + 1 = k) → Tr (mo_substitute_201 (mo_substitute_105 f) M (nI r.length) (if each = true then 0 else nI k) (nI a) (nI (nu + 1)) 1) Q := fun e => by
          rw [if_neg e] at hs
          refine Tr_jbf (by decide) ?_
          rw [hC.1, nI_add]
          refine Tr_jc (makeOf_m (f := 28) (c := 14) (by decide) (by decide) (by decide) htl hal p.length a FU L M (Or.inl rfl) (FU_lt (by omega)) hL hB) (fun M1 ⟨r1, r2⟩ => Tr_jn ?_)
          rw [isP_seg hP] at r1
          rw [show M1.1 0 29 = nI p.length from (r2.1 29 (by decide)).trans hC.1, nI_add]
          exact next M1 (L ++ p) (a + p.length) (nu + 1) r1 r2 (by omega) (by omega) (by omega) (by rw [hs, List.append_assoc])
        unfold mo_substitute_149
        refine Tr_jbf (by decide) (Tr_jn ?_)
        have e1 : nI nu + 1 = nI (nu + 1) := nI_1 nu
        rw [e1]
        refine Tr_jbf (by decide) ?_
        by_cases e2 : each = true
        · rw [if_pos e2]
          have := h181 (Or.inl e2)
          rw [if_pos e2] at this
          exact Tr_jbt rfl this
        · rw [if_neg e2]
          rw [if_neg e2] at h181 h201
          refine Tr_jbf (nI_ne0 hk1 hk) ?_
          by_cases e3 : nu + 1 = k
          · exact Tr_jbt (by rw [e3]) (h181 (Or.inr e3))
          · exact Tr_jbf (fun z => e3 ((nI_eq hk (by omega)).mp z).symm) (h201 (fun z => z.elim e2 e3))
      · have hs := sbs_miss (t := t) (p := p) (r := r) (each := each) (k := k) (m := m) (nu := nu) (show a < t.length by omega) hb
        have h148 : Tr (mo_substitute_148 (mo_substitute_105 f) M (nI r.length) (if each = true then 0 else nI k) (nI a) (nI nu)) Q := by
          unfold mo_substitute_148 mo_substitute_149
          refine Tr_jbt rfl (Tr_jn ?_)
          have e1 : nI nu + 0 = nI nu := by
            show nI nu + nI 0 = _
            rw [nI_add, Nat.add_zero]
          rw [e1]
          refine Tr_jbt rfl ?_
          unfold mo_substitute_201
          refine Tr_jbt rfl (Tr_jg (inb_of (by omega) (by decide)) ?_)
          rw [nI_clamp (by omega), hB.2 a (by omega)]
          refine Tr_jc (make_m hL) (fun M1 ⟨r1, r2⟩ => Tr_jn ?_)
          rw [nI_1]
          exact next M1 (L ++ [t.getD a 0]) (a + 1) nu r1 r2 (by omega) (by omega) (by omega) (by rw [hs, List.append_assoc])
        by_cases h0 : 0 < p.length
        · obtain ⟨-, s2⟩ := stands_m (at_ := a) hp ht hB hC (by omega)
          rw [← hB.1, ← hC.1] at s2
          exact Tr_jbf (by rw [hC.1]; exact nI_nle h0 (by omega)) (Tr_jce (s2 (fun z => hb ((isPb_iff h0).mpr z))) (Tr_jbt rfl h148))
        · refine Tr_jbt ?_ h148
          rw [hC.1, show p.length = 0 by omega]
          exact Int32.le_refl _
theorem sbs_none {t p r : TT} (hp : p.length = 0) {each : Bool} {k nu : Nat} : ∀ m a, a + m = t.length → sbs t p r each k m a nu = seg t a t.length
  | 0, a, h => by rw [sbs_end (by omega), seg_nil (by omega)]
  | m + 1, a, h => by
    have hb : ¬ isPb p t a = true := by
      unfold isPb
      simp only [Bool.and_eq_true, decide_eq_true_eq]
      omega
    rw [sbs_miss (by omega) hb, sbs_none hp m (a + 1) (by omega), seg_cons (t := t) (a := a) (by omega) (Nat.le_refl _)]
    rfl
/-- the text instead, copied -/
theorem sub25 {t : TT} (htl : t.length ≤ 255) : ∀ (k i fu : Nat) (M : GS), i + k = t.length → k < fu → Txt 27 13 t M → (∀ q, q < i → M.1 17 q = nI (t.getD q 0)) → ∃ M', mo_substitute_25 fu M (nI i) = (jn (M'.1 0 27) (fun v13 => jc (f_mo_isGiven M' 3) (fun q14 => jb (q14 = 0) (mo_substitute_73 M' v13 0) (jc (f_mo_whole1 M' 3) (fun q15 => mo_substitute_73 q15.2 v13 q15.1))))) ∧ Ch [] [17] M M' ∧ ∀ q, q < t.length → M'.1 17 q = nI (t.getD q 0) := by
  intro k
  induction k with
  | zero =>
    intro i fu M hi hf hT hd
    obtain ⟨g, rfl⟩ : ∃ g, fu = g + 1 := ⟨fu - 1, by omega⟩
    exact ⟨M, e_bt (by rw [hT.1]; exact nI_le (by omega) (by omega)) rfl, Ch_refl, fun q hq => hd q (by omega)⟩
  | succ k ih =>
    intro i fu M hi hf hT hd
    obtain ⟨g, rfl⟩ : ∃ g, fu = g + 1 := ⟨fu - 1, by omega⟩
    have hin : inb (nI i) 256 = true := inb_of (by omega) (by decide)
    have hc : Ch [] [17] M (uI M 17 i (nI (t.getD i 0))) := Ch_c Ch_refl (by decide) (by decide)
    obtain ⟨M', m1, m2, m3⟩ := ih (i + 1) g _ (by omega) (by omega) (Txt_ch hT hc (by decide) (by decide) (by decide)) (fun q hq => by
      by_cases e : q = i
      · rw [e, uI_at]
      · rw [uI_ne e]; exact hd q (by omega))
    refine ⟨M', e_bf (by rw [hT.1]; exact nI_ge (by omega) (by omega)) (e_g hin (e_g hin (e_n (e_n ?_)))), Ch_trans hc m2 (fun _ z => z) (fun _ z => z), m3⟩
    rw [nI_clamp (by omega), nI_1, hT.2 i (by omega)]
    exact m1
theorem x_subst {n u h : Nat} {cs0 cs : CS} {ms0 ms : GS} (I : CI n u h cs0 ms0 cs ms) (hn : 2 < n) (hM : Mk [] ms) : Sm 900 13000 (f_tx_substitute cs) (f_mo_substitute ms) (XE n u h cs0 ms0) := by
  refine Sm_jj2 (read_b I (i := 0) (by omega)) (fun ⟨t, ca⟩ m2 ⟨b1, b0, b2, b3, b4, b5⟩ => ?_)
  refine Sm_jj2 (read_c b1 (i := 1) (by omega)) (fun ⟨p, cb⟩ m3 ⟨c1, c0, c2, c3, c4, c5⟩ => ?_)
  refine Sm_jj (k_text c1 (i := 2) (by omega)) (fun ⟨r, cc⟩ m4 ⟨d1, d0, d2, d3, d5⟩ => ?_)
  dsimp only at *
  have htl := b2.1
  have hpl := c2.1
  have hrl := d2.1
  have hn30 := d1.1.2.2.1
  obtain ⟨m5, e5, k1, k2⟩ := sub25 hrl r.length 0 FU m4 (by omega) (FU_lt (by omega)) d3 (fun q hq => absurd hq (Nat.not_lt_zero q))
  have I5 := CI_ref d1 k1 (by decide) (by decide) (by decide)
  have hB5 := Txt_ch (Txt_ch (Txt_ch b3 c5 (by decide) (by decide) (by decide)) d5 (by decide) (by decide) (by decide)) k1 (by decide) (by decide) (by decide)
  have hC5 := Txt_ch (Txt_ch c3 d5 (by decide) (by decide) (by decide)) k1 (by decide) (by decide) (by decide)
  have hM5 := Mk_ch (Mk_ch (Mk_ch (Mk_ch hM b5 (by decide) (by decide) (by decide)) c5 (by decide) (by decide) (by decide)) d5 (by decide) (by decide) (by decide)) k1 (by decide) (by decide) (by decide)
  have e27 : m5.1 0 27 = nI r.length := (k1.1 27 (by decide)).trans d3.1
  refine Sm_R (show mo_substitute_25 FU m4 0 = _ from e5) (Sm_n ?_)
  rw [e27]
  -- what follows once k is known: class at cs1, reference at m6
  have go : ∀ (C S : Nat) (each : Bool) (k : Nat) (cs1 : CS) (m6 : GS) (z0 : Int32), 400 ≤ C → 6000 ≤ S → CI n u h cs0 ms0 cs1 m6 → Mk [] m6 → Txt 28 14 t m6 → Txt 29 15 p m6 → (∀ j, j < r.length → m6.1 17 j = nI (r.getD j 0)) → 1 ≤ k → k < 2 ^ 31 → (cs1.1 1 6 = 0 → z0 = (if each = true then 0 else nI k)) → (cs1.1 1 6 = 0 → each = true → ¬ 3 < n) → Sm C S (tx_substitute_62 cs1 t p r (b01 each) (nI k)) (mo_substitute_73 m6 (nI r.length) z0) (XE n u h cs0 ms0) := by
    intro C S each k cs1 m6 z0 hC hS J gM gB gC gA hk1 hk hz hgv
    have e3 := given_m (i := 3) J.1 (by decide)
    have Y0 : ¬ m6.1 0 22 = 0 → Tr (mo_substitute_73 m6 (nI r.length) z0) (fun m => Ch SF0 SC m6 m) := fun he => by
      have R : Tr (mo_substitute_92 m6 (nI r.length) z0) (fun m => Ch SF0 SC m6 m) := Tr_jbf he (Tr_some Ch_refl)
      exact Tr_jce e3 (Tr_jb (fun _ => R) (fun _ => Tr_jb (fun _ => R) (fun _ => Tr_jce (fail_skip he) R)))
    have hkI : 1 ≤ nI k := nI_le (a := 1) hk1 hk
    have M0 : ∀ v, (Tr (mo_substitute_105 FU m6 (nI r.length) (if each = true then 0 else nI k) 0 0) (fun m => XE n u h cs0 ms0 (v, cs1) m)) → cs1.1 1 6 = 0 → m6.1 0 22 = 0 → Tr (mo_substitute_73 m6 (nI r.length) z0) (fun m => XE n u h cs0 ms0 (v, cs1) m) := fun v hv hf he => by
      have R : Tr (mo_substitute_92 m6 (nI r.length) z0) (fun m => XE n u h cs0 ms0 (v, cs1) m) := by
        rw [hz hf]
        exact Tr_jbt he hv
      refine Tr_jce e3 ?_
      by_cases h3 : 3 < n
      · rw [if_pos h3]
        have : each = false := by
          cases each
          · rfl
          · exact absurd h3 (hgv hf rfl)
        refine Tr_jbf (by decide) (Tr_jbt ?_ R)
        rw [hz hf, this]
        exact hkI
      · rw [if_neg h3]
        exact Tr_jbt rfl R
    have hS2 := sbs_ok b2 c2 d2 (each := each) (k := k) t.length 0 0
    have hSl : (sbs t p r each k t.length 0 0).length ≤ 255 * 255 := Nat.le_trans hS2.1 (Nat.mul_le_mul_left _ htl)
    have Mr : Tr (mo_substitute_105 FU m6 (nI r.length) (if each = true then 0 else nI k) 0 0) (fun m => XE n u h cs0 ms0 (tv (sbs t p r each k t.length 0 0), cs1) m) := by
      refine subM b2 c2 d2 hk hk1 t.length 0 0 FU [] m6 (by omega) (FU_lt (by omega)) (by decide) (Nat.le_refl _) gM gB gC gA (fun M' m1 m2 => ?_)
      rw [List.nil_append] at m1
      exact tv_m (CI_ref J m2 (by decide) (by decide) (by decide)) m1 hS2.2 (by omega)
    by_cases hp0 : p.length = 0
    · rw [sbs_none hp0 t.length 0 (by omega), seg_all, tv_le htl] at Mr
      refine Sm_fin J (V := (2, 0, t)) (TA_jbt hkI (TA_jce rfl ?_)) Y0 (fun hf he => M0 _ Mr hf he)
      rw [if_pos hp0]
      exact TA_jbf (by decide) (TA_vl rfl (by omega) (by omega))
    · refine Sm_fin J (V := tv (sbs t p r each k t.length 0 0)) (TA_jbt hkI (TA_jce rfl ?_)) Y0 (fun hf he => M0 _ Mr hf he)
      rw [if_neg hp0]
      have := subC (cs := cs1) b2 c2 d2 (by omega) (each := each) hk t.length 0 0 16 FU [] (by omega) (FU_lt (by omega)) (by decide) (Nat.le_refl _) (by decide) (by decide) (by decide)
      rw [List.nil_append] at this
      exact TA_jbt rfl (TA_mono (TA_ja (k := 2) (n := 20) this) (by show 2 + (62 + 3) ≤ _; omega) (by show 20 + (2008 + 262) ≤ _; omega) (fun _ z => z))
  have e3c := there_c (i := 3) d1.1 (by decide)
  have e3m := given_m (i := 3) I5.1 (by decide)
  refine Sm_Lc e3c (Sm_c e3m ?_)
  by_cases h3 : 3 < n
  · rw [if_pos h3]
    refine Sm_Lbf (by decide) (Sm_bf (by decide) (Sm_Lbt rfl (Sm_j0 (k_whole I5 (i := 3) h3) (fun ⟨x, cs1⟩ ⟨y, m6⟩ ⟨g1, g0, g2, g3, g4, g5⟩ => ?_))))
    dsimp only at *
    have gM := Mk_ch hM5 g5 (by decide) (by decide) (by decide)
    have gB := Txt_ch hB5 g5 (by decide) (by decide) (by decide)
    have gC := Txt_ch hC5 g5 (by decide) (by decide) (by decide)
    have gA : ∀ j, j < r.length → m6.1 17 j = nI (r.getD j 0) := fun j hj => (congrFun (g5.2.1 17 (by decide) (by decide)) j).trans (k2 j hj)
    by_cases hx : 1 ≤ x
    · obtain ⟨k, hk1, hk2, rfl⟩ := iB_one g2 (Int32.not_lt.mpr hx)
      exact go _ _ false k cs1 m6 y (by decide) (by decide) g1 gM gB gC gA hk1 (by omega) (fun hf => g4 hf) (fun _ z => by cases z)
    · refine Sm_fin g1 (V := er 3) (TA_jbf hx (TA_vl rfl)) (fun he => ?_) (fun hf he => ?_)
      · have R : Tr (mo_substitute_92 m6 (nI r.length) y) (fun m => Ch SF0 SC m6 m) := Tr_jbf he (Tr_some Ch_refl)
        exact Tr_jce (given_m (i := 3) g1.1 (by decide)) (Tr_jb (fun _ => R) (fun _ => Tr_jb (fun _ => R) (fun _ => Tr_jce (fail_skip he) R)))
      · refine Tr_jce (given_m (i := 3) g1.1 (by decide)) ?_
        rw [if_pos h3]
        refine Tr_jbf (by decide) (Tr_jbf (by rw [g4 hf]; exact hx) (Tr_jc (XE_err g1 (e := 3) (by decide) (by decide)) (fun m ⟨q1, q2, q3⟩ => Tr_jbf q3 (Tr_some q1))))
  · rw [if_neg h3]
    refine Sm_Lbt rfl (Sm_bt rfl (Sm_Lbf (by decide) ?_))
    exact go _ _ true 1 cc m5 0 (by decide) (by decide) I5 hM5 hB5 hC5 k2 (by decide) (by decide) (fun _ => rfl) (fun _ _ => h3)
