/-! ### StringBuilder's costs -/
def fc (q N : Nat) : Nat := (2 * N - q) / 16
def fs (q N : Nat) : Nat := 4 * N - 2 * q
theorem sb_cost {x : BT} {t : TT} {N : Nat} (hq : 16 ≤ x.2) (hq2 : x.2 ≤ 2 * N + 16) (hN : x.1.length + t.length ≤ N) (hN2 : N ≤ 2000) : ∃ q' c s, sbAdd x t = some ((x.1 ++ t, q'), c, s) ∧ 16 ≤ q' ∧ q' ≤ 2 * N + 16 ∧ c + fc q' N ≤ fc x.2 N ∧ s + fs q' N ≤ fs x.2 N := by
  unfold sbAdd
  refine ⟨_, _, _, e_g ?_ rfl, ?_⟩
  · simp only [Bool.and_eq_true, decide_eq_true_eq]
    omega
  · unfold gcap gc gs gcap fc fs
    by_cases h : x.1.length + t.length ≤ x.2
    · simp only [if_pos h]
      omega
    · simp only [if_neg h]
      generalize x.1.length + t.length = n at *
      rcases Nat.le_total n (2 * x.2 + 2) with g | g
      · rw [Nat.max_eq_right g]
        omega
      · rw [Nat.max_eq_left g]
        omega
theorem TA_app {α : Type} {x : BT} {t : TT} {N c0 s0 : Nat} {f : BT → Option (α × Nat × Nat)} {Q : α → Prop} (hq : 16 ≤ x.2) (hq2 : x.2 ≤ 2 * N + 16) (hN : x.1.length + t.length ≤ N) (hN2 : N ≤ 2000) (h : ∀ q', 16 ≤ q' → q' ≤ 2 * N + 16 → TA (fc q' N + c0) (fs q' N + s0) (f (x.1 ++ t, q')) Q) : TA (fc x.2 N + c0) (fs x.2 N + s0) (jd (sbAdd x t) f) Q := by
  obtain ⟨q', c, s, e, h1, h2, h3, h4⟩ := sb_cost hq hq2 hN hN2
  exact TA_mono (TA_jde e (h q' h1 h2)) (by omega) (by omega) (fun _ z => z)
theorem TA_appC {α : Type} {x : BT} {ch N c0 s0 : Nat} {f : BT → Option (α × Nat × Nat)} {Q : α → Prop} (hc : ch < 256) (hq : 16 ≤ x.2) (hq2 : x.2 ≤ 2 * N + 16) (hN : x.1.length + 1 ≤ N) (hN2 : N ≤ 2000) (h : ∀ q', 16 ≤ q' → q' ≤ 2 * N + 16 → TA (fc q' N + c0) (fs q' N + s0) (f (x.1 ++ [ch], q')) Q) : TA (fc x.2 N + c0) (fs x.2 N + s0) (jd (f_sb_appC x (nI ch)) f) Q := by
  have e : f_sb_appC x (nI ch) = sbAdd x [ch] := by
    unfold f_sb_appC
    refine e_g (inb_of hc (by decide)) ?_
    rw [nI_clamp (by omega)]
  rw [e]
  exact TA_app hq hq2 hN hN2 h
theorem TA_appS {α : Type} {x : BT} {t : TT} {N c0 s0 : Nat} {f : BT → Option (α × Nat × Nat)} {Q : α → Prop} (hq : 16 ≤ x.2) (hq2 : x.2 ≤ 2 * N + 16) (hN : x.1.length + t.length ≤ N) (hN2 : N ≤ 2000) (h : ∀ q', 16 ≤ q' → q' ≤ 2 * N + 16 → TA (fc q' N + c0) (fs q' N + s0) (f (x.1 ++ t, q')) Q) : TA (fc x.2 N + c0) (fs x.2 N + s0) (jd (f_sb_appS x t) f) Q := TA_app hq hq2 hN hN2 h
theorem TA_toS {α : Type} {x : BT} {n c0 s0 : Nat} {f : TT → Option (α × Nat × Nat)} {Q : α → Prop} (hx : x.1.length ≤ n) (h : TA c0 s0 (f x.1) Q) : TA (2 + c0) (4 + n + s0) (jd (f_sb_toS x) f) Q :=
  TA_mono (TA_jde (show f_sb_toS x = some (x.1, 2, 4 + x.1.length) from rfl) h) (Nat.le_refl _) (by omega) (fun _ z => z)
theorem okT_nil : okT [] := ⟨Nat.zero_le _, fun c h => by cases h⟩
/-! ### end -/
theorem endC {cs : CS} {n : Nat} {tb : TT} (hlen : tb.length = n) (hn : n ≤ 255) (htb : ∀ j, j < n → tb.getD j 0 < 256 ∧ cs.1 39 j = nI (tb.getD j 0)) : ∀ (m i q fu : Nat), i + m = n → m < fu → 16 ≤ q → q ≤ 2 * 255 + 16 → TA (fc q 255 + 2) (fs q 255 + 259) (wf_end_31 fu cs (nI n) (nI i) (tb.take i, q)) (fun a => a = (1, uC (uV cs 0 2 (0, 0, tb)) 0 1 0)) := by
  intro m
  have fin : ∀ (i q : Nat), i = n → TA (fc q 255 + 2) (fs q 255 + 259) (wf_end_62 cs (tb.take i, q)) (fun a => a = (1, uC (uV cs 0 2 (0, 0, tb)) 0 1 0)) := by
    intro i q hi
    subst hi
    have e : tb.take i = tb := by rw [← hlen]; exact List.take_length
    rw [e]
    refine TA_mono (TA_toS (c0 := 0) (s0 := 0) (n := 255) (show tb.length ≤ 255 by omega) ?_) (by omega) (by omega) (fun _ z => z)
    exact TA_some (Nat.zero_le _) (Nat.zero_le _) rfl
  induction m with
  | zero =>
    intro i q fu hi hf hq hq2
    obtain ⟨g, rfl⟩ : ∃ g, fu = g + 1 := ⟨fu - 1, by omega⟩
    exact TA_jbt (nI_le (by omega) (by omega)) (fin i q (by omega))
  | succ m ih =>
    intro i q fu hi hf hq hq2
    obtain ⟨g, rfl⟩ : ∃ g, fu = g + 1 := ⟨fu - 1, by omega⟩
    obtain ⟨hb, hc⟩ := htb i (by omega)
    refine TA_jbf (nI_ge (by omega) (by omega)) (TA_jbf (nI_ge (b := 260) (by omega) (by decide)) (TA_jg (inb_of (by omega) (by decide)) ?_))
    rw [nI_clamp (by omega), hc]
    refine TA_appC (x := (tb.take i, q)) hb hq hq2 (by rw [List.length_take]; omega) (by decide) (fun q' h1 h2 => TA_jn ?_)
    rw [nI_1]
    have e : tb.take i ++ [tb.getD i 0] = tb.take (i + 1) := by
      rw [List.take_succ, List.getD_eq_getElem?_getD, List.getElem?_eq_getElem (by omega)]
      rfl
    show TA _ _ (wf_end_31 g cs (nI n) (nI (i + 1)) (tb.take i ++ [tb.getD i 0], q')) _
    rw [e]
    exact ih (i + 1) q' g (by omega) (by omega) h1 h2
theorem endM {n : Nat} {tb : TT} (hn : n ≤ 255) : ∀ (m i fu : Nat) (ms : GS), i + m = n → m < fu → (∀ j, j < n → ms.1 1 j = nI (tb.getD j 0)) → (∀ j, j < i → ms.1 2 j = nI (tb.getD j 0)) → Tr (mo_end_28 fu ms (nI n) (nI i)) (fun a => a.1 = 1 ∧ a.2.1 0 2 = nI n ∧ a.2.1 0 1 = 0 ∧ (∀ j, j < n → a.2.1 2 j = nI (tb.getD j 0)) ∧ a.2.2 = ms.2 ∧ (∀ i, i ≠ 0 → i ≠ 2 → a.2.1 i = ms.1 i) ∧ ∀ k, k ≠ 1 → k ≠ 2 → a.2.1 0 k = ms.1 0 k) := by
  intro m
  induction m with
  | zero =>
    intro i fu ms hi hf h1 h2
    obtain ⟨g, rfl⟩ : ∃ g, fu = g + 1 := ⟨fu - 1, by omega⟩
    refine Tr_jbt (nI_le (by omega) (by omega)) (Tr_jn (Tr_jn (Tr_some ⟨rfl, ?_, uI_at, fun j hj => ?_, rfl, fun i g1 g2 => ?_, fun k g1 g2 => ?_⟩)))
    · rw [uI_ne (by decide), uI_at]
    · rw [uI_off1 (by decide), uI_off1 (by decide)]; exact h2 j (by omega)
    · rw [uI_off1 g1, uI_off1 g1]
    · rw [uI_ne g1, uI_ne g2]
  | succ m ih =>
    intro i fu ms hi hf h1 h2
    obtain ⟨g, rfl⟩ : ∃ g, fu = g + 1 := ⟨fu - 1, by omega⟩
    refine Tr_jbf (nI_ge (by omega) (by omega)) (Tr_jg (inb_of (by omega) (by decide)) (Tr_jg (inb_of (by omega) (by decide)) (Tr_jn (Tr_jn ?_))))
    rw [nI_clamp (by omega), nI_1]
    refine Tr_mono (ih (i + 1) g (uI ms 2 i (ms.1 1 i)) (by omega) (by omega) (fun j hj => ?_) (fun j hj => ?_)) (fun a ⟨q1, q2, q3, q4, q5, q6, q7⟩ => ⟨q1, q2, q3, q4, q5, fun i' g1 g2 => ?_, fun k g1 g2 => ?_⟩)
    · rw [uI_off1 (by decide)]; exact h1 j hj
    · by_cases e : j = i
      · subst e; rw [uI_at]; exact h1 j (by omega)
      · rw [uI_ne e]; exact h2 j (by omega)
    · rw [q6 i' g1 g2, uI_off1 g2]
    · rw [q7 k g1 g2, uI_off1 (by decide)]
theorem p_end {tp n u h : Nat} {cs : CS} {ms : GS} (hR : RS tp n u h cs ms) (p0 : Int32) : TA 34 1300 (f_wf_end cs p0) (fun a => Tr (f_mo_end ms p0) (fun b => a.1 = b.1 ∧ (∃ tp', RS tp' n u h a.2 b.2) ∧ a.2.2 40 = cs.2 40)) := by
  obtain ⟨hT, hrest⟩ := id hR
  obtain ⟨h1, h2, h3, h4, h5⟩ := hT
  have no : Tr (some ((0 : Int32), uI ms 0 0 0)) (fun b => 0 = b.1 ∧ (∃ tp', RS tp' n u h cs b.2) ∧ cs.2 40 = cs.2 40) := Tr_some ⟨rfl, ⟨tp, hR⟩, rfl⟩
  refine TA_jb (fun c1 => TA_some (Nat.zero_le _) (Nat.zero_le _) (Tr_jn (Tr_jbt c1 no))) (fun c1 => ?_)
  refine TA_jb (fun c2 => TA_some (Nat.zero_le _) (Nat.zero_le _) (Tr_jn (Tr_jbf c1 (Tr_jbt (by rw [show (uI ms 0 0 0).1 0 1 = nI tp from h2, ← h1]; exact c2) no)))) (fun c2 => ?_)
  refine TA_jb (fun c3 => ?_) (fun c3 => TA_some (Nat.zero_le _) (Nat.zero_le _) (Tr_jn (Tr_jbf c1 (Tr_jbf (by rw [show (uI ms 0 0 0).1 0 1 = nI tp from h2, ← h1]; exact c2) (Tr_jbf c3 no)))))
  obtain ⟨k, hk, rfl⟩ := nI_of c1
  rw [h1] at c2
  have hk1 : k ≤ tp := by rw [nI_ltI (by omega) hk] at c2; omega
  have hk2 : k ≤ 255 := (nI_leI (b := 255) hk (by decide)).mp c3
  have hB : ∃ tb : TT, tb.length = k ∧ ∀ j, j < k → tb.getD j 0 < 256 ∧ cs.1 39 j = nI (tb.getD j 0) ∧ ms.1 1 j = nI (tb.getD j 0) := by
    have hx : ∀ j : Nat, ∃ b : Nat, j < tp → b < 256 ∧ cs.1 39 j = nI b ∧ ms.1 1 j = nI b := fun j => by
      by_cases hj : j < tp
      · obtain ⟨b, q⟩ := h5 j hj
        exact ⟨b, fun _ => q⟩
      · exact ⟨0, fun z => absurd z hj⟩
    obtain ⟨f, hf⟩ := Classical.axiomOfChoice hx
    refine ⟨(List.range k).map f, by simp, fun j hj => ?_⟩
    have e : ((List.range k).map f).getD j 0 = f j := by
      rw [List.getD_eq_getElem?_getD, List.getElem?_map, List.getElem?_range hj]
      rfl
    rw [e]
    exact hf j (by omega)
  obtain ⟨tb, htl, htb⟩ := hB
  have hA := endC htl hk2 (fun j hj => ⟨(htb j hj).1, (htb j hj).2.1⟩) k 0 16 FU (by omega) (FU_lt (by omega)) (by decide) (by decide)
  refine TA_mono (TA_ja (k := 2) (n := 20) hA) (by decide) (by decide) (fun a ha => ?_)
  subst ha
  refine Tr_jn (Tr_jbf c1 (Tr_jbf (by rw [show (uI ms 0 0 0).1 0 1 = nI tp from h2]; exact c2) (Tr_jbt c3 ?_)))
  refine Tr_mono (endM (tb := tb) hk2 k 0 FU (uI ms 0 0 0) (by omega) (FU_lt (by omega)) (fun j hj => (htb j hj).2.2) (fun j hj => absurd hj (Nat.not_lt_zero j))) (fun b ⟨q1, q2, q3, q4, q5, q6, q7⟩ => ⟨q1.symm, ⟨0, ?_⟩, rfl⟩)
  have w7 : ∀ i, i ≠ 0 → i ≠ 2 → b.2.1 i = ms.1 i := fun i g1 g2 => (q6 i g1 g2).trans (uI_off1 g1)
  have w8 : ∀ k, k ≠ 1 → k ≠ 2 → k ≠ 0 → b.2.1 0 k = ms.1 0 k := fun k g1 g2 g3 => (q7 k g1 g2).trans (uI_ne g3)
  have w2 : b.2.2 = ms.2 := q5
  obtain ⟨hCut, hHome, hArgs, hAns⟩ := hrest
  refine ⟨⟨rfl, q3, by decide, by decide, fun j hj => absurd hj (Nat.not_lt_zero j)⟩, ⟨⟨?_, ?_⟩, ?_, ?_⟩, ?_, ?_, ?_⟩
  · show tb.length ≤ 255
    omega
  · intro c hc
    have hc : c ∈ tb := hc
    obtain ⟨j, hj, e⟩ := List.getElem_of_mem hc
    have h9 := (htb j (by omega)).1
    rw [List.getD_eq_getElem?_getD, List.getElem?_eq_getElem hj] at h9
    rw [← e]
    exact h9
  · show b.2.1 0 2 = nI tb.length
    rw [htl]
    exact q2
  · intro j hj
    exact q4 j (by rw [← htl]; exact hj)
  · unfold Rhome at hHome ⊢
    rw [w8 18 (by decide) (by decide) (by decide), w8 19 (by decide) (by decide) (by decide)]
    exact hHome
  · unfold Rargs GRr at hArgs ⊢
    rw [w8 7 (by decide) (by decide) (by decide), w8 8 (by decide) (by decide) (by decide), w8 3 (by decide) (by decide) (by decide), w7 9 (by decide) (by decide), w7 4 (by decide) (by decide), w7 5 (by decide) (by decide), w7 6 (by decide) (by decide), w7 7 (by decide) (by decide), w7 8 (by decide) (by decide), w7 10 (by decide) (by decide), w7 11 (by decide) (by decide), w7 3 (by decide) (by decide), w2]
    obtain ⟨a1, a2, a3, a4, a5, a6, a7, a8⟩ := hArgs
    refine ⟨a1, a2, a3, a4, a5, a6, fun i hi => ?_, a8⟩
    have e : ∀ k, (uC (uV cs 0 2 (0, 0, tb)) 0 1 0).1 (9 + i) k = cs.1 (9 + i) k := fun k => congrFun (uC_off (by omega)) k
    simp only [e]
    exact a7 i hi
  · unfold Rans Rtold at hAns ⊢
    rw [w8 49 (by decide) (by decide) (by decide), w8 50 (by decide) (by decide) (by decide), w8 32 (by decide) (by decide) (by decide), w8 33 (by decide) (by decide) (by decide), w8 36 (by decide) (by decide) (by decide), w7 17 (by decide) (by decide), w7 19 (by decide) (by decide), w7 20 (by decide) (by decide), w7 21 (by decide) (by decide), w7 3 (by decide) (by decide), w2]
    exact hAns
