/-! ### the call -/
/-- the areas of the arguments lie one behind the other -/
def Dj (n : Nat) (cs : CS) : Prop := ∀ i j, i < j → j < n → aF cs i + aR cs i * aC cs i ≤ aF cs j
theorem Dj_of {n : Nat} {a b : CS} (h : Dj n a) (e : ∀ i, i < n → ∀ k, k < 3 → b.1 (9 + i) k = a.1 (9 + i) k) : Dj n b := by
  intro i j hij hj
  have h1 := h i j hij hj
  unfold aF aR aC at h1 ⊢
  rw [e i (by omega) 0 (by decide), e i (by omega) 1 (by decide), e i (by omega) 2 (by decide), e j hj 2 (by decide)]
  exact h1
def kP (ms : GS) : GS := uI (uD (uI (uI (uI (uI (uI (uI ms 0 0 0) 0 22 0) 0 31 0) 0 30 0) 0 36 (-1)) 0 32 0) 0 34 FP.dconst0) 0 33 0
theorem mo_37 {ms : GS} {p : Int32} : mo_call_37 ms p 0 = cR (kP ms) p := e_n (e_bt rfl (e_n (e_n (e_n (e_n (e_n (e_n (e_n rfl))))))))
theorem mo_32 {ms : GS} {p : Int32} : mo_call_32 ms p = some (0, uI ms 0 0 1) := by
  unfold mo_call_32 mo_call_37
  refine e_n (e_bf ?_ rfl)
  exact (by decide : ¬ (1 : Int32) = 0)
theorem HY_of {tp n u h : Nat} {cs : CS} {ms : GS} (hR : RS tp n u h cs ms) (hh : h ≤ 140000) (hD : Dj n cs) : HY tp n u h (uC cs 1 6 0) (kP ms) := by
  obtain ⟨hT, hC, hH, hA, -⟩ := hR
  have hA2 : Rargs n u h (uC cs 1 6 0) (kP ms) := Rargs_mv hA rfl rfl (fun i h1 h2 => uC_off (by omega)) rfl rfl rfl rfl rfl rfl rfl rfl rfl rfl rfl rfl rfl rfl rfl
  have hD2 : Dj n (uC cs 1 6 0) := Dj_of hD (fun i _ k _ => congrFun (uC_off (by omega)) k)
  refine ⟨⟨hA2, ⟨0, Nat.zero_le _, rfl, rfl⟩, Cf_refl, Ch_refl, hh⟩, ⟨⟨hT.1, hT.2.1, hT.2.2.1, hT.2.2.2.1, hT.2.2.2.2⟩, ⟨hC.1, hC.2.1, hC.2.2⟩, ⟨hH.1, hH.2⟩, rfl, rfl⟩, Or.inl ⟨Nat.zero_le _, rfl, rfl, fun j hj => absurd hj (Nat.not_lt_zero j)⟩, hD2, rfl⟩
theorem p_call {tp n u h : Nat} {cs : CS} {ms : GS} (hR : RS tp n u h cs ms) (hh : h ≤ 140000) (hD : Dj n cs) (p : Int32) : (∃ ms', f_mo_call ms p = some (0, ms') ∧ ms'.1 0 0 = 1 ∧ f_wf_isFor p (cs.1 1 5) = some 0 ∧ RS tp n u h cs ms') ∨ TA (901 + 4 * PH (cs.2 40) u) (13003 + 40 * PH (cs.2 40) u) (f_wf_call cs p) (fun r => Tr (f_mo_call ms p) (fun b => QQ tp h r b)) := by
  obtain ⟨a1, a2, a3, -⟩ := id hR.2.2.2.1
  rcases call_range (p := p) with hp | ⟨k, hk, rfl⟩
  · obtain ⟨g1, g2⟩ := no_range hp
    exact Or.inl ⟨_, (g2 ms).trans mo_32, rfl, g1 _, hR⟩
  · have hm := mo_call_k hk a3 a2
    have hi := if_n k hk n (by omega)
    rw [← a1] at hi
    by_cases ho : okb k n = true
    · rw [if_pos ho] at hm hi
      refine Or.inr ?_
      have hc := cc_all (HY_of hR hh hD) hk (okb_t.mp ho)
      rw [hm, mo_37]
      exact TA_jce hi (TA_jbf (show ¬ (1 : Int32) = 0 by decide) hc)
    · rw [if_neg ho] at hm hi
      exact Or.inl ⟨_, hm.trans mo_32, rfl, hi, hR⟩
