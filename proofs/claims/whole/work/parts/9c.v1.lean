/-! ### class and reference, step by step -/
def Rl (k : Nat) (cs : CS) (ms : GS) (C S : Nat) : Prop := ∃ tp n u h, RS tp n u h cs ms ∧ Dj n cs ∧ h ≤ 255 * k ∧ C + 4 * PH (cs.2 40) u ≤ 1100 * k ∧ S + 40 * PH (cs.2 40) u ≤ 13500 * k ∧ k ≤ 512
section RL
variable {k C S : Nat} {cs : CS} {ms : GS}
theorem Rl_n30 {tp n u h : Nat} (hR : RS tp n u h cs ms) : n ≤ 30 := hR.2.2.2.1.2.2.1
/-- a step -/
theorem Rl_go {u h tp' n' u' h' c s : Nat} {cs' : CS} {ms' : GS} (hk : k < 512) (hR : RS tp' n' u' h' cs' ms') (hD : Dj n' cs') (hh : h ≤ 255 * k) (hC : C + 4 * PH (cs.2 40) u ≤ 1100 * k) (hS : S + 40 * PH (cs.2 40) u ≤ 13500 * k) (h1 : h' ≤ h + 255) (h2 : c + 4 * PH (cs'.2 40) u' ≤ 4 * PH (cs.2 40) u + 1100) (h3 : s + 40 * PH (cs'.2 40) u' ≤ 40 * PH (cs.2 40) u + 13500) : Rl (k + 1) cs' ms' (C + c) (S + s) :=
  ⟨tp', n', u', h', hR, hD, by omega, by omega, by omega, by omega⟩
theorem Rl_same {tp n u h tp' h' : Nat} {cs' : CS} {ms' : GS} (hk : k < 512) (hR0 : RS tp n u h cs ms) (hR : RS tp' n u h' cs' ms') (hD : Dj n cs) (hG : Gs cs cs') (hh : h ≤ 255 * k) (hC : C + 4 * PH (cs.2 40) u ≤ 1100 * k) (hS : S + 40 * PH (cs.2 40) u ≤ 13500 * k) (h1 : h' ≤ h + 255) (h40 : cs'.2 40 = cs.2 40) : Rl (k + 1) cs' ms' C S :=
  Rl_go (c := 0) (s := 0) hk hR (Gs_Dj hG (Rl_n30 hR0) hD) hh hC hS h1 (by rw [h40]; omega) (by rw [h40]; omega)
theorem l_feed (H : Rl k cs ms C S) (hk : k < 512) (p0 p1 p2 p3 p4 : Int32) : ∃ r cs' ms', f_wf_feed cs p0 p1 p2 p3 p4 = some (r, cs') ∧ f_mo_feed ms p0 p1 p2 p3 p4 = some (r, ms') ∧ Rl (k + 1) cs' ms' C S := by
  obtain ⟨tp, n, u, h, hR, hD, hh, hC, hS, -⟩ := H
  obtain ⟨r, cs', ms', tp', e1, e2, hR', e3⟩ := p_feed hR p0 p1 p2 p3 p4
  exact ⟨r, cs', ms', e1, e2, Rl_same hk hR hR' hD (g_feed (p0 := p0) (p1 := p1) (p2 := p2) (p3 := p3) (p4 := p4) _ e1) hh hC hS (Nat.le_add_right _ _) (by rw [e3])⟩
theorem l_end (H : Rl k cs ms C S) (hk : k < 512) (p0 : Int32) : ∃ r cs' ms' c1 s1, f_wf_end cs p0 = some ((r, cs'), c1, s1) ∧ f_mo_end ms p0 = some (r, ms') ∧ Rl (k + 1) cs' ms' (C + c1) (S + s1) := by
  obtain ⟨tp, n, u, h, hR, hD, hh, hC, hS, -⟩ := H
  obtain ⟨⟨r, cs'⟩, c1, s1, e1, hc1, hs1, ⟨r', ms'⟩, e2, e3, ⟨tp', hR'⟩, e4⟩ := p_end hR p0
  have e3 : r = r' := e3
  subst e3
  have hG := g_end (p := p0) _ e1
  have e4 : cs'.2 40 = cs.2 40 := e4
  exact ⟨r, cs', ms', c1, s1, e1, e2, Rl_go hk hR' (Gs_Dj hG (Rl_n30 hR) hD) hh hC hS (Nat.le_add_right _ _) (by rw [e4]; omega) (by rw [e4]; omega)⟩
theorem l_home (H : Rl k cs ms C S) (hk : k < 512) (p0 p1 : Int32) : ∃ r cs' ms', f_wf_home cs p0 p1 = some (r, cs') ∧ f_mo_home ms p0 p1 = some (r, ms') ∧ Rl (k + 1) cs' ms' C S := by
  obtain ⟨tp, n, u, h, hR, hD, hh, hC, hS, -⟩ := H
  obtain ⟨⟨r, cs'⟩, e1, ⟨r', ms'⟩, e2, e3, hR', e4⟩ := p_home hR p0 p1
  have e3 : r = r' := e3
  subst e3
  have e4 : cs'.2 = cs.2 := e4
  exact ⟨r, cs', ms', e1, e2, Rl_same hk hR hR' hD (g_home (p0 := p0) (p1 := p1) _ e1) hh hC hS (Nat.le_add_right _ _) (by rw [e4])⟩
theorem l_range (H : Rl k cs ms C S) (hk : k < 512) (p0 p1 : Int32) : ∃ r cs' ms', f_wf_range cs p0 p1 = some (r, cs') ∧ f_mo_range ms p0 p1 = some (r, ms') ∧ Rl (k + 1) cs' ms' C S := by
  obtain ⟨tp, n, u, h, hR, hD, hh, hC, hS, -⟩ := H
  obtain ⟨⟨r, cs'⟩, e1, ⟨r', ms'⟩, e2, e3, hR', e4⟩ := p_range hR p0 p1
  have e3 : r = r' := e3
  subst e3
  have e4 : cs'.2 = cs.2 := e4
  exact ⟨r, cs', ms', e1, e2, Rl_same hk hR hR' hD (g_range (p0 := p0) (p1 := p1) _ e1) hh hC hS (Nat.le_add_right _ _) (by rw [e4])⟩
theorem l_argument (H : Rl k cs ms C S) (hk : k < 512) (p0 p1 : Int32) : ∃ ms' t, f_mo_argument ms p0 p1 = some ms' ∧ f_mo_thrown ms' = some t ∧ ((∃ cs', t = 0 ∧ f_wf_argument cs p0 p1 = some cs' ∧ Rl (k + 1) cs' ms' C S) ∨ (t = 1 ∧ (¬ (p0 = 0 ∧ p1 = 0) ∧ (p0 < 1 ∨ p1 < 1)) ∧ Rl (k + 1) cs ms' (C + 1) (S + 6)) ∨ (t = 2 ∧ ((p0 = 0 ∧ p1 = 0) ∨ (1 ≤ p0 ∧ 1 ≤ p1)) ∧ f_ar_addF cs p0 p1 = some 0 ∧ Rl (k + 1) cs ms' (C + 1) (S + 6))) := by
  obtain ⟨tp, n, u, h, hR, hD, hh, hC, hS, -⟩ := H
  obtain ⟨ms', e1, e2⟩ := p_argument hR p0 p1
  refine ⟨ms', ms'.1 0 0, e1, rfl, ?_⟩
  rcases e2 with ⟨t, cs', n', u', e3, hR', e4⟩ | ⟨t, hx, hR'⟩ | ⟨t, hx, hf, hR'⟩
  · obtain ⟨hn, hD'⟩ := Ga_Dj hR.2.2.2.1 hR'.2.2.2.1 (g_argument (p0 := p0) (p1 := p1) _ e3) hD
    exact Or.inl ⟨cs', t, e3, Rl_go (c := 0) (s := 0) hk hR' hD' hh hC hS (Nat.le_add_right _ _) (by rw [e4]; omega) (by rw [e4]; omega)⟩
  · exact Or.inr (Or.inl ⟨t, hx, Rl_go hk hR' hD hh hC hS (Nat.le_add_right _ _) (by omega) (by omega)⟩)
  · exact Or.inr (Or.inr ⟨t, hx, hf, Rl_go hk hR' hD hh hC hS (Nat.le_add_right _ _) (by omega) (by omega)⟩)
theorem l_put (H : Rl k cs ms C S) (hk : k < 512) (p0 p1 p2 : Int32) : nn (FP.dmul (FP.i2d p2) (4593671619917905920 : UInt64)) = true ∧ ∃ r cs' ms' c1 s1, f_wf_put cs p0 p1 (FP.dmul (FP.i2d p2) (4593671619917905920 : UInt64)) = some ((r, cs'), c1, s1) ∧ f_mo_put ms p0 p1 (FP.dmul (FP.i2d p2) (4593671619917905920 : UInt64)) = some (r, ms') ∧ Rl (k + 1) cs' ms' (C + c1) (S + s1) := by
  obtain ⟨tp, n, u, h, hR, hD, hh, hC, hS, -⟩ := H
  obtain ⟨hn, ⟨r, cs'⟩, c1, s1, e1, hc1, hs1, ⟨r', ms'⟩, e2, e3, hR', e4⟩ := p_put hR p0 p1 p2
  have e3 : r = r' := e3
  subst e3
  have e4 : PH (cs'.2 40) u ≤ PH (cs.2 40) u + 1 := e4
  exact ⟨hn, r, cs', ms', c1, s1, e1, e2, Rl_go hk hR' (Gs_Dj (g_put _ e1) (Rl_n30 hR) hD) hh hC hS (Nat.le_add_right _ _) (by omega) (by omega)⟩
theorem l_putText (H : Rl k cs ms C S) (hk : k < 512) (p0 : Int32) : ∃ r cs' ms' c1 s1, f_wf_putText cs p0 = some ((r, cs'), c1, s1) ∧ f_mo_putText ms p0 = some (r, ms') ∧ Rl (k + 1) cs' ms' (C + c1) (S + s1) := by
  obtain ⟨tp, n, u, h, hR, hD, hh, hC, hS, -⟩ := H
  obtain ⟨⟨r, cs'⟩, c1, s1, e1, hc1, hs1, ⟨r', ms'⟩, e2, e3, ⟨h', hh', hR'⟩, e4⟩ := p_putText hR (by omega) p0
  have e3 : r = r' := e3
  subst e3
  have e4 : PH (cs'.2 40) u ≤ PH (cs.2 40) u + 1 := e4
  exact ⟨r, cs', ms', c1, s1, e1, e2, Rl_go hk hR' (Gs_Dj (g_putText _ e1) (Rl_n30 hR) hD) hh hC hS hh' (by omega) (by omega)⟩
theorem l_call (H : Rl k cs ms C S) (hk : k < 512) (p0 : Int32) : ∃ r ms' t, f_mo_call ms p0 = some (r, ms') ∧ f_mo_thrown ms' = some t ∧ ((∃ cs' c1 s1, t = 0 ∧ f_wf_call cs p0 = some ((r, cs'), c1, s1) ∧ Rl (k + 1) cs' ms' (C + c1) (S + s1)) ∨ (t = 1 ∧ f_wf_isFor p0 (cs.1 1 5) = some 0 ∧ Rl (k + 1) cs ms' (C + 1) (S + 6))) := by
  obtain ⟨tp, n, u, h, hR, hD, hh, hC, hS, -⟩ := H
  rcases p_call hR (by omega) hD p0 with ⟨ms', e1, t, hf, hR'⟩ | ⟨⟨r, cs'⟩, c1, s1, e1, hc1, hs1, ⟨r', ms'⟩, e2, e3, ⟨h', hh', hR'⟩, t⟩
  · exact ⟨0, ms', ms'.1 0 0, e1, rfl, Or.inr ⟨t, hf, Rl_go hk hR' hD hh hC hS (Nat.le_add_right _ _) (by omega) (by omega)⟩⟩
  · have e3 : r = r' := e3
    subst e3
    have p0' : PH (cs'.2 40) 0 = 0 := rfl
    exact ⟨r, ms', ms'.1 0 0, e2, rfl, Or.inl ⟨cs', c1, s1, t, e1, Rl_go hk hR' (fun i j _ hj => absurd hj (Nat.not_lt_zero j)) hh hC hS (by omega) (by rw [p0']; omega) (by rw [p0']; omega)⟩⟩
theorem l_size (H : Rl k cs ms C S) (hk : k < 512) (p0 : Int32) : ∃ r ms', f_wf_size cs p0 = some r ∧ f_mo_size ms p0 = some (r, ms') ∧ Rl (k + 1) cs ms' C S := by
  obtain ⟨tp, n, u, h, hR, hD, hh, hC, hS, -⟩ := H
  obtain ⟨r, e1, ⟨r', ms'⟩, e2, e3, hR'⟩ := p_size hR p0
  have e3 : r = r' := e3
  subst e3
  exact ⟨r, ms', e1, e2, Rl_same hk hR hR' hD Gs_refl hh hC hS (Nat.le_add_right _ _) rfl⟩
theorem l_look (H : Rl k cs ms C S) (hk : k < 512) (p0 p1 : Int32) : ∃ r cs' ms', f_wf_look cs p0 p1 = some (r, cs') ∧ f_mo_look ms p0 p1 = some (r, ms') ∧ Rl (k + 1) cs' ms' C S := by
  obtain ⟨tp, n, u, h, hR, hD, hh, hC, hS, -⟩ := H
  obtain ⟨⟨r, cs'⟩, e1, ⟨r', ms'⟩, e2, e3, hR', e4⟩ := p_look hR (by omega) p0 p1
  have e3 : r = r' := e3
  subst e3
  exact ⟨r, cs', ms', e1, e2, Rl_same hk hR hR' hD (g_look (p0 := p0) (p1 := p1) _ e1) hh hC hS (Nat.le_add_right _ _) e4⟩
theorem l_value (H : Rl k cs ms C S) (hk : k < 512) : ∃ x y ms', f_wf_value cs = some x ∧ f_mo_value ms = some (y, ms') ∧ (x = y ∨ Op.cmpValue (FP.dcmp x y) .l = 0) ∧ Rl (k + 1) cs ms' C S := by
  obtain ⟨tp, n, u, h, hR, hD, hh, hC, hS, -⟩ := H
  obtain ⟨x, e1, ⟨y, ms'⟩, e2, e3, hR'⟩ := p_value hR
  exact ⟨x, y, ms', e1, e2, e3, Rl_same hk hR hR' hD Gs_refl hh hC hS (Nat.le_add_right _ _) rfl⟩
theorem l_letter (H : Rl k cs ms C S) (hk : k < 512) (p0 : Int32) : ∃ r ms', f_wf_letter cs p0 = some r ∧ f_mo_letter ms p0 = some (r, ms') ∧ Rl (k + 1) cs ms' C S := by
  obtain ⟨tp, n, u, h, hR, hD, hh, hC, hS, -⟩ := H
  obtain ⟨r, e1, ⟨r', ms'⟩, e2, e3, hR'⟩ := p_letter hR p0
  have e3 : r = r' := e3
  subst e3
  exact ⟨r, ms', e1, e2, Rl_same hk hR hR' hD Gs_refl hh hC hS (Nat.le_add_right _ _) rfl⟩
end RL
theorem RS_start : RS 0 0 0 0 cs0 ms0 := by
  refine ⟨⟨rfl, rfl, Nat.zero_le _, rfl, fun j hj => absurd hj (Nat.not_lt_zero j)⟩, ⟨⟨by decide, fun x hx => by cases hx⟩, rfl, fun j hj => absurd hj (Nat.not_lt_zero j)⟩, ⟨rfl, rfl⟩, ⟨rfl, rfl, Nat.zero_le _, rfl, rfl, Nat.zero_le _, fun i hi => absurd hi (Nat.not_lt_zero i), fun q hq => ?_, rfl, rfl, rfl, fun j hj => absurd hj (Nat.not_lt_zero j)⟩, 1, 1, rfl, rfl, rfl, rfl, Nat.le_refl _, Nat.le_refl _, by decide, ⟨rfl, fun _ => rfl, fun z => absurd (show (0 : Int32) = 2 from z) (by decide), fun z => absurd rfl z⟩, Or.inl ⟨by decide, rfl, rfl, rfl⟩⟩
  show (if (8 = 1 ∧ (q = 7 ∨ q = 8)) ∨ (8 = 2 ∧ (q = 1 ∨ q = 2)) then (1 : Int32) else 0) = 0
  exact if_neg (by omega)
theorem l_all : LRel Rl :=
  ⟨⟨0, 0, 0, 0, RS_start, fun i j _ hj => absurd hj (Nat.not_lt_zero j), Nat.zero_le _, Nat.le_refl 0, Nat.le_refl 0, Nat.zero_le _⟩,
   fun ⟨_, _, _, _, _, _, _, h1, h2, h3⟩ => ⟨by omega, by omega⟩,
   fun ⟨tp, n, u, h, hR, hD, hh, hC, hS, _⟩ hk => Rl_same hk hR hR hD Gs_refl hh hC hS (Nat.le_add_right _ _) rfl,
   l_feed, l_end, l_home, l_argument, l_range, l_put, l_putText, l_call, fun H hk p _ => l_size H hk p, l_look, l_value, l_letter⟩
