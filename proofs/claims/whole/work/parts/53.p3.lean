theorem Rargs_mv {n u h : Nat} {cs cs' : CS} {ms ms' : GS} (hR : Rargs n u h cs ms) (c5 : cs'.1 1 5 = cs.1 1 5) (c4 : cs'.1 1 4 = cs.1 1 4) (cg : ∀ i, 8 ≤ i → i < 39 → cs'.1 i = cs.1 i) (cv : cs'.2 1 0 = cs.2 1 0) (cvv : cs'.2 40 = cs.2 40) (m7 : ms'.1 0 7 = ms.1 0 7) (m8 : ms'.1 0 8 = ms.1 0 8) (m3 : ms'.1 0 3 = ms.1 0 3) (n3 : ms'.1 3 = ms.1 3) (n4 : ms'.1 4 = ms.1 4) (n5 : ms'.1 5 = ms.1 5) (n6 : ms'.1 6 = ms.1 6) (n7 : ms'.1 7 = ms.1 7) (n8 : ms'.1 8 = ms.1 8) (n9 : ms'.1 9 = ms.1 9) (n10 : ms'.1 10 = ms.1 10) (n11 : ms'.1 11 = ms.1 11) (d : ms'.2.1 12 = ms.2.1 12) : Rargs n u h cs' ms' := by
  obtain ⟨a1, a2, a3, a4, a5, a6, a7, a8, a9, a10, a11, a12⟩ := hR
  refine ⟨c5.trans a1, m7.trans a2, a3, c4.trans a4, m8.trans a5, a6, fun i hi => ?_, fun k hk => by rw [cg 8 (by decide) (by decide)]; exact a8 k hk, cv.trans a9, m3.trans a10, by rw [n9]; exact a11, fun j hj => by rw [cvv, n9, n10, n11, n3, d]; exact a12 j hj⟩
  have g := a7 i hi
  unfold GRr at g ⊢
  rw [cg (9 + i) (by omega) (by omega), n4, n5, n6, n7, n8]
  exact g
theorem cell_eq (p q : Int32) : (cellB p q ∧ f_wf_isCell p q = some 1 ∧ f_mo_isCell p q = some 1) ∨ (¬ cellB p q ∧ f_wf_isCell p q = some 0 ∧ f_mo_isCell p q = some 0) := by
  have e : f_mo_isCell p q = f_wf_isCell p q := rfl
  rw [e]
  unfold f_wf_isCell cellB
  by_cases h1 : p < 1
  · exact Or.inr ⟨fun h => absurd h.1 (Int32.not_le.mpr h1), e_bt h1 rfl, e_bt h1 rfl⟩
  · by_cases h2 : 1048576 < p
    · exact Or.inr ⟨fun h => absurd h.2.1 (Int32.not_le.mpr h2), e_bf h1 (e_bt h2 rfl), e_bf h1 (e_bt h2 rfl)⟩
    · by_cases h3 : q < 1
      · exact Or.inr ⟨fun h => absurd h.2.2.1 (Int32.not_le.mpr h3), e_bf h1 (e_bf h2 (e_bt h3 rfl)), e_bf h1 (e_bf h2 (e_bt h3 rfl))⟩
      · by_cases h4 : 16384 < q
        · exact Or.inr ⟨fun h => absurd h.2.2.2 (Int32.not_le.mpr h4), e_bf h1 (e_bf h2 (e_bf h3 (e_bt h4 rfl))), e_bf h1 (e_bf h2 (e_bf h3 (e_bt h4 rfl)))⟩
        · exact Or.inl ⟨⟨Int32.not_lt.mp h1, Int32.not_lt.mp h2, Int32.not_lt.mp h3, Int32.not_lt.mp h4⟩, e_bf h1 (e_bf h2 (e_bf h3 (e_bf h4 rfl))), e_bf h1 (e_bf h2 (e_bf h3 (e_bf h4 rfl)))⟩
theorem p_home {tp n u h : Nat} {cs : CS} {ms : GS} (hR : RS tp n u h cs ms) (p0 p1 : Int32) : Tr (f_wf_home cs p0 p1) (fun a => Tr (f_mo_home ms p0 p1) (fun b => a.1 = b.1 ∧ RS tp n u h a.2 b.2 ∧ a.2.2 = cs.2)) := by
  rcases cell_eq p0 p1 with ⟨hc, e1, e2⟩ | ⟨hc, e1, e2⟩
  · refine Tr_jce e1 (Tr_jbf (by decide) (Tr_jn (Tr_jn (Tr_some (Tr_jn (Tr_jce e2 (Tr_jbf (by decide) (Tr_jn (Tr_jn (Tr_some ⟨rfl, ?_, rfl⟩)))))))))) 
    obtain ⟨h1, h2, h3, h4, h5⟩ := hR
    exact ⟨h1, h2, ⟨rfl, rfl⟩, Rargs_mv h4 rfl rfl (fun i g1 g2 => by rw [uC_off (by omega), uC_off (by omega)]) rfl rfl rfl rfl rfl rfl rfl rfl rfl rfl rfl rfl rfl rfl rfl, h5⟩
  · exact Tr_jce e1 (Tr_jbt rfl (Tr_some (Tr_jn (Tr_jce e2 (Tr_jbt rfl (Tr_some ⟨rfl, hR, rfl⟩))))))
theorem p_size {tp n u h : Nat} {cs : CS} {ms : GS} (hR : RS tp n u h cs ms) (p0 : Int32) : Tr (f_wf_size cs p0) (fun a => Tr (f_mo_size ms p0) (fun b => a = b.1 ∧ RS tp n u h cs b.2)) := by
  obtain ⟨r, c, h1, h2, h3, h4, -⟩ := hR.2.2.2.2
  exact Tr_jb (fun c => Tr_some (Tr_jn (Tr_jbt c (Tr_some ⟨h1.trans h3.symm, hR⟩)))) (fun c => Tr_some (Tr_jn (Tr_jbf c (Tr_some ⟨h2.trans h4.symm, hR⟩))))
theorem p_value {tp n u h : Nat} {cs : CS} {ms : GS} (hR : RS tp n u h cs ms) : Tr (f_wf_value cs) (fun a => Tr (f_mo_value ms) (fun b => deq a b.1 ∧ RS tp n u h cs b.2)) := by
  obtain ⟨r, c, -, -, -, -, -, -, -, hT, -⟩ := hR.2.2.2.2
  obtain ⟨t1, t2, t3, t4⟩ := hT
  refine Tr_jb (fun c => ?_) (fun c => ?_)
  · refine Tr_jce rfl (Tr_some (Tr_jn (Tr_jbt (t1.trans c) (Tr_some ⟨Or.inl ?_, hR⟩))))
    show FP.i2d _ = FP.i2d (ms.1 0 33)
    rw [(t3 c).2.2.1]
  · refine Tr_some (Tr_jn (Tr_jbf (fun e => c (t1.symm.trans e)) (Tr_jb (fun c0 => ?_) (fun c0 => ?_))))
    · refine Tr_some ⟨Or.inl ?_, hR⟩
      rw [t2 (t1.symm.trans c0)]
      rfl
    · exact Tr_some ⟨(t4 (fun e => c0 (t1.trans e)) c).2, hR⟩
theorem p_letter {tp n u h : Nat} {cs : CS} {ms : GS} (hR : RS tp n u h cs ms) (p0 : Int32) : Tr (f_wf_letter cs p0) (fun a => Tr (f_mo_letter ms p0) (fun b => a = b.1 ∧ RS tp n u h cs b.2)) := by
  obtain ⟨r, c, -, -, -, -, -, -, -, hT, -⟩ := hR.2.2.2.2
  obtain ⟨t1, t2, t3, t4⟩ := hT
  have hlen : ¬ (cs.2 2 3).1 = 2 → (cs.2 2 3).2.2 = [] := fun c2 => by
    by_cases c0 : (cs.2 2 3).1 = 0
    · rw [t2 c0]
    · exact (t4 c0 c2).1
  have hM : ∀ a : Int32, ¬ (cs.2 2 3).1 = 2 → a = -1 → Tr (f_mo_letter ms p0) (fun b => a = b.1 ∧ RS tp n u h cs b.2) := fun a c2 e => Tr_jn (Tr_jbf (fun q => c2 (t1.symm.trans q)) (Tr_some ⟨e, hR⟩))
  refine Tr_jb (fun c1 => Tr_some ?_) (fun c1 => Tr_jce rfl ?_)
  · by_cases c2 : (cs.2 2 3).1 = 2
    · exact Tr_jn (Tr_jbt (t1.trans c2) (Tr_jbt c1 (Tr_some ⟨rfl, hR⟩)))
    · exact hM _ c2 rfl
  · obtain ⟨k, hk, rfl⟩ := nI_of c1
    by_cases c2 : (cs.2 2 3).1 = 2
    · obtain ⟨-, ⟨o1, o2⟩, o3, o4⟩ := t3 c2
      refine Tr_jb (fun c3 => Tr_some (Tr_jn (Tr_jbt (t1.trans c2) (Tr_jbf c1 (Tr_jbt (by show ms.1 0 33 ≤ nI k; rw [o3]; exact c3) (Tr_some ⟨rfl, hR⟩)))))) (fun c3 => ?_)
      have hkl : k < (cs.2 2 3).2.2.length := by rw [nI_leI (by omega) hk] at c3; omega
      refine Tr_jce (a := nI ((cs.2 2 3).2.2.getD k 0)) ?_ (Tr_some (Tr_jn (Tr_jbt (t1.trans c2) (Tr_jbf c1 (Tr_jbf (by show ¬ ms.1 0 33 ≤ nI k; rw [o3]; exact c3) (Tr_jg (inb_of (by omega) (by decide)) (Tr_some ⟨?_, hR⟩)))))))
      · refine e_g (inb_of hkl (by omega)) ?_
        rw [nI_clamp hk]
      · show _ = ms.1 17 (nI k).toNatClampNeg
        rw [nI_clamp hk, o4 k hkl]
    · rw [hlen c2]
      exact Tr_jbt (nI_le (Nat.zero_le _) hk) (Tr_some (hM _ c2 rfl))
theorem grid_at {n u h : Nat} {cs : CS} {ms : GS} (hA : Rargs n u h cs ms) (i : Nat) (hi : i < n) : f_ar_grid cs (nI i) = some (9 + i) := by
  obtain ⟨a1, a2, a3, -⟩ := hA
  refine e_bf (nI_pos (by omega)) (e_bf (by rw [a1]; exact nI_ge hi (by omega)) (e_bf (nI_ge (b := 30) (by omega) (by decide)) (e_g (inb_of (by omega) (by decide)) ?_)))
  show some (9 + (nI i).toNatClampNeg) = _
  rw [nI_clamp (by omega)]
theorem grid_no {n u h : Nat} {cs : CS} {ms : GS} (hA : Rargs n u h cs ms) (i : Nat) (hi : n ≤ i) (h31 : i < 2 ^ 31) : f_ar_grid cs (nI i) = some 8 := by
  obtain ⟨a1, a2, a3, -⟩ := hA
  exact e_bf (nI_pos h31) (e_bt (by rw [a1]; exact nI_le hi h31) rfl)
theorem nI_pre {n : Nat} (h : 0 < n) : nI n - 1 = nI (n - 1) := by
  obtain ⟨m, rfl⟩ : ∃ m, n = m + 1 := ⟨n - 1, by omega⟩
  exact nI_pred m
/-- the last argument's grid, or the absent one -/
theorem last_grid {n u h : Nat} {cs : CS} {ms : GS} (hA : Rargs n u h cs ms) : (n = 0 ∧ f_ar_grid cs (cs.1 1 5 - 1) = some 8) ∨ (0 < n ∧ f_ar_grid cs (cs.1 1 5 - 1) = some (9 + (n - 1))) := by
  rcases Nat.eq_zero_or_pos n with h0 | h0
  · refine Or.inl ⟨h0, ?_⟩
    rw [hA.1, h0]
    exact e_bt (by decide) rfl
  · refine Or.inr ⟨h0, ?_⟩
    rw [hA.1, nI_pre h0]
    exact grid_at hA (n - 1) (by omega)
theorem p_range {tp n u h : Nat} {cs : CS} {ms : GS} (hR : RS tp n u h cs ms) (p0 p1 : Int32) : Tr (f_wf_range cs p0 p1) (fun a => Tr (f_mo_range ms p0 p1) (fun b => a.1 = b.1 ∧ RS tp n u h a.2 b.2 ∧ a.2.2 = cs.2)) := by
  obtain ⟨hT, hC, hH, hA, hN⟩ := id hR
  obtain ⟨a1, a2, a3, a4, a5, a6, a7, a8, a9, a10, a11, a12⟩ := id hA
  have hno : ∀ {o : Option (Int32 × CS)}, o = some (0, cs) → Tr (f_mo_range ms p0 p1) (fun b => 0 = b.1 ∧ RS tp n u h cs b.2 ∧ cs.2 = cs.2) → Tr (jc o (fun q1 => jg (isB q1.1) (some (q1.1, q1.2)))) (fun a => Tr (f_mo_range ms p0 p1) (fun b => a.1 = b.1 ∧ RS tp n u h a.2 b.2 ∧ a.2.2 = cs.2)) := fun e hm => Tr_jce e (Tr_jg rfl (Tr_some hm))
  rcases last_grid hA with ⟨h0, e⟩ | ⟨h0, e⟩
  · refine hno (e_c e (e_bt (a8 0 (by decide)) rfl)) (Tr_jn (Tr_jn (Tr_jbt ?_ (Tr_some ⟨rfl, hR, rfl⟩))))
    show ms.1 0 7 - 1 < 0
    rw [a2, h0]
    decide
  · obtain ⟨r, c, f, g1, g2, g3, g4, g5, g6, g7, g8, g9, g10, g11⟩ := a7 (n - 1) (by omega)
    have ev : (uI ms 0 0 0).1 0 7 - 1 = nI (n - 1) := by show ms.1 0 7 - 1 = _; rw [a2]; exact nI_pre h0
    have ecl : (nI (n - 1)).toNatClampNeg = n - 1 := nI_clamp (by omega)
    have hin : inb (nI (n - 1)) 30 = true := inb_of (by omega) (by decide)
    by_cases hr : r = 0
    · refine hno (e_c e (e_bt (by rw [g1, hr]; rfl) rfl)) (Tr_jn (Tr_jn ?_))
      rw [ev]
      refine Tr_jbf (nI_pos (by omega)) (Tr_jg hin (Tr_jbt ?_ (Tr_some ⟨rfl, hR, rfl⟩)))
      show ms.1 4 _ = 0
      rw [ecl, g4, hr]
      rfl
    · have hr1 : ¬ cs.1 (9 + (n - 1)) 0 = 0 := by rw [g1]; exact nI_ne0 (by omega) (by omega)
      have hr2 : ¬ (uI ms 0 0 0).1 4 (nI (n - 1)).toNatClampNeg = 0 := by show ¬ ms.1 4 _ = 0; rw [ecl, g4]; exact nI_ne0 (by omega) (by omega)
      rcases cell_eq p0 p1 with ⟨hc, e1, e2⟩ | ⟨hc, e1, e2⟩
      · have eq1 : (p0 + (uI ms 0 0 0).1 4 (nI (n - 1)).toNatClampNeg) - 1 = (p0 + cs.1 (9 + (n - 1)) 0) - 1 := by show (p0 + ms.1 4 _) - 1 = _; rw [ecl, g4, g1]
        have eq2 : (p1 + (uI ms 0 0 0).1 5 (nI (n - 1)).toNatClampNeg) - 1 = (p1 + cs.1 (9 + (n - 1)) 1) - 1 := by show (p1 + ms.1 5 _) - 1 = _; rw [ecl, g5, g2]
        rcases cell_eq ((p0 + cs.1 (9 + (n - 1)) 0) - 1) ((p1 + cs.1 (9 + (n - 1)) 1) - 1) with ⟨hd, d1, d2⟩ | ⟨hd, d1, d2⟩
        · refine Tr_jce (a := ((1 : Int32), uC (uC (uC cs (9 + (n - 1)) 3 1) (9 + (n - 1)) 4 p0) (9 + (n - 1)) 5 p1)) (e_c e (e_bf hr1 (e_c e1 (e_bf (by decide) (e_c d1 (e_bf (by decide) rfl)))))) (Tr_jg rfl (Tr_some (Tr_jn (Tr_jn ?_))))
          rw [ev]
          refine Tr_jbf (nI_pos (by omega)) (Tr_jg hin (Tr_jbf hr2 (Tr_jce e2 (Tr_jbf (by decide) (Tr_jg hin (Tr_jg hin ?_))))))
          rw [eq1, eq2]
          refine Tr_jce d2 (Tr_jbf (by decide) (Tr_jg hin (Tr_jn (Tr_jg hin (Tr_jn (Tr_some ⟨rfl, ?_, rfl⟩))))))
          rw [ecl]
          have hcs : ∀ i k, i ≠ 9 + (n - 1) → (uC (uC (uC cs (9 + (n - 1)) 3 1) (9 + (n - 1)) 4 p0) (9 + (n - 1)) 5 p1).1 i k = cs.1 i k := fun i k hi => by rw [uC_off hi, uC_off hi, uC_off hi]
          have hck : ∀ k, k < 3 → (uC (uC (uC cs (9 + (n - 1)) 3 1) (9 + (n - 1)) 4 p0) (9 + (n - 1)) 5 p1).1 (9 + (n - 1)) k = cs.1 (9 + (n - 1)) k := fun k hk => by rw [uC_ne (by omega), uC_ne (by omega), uC_ne (by omega)]
          refine ⟨?_, hC, ?_, ?_, ?_⟩
          · obtain ⟨t1, t2, t3, t4, t5⟩ := hT
            refine ⟨(hcs 0 1 (by omega)).trans t1, t2, t3, t4, fun j hj => ?_⟩
            obtain ⟨b, b1, b2, b3⟩ := t5 j hj
            exact ⟨b, b1, (hcs 39 j (by omega)).trans b2, b3⟩
          · exact ⟨(hcs 1 7 (by omega)).trans hH.1, (hcs 1 8 (by omega)).trans hH.2⟩
          · refine ⟨(hcs 1 5 (by omega)).trans a1, a2, a3, (hcs 1 4 (by omega)).trans a4, a5, a6, fun i hi => ?_, fun k hk => (hcs 8 k (by omega)).trans (a8 k hk), a9, a10, a11, a12⟩
            by_cases hin2 : i = n - 1
            · subst hin2
              refine ⟨r, c, f, (hck 0 (by decide)).trans g1, (hck 1 (by decide)).trans g2, (hck 2 (by decide)).trans g3, g4, g5, g6, g7, g8, g9, g10, Or.inr ⟨?_, ?_, ?_, ?_⟩⟩
              · rw [uC_ne (by decide), uC_ne (by decide), uC_at]
              · rw [uC_ne (by decide), uC_at, uI_off1 (by decide), uI_at]
              · rw [uC_at, uI_at]
              · rw [uI_at, uI_off1 (by decide), uI_at]; exact hc
            · obtain ⟨r', c', f', k1, k2, k3, k4, k5, k6, k7, k8, k9, k10, k11⟩ := a7 i hi
              have o : 9 + i ≠ 9 + (n - 1) := by omega
              refine ⟨r', c', f', (hcs _ 0 o).trans k1, (hcs _ 1 o).trans k2, (hcs _ 2 o).trans k3, k4, k5, k6, k7, k8, k9, k10, ?_⟩
              rw [hcs _ 3 o, hcs _ 4 o, hcs _ 5 o, uI_off1 (show (7 : Nat) ≠ 8 by decide), uI_ne hin2, uI_ne hin2]
              exact k11
          · obtain ⟨r', c', k1, k2, k3⟩ := hN
            exact ⟨r', c', (hcs 2 1 (by omega)).trans k1, (hcs 2 2 (by omega)).trans k2, k3⟩
        · refine hno (e_c e (e_bf hr1 (e_c e1 (e_bf (by decide) (e_c d1 (e_bt rfl rfl)))))) (Tr_jn (Tr_jn ?_))
          rw [ev]
          refine Tr_jbf (nI_pos (by omega)) (Tr_jg hin (Tr_jbf hr2 (Tr_jce e2 (Tr_jbf (by decide) (Tr_jg hin (Tr_jg hin ?_))))))
          rw [eq1, eq2]
          exact Tr_jce d2 (Tr_jbt rfl (Tr_some ⟨rfl, hR, rfl⟩))
      · refine hno (e_c e (e_bf hr1 (e_c e1 (e_bt rfl rfl)))) (Tr_jn (Tr_jn ?_))
        rw [ev]
        exact Tr_jbf (nI_pos (by omega)) (Tr_jg hin (Tr_jbf hr2 (Tr_jce e2 (Tr_jbt rfl (Tr_some ⟨rfl, hR, rfl⟩)))))
