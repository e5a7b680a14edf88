/-! ### INDEX -/
theorem idx_err {tp n u h e : Nat} {cs0 ca : CS} {ms0 ma m : GS} (hs : St tp cs0 ms0) (I : CI n u h cs0 ms0 ca ma) (h1 : 1 ≤ e) (h8 : e ≤ 8) (h22 : m.1 0 22 = nI e) (hm : Ch [22] [] ma m) : RX tp h (bS ca (er e)) m :=
  RX_one (V := er e) hs (Rargs_ch I.1 Cf_refl hm (by decide) (by decide)) I.2.2.1 (Ch_trans I.2.2.2.1 hm (by decide) (by decide)) (Or.inr ⟨e, h1, h8, h22, rfl⟩) bS_Ca rfl rfl rfl rfl
theorem idx_74 {tp n u h : Nat} {cs0 ca : CS} {ms0 ma : GS} {x y x' y' : Int32} (hs : St tp cs0 ms0) (I : CI n u h cs0 ms0 ca ma) (hn : 0 < n) (he : ca.1 1 6 = 0 → x' = x ∧ y' = y) : TA 1 3 (lu_index_74 ca (nI (one1 (aR ca 0))) (nI (one1 (aC ca 0))) x y) (fun c => Tr (mo_index_45 ma x' y') (fun m => RX tp h c m)) := by
  obtain ⟨r1, r2, r3, r4, r5⟩ := one_le I.1 hn
  obtain ⟨f, f8, e2, e3⟩ := id I.2.1
  obtain ⟨k1, k2, k3, k4⟩ := idx_45 (x := x') (y := y') I.1 hn f8 e3
  by_cases f0 : f = 0
  · subst f0
    have hc0 : ca.1 1 6 = 0 := e2
    obtain ⟨rfl, rfl⟩ := he hc0
    have t3 : (x' < 0 ∨ y' < 0) → TA 1 3 (lu_index_111 ca) (fun c => Tr (mo_index_45 ma x' y') (fun m => RX tp h c m)) := fun hb => TA_mono (TA_jde (c := 0) (s := 0) rfl (TA_jce become_c (TA_some (Nat.le_refl _) (Nat.le_refl _) (Tr_mono (k2 rfl hb) (fun m ⟨m1, m2⟩ => idx_err (e := 3) hs I (by decide) (by decide) m1 m2))))) (by decide) (by decide) (fun _ z => z)
    have t4 : ¬ (x' < 0 ∨ y' < 0) → (nI (one1 (aR ca 0)) < x' ∨ nI (one1 (aC ca 0)) < y') → TA 1 3 (lu_index_134 ca) (fun c => Tr (mo_index_45 ma x' y') (fun m => RX tp h c m)) := fun hb hc => TA_mono (TA_jde (c := 0) (s := 0) rfl (TA_jce become_c (TA_some (Nat.le_refl _) (Nat.le_refl _) (Tr_mono (k3 rfl hb hc) (fun m ⟨m1, m2⟩ => idx_err (e := 4) hs I (by decide) (by decide) m1 m2))))) (by decide) (by decide) (fun _ z => z)
    refine TA_jbt hc0 (TA_jb (fun q => t3 (Or.inl q)) (fun qx => TA_jb (fun qy => ?_) (fun q => t3 (Or.inr (Int32.not_le.mp q)))))
    have hb : ¬ (x' < 0 ∨ y' < 0) := fun z => z.elim qx (fun z => absurd qy (Int32.not_le.mpr z))
    refine TA_jb (fun q => t4 hb (Or.inl q)) (fun q1 => TA_jb (fun q2 => ?_) (fun q => t4 hb (Or.inr (Int32.not_le.mp q))))
    have hc : ¬ (nI (one1 (aR ca 0)) < x' ∨ nI (one1 (aC ca 0)) < y') := fun z => z.elim q1 (fun z => absurd q2 (Int32.not_le.mpr z))
    obtain ⟨a, ha, rfl⟩ := nI_of qx
    obtain ⟨b, hb31, rfl⟩ := nI_of (fun z => absurd qy (Int32.not_le.mpr z))
    have ha2 : a ≤ one1 (aR ca 0) := by
      have := Int32.not_lt.mp q1
      exact (nI_leI ha (by omega)).mp this
    have hb2 : b ≤ one1 (aC ca 0) := (nI_leI hb31 (by omega)).mp q2
    obtain ⟨c, ec, hT⟩ := idx_part hs I hn e3 ha2 hb2
    rw [← k4 rfl hb hc] at hT
    have k186 : lu_index_186 ca (nI (a - 1)) (nI (b - 1)) (nI (if a = 0 then one1 (aR ca 0) else 1)) (nI (if b = 0 then one1 (aC ca 0) else 1)) = some (c, 0, 0) := e_c ec rfl
    have k176 : lu_index_176 ca (nI (one1 (aC ca 0))) (nI b) (nI (a - 1)) (nI (b - 1)) (nI (if a = 0 then one1 (aR ca 0) else 1)) = some (c, 0, 0) := by
      rw [← k186]
      by_cases b0 : b = 0
      · subst b0; exact e_bt rfl rfl
      · rw [if_neg b0]
        exact e_bf (fun z => b0 ((nI_eq (a := b) (b := 0) (by omega) (by decide)).mp z)) rfl
    refine TA_jce (max_c (by omega)) (TA_jce (max_c (by omega)) ?_)
    have kk : jb (nI a = 0) (lu_index_176 ca (nI (one1 (aC ca 0))) (nI b) (nI (a - 1)) (nI (b - 1)) (nI (one1 (aR ca 0)))) (lu_index_176 ca (nI (one1 (aC ca 0))) (nI b) (nI (a - 1)) (nI (b - 1)) 1) = some (c, 0, 0) := by
      rw [← k176]
      by_cases a0 : a = 0
      · subst a0; exact e_bt rfl rfl
      · rw [if_neg a0]
        exact e_bf (fun z => a0 ((nI_eq (a := a) (b := 0) (by omega) (by decide)).mp z)) rfl
    rw [kk]
    exact TA_some (Nat.zero_le _) (Nat.zero_le _) hT
  · have hne : ¬ ca.1 1 6 = 0 := by rw [e2]; exact ne_nI (by omega) f8
    refine TA_jbf hne (TA_mono (TA_jde (c := 0) (s := 0) rfl (TA_jce become_c (TA_some (Nat.le_refl _) (Nat.le_refl _) ?_))) (by decide) (by decide) (fun _ z => z))
    rw [e2]
    exact Tr_mono (k1 f0) (fun m ⟨m1, m2⟩ => idx_err (e := f) hs I (by omega) f8 m1 m2)
theorem x_index {tp n u h : Nat} {cs0 cs : CS} {ms0 ms : GS} (hs : St tp cs0 ms0) (I : CI n u h cs0 ms0 cs ms) (hn : 1 < n) : TA 1 3 (f_lu_index cs) (fun c => Tr (f_mo_index ms) (fun m => RX tp h c m)) := by
  have h0n : 0 < n := by omega
  refine TA_jce (rows_c I.1 h0n) (TA_jce (cols_c I.1 h0n) (TA_jce (there_c I.1 (i := 2) (by decide)) ?_))
  obtain ⟨⟨x, ca⟩, ea, ⟨x', ma⟩, em, J1, b0, b2, b3, b4, b5⟩ := k_whole (CI_self I) (i := 1) hn
  dsimp only at *
  have I1 := (CI_two I J1).1
  obtain ⟨c1, c2, c3⟩ := aR_cf J1.2.2.1 (i := 0) (by decide)
  by_cases h2 : 2 < n
  · rw [if_pos h2]
    obtain ⟨⟨y, cb⟩, eb, ⟨y', mb⟩, em2, J2, d0, d2, d3, d4, d5⟩ := k_whole (CI_self I1) (i := 2) h2
    dsimp only at *
    have I2 := (CI_two I1 J2).1
    obtain ⟨e1, e2, e3⟩ := aR_cf J2.2.2.1 (i := 0) (by decide)
    have hk := idx_74 (x := x) (y := y) (x' := x') (y' := y') hs I2 h0n (fun z => ⟨b4 (d0 z), d4 z⟩)
    rw [e1, c1, e2, c2] at hk
    have hg1 := given_m I1.1 (i := 2) (by decide)
    have hg2 := given_m I2.1 (i := 2) (by decide)
    rw [if_pos h2] at hg1 hg2
    have hr : f_mo_index ms = mo_index_45 mb x' y' := e_c em (e_c hg1 (e_bf (show ¬ (1 : Int32) = 0 by decide) (e_c em2 (e_c hg2 (e_bf (show ¬ (1 : Int32) = 0 by decide) rfl)))))
    rw [hr]
    refine TA_jce ea (TA_jbf (show ¬ (1 : Int32) = 0 by decide) (TA_jce eb ?_))
    exact TA_jbf (show ¬ (1 : Int32) = 0 by decide) hk
  · rw [if_neg h2]
    have hg1 := given_m I1.1 (i := 2) (by decide)
    rw [if_neg h2] at hg1
    have hrow := rows_m I1.1 h0n
    rw [c1] at hrow
    refine TA_jce ea (TA_jbt rfl (TA_jbt rfl ?_))
    by_cases hR : nI (one1 (aR cs 0)) = 1
    · have hk := idx_74 (x := 1) (y := x) (x' := 1) (y' := x') hs I1 h0n (fun z => ⟨rfl, b4 z⟩)
      rw [c1, c2] at hk
      have hr : f_mo_index ms = mo_index_45 ma 1 x' := e_c em (e_c hg1 (e_bt rfl (e_c hg1 (e_bt rfl (e_c hrow (e_bt hR rfl))))))
      rw [hr]
      exact TA_jbt hR hk
    · have hk := idx_74 (x := x) (y := 1) (x' := x') (y' := 1) hs I1 h0n (fun z => ⟨b4 z, rfl⟩)
      rw [c1, c2] at hk
      have hr : f_mo_index ms = mo_index_45 ma x' 1 := e_c em (e_c hg1 (e_bt rfl (e_c hg1 (e_bt rfl (e_c hrow (e_bf hR rfl))))))
      rw [hr]
      exact TA_jbf hR hk
