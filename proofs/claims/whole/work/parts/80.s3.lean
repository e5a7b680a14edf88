/-! ### LOOKUP -/
theorem x_lookup {n u h : Nat} {cs0 cs : CS} {ms0 ms : GS} (I : CI n u h cs0 ms0 cs ms) (hn : 1 < n) : Sm 900 13000 (f_lu_lookUp cs) (f_mo_lookUp ms) (XE n u h cs0 ms0) := by
  refine Sm_jj (sought_ok I (by omega)) (fun ⟨x, ca⟩ m1 ⟨b1, b0, b2, b3, b4, hW, b6⟩ => ?_)
  dsimp only at *
  obtain ⟨r1, r2, r3, r4, r5⟩ := one_le b1.1 hn
  have hrc := rows_c b1.1 hn
  have hcc := cols_c b1.1 hn
  have hrm := rows_m b1.1 hn
  have hcm := cols_m b1.1 hn
  have hxt := okV_t b2
  have hn30 := b1.1.2.2.1
  have Y0 : ∀ {Z : Option GS}, ¬ m1.1 0 22 = 0 → Tr (jb ((m1.1 0 22) = 0) Z (some m1)) (fun m => Ch SF0 SC m1 m) := fun {Z} he => Tr_jbf he (Tr_some Ch_refl)
  have hway : ((1 : Int32) = 0 ∧ (1 : Int32) = 0) ∨ (0 < (1 : Int32) ∧ (1 : Int32) = 1) ∨ ((1 : Int32) < 0 ∧ ¬ (1 : Int32) = 0 ∧ ¬ (1 : Int32) = 1) := Or.inr (Or.inl ⟨by decide, rfl⟩)
  by_cases h2 : 2 < n ∧ ¬ aR ca 2 = 0
  · obtain ⟨h2n, h20⟩ := h2
    have hout := out_c b1.1 h2n
    rw [if_neg h20] at hout
    have hout' := isOut_m b1.1 h2n
    rw [if_neg h20] at hout'
    obtain ⟨g1, g2, g3, g4, g5, g6, g7, g8, g9, g10, g11, g12⟩ := geo b1.1 h2n
    obtain ⟨t1, t2, t3, t4, t5⟩ := one_le b1.1 h2n
    have hst : ∀ k, k < one1 (aR ca 1) * one1 (aC ca 1) → k * 1 < one1 (aR ca 1) * one1 (aC ca 1) := fun k hk => by omega
    obtain ⟨⟨rr, c⟩, ef, q1, q2⟩ := find_c (how := 1) (step := 1) (many := one1 (aR ca 1) * one1 (aC ca 1)) b1.1 hn b2 (fun j hj => by have := hst j hj; omega) r5
    obtain ⟨⟨rm, M⟩, em, s1, s2, s3⟩ := find_m (how := 1) (way := 1) (step := 1) (many := one1 (aR ca 1) * one1 (aC ca 1)) hway b1 hn hxt hW hst r5
    dsimp only at q1 q2 s1 s2 s3
    generalize hres : fres (decide ((1 : Int32) = 0)) (fun k => hit 1 x (av ca 1 (k * 1))) (one1 (aR ca 1) * one1 (aC ca 1)) 0 none = o at q1 s1
    have hol : ∀ j, o = some j → j < one1 (aR ca 1) * one1 (aC ca 1) := fun j hj => by
      have := fres_lt _ 0 none (fun j hj => by cases hj) j (by rw [hres]; exact hj)
      omega
    have I3 := CI_cls b1 q2 (by decide)
    have I4 := CI_cls s2 q2 (by decide)
    have hac : aR c 2 = aR ca 2 ∧ aC c 2 = aC ca 2 ∧ aF c 2 = aF ca 2 := aR_cf (Cp_Cf q2 (by decide)) (by decide)
    have hmany := many_c I3.1 h2n
    rw [hac.1, hac.2.1] at hmany
    -- the class, up to what is found
    have hX : ∀ {C S : Nat} {R : VV × CS → Prop}, TA C S (jb (rr < nI (one1 (aR ca 2) * one1 (aC ca 2))) (lu_lookUp_63 c rr) (lu_lookUp_63 c (-1))) R → TA C S (jc (f_ar_rows ca 1) (fun q7 => jc (f_ar_columns ca 1) (fun q8 => jc (f_ar_isLeftOut ca 2) (fun q9 => jb (q9 = 0) (jc (f_lu_find ca x 1 1 (q7 * q8) 1) (fun q16 => jc (f_ar_many q16.2 2) (fun q17 => jb (q16.1 < q17) (lu_lookUp_63 q16.2 q16.1) (lu_lookUp_63 q16.2 (-1))))) (jb (q8 ≤ q7) (jc (f_lu_find ca x 1 q8 q7 1) (fun q10 => jc (f_ar_at q10.2 1 q10.1 (q8 - 1)) (fun q11 => lu_lookUp_138 q10.2 q10.1 q11))) (jc (f_lu_find ca x 1 1 q8 1) (fun q13 => jc (f_ar_at q13.2 1 (q7 - 1) q13.1) (fun q14 => lu_lookUp_138 q13.2 q13.1 q14)))))))) R := fun q => by
      refine TA_jce hrc (TA_jce hcc (TA_jce hout (TA_jbt rfl ?_)))
      rw [nI_mul]
      exact TA_jce ef (TA_jce hmany q)
    have hY : m1.1 0 22 = 0 → ∀ {R : GS → Prop}, Tr (jb (rm < 0) (mo_lookUp_72 M) (jc (f_mo_rowsOf M 2) (fun q12 => jc (f_mo_columnsOf M 2) (fun q13 => jb (rm < (q12 * q13)) (jg (inb 2 30) (jc (f_mo_answerValue M ((M.1 6 (2 : Int32).toNatClampNeg) + rm)) (fun q15 => some q15))) (mo_lookUp_72 M))))) R → Tr (jb ((m1.1 0 22) = 0) (jc (f_mo_rowsOf m1 1) (fun q8 => jc (f_mo_columnsOf m1 1) (fun q9 => jb ((m1.1 0 7) ≤ 2) (mo_lookUp_94 m1 q8 q9) (jc (f_mo_isOut m1 2) (fun q10 => jb (q10 = 0) (jc (f_mo_find m1 1 0 1 (q8 * q9) 1) (fun q11 => jb (q11.1 < 0) (mo_lookUp_72 q11.2) (jc (f_mo_rowsOf q11.2 2) (fun q12 => jc (f_mo_columnsOf q11.2 2) (fun q13 => jb (q11.1 < (q12 * q13)) (jg (inb 2 30) (jc (f_mo_answerValue q11.2 ((q11.2.1 6 (2 : Int32).toNatClampNeg) + q11.1)) (fun q15 => some q15))) (mo_lookUp_72 q11.2)))))) (mo_lookUp_94 m1 q8 q9)))))) (some m1)) R := fun he {R} q => by
      refine Tr_jbt he (Tr_jce hrm (Tr_jce hcm (Tr_jbf ?_ (Tr_jce hout' (Tr_jbt rfl ?_)))))
      · rw [b1.1.2.1]; exact nI_ge (a := 2) (by omega) (by omega)
      · rw [nI_mul]
        exact Tr_jce em q
    have E7 : Tr (mo_lookUp_72 M) (fun m => XE n u h cs0 ms0 (er 7, c) m) := XE_fail (e := 7) I4 (by decide) (by decide)
    obtain ⟨v0, ev0⟩ := nth_any I3.1 h2n (-1)
    have X7 : TA (900 - 1) (13000 - 3) (lu_lookUp_63 c (-1)) (fun r => r = (er 7, c)) := TA_jce ev0 (TA_jbt rfl (TA_vl rfl))
    cases ho : o with
    | none =>
      rw [ho] at q1 s1
      refine Sm_fin I3 (V := er 7) (hX ?_) Y0 (fun hf he => hY he ?_)
      · rw [q1]
        exact TA_jb (fun _ => X7) (fun _ => X7)
      · rw [s1]
        exact Tr_jbt (by decide) E7
    | some j =>
      rw [ho] at q1 s1
      have hj := hol j ho
      have hrm2 := rows_m I4.1 h2n
      have hcm2 := cols_m I4.1 h2n
      rw [hac.1] at hrm2
      rw [hac.2.1] at hcm2
      by_cases hj2 : j < one1 (aR ca 2) * one1 (aC ca 2)
      · refine Sm_fin I3 (V := av c 2 j) (hX ?_) Y0 (fun hf he => hY he ?_)
        · rw [q1]
          refine TA_jbt (nI_lt hj2 (by omega)) (TA_jce (nth_c I3.1 h2n (by omega)) (TA_jbf (fun z => ?_) (TA_some (Nat.zero_le _) (Nat.zero_le _) rfl)))
          have := (oI_none (o := some j) (fun i hi => by injection hi with hi; omega)).mp z
          cases this
        · rw [s1]
          refine Tr_jbf (nI_pos (by omega)) (Tr_jce hrm2 (Tr_jce hcm2 ?_))
          rw [nI_mul]
          refine Tr_jbt (nI_lt hj2 (by omega)) (Tr_jg (by decide) ?_)
          have e6 : M.1 6 (2 : Int32).toNatClampNeg + oI (some j) = nI (ap c 2 j) := by
            obtain ⟨-, -, -, -, -, k6, -⟩ := geo I4.1 h2n
            show M.1 6 2 + nI j = _
            rw [k6, nI_add]
            unfold ap
            rw [if_neg (by rw [hac.1]; exact h20)]
          rw [e6]
          exact Tr_jc (ansV_m I4 h2n (by rw [hac.1, hac.2.1]; exact hj2)) (fun m ⟨k1, k2, k3⟩ => Tr_some (XE_told k1 k2))
      · refine Sm_fin I3 (V := er 7) (hX ?_) Y0 (fun hf he => hY he ?_)
        · rw [q1]
          exact TA_jbf (nI_nlt (by omega) (by omega)) X7
        · rw [s1]
          refine Tr_jbf (nI_pos (by omega)) (Tr_jce hrm2 (Tr_jce hcm2 ?_))
          rw [nI_mul]
          exact Tr_jbf (nI_nlt (by omega) (by omega)) E7
  · -- one grid alone
    have hout : f_ar_isLeftOut ca 2 = some 1 := by
      by_cases h2n : 2 < n
      · have := out_c b1.1 h2n
        rw [if_pos (Classical.byContradiction fun z => h2 ⟨h2n, z⟩)] at this
        exact this
      · exact out_no b1.1 (i := 2) (by omega) (by decide)
    have hY94 : m1.1 0 22 = 0 → ∀ {R : GS → Prop}, Tr (mo_lookUp_94 m1 (nI (one1 (aR ca 1))) (nI (one1 (aC ca 1)))) R → Tr (jb ((m1.1 0 22) = 0) (jc (f_mo_rowsOf m1 1) (fun q8 => jc (f_mo_columnsOf m1 1) (fun q9 => jb ((m1.1 0 7) ≤ 2) (mo_lookUp_94 m1 q8 q9) (jc (f_mo_isOut m1 2) (fun q10 => jb (q10 = 0) (jc (f_mo_find m1 1 0 1 (q8 * q9) 1) (fun q11 => jb (q11.1 < 0) (mo_lookUp_72 q11.2) (jc (f_mo_rowsOf q11.2 2) (fun q12 => jc (f_mo_columnsOf q11.2 2) (fun q13 => jb (q11.1 < (q12 * q13)) (jg (inb 2 30) (jc (f_mo_answerValue q11.2 ((q11.2.1 6 (2 : Int32).toNatClampNeg) + q11.1)) (fun q15 => some q15))) (mo_lookUp_72 q11.2)))))) (mo_lookUp_94 m1 q8 q9)))))) (some m1)) R := fun he {R} q => by
      refine Tr_jbt he (Tr_jce hrm (Tr_jce hcm ?_))
      by_cases h2n : 2 < n
      · have := isOut_m b1.1 h2n
        rw [if_pos (Classical.byContradiction fun z => h2 ⟨h2n, z⟩)] at this
        exact Tr_jbf (by rw [b1.1.2.1]; exact nI_ge (a := 2) (by omega) (by omega)) (Tr_jce this (Tr_jbf (by decide) q))
      · exact Tr_jbt (by rw [b1.1.2.1]; exact nI_le (b := 2) (by omega) (by decide)) q
    -- both shapes
    have main : ∀ (step many : Nat), many ≤ 512 → (∀ k, k < many → k * step < one1 (aR ca 1) * one1 (aC ca 1)) →
        (∀ (xx yy : Int32 → Int32), True) →
        (∀ {C S : Nat} {R : VV × CS → Prop}, TA C S (jc (f_lu_find ca x (nI 1) (nI step) (nI many) 1) (fun q => jc (if one1 (aC ca 1) ≤ one1 (aR ca 1) then f_ar_at q.2 1 q.1 (nI (one1 (aC ca 1)) - 1) else f_ar_at q.2 1 (nI (one1 (aR ca 1)) - 1) q.1) (fun v => lu_lookUp_138 q.2 q.1 v))) R → TA C S (jc (f_ar_rows ca 1) (fun q7 => jc (f_ar_columns ca 1) (fun q8 => jc (f_ar_isLeftOut ca 2) (fun q9 => jb (q9 = 0) (jc (f_lu_find ca x 1 1 (q7 * q8) 1) (fun q16 => jc (f_ar_many q16.2 2) (fun q17 => jb (q16.1 < q17) (lu_lookUp_63 q16.2 q16.1) (lu_lookUp_63 q16.2 (-1))))) (jb (q8 ≤ q7) (jc (f_lu_find ca x 1 q8 q7 1) (fun q10 => jc (f_ar_at q10.2 1 q10.1 (q8 - 1)) (fun q11 => lu_lookUp_138 q10.2 q10.1 q11))) (jc (f_lu_find ca x 1 1 q8 1) (fun q13 => jc (f_ar_at q13.2 1 (q7 - 1) q13.1) (fun q14 => lu_lookUp_138 q13.2 q13.1 q14)))))))) R) →
        (∀ {R : GS → Prop}, Tr (jc (f_mo_find m1 (nI 1) 0 (nI step) (nI many) 1) (fun q2 => jb (0 ≤ q2.1) (if one1 (aC ca 1) ≤ one1 (aR ca 1) then jc (f_mo_valueAt q2.2 1 q2.1 (nI (one1 (aC ca 1)) - 1)) (fun q3 => mo_lookUp_162 q2.2 q3) else jc (f_mo_valueAt q2.2 1 (nI (one1 (aR ca 1)) - 1) q2.1) (fun q4 => mo_lookUp_162 q2.2 q4)) (jc (f_mo_fail q2.2 7) (fun q5 => some q5)))) R → Tr (mo_lookUp_94 m1 (nI (one1 (aR ca 1))) (nI (one1 (aC ca 1)))) R) →
        (∀ j, j < many → if one1 (aC ca 1) ≤ one1 (aR ca 1) then j < one1 (aR ca 1) else j < one1 (aC ca 1)) →
        Sm (900 - 1) (13000 - 3) (jc (f_ar_rows ca 1) (fun q7 => jc (f_ar_columns ca 1) (fun q8 => jc (f_ar_isLeftOut ca 2) (fun q9 => jb (q9 = 0) (jc (f_lu_find ca x 1 1 (q7 * q8) 1) (fun q16 => jc (f_ar_many q16.2 2) (fun q17 => jb (q16.1 < q17) (lu_lookUp_63 q16.2 q16.1) (lu_lookUp_63 q16.2 (-1))))) (jb (q8 ≤ q7) (jc (f_lu_find ca x 1 q8 q7 1) (fun q10 => jc (f_ar_at q10.2 1 q10.1 (q8 - 1)) (fun q11 => lu_lookUp_138 q10.2 q10.1 q11))) (jc (f_lu_find ca x 1 1 q8 1) (fun q13 => jc (f_ar_at q13.2 1 (q7 - 1) q13.1) (fun q14 => lu_lookUp_138 q13.2 q13.1 q14)))))))) (jb ((m1.1 0 22) = 0) (jc (f_mo_rowsOf m1 1) (fun q8 => jc (f_mo_columnsOf m1 1) (fun q9 => jb ((m1.1 0 7) ≤ 2) (mo_lookUp_94 m1 q8 q9) (jc (f_mo_isOut m1 2) (fun q10 => jb (q10 = 0) (jc (f_mo_find m1 1 0 1 (q8 * q9) 1) (fun q11 => jb (q11.1 < 0) (mo_lookUp_72 q11.2) (jc (f_mo_rowsOf q11.2 2) (fun q12 => jc (f_mo_columnsOf q11.2 2) (fun q13 => jb (q11.1 < (q12 * q13)) (jg (inb 2 30) (jc (f_mo_answerValue q11.2 ((q11.2.1 6 (2 : Int32).toNatClampNeg) + q11.1)) (fun q15 => some q15))) (mo_lookUp_72 q11.2)))))) (mo_lookUp_94 m1 q8 q9)))))) (some m1)) (XE n u h cs0 ms0) := by
      intro step many hmany hst _ hXr hYr hpl
      obtain ⟨⟨rr, c⟩, ef, q1, q2⟩ := find_c (how := 1) (step := step) (many := many) b1.1 hn b2 (fun j hj => by have := hst j hj; omega) hmany
      obtain ⟨⟨rm, M⟩, em, s1, s2, s3⟩ := find_m (how := 1) (way := 1) (step := step) (many := many) hway b1 hn hxt hW hst hmany
      dsimp only at q1 q2 s1 s2 s3
      generalize hres : fres (decide ((1 : Int32) = 0)) (fun k => hit 1 x (av ca 1 (k * step))) many 0 none = o at q1 s1
      have hol : ∀ j, o = some j → j < many := fun j hj => by
        have := fres_lt _ 0 none (fun j hj => by cases hj) j (by rw [hres]; exact hj)
        omega
      have I3 := CI_cls b1 q2 (by decide)
      have I4 := CI_cls s2 q2 (by decide)
      have hac : aR c 1 = aR ca 1 ∧ aC c 1 = aC ca 1 ∧ aF c 1 = aF ca 1 := aR_cf (Cp_Cf q2 (by decide)) (by decide)
      have eC : nI (one1 (aC ca 1)) - 1 = nI (one1 (aC ca 1) - 1) := nI_pre (by omega)
      have eR : nI (one1 (aR ca 1)) - 1 = nI (one1 (aR ca 1) - 1) := nI_pre (by omega)
      cases ho : o with
      | none =>
        rw [ho] at q1 s1
        refine Sm_fin I3 (V := er 7) (hXr (TA_jce ef ?_)) Y0 (fun hf he => hY94 he (hYr (Tr_jce em ?_)))
        · dsimp only
          rw [q1]
          by_cases hs : one1 (aC ca 1) ≤ one1 (aR ca 1)
          · rw [if_pos hs]
            obtain ⟨v0, ev0⟩ := at_any I3.1 hn (-1) (nI (one1 (aC ca 1)) - 1)
            exact TA_jce ev0 (TA_jbt rfl (TA_vl rfl))
          · rw [if_neg hs]
            obtain ⟨v0, ev0⟩ := at_any I3.1 hn (nI (one1 (aR ca 1)) - 1) (-1)
            exact TA_jce ev0 (TA_jbt rfl (TA_vl rfl))
        · dsimp only
          rw [s1]
          exact Tr_jbf (by decide) (XE_fail (e := 7) I4 (by decide) (by decide))
      | some j =>
        rw [ho] at q1 s1
        have hj := hol j ho
        have hp := hpl j hj
        have nne : ¬ oI (some j) = -1 := fun z => by
          have := (oI_none (o := some j) (fun i hi => by injection hi with hi; omega)).mp z
          cases this
        by_cases hs : one1 (aC ca 1) ≤ one1 (aR ca 1)
        · rw [if_pos hs] at hp
          refine Sm_fin I3 (V := av c 1 (j * one1 (aC c 1) + (one1 (aC ca 1) - 1))) (hXr (TA_jce ef ?_)) Y0 (fun hf he => hY94 he (hYr (Tr_jce em ?_)))
          · dsimp only
            rw [if_pos hs, q1, eC]
            exact TA_jce (at_c I3.1 hn (a := j) (by omega) (by omega)) (TA_jbf nne (TA_some (Nat.zero_le _) (Nat.zero_le _) rfl))
          · dsimp only
            rw [if_pos hs, s1, eC]
            exact Tr_jbt (nI_pos' (by omega)) (told_at I4 hn (a := j) (by rw [hac.1]; exact hp) (by rw [hac.2.1]; omega))
        · rw [if_neg hs] at hp
          refine Sm_fin I3 (V := av c 1 ((one1 (aR ca 1) - 1) * one1 (aC c 1) + j)) (hXr (TA_jce ef ?_)) Y0 (fun hf he => hY94 he (hYr (Tr_jce em ?_)))
          · dsimp only
            rw [if_neg hs, q1, eR]
            exact TA_jce (at_c I3.1 hn (b := j) (by omega) (by omega)) (TA_jbf nne (TA_some (Nat.zero_le _) (Nat.zero_le _) rfl))
          · dsimp only
            rw [if_neg hs, s1, eR]
            exact Tr_jbt (nI_pos' (by omega)) (told_at I4 hn (b := j) (by rw [hac.1]; omega) (by rw [hac.2.1]; exact hp))
    by_cases hs : one1 (aC ca 1) ≤ one1 (aR ca 1)
    · have hle : nI (one1 (aC ca 1)) ≤ nI (one1 (aR ca 1)) := nI_le hs (by omega)
      refine main (one1 (aC ca 1)) (one1 (aR ca 1)) r2 (fun k hk => Nat.mul_lt_mul_of_pos_right hk (by omega)) (fun _ _ => trivial) (fun q => ?_) (fun {R} q => ?_) (fun j hj => by rw [if_pos hs]; exact hj)
      · simp only [if_pos hs] at q
        exact TA_jce hrc (TA_jce hcc (TA_jce hout (TA_jbf (by decide) (TA_jbt hle q))))
      · simp only [if_pos hs] at q
        refine Tr_jbt hle (Tr_jbt hle ?_)
        obtain ⟨r, e, hr⟩ := q
        obtain ⟨a, ea, e2⟩ := jc_some e
        refine Tr_jce ea ?_
        by_cases h0 : 0 ≤ a.1
        · exact Tr_jbt h0 (Tr_jbt hle ⟨r, jb_t h0 e2, hr⟩)
        · exact Tr_jbf h0 ⟨r, jb_f h0 e2, hr⟩
    · have hle : ¬ nI (one1 (aC ca 1)) ≤ nI (one1 (aR ca 1)) := nI_ge (by omega) (by omega)
      refine main 1 (one1 (aC ca 1)) r4 (fun k hk => by
        rw [Nat.mul_one]
        exact Nat.lt_of_lt_of_le hk (Nat.le_mul_of_pos_left _ (by omega))) (fun _ _ => trivial) (fun q => ?_) (fun {R} q => ?_) (fun j hj => by rw [if_neg hs]; exact hj)
      · simp only [if_neg hs] at q
        exact TA_jce hrc (TA_jce hcc (TA_jce hout (TA_jbf (by decide) (TA_jbf hle q))))
      · simp only [if_neg hs] at q
        refine Tr_jbf hle (Tr_jbf hle ?_)
        obtain ⟨r, e, hr⟩ := q
        obtain ⟨a, ea, e2⟩ := jc_some e
        refine Tr_jce ea ?_
        by_cases h0 : 0 ≤ a.1
        · exact Tr_jbt h0 (Tr_jbf hle ⟨r, jb_t h0 e2, hr⟩)
        · exact Tr_jbf h0 ⟨r, jb_f h0 e2, hr⟩
/-! ### MATCH -/
theorem x_match {n u h : Nat} {cs0 cs : CS} {ms0 ms : GS} (I : CI n u h cs0 ms0 cs ms) (hn : 1 < n) : Sm 900 13000 (f_lu_match cs) (f_mo_match ms) (XE n u h cs0 ms0) := by
  refine Sm_jj (sought_ok I (by omega)) (fun ⟨x, ca⟩ m1 ⟨b1, b0, b2, b3, b4, b5, b6⟩ => ?_)
  refine Sm_j0 (k_wholeOr b1 (i := 2) (by decide) 1 ⟨by decide, by decide⟩) (fun ⟨w, cb⟩ ⟨w', m2⟩ ⟨d1, d0, d2, d3, d4, d5⟩ => ?_)
  dsimp only at *
  have hW := WT_ch b5 d5 (by decide) (by decide) (by decide) (by decide) (by decide)
  obtain ⟨r1, r2, r3, r4, r5⟩ := one_le d1.1 hn
  have hrc := rows_c d1.1 hn
  have hcc := cols_c d1.1 hn
  have hrm := rows_m d1.1 hn
  have hcm := cols_m d1.1 hn
  have hmc := many_c d1.1 hn
  have hxt := okV_t b2
  have hn30 := d1.1.2.2.1
  have R36 : ¬ m2.1 0 22 = 0 → Tr (mo_match_36 m2 w') (fun m => Ch SF0 SC m2 m) := fun he => Tr_jbf he (Tr_some Ch_refl)
  have Y0 : ¬ m2.1 0 22 = 0 → Tr (jc (f_mo_rowsOf m2 1) (fun q8 => jb (q8 ≤ 1) (mo_match_36 m2 w') (jc (f_mo_columnsOf m2 1) (fun q9 => jb (q9 ≤ 1) (mo_match_36 m2 w') (jc (f_mo_fail m2 7) (fun q10 => mo_match_36 q10 w')))))) (fun m => Ch SF0 SC m2 m) := fun he =>
    Tr_jce hrm (Tr_jb (fun _ => R36 he) (fun _ => Tr_jce hcm (Tr_jb (fun _ => R36 he) (fun _ => Tr_jce (fail_skip he) (R36 he)))))
  have one_iff : ∀ r : Nat, r ≤ 512 → ((nI r ≤ 1) ↔ r ≤ 1) := fun r hr => nI_leI (b := 1) (by omega) (by decide)
  -- a row of values
  have line : ∀ {X : Option ((VV × CS) × Nat × Nat)} {Y : Option GS}, (∀ {C S : Nat} {R : VV × CS → Prop}, TA C S (lu_match_45 cb x w) R → TA C S X R) → (∀ {R : GS → Prop}, Tr (mo_match_36 m2 w') R → Tr Y R) → (¬ m2.1 0 22 = 0 → Tr Y (fun m => Ch SF0 SC m2 m)) → Sm (900 - 1) (13000 - 3) X Y (XE n u h cs0 ms0) := fun {X Y} hX hY hY0 => by
    obtain ⟨how, hway, hX45⟩ : ∃ how : Int32, ((w = 0 ∧ how = 0) ∨ (0 < w ∧ how = 1) ∨ (w < 0 ∧ ¬ how = 0 ∧ ¬ how = 1)) ∧ ∀ {C S : Nat} {R : VV × CS → Prop}, TA C S (lu_match_62 cb x how) R → TA C S (lu_match_45 cb x w) R := by
      by_cases h0 : w = 0
      · exact ⟨0, Or.inl ⟨h0, rfl⟩, fun q => TA_jbt h0 q⟩
      · by_cases h1 : w ≤ 0
        · exact ⟨-1, Or.inr (Or.inr ⟨Int32.lt_of_le_of_ne h1 h0, by decide, by decide⟩), fun q => TA_jbf h0 (TA_jbt h1 q)⟩
        · exact ⟨1, Or.inr (Or.inl ⟨Int32.not_le.mp h1, rfl⟩), fun q => TA_jbf h0 (TA_jbf h1 q)⟩
    have hst : ∀ k, k < one1 (aR cb 1) * one1 (aC cb 1) → k * 1 < one1 (aR cb 1) * one1 (aC cb 1) := fun k hk => by omega
    obtain ⟨⟨rr, c⟩, ef, q1, q2⟩ := find_c (how := how) (step := 1) (many := one1 (aR cb 1) * one1 (aC cb 1)) d1.1 hn b2 (fun j hj => by have := hst j hj; omega) r5
    obtain ⟨⟨rm, M⟩, em, s1, s2, s3⟩ := find_m (how := how) (way := w) (step := 1) (many := one1 (aR cb 1) * one1 (aC cb 1)) hway d1 hn hxt hW hst r5
    dsimp only at q1 q2 s1 s2 s3
    generalize hres : fres (decide (how = 0)) (fun k => hit how x (av cb 1 (k * 1))) (one1 (aR cb 1) * one1 (aC cb 1)) 0 none = o at q1 s1
    have hol : ∀ j, o = some j → j < one1 (aR cb 1) * one1 (aC cb 1) := fun j hj => by
      have := fres_lt _ 0 none (fun j hj => by cases hj) j (by rw [hres]; exact hj)
      omega
    have I3 := CI_cls d1 q2 (by decide)
    have I4 := CI_cls s2 q2 (by decide)
    have hf1 : c.1 1 6 = cb.1 1 6 := by rw [Cp_1 q2 (by decide)]
    have hX62 : ∀ {C S : Nat} {R : VV × CS → Prop}, TA C S (jb (rr = (-1)) (jd (f_vl_ofError 7) (fun q5 => some ((q5, c), 0, 0))) (jd (f_vl_ofNumber (FP.i2d (rr + 1))) (fun q3 => some ((q3, c), 0, 0)))) R → TA C S X R := fun q => hX (hX45 (TA_jce hmc (TA_jce ef q)))
    have hY36 : cb.1 1 6 = 0 → m2.1 0 22 = 0 → ∀ {R : GS → Prop}, Tr (jb (0 ≤ rm) (mo_match_74 M rm) (jc (f_mo_fail M 7) (fun q5 => mo_match_74 q5 rm))) R → Tr Y R := fun hf he {R} q => by
      refine hY ?_
      rw [d4 hf]
      refine Tr_jbt he (Tr_jce hrm (Tr_jce hcm ?_))
      rw [nI_mul]
      exact Tr_jce em q
    cases ho : o with
    | none =>
      rw [ho] at q1 s1
      refine Sm_fin I3 (V := er 7) (hX62 ?_) hY0 (fun hf he => hY36 (by rw [← hf1]; exact hf) he ?_)
      · rw [q1]; exact TA_jbt rfl (TA_vl rfl)
      · rw [s1]
        exact Tr_jbf (by decide) (Tr_jc (XE_err I4 (e := 7) (by decide) (by decide)) (fun m ⟨k1, k2, k3⟩ => Tr_jc answerAny_m (fun r hr => Tr_some (XE_ch k1 hr k3 (by decide) (by decide) (by decide)))))
    | some j =>
      rw [ho] at q1 s1
      have hj := hol j ho
      refine Sm_fin I3 (V := (1, FP.i2d (nI (j + 1)), [])) (hX62 ?_) hY0 (fun hf he => hY36 (by rw [← hf1]; exact hf) he ?_)
      · rw [q1]
        refine TA_jbf (fun z => ?_) ?_
        · have := (oI_none (o := some j) (fun i hi => by injection hi with hi; omega)).mp z
          cases this
        · show TA _ _ (jd (f_vl_ofNumber (FP.i2d (nI j + 1))) (fun q3 => some ((q3, c), 0, 0))) _
          rw [nI_1]
          exact TA_vl rfl
      · rw [s1]
        refine Tr_jbt (nI_pos' (by omega)) ?_
        show Tr (jc (f_mo_answerNumber M (FP.i2d (nI j + 1))) (fun q1 => some q1)) _
        rw [nI_1]
        exact Tr_jc (XE_num I4 (fun _ => rfl)) (fun m hm => Tr_some hm)
  by_cases h1 : one1 (aR cb 1) ≤ 1
  · have h1' := (one_iff _ r2).mpr h1
    exact line (fun q => TA_jce hrc (TA_jbt h1' q)) (fun {R} q => Tr_jce hrm (Tr_jbt h1' q)) Y0
  · have h1' : ¬ nI (one1 (aR cb 1)) ≤ 1 := fun z => h1 ((one_iff _ r2).mp z)
    by_cases h2 : one1 (aC cb 1) ≤ 1
    · have h2' := (one_iff _ r4).mpr h2
      exact line (fun q => TA_jce hrc (TA_jbf h1' (TA_jce hcc (TA_jbt h2' q)))) (fun {R} q => Tr_jce hrm (Tr_jbf h1' (Tr_jce hcm (Tr_jbt h2' q)))) Y0
    · have h2' : ¬ nI (one1 (aC cb 1)) ≤ 1 := fun z => h2 ((one_iff _ r4).mp z)
      refine Sm_fin d1 (V := er 7) (TA_jce hrc (TA_jbf h1' (TA_jce hcc (TA_jbf h2' (TA_vl rfl))))) Y0 (fun hf he => ?_)
      exact Tr_jce hrm (Tr_jbf h1' (Tr_jce hcm (Tr_jbf h2' (Tr_jc (XE_err d1 (e := 7) (by decide) (by decide)) (fun m ⟨k1, k2, k3⟩ => Tr_jbf k3 (Tr_some k1))))))
/-! ### ROWS, COLUMNS, ROW, COLUMN -/
theorem x_rows {n u h : Nat} {cs0 cs : CS} {ms0 ms : GS} (I : CI n u h cs0 ms0 cs ms) (hn : 0 < n) : Sm 900 13000 (jc (f_ar_rows cs 0) (fun q15 => jd (f_vl_ofNumber (FP.i2d q15)) (fun q16 => some ((q16, cs), 0, 0)))) (jc (f_mo_rowsOf ms 0) (fun q6 => jc (f_mo_answerNumber ms (FP.i2d q6)) (fun q7 => some q7))) (XE n u h cs0 ms0) :=
  Sm_Lc (rows_c I.1 hn) (Sm_c (rows_m I.1 hn) (Sm_Ld rfl (XE_ans I (fun _ => rfl))))
theorem x_cols {n u h : Nat} {cs0 cs : CS} {ms0 ms : GS} (I : CI n u h cs0 ms0 cs ms) (hn : 0 < n) : Sm 900 13000 (jc (f_ar_columns cs 0) (fun q18 => jd (f_vl_ofNumber (FP.i2d q18)) (fun q19 => some ((q19, cs), 0, 0)))) (jc (f_mo_columnsOf ms 0) (fun q8 => jc (f_mo_answerNumber ms (FP.i2d q8)) (fun q9 => some q9))) (XE n u h cs0 ms0) :=
  Sm_Lc (cols_c I.1 hn) (Sm_c (cols_m I.1 hn) (Sm_Ld rfl (XE_ans I (fun _ => rfl))))
theorem x_cell {n u h : Nat} {cs0 cs : CS} {ms0 ms : GS} (I : CI n u h cs0 ms0 cs ms) (hH : Rhome cs ms) (p : Int32) : Sm 900 13000 (jd (f_lu_cell cs p) (fun q11 => some ((q11, cs), 0, 0))) (f_mo_standing ms p) (XE n u h cs0 ms0) := by
  have hn30 := I.1.2.2.1
  -- a number, of both
  have fin : ∀ {X : Option (VV × Nat × Nat)} {Y : Option GS} {v w : UInt64}, v = w → X = some ((1, v, []), 1, 3) → Y = jc (f_mo_answerNumber ms w) (fun q => some q) → Sm 900 13000 (jd X (fun q11 => some ((q11, cs), 0, 0))) Y (XE n u h cs0 ms0) := fun {X Y v w} e hX hY => by
    rw [hY]
    exact Sm_Ld hX (XE_ans I (fun _ => e))
  have home : f_ar_isLeftOut cs 0 = some 1 → f_mo_standing ms p = mo_standing_15 ms p → Sm 900 13000 (jd (f_lu_cell cs p) (fun q11 => some ((q11, cs), 0, 0))) (f_mo_standing ms p) (XE n u h cs0 ms0) := fun ho hY => by
    by_cases hp : p = 0
    · refine fin (congrArg FP.i2d hH.1) ?_ (hY.trans ?_)
      · exact e_c ho (e_bf (by decide) (e_bt hp rfl))
      · unfold mo_standing_15 mo_standing_20 mo_standing_39
        exact e_bf (by decide) (e_bf (by decide) (e_bt hp rfl))
    · refine fin (congrArg FP.i2d hH.2) ?_ (hY.trans ?_)
      · exact e_c ho (e_bf (by decide) (e_bf hp rfl))
      · unfold mo_standing_15 mo_standing_20 mo_standing_39
        exact e_bf (by decide) (e_bf (by decide) (e_bf hp rfl))
  by_cases hn : 0 < n
  · have hc7 : ¬ ms.1 0 7 = 0 := by rw [I.1.2.1]; exact nI_ne0 hn (by omega)
    have ho := out_c I.1 hn
    have ho' := isOut_m I.1 hn
    by_cases h0 : aR cs 0 = 0
    · rw [if_pos h0] at ho ho'
      exact home ho (e_bf hc7 (e_c ho' (e_bf (by decide) rfl)))
    · rw [if_neg h0] at ho ho'
      have hY : f_mo_standing ms p = mo_standing_20 ms p 0 := e_bf hc7 (e_c ho' (e_bt rfl rfl))
      have hg := grid_at I.1 0 hn
      obtain ⟨r, c, f, k1, k2, k3, k4, k5, k6, k7, k8, k9, k10, k11⟩ := I.1.2.2.2.2.2.2.1 0 hn
      have h0c : (0 : Int32).toNatClampNeg = 0 := rfl
      rcases k11 with ⟨a1, a2⟩ | ⟨a1, a2, a3, a4⟩
      · refine Sm_R hY (Sm_mono (c := 1) (s := 3) ?_ (by decide) (by decide) (fun _ _ z => z))
        refine TA_mono (TA_jde (c := 0) (s := 0) (show f_lu_cell cs p = some (er 3, 1, 3) from e_c ho (e_bt rfl (e_c hg (e_bt a1 rfl)))) (TA_some (Nat.zero_le _) (Nat.zero_le _) rfl)) (by decide) (by decide) (fun a ha => ?_)
        have ha : a = (er 3, cs) := ha.symm
        rw [ha]
        refine Tr_jbt rfl (Tr_jg (by decide) (Tr_jbt a2 (Tr_jc (XE_err I (e := 3) (by decide) (by decide)) (fun m ⟨q1, q2, q3⟩ => ?_))))
        have go : ∀ z, Tr (mo_standing_85 m z) (fun r => XE n u h cs0 ms0 (er 3, cs) r) := fun z => Tr_jc answerAny_m (fun r hr => Tr_some (XE_ch q1 hr q3 (by decide) (by decide) (by decide)))
        exact Tr_jbt rfl (Tr_jb (fun _ => Tr_jg (by decide) (go _)) (fun _ => Tr_jg (by decide) (go _)))
      · have ht0 : ¬ ms.1 7 0 = 0 := fun z => by
          have := a4.1
          rw [z] at this
          exact absurd this (by decide)
        by_cases hp : p = 0
        · refine fin (v := FP.i2d (cs.1 (9 + 0) 4)) (w := FP.i2d (ms.1 7 0)) (by rw [a2]) (e_c ho (e_bt rfl (e_c hg (e_bf (by rw [a1]; decide) (e_bt hp rfl))))) (hY.trans ?_)
          exact e_bt rfl (e_g (by decide) (e_bf ht0 (e_bt rfl (e_bt hp (e_g (by decide) rfl)))))
        · refine fin (v := FP.i2d (cs.1 (9 + 0) 5)) (w := FP.i2d (ms.1 8 0)) (by rw [a3]) (e_c ho (e_bt rfl (e_c hg (e_bf (by rw [a1]; decide) (e_bf hp rfl))))) (hY.trans ?_)
          exact e_bt rfl (e_g (by decide) (e_bf ht0 (e_bt rfl (e_bf hp (e_g (by decide) rfl)))))
  · exact home (out_no I.1 (i := 0) (by omega) (by decide)) (e_bt (by rw [I.1.2.1, show n = 0 by omega]; rfl) rfl)
