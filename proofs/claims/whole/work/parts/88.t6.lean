theorem x_hms {n u h : Nat} {cs0 cs : CS} {ms0 ms : GS} (I : CI n u h cs0 ms0 cs ms) (hn : 0 < n) {p : Int32} {G : Int32 → Int32} (hG : (p = 106 ∧ G = fun v => v / 3600) ∨ (p = 107 ∧ G = fun v => (v / 60) - (v / 60) / 60 * 60) ∨ (p = 108 ∧ G = fun v => v - v / 60 * 60)) : Sm 900 13000 (jc (f_da_secondsOfDay cs) (fun q17 => jd (f_vl_ofNumber (FP.i2d (G q17.1))) (fun q18 => some ((q18, q17.2), 0, 0)))) (f_mo_timePart ms p) (XE n u h cs0 ms0) := by
  obtain ⟨m1, em1, I1, T1, ch1⟩ := takeOf_m I hn
  have hok := av_ok I.1 hn 0
  have hnth := nth_c I.1 hn (k := 0) (by decide)
  have hav0 : av cs 0 0 = av cs0 0 0 := av_cf I.2.2.1 (by decide)
  generalize hv : av cs 0 0 = v at T1 hok hnth
  have hTN := Taken_N T1
  obtain ⟨a, ea, ⟨z, z1, z2, z3, z4⟩, b1, eb1, I2, NGb, hb1, ch2⟩ := num_ok I1 hok hTN
  have hTN2 : TakenN v b1.2 := ⟨(ch2.1 20 (by decide)).trans hTN.1, fun q => by
    have hk : ¬ m1.1 0 20 = 2 := fun w => q (hTN.1.symm.trans w)
    rw [numM_keep hk eb1]
    exact hTN.2.1 q, Txt_ch hTN.2.2 ch2 (by decide) (by decide) (by decide)⟩
  obtain ⟨a2, ea2, r, er, b, eb, I3, ⟨d, d1, d2, d3⟩, ⟨d', d4, d5⟩, hst, ch3⟩ := day_ok I2 hok hTN2
  have haa : a2 = a := Option.some.inj (ea2.symm.trans (numC_idem hok ea))
  subst haa
  have eday : f_ar_day cs 0 = some r := e_c (e_c hnth ea) er
  by_cases hf : r.2.1 1 6 = 0
  · obtain ⟨hbd, hfa⟩ := d3 hf
    have hr2 := hst hf
    have h22 := (FR_0 I3).mp hf
    -- the day's number
    have hday : 0 ≤ z ∧ z / UU = (d : Int) ∧ d ≤ 2958465 := by
      rcases hasDay_c z1 z2 z3 with ⟨e, e1, e2, e3, e4, e5⟩ | ⟨e1, e2⟩
      · obtain ⟨q, q1, q2⟩ := jc_some er
        have : q = 1 := Option.some.inj (q1.symm.trans e4)
        subst this
        have := Option.some.inj (jb_f (by decide) q2)
        rw [← this] at d2
        have d2 : FP.d2i a2.1 = nI d := d2
        rw [e5] at d2
        have hed := (nI_eq (by omega) (by omega)).mp d2
        exact ⟨e2, by rw [e3, hed], d1⟩
      · exfalso
        obtain ⟨q, q1, q2⟩ := jc_some er
        have : q = 0 := Option.some.inj (q1.symm.trans e2)
        subst this
        obtain ⟨w, w1, w2⟩ := jc_some (jb_t rfl q2)
        have hw := Option.some.inj w2
        have : ¬ w.1 1 6 = 0 := by
          by_cases h0 : a2.2.1 1 6 = 0
          · have := Option.some.inj (jb_t h0 w1)
            rw [← this, show (uC a2.2 1 6 6).1 1 6 = 6 from uC_at]
            decide
          · have := Option.some.inj (jb_f h0 w1)
            rw [← this]; exact h0
        rw [← hw] at hf
        exact this hf
    obtain ⟨y0, y1, y2⟩ := hday
    obtain ⟨s, S, f, s1, s2, s3, s4, s5, s6, s7, s8⟩ := secs z1 y0 y1 y2 (z4 y0)
    obtain ⟨zh, hh, hzh⟩ := DV_half
    have hnum2 : f_ar_number r.2 0 = some a2 := by
      have h1 := nth_c I3.1 hn (k := 0) (by decide)
      have h2 : av r.2 0 0 = v := (av_cf I3.2.2.1 (by decide)).trans (hav0.symm.trans hv)
      rw [h2] at h1
      refine e_c h1 ?_
      rw [hr2]
      exact ea2
    have hS31 : S ≤ 86402 := by rw [s6]; split <;> omega
    have hmod : nI S - nI S / 86400 * 86400 = nI (S % 86400) := nI_mod (b := 86400) (by omega) (by decide)
    have hsec : f_da_secondsOfDay cs = some (nI (S % 86400), r.2) := by
      refine e_c eday (e_bt hf (e_c hnum2 ?_))
      rw [d2]
      refine e_g s2 (e_g s3 (e_n ?_))
      rw [s4]
      refine e_n (e_g (nn_DV s5) ?_)
      have hc := cv_lt (op := .l) s5 hh
      by_cases g : 2 * f < UU
      · rw [if_pos g] at s6
        refine e_bt (hc.mpr (by omega)) ?_
        rw [← s6]
        show some (nI S - nI S / 86400 * 86400, a2.2) = _
        rw [hmod, hr2]
      · rw [if_neg g] at s6
        refine e_bf (fun q => g (by have := hc.mp q; omega)) (e_n ?_)
        rw [nI_1, ← s6]
        show some (nI S - nI S / 86400 * 86400, a2.2) = _
        rw [hmod, hr2]
    refine Sm_Lc hsec (Sm_Ld rfl (TA_some (Nat.zero_le _) (Nat.zero_le _) ?_))
    have hbx : b1.1 = a2.1 := hb1 hfa
    refine Tr_jce em1 (Tr_jce eb1 (Tr_jce eb (Tr_jbt h22 ?_)))
    rw [hbx, hbd]
    refine Tr_jg s2 (Tr_jg s3 (Tr_jg s7 (Tr_jn ?_)))
    rw [s8, hmod]
    have fin : ∀ w : UInt64, w = FP.i2d (G (nI (S % 86400))) → Tr (mo_timePart_86 b.2 w) (fun m => XE n u h cs0 ms0 ((1, FP.i2d (G (nI (S % 86400))), []), r.2) m) := fun w hw => Tr_jc (XE_num I3 (fun _ => hw.symm)) (fun m hm => Tr_some hm)
    rcases hG with ⟨rfl, rfl⟩ | ⟨rfl, rfl⟩ | ⟨rfl, rfl⟩
    · exact Tr_jbt rfl (fin _ rfl)
    · exact Tr_jbf (by decide) (Tr_jbt rfl (fin _ rfl))
    · exact Tr_jbf (by decide) (Tr_jbf (by decide) (fin _ rfl))
  · have h22 : ¬ b.2.1 0 22 = 0 := fun q => hf ((FR_0 I3).mpr q)
    have hsec : f_da_secondsOfDay cs = some (0, r.2) := e_c eday (e_bf hf rfl)
    refine Sm_Lc hsec (Sm_Ld rfl (TA_some (Nat.zero_le _) (Nat.zero_le _) ?_))
    exact Tr_jce em1 (Tr_jce eb1 (Tr_jce eb (Tr_jbf h22 (Tr_some (XE_fault I3 hf)))))
