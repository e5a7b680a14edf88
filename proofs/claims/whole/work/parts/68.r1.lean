/-! ### the functions 66 .. -/
def SF0 : List Nat := [20, 21, 27, 28, 29, 30, 31, 32, 33, 34, 42, 43, 44, 46, 47, 48]
def er (e : Nat) : VV := (4, FP.i2d (nI e), [])
/-- a text, or the error that it is too long -/
def tv (L : TT) : VV := if L.length ≤ 255 then (2, 0, L) else er 3
theorem tv_c {L : TT} {q : Nat} (hL : L.length < 2 ^ 31) : TA 3 262 (f_wf_textOrTooLong (L, q)) (fun v => v = tv L) := by
  unfold tv
  by_cases h : L.length ≤ 255
  · rw [if_pos h]
    refine TA_jce rfl (TA_jbt (nI_le (b := 255) h (by decide)) ?_)
    refine TA_mono (c := 2 + 1) (s := (4 + 255) + 3) (TA_toS (x := (L, q)) (n := 255) h (TA_jde (c := 0) (s := 0) (show f_vl_ofText L = some ((2, 0, L), 1, 3) from rfl) (TA_some (Nat.le_refl _) (Nat.le_refl _) rfl))) (by decide) (by decide) (fun _ w => w.symm)
  · rw [if_neg h]
    refine TA_jce rfl (TA_jbf (nI_ge (a := 255) (by show 255 < L.length; omega) hL) (TA_mono (TA_jde (c := 0) (s := 0) (show f_vl_ofError 3 = some ((4, FP.i2d 3, []), 1, 3) from rfl) (TA_some (Nat.le_refl _) (Nat.le_refl _) rfl)) (by decide) (by decide) (fun _ w => w.symm)))
theorem tv_m {n u h : Nat} {cs0 cs : CS} {ms0 ms : GS} {L : TT} (I : CI n u h cs0 ms0 cs ms) (hM : Mk L ms) (hc : ∀ c ∈ L, c < 256) (hL : L.length < 2 ^ 31) : Tr (f_mo_answerText ms) (fun m => XE n u h cs0 ms0 (tv L, cs) m) := by
  obtain ⟨v, k, z, e1, -, -, hv⟩ := t_answer (q := 0) I hM hc hL
  obtain ⟨v', k', z', e2, -, -, hv'⟩ := tv_c (L := L) (q := 0) hL
  have e := e1.symm.trans e2
  injection e with e
  injection e with e _
  subst hv'
  rw [← e]
  exact hv
theorem fail_skip {ms : GS} {e : Int32} (h : ¬ ms.1 0 22 = 0) : f_mo_fail ms e = some ms := e_bf h rfl
theorem Sm_fin {n u h C S : Nat} {cs0 cs : CS} {ms0 ms : GS} {V : VV} {X : Option ((VV × CS) × Nat × Nat)} {Y : Option GS} (I : CI n u h cs0 ms0 cs ms) (hX : TA C S X (fun r => r = (V, cs))) (hY : ¬ ms.1 0 22 = 0 → Tr Y (fun m => Ch SF0 SC ms m)) (h0 : cs.1 1 6 = 0 → ms.1 0 22 = 0 → Tr Y (fun m => XE n u h cs0 ms0 (V, cs) m)) : Sm C S X Y (XE n u h cs0 ms0) := by
  refine TA_mono hX (Nat.le_refl _) (Nat.le_refl _) (fun r hr => ?_)
  subst hr
  by_cases hf : cs.1 1 6 = 0
  · exact h0 hf ((FR_0 I).mp hf)
  · refine Tr_mono (hY (fun z => hf ((FR_0 I).mpr z))) (fun m hm => ?_)
    exact XE_fault (CI_ref I hm (by decide) (by decide) (by decide)) hf
theorem TA_vl {C S : Nat} {o : Option (VV × Nat × Nat)} {v : VV} {cs : CS} (h : o = some (v, 1, 3)) (hC : 1 ≤ C := by decide) (hS : 3 ≤ S := by decide) : TA C S (jd o (fun q1 => some ((q1, cs), 0, 0))) (fun r => r = (v, cs)) := TA_mono (TA_jde (c := 0) (s := 0) h (TA_some (Nat.le_refl _) (Nat.le_refl _) rfl)) (by omega) (by omega) (fun _ z => z.symm)
theorem XE_num {n u h : Nat} {cs0 cs : CS} {ms0 ms : GS} {v w : UInt64} (I : CI n u h cs0 ms0 cs ms) (he : cs.1 1 6 = 0 → v = w) : Tr (f_mo_answerNumber ms w) (fun m => XE n u h cs0 ms0 ((1, v, []), cs) m) := by
  by_cases hf : cs.1 1 6 = 0
  · exact Tr_mono (answerNumber_m (he hf)) (fun m ⟨m1, m2⟩ => XE_told (CI_ref I m2 (by decide) (by decide) (by decide)) m1)
  · exact Tr_mono answerAny_m (fun m m2 => XE_fault (CI_ref I m2 (by decide) (by decide) (by decide)) hf)
theorem XE_ans {n u h C S : Nat} {cs0 cs : CS} {ms0 ms : GS} {v w : UInt64} (I : CI n u h cs0 ms0 cs ms) (he : cs.1 1 6 = 0 → v = w) : Sm C S (some (((1, v, []), cs), 0, 0)) (jc (f_mo_answerNumber ms w) (fun q => some q)) (XE n u h cs0 ms0) := by
  obtain ⟨m, em, hm⟩ := XE_num I he
  exact Sm_c em (Sm_end hm)
theorem x_len {n u h : Nat} {cs0 cs : CS} {ms0 ms : GS} (I : CI n u h cs0 ms0 cs ms) (hn : 0 < n) : Sm 900 13000 (jd (f_ar_text cs 0) (fun q1 => jc (f_js_length q1.1) (fun q3 => jd (f_vl_ofNumber (FP.i2d q3)) (fun q4 => some ((q4, q1.2), 0, 0))))) (jc (f_mo_textOf ms 0) (fun q4 => jc (f_mo_answerNumber q4 (FP.i2d (q4.1 0 27))) (fun q5 => some q5))) (XE n u h cs0 ms0) := by
  refine Sm_jj (t_text I hn) (fun a m ⟨b1, b2, b3, b4⟩ => Sm_Lc rfl (Sm_Ld rfl ?_))
  exact XE_ans b1 (fun _ => by rw [b3.1])
/-- LEFT and RIGHT -/
theorem x_ends {n u h : Nat} {cs0 cs : CS} {ms0 ms : GS} (I : CI n u h cs0 ms0 cs ms) (hn : 0 < n) (hM : Mk [] ms) (p0 : Int32) : Sm 900 13000 (f_tx_side cs p0) (f_mo_ends ms p0) (XE n u h cs0 ms0) := by
  refine Sm_jj (t_text I hn) (fun a m ⟨b1, b2, b3, b4⟩ => Sm_cT (toB_m b2 b3) (fun m2 ⟨c1, c2, c3⟩ => ?_))
  have I2 := CI_ref b1 c3 (by decide) (by decide) (by decide)
  have hM2 := Mk_ch (Mk_ch hM b4 (by decide) (by decide) (by decide)) c3 (by decide) (by decide) (by decide)
  refine Sm_j0 (t_wholeOr I2 (i := 1) (by decide) 1 ⟨by decide, by decide⟩) (fun x y ⟨d1, d2, d3, d4, d5⟩ => ?_)
  have hB := Txt_ch c1 d5 (by decide) (by decide) (by decide)
  have hM3 := Mk_ch hM2 d5 (by decide) (by decide) (by decide)
  have htl := b2.1
  obtain ⟨t, ca⟩ := a
  obtain ⟨x, cx⟩ := x
  obtain ⟨y, my⟩ := y
  dsimp only at *
  have hlow : ∀ w : Int32, iB w → ¬ w < 0 → ∃ k : Nat, k ≤ 1000000000 ∧ w = nI k := fun w hw hw0 => by
    obtain ⟨k, hk, rfl⟩ := nI_of hw0
    have := hw.2
    rw [nI_toInt hk] at this
    exact ⟨k, by omega, rfl⟩
  by_cases hx : x < 0
  · refine Sm_fin d1 (V := er 3) (TA_jbf (fun z => Int32.not_lt.mpr z hx) (TA_vl rfl)) (fun he => ?_) (fun hf he => ?_)
    · have R : Tr (mo_ends_25 my p0 y) (fun m => Ch SF0 SC my m) := Tr_jbf he (Tr_some Ch_refl)
      exact Tr_jb (fun _ => R) (fun _ => Tr_jce (fail_skip he) R)
    · have hy : ¬ 0 ≤ y := by rw [d4 hf]; exact fun z => Int32.not_lt.mpr z hx
      refine Tr_jbf hy (Tr_jc (XE_err d1 (e := 3) (by decide) (by decide)) (fun m ⟨m1, m2, m3⟩ => Tr_jbf m3 (Tr_some m1)))
  · obtain ⟨k, hk, rfl⟩ := hlow x d2 hx
    have hk31 : k < 2 ^ 31 := by omega
    have hs : ∀ st : CS, TA 890 12000 (jc (f_js_length t) (fun q8 => jc (f_ma_min (nI k) q8) (fun q9 => jb (p0 = 0) (tx_side_53 st t q9 0) (jc (f_js_length t) (fun q10 => tx_side_53 st t q9 (q10 - q9)))))) (fun r => r = ((2, 0, if p0 = 0 then seg t 0 (min k t.length) else seg t (t.length - min k t.length) t.length), st)) := fun st => by
      refine TA_jce rfl (TA_jce (min_c hk31 (by omega)) ?_)
      have e53 : ∀ i : Nat, i + min k t.length ≤ t.length → TA 890 12000 (tx_side_53 st t (nI (min k t.length)) (nI i)) (fun r => r = ((2, 0, seg t i (i + min k t.length)), st)) := fun i hi => by
        unfold tx_side_53
        rw [nI_add]
        refine TA_mono (TA_jde (c := 800) (s := 11000) (sub_c (a := i) (b := i + min k t.length) (by omega) hi htl) (TA_vl rfl)) (by decide) (by omega) (fun _ z => z)
      by_cases hp : p0 = 0
      · rw [if_pos hp]
        have := e53 0 (by omega)
        rw [Nat.zero_add] at this
        exact TA_jbt hp this
      · rw [if_neg hp]
        refine TA_jbf hp (TA_jce rfl ?_)
        rw [nI_sub (Nat.min_le_right _ _)]
        have := e53 (t.length - min k t.length) (by omega)
        rw [show t.length - min k t.length + min k t.length = t.length by omega] at this
        exact this
    refine Sm_fin d1 (TA_mono (TA_jbt (Int32.not_lt.mp hx) (hs cx)) (by decide) (by decide) (fun _ z => z)) (fun he => ?_) (fun hf he => ?_)
    · have R : Tr (mo_ends_25 my p0 y) (fun m => Ch SF0 SC my m) := Tr_jbf he (Tr_some Ch_refl)
      exact Tr_jb (fun _ => R) (fun _ => Tr_jce (fail_skip he) R)
    · have hy : y = nI k := d4 hf
      rw [hy]
      have segs : ∀ a b : Nat, a ≤ b → b ≤ t.length → Tr (mo_ends_73 my (nI a) (nI b)) (fun m => XE n u h cs0 ms0 ((2, 0, seg t a b), cx) m) := fun a b hab hb => by
        refine Tr_jc (makeOf_m (f := 28) (c := 14) (by decide) (by decide) (by decide) htl hb (b - a) a FU [] my (Or.inl (by omega)) (FU_lt (by omega)) hM3 hB) (fun r ⟨r1, r2⟩ => ?_)
        have := tv_m (CI_ref d1 r2 (by decide) (by decide) (by decide)) r1 (fun c hc => b2.2 c (seg_mem hc)) (by rw [List.nil_append, seg_len hb]; omega)
        have e : tv ([] ++ seg t a b) = (2, 0, seg t a b) := by
          unfold tv
          rw [List.nil_append, if_pos (by rw [seg_len hb]; omega)]
        rw [e] at this
        exact Tr_jc this (fun m hm => Tr_some hm)
      refine Tr_jbt (Int32.not_lt.mp hx) (Tr_jbt he ?_)
      rw [hB.1]
      refine Tr_jce (lesser_m hk31 (by omega)) ?_
      by_cases hp : p0 = 0
      · rw [if_pos hp]
        exact Tr_jbt hp (Tr_jbt hp (segs 0 _ (Nat.zero_le _) (Nat.min_le_right _ _)))
      · rw [if_neg hp, nI_sub (Nat.min_le_right _ _)]
        refine Tr_jbf hp (Tr_jbf hp ?_)
        rw [hB.1]
        exact segs _ _ (by omega) (Nat.le_refl _)
