/-! ### kinds of values: the functions 119 to 132 -/
section KI
variable {n u h C S : Nat} {cs0 cs : CS} {ms0 ms : GS}
theorem XE_truth {b c : Int32} (I : CI n u h cs0 ms0 cs ms) (he : cs.1 1 6 = 0 → b = c) : Tr (f_mo_answerTruth ms c) (fun m => XE n u h cs0 ms0 ((3, if b = 0 then 0 else 4607182418800017408, []), cs) m) := by
  by_cases hf : cs.1 1 6 = 0
  · rw [he hf]
    exact Tr_mono answerTruth_m (fun m ⟨m1, m2⟩ => XE_told (CI_ref I m2 (by decide) (by decide) (by decide)) m1)
  · exact Tr_mono answerTruth_m (fun m ⟨_, m2⟩ => XE_fault (CI_ref I m2 (by decide) (by decide) (by decide)) hf)
theorem ki_T {b c : Int32} (I : CI n u h cs0 ms0 cs ms) (he : cs.1 1 6 = 0 → b = c) : Sm 900 13000 (jd (f_vl_ofTruth b) (fun q => some ((q, cs), 0, 0))) (jc (f_mo_answerTruth ms c) (fun q => some q)) (XE n u h cs0 ms0) :=
  Sm_Ld rfl (by obtain ⟨m, em, hm⟩ := XE_truth I he; exact Sm_c em (Sm_end hm))
theorem ki_N {v w : UInt64} (I : CI n u h cs0 ms0 cs ms) (he : v = w) : Sm 900 13000 (jd (f_vl_ofNumber v) (fun q => some ((q, cs), 0, 0))) (jc (f_mo_answerNumber ms w) (fun q => some q)) (XE n u h cs0 ms0) :=
  Sm_Ld rfl (by obtain ⟨m, em, hm⟩ := XE_num I (fun _ => he); exact Sm_c em (Sm_end hm))
theorem ki_of_v {p : Int32} {v : VV} (hv : f_ar_nth cs 0 0 = some v) : f_ki_of cs p = ki_of_34 cs p v (if v.1 = 4 ∧ Op.cmpValue (FP.dcmp v.2.1 (4619567317775286272 : UInt64)) .l = 0 then 1 else 0) := by
  refine e_c hv ?_
  by_cases h1 : v.1 = 4
  · refine e_bt h1 ?_
    by_cases h2 : Op.cmpValue (FP.dcmp v.2.1 (4619567317775286272 : UInt64)) .l = 0
    · rw [if_pos ⟨h1, h2⟩]; exact e_bt h2 rfl
    · rw [if_neg (fun z => h2 z.2)]; exact e_bf h2 rfl
  · rw [if_neg (fun z => h1 z.1)]; exact e_bf h1 rfl
/-- the cases with a value -/
theorem ki_take {p : Int32} (I : CI n u h cs0 ms0 cs ms) (hn : 0 < n) (hr : f_mo_kindOf ms p = mo_kindOf_20 ms p) (hk : ∀ m, CI n u h cs0 ms0 cs m → m.1 0 20 = (av cs 0 0).1 → m.2.1 0 21 = (av cs 0 0).2.1 → Sm 900 13000 (ki_of_34 cs p (av cs 0 0) (if (av cs 0 0).1 = 4 ∧ Op.cmpValue (FP.dcmp (av cs 0 0).2.1 (4619567317775286272 : UInt64)) .l = 0 then 1 else 0)) (mo_kindOf_25 m p) (XE n u h cs0 ms0)) : Sm 900 13000 (f_ki_of cs p) (f_mo_kindOf ms p) (XE n u h cs0 ms0) := by
  rw [ki_of_v (nth_c I.1 hn (k := 0) (by decide)), hr]
  obtain ⟨m, em, b1, b2, b3⟩ := takeOf_m I hn
  exact Sm_c em (hk m b1 b2.1 b2.2.1)
theorem m_235 : mo_kindOf_235 ms = mo_kindOf_236 ms 0 := rfl

theorem ki_119 (I : CI n u h cs0 ms0 cs ms) (hn : 0 < n) : Sm 900 13000 (f_ki_of cs 119) (f_mo_kindOf ms 119) (XE n u h cs0 ms0) := by
  refine ki_take I hn (e_bt (by decide) rfl) (fun m b1 b2 b3 => Sm_Lbt rfl <| Sm_bt rfl <| ?_)
  rw [b2]
  exact Sm_Lb (fun q => Sm_bt q (ki_T b1 (fun _ => rfl))) (fun q => Sm_bf q (ki_T b1 (fun _ => rfl)))
theorem ki_120 (I : CI n u h cs0 ms0 cs ms) (hn : 0 < n) : Sm 900 13000 (f_ki_of cs 120) (f_mo_kindOf ms 120) (XE n u h cs0 ms0) := by
  refine ki_take I hn (e_bt (by decide) rfl) (fun m b1 b2 b3 => Sm_Lbf (by decide) <| Sm_Lbt rfl <| Sm_bf (by decide) <| Sm_bt rfl <| ?_)
  rw [b2]
  exact Sm_Lb (fun q => Sm_bt q (ki_T b1 (fun _ => rfl))) (fun q => Sm_bf q (ki_T b1 (fun _ => rfl)))
theorem ki_121 (I : CI n u h cs0 ms0 cs ms) (hn : 0 < n) : Sm 900 13000 (f_ki_of cs 121) (f_mo_kindOf ms 121) (XE n u h cs0 ms0) := by
  refine ki_take I hn (e_bt (by decide) rfl) (fun m b1 b2 b3 => Sm_Lbf (by decide) <| Sm_Lbf (by decide) <| Sm_Lbt rfl <| Sm_bf (by decide) <| Sm_bf (by decide) <| Sm_bt rfl <| ?_)
  rw [b2]
  exact Sm_Lb (fun q => Sm_bt q (ki_T b1 (fun _ => rfl))) (fun q => Sm_bf q (ki_T b1 (fun _ => rfl)))
theorem ki_122 (I : CI n u h cs0 ms0 cs ms) (hn : 0 < n) : Sm 900 13000 (f_ki_of cs 122) (f_mo_kindOf ms 122) (XE n u h cs0 ms0) := by
  refine ki_take I hn (e_bt (by decide) rfl) (fun m b1 b2 b3 => Sm_Lbf (by decide) <| Sm_Lbf (by decide) <| Sm_Lbf (by decide) <| Sm_Lbt rfl <| Sm_bf (by decide) <| Sm_bf (by decide) <| Sm_bf (by decide) <| Sm_bt rfl <| ?_)
  rw [b2]
  exact Sm_Lb (fun q => Sm_bt q (ki_T b1 (fun _ => rfl))) (fun q => Sm_bf q (ki_T b1 (fun _ => rfl)))
theorem ki_123 (I : CI n u h cs0 ms0 cs ms) (hn : 0 < n) : Sm 900 13000 (f_ki_of cs 123) (f_mo_kindOf ms 123) (XE n u h cs0 ms0) := by
  refine ki_take I hn (e_bt (by decide) rfl) (fun m b1 b2 b3 => Sm_Lbf (by decide) <| Sm_Lbf (by decide) <| Sm_Lbf (by decide) <| Sm_Lbf (by decide) <| Sm_Lbt rfl <| Sm_bf (by decide) <| Sm_bf (by decide) <| Sm_bf (by decide) <| Sm_bf (by decide) <| Sm_bt rfl <| ?_)
  rw [b2]
  exact Sm_Lb (fun q => Sm_bt q (ki_T b1 (fun _ => rfl))) (fun q => Sm_bf q (ki_T b1 (fun _ => rfl)))
theorem ki_124 (I : CI n u h cs0 ms0 cs ms) (hn : 0 < n) : Sm 900 13000 (f_ki_of cs 124) (f_mo_kindOf ms 124) (XE n u h cs0 ms0) := by
  refine ki_take I hn (e_bt (by decide) rfl) (fun m b1 b2 b3 => Sm_Lbf (by decide) <| Sm_Lbf (by decide) <| Sm_Lbf (by decide) <| Sm_Lbf (by decide) <| Sm_Lbf (by decide) <| Sm_Lbt rfl <| Sm_bf (by decide) <| Sm_bf (by decide) <| Sm_bf (by decide) <| Sm_bf (by decide) <| Sm_bf (by decide) <| Sm_bt rfl <| ?_)
  rw [b2]
  exact Sm_Lb (fun q => Sm_bt q (ki_T b1 (fun _ => rfl))) (fun q => Sm_bf q (ki_T b1 (fun _ => rfl)))
theorem ki_125 (I : CI n u h cs0 ms0 cs ms) (hn : 0 < n) : Sm 900 13000 (f_ki_of cs 125) (f_mo_kindOf ms 125) (XE n u h cs0 ms0) := by
  refine ki_take I hn (e_bt (by decide) rfl) (fun m b1 b2 b3 => Sm_Lbf (by decide) <| Sm_Lbf (by decide) <| Sm_Lbf (by decide) <| Sm_Lbf (by decide) <| Sm_Lbf (by decide) <| Sm_Lbf (by decide) <| Sm_Lbt rfl <| Sm_bf (by decide) <| Sm_bf (by decide) <| Sm_bf (by decide) <| Sm_bf (by decide) <| Sm_bf (by decide) <| Sm_bf (by decide) <| Sm_bt rfl <| ?_)
  rw [b2, b3]
  refine Sm_Lb (fun q => Sm_bt q ?_) (fun q => Sm_bf q (ki_T b1 (fun _ => rfl)))
  by_cases h2 : Op.cmpValue (FP.dcmp (av cs 0 0).2.1 (4619567317775286272 : UInt64)) .l = 0
  · rw [if_pos ⟨q, h2⟩]
    exact Sm_Lbf (by decide) (Sm_bt h2 (ki_T b1 (fun _ => rfl)))
  · rw [if_neg (fun z => h2 z.2)]
    exact Sm_Lbt rfl (Sm_bf h2 (ki_T b1 (fun _ => rfl)))
theorem ki_126 (I : CI n u h cs0 ms0 cs ms) (hn : 0 < n) : Sm 900 13000 (f_ki_of cs 126) (f_mo_kindOf ms 126) (XE n u h cs0 ms0) := by
  refine ki_take I hn (e_bt (by decide) rfl) (fun m b1 b2 b3 => Sm_Lbf (by decide) <| Sm_Lbf (by decide) <| Sm_Lbf (by decide) <| Sm_Lbf (by decide) <| Sm_Lbf (by decide) <| Sm_Lbf (by decide) <| Sm_Lbf (by decide) <| Sm_Lbt rfl <| Sm_bf (by decide) <| Sm_bf (by decide) <| Sm_bf (by decide) <| Sm_bf (by decide) <| Sm_bf (by decide) <| Sm_bf (by decide) <| Sm_bf (by decide) <| Sm_bt rfl <| ?_)
  rw [b2, b3]
  by_cases h1 : (av cs 0 0).1 = 4
  · by_cases h2 : Op.cmpValue (FP.dcmp (av cs 0 0).2.1 (4619567317775286272 : UInt64)) .l = 0
    · rw [if_pos ⟨h1, h2⟩]
      exact Sm_bt h1 (Sm_bt h2 (ki_T b1 (fun _ => rfl)))
    · rw [if_neg (fun z => h2 z.2)]
      exact Sm_bt h1 (Sm_bf h2 (ki_T b1 (fun _ => rfl)))
  · rw [if_neg (fun z => h1 z.1)]
    exact Sm_bf h1 (ki_T b1 (fun _ => rfl))
theorem ki_127 (I : CI n u h cs0 ms0 cs ms) (hn : 0 < n) : Sm 900 13000 (f_ki_of cs 127) (f_mo_kindOf ms 127) (XE n u h cs0 ms0) := by
  have hr : f_mo_kindOf ms 127 = mo_kindOf_25 ms 127 := e_bf (by decide) (e_bt (by decide) rfl)
  rw [ki_of_v (nth_c I.1 hn (k := 0) (by decide)), hr]
  refine Sm_Lbf (by decide) <| Sm_Lbf (by decide) <| Sm_Lbf (by decide) <| Sm_Lbf (by decide) <| Sm_Lbf (by decide) <| Sm_Lbf (by decide) <| Sm_Lbf (by decide) <| Sm_Lbf (by decide) <| Sm_Lbt rfl <| Sm_bf (by decide) <| Sm_bf (by decide) <| Sm_bf (by decide) <| Sm_bf (by decide) <| Sm_bf (by decide) <| Sm_bf (by decide) <| Sm_bf (by decide) <| Sm_bf (by decide) <| Sm_bt rfl <| ?_
  refine Sm_j0 (k_whole I (i := 0) hn) (fun ⟨a, ca⟩ ⟨b, m⟩ ⟨k1, k0, k2, k3, k4, k5⟩ => ?_)
  dsimp only at *
  by_cases hf : ca.1 1 6 = 0
  · rw [k4 hf]
    exact Sm_Lb (fun q => Sm_bt q (Sm_bt rfl (Sm_bt rfl (ki_T k1 (fun _ => rfl))))) (fun q => Sm_bf q (Sm_bt rfl (Sm_bf (by decide) (ki_T k1 (fun _ => rfl)))))
  · have key : ∀ (z w : Int32), Sm 900 13000 (jd (f_vl_ofTruth z) (fun q => some ((q, ca), 0, 0))) (jc (f_mo_answerTruth m w) (fun q => some q)) (XE n u h cs0 ms0) := fun z w => ki_T k1 (fun z => absurd z hf)
    exact Sm_Lb (fun q => Sm_b (fun q => Sm_b (fun q => Sm_b (fun _ => key _ _) (fun _ => key _ _)) (fun q => Sm_b (fun _ => key _ _) (fun _ => key _ _))) (fun q => Sm_b (fun q => Sm_b (fun _ => key _ _) (fun _ => key _ _)) (fun q => Sm_b (fun _ => key _ _) (fun _ => key _ _)))) (fun q => Sm_b (fun q => Sm_b (fun q => Sm_b (fun _ => key _ _) (fun _ => key _ _)) (fun q => Sm_b (fun _ => key _ _) (fun _ => key _ _))) (fun q => Sm_b (fun q => Sm_b (fun _ => key _ _) (fun _ => key _ _)) (fun q => Sm_b (fun _ => key _ _) (fun _ => key _ _))))
theorem ki_128 (I : CI n u h cs0 ms0 cs ms) (hn : 0 < n) : Sm 900 13000 (f_ki_of cs 128) (f_mo_kindOf ms 128) (XE n u h cs0 ms0) := by
  have hr : f_mo_kindOf ms 128 = mo_kindOf_25 ms 128 := e_bf (by decide) (e_bt (by decide) rfl)
  rw [ki_of_v (nth_c I.1 hn (k := 0) (by decide)), hr]
  refine Sm_Lbf (by decide) <| Sm_Lbf (by decide) <| Sm_Lbf (by decide) <| Sm_Lbf (by decide) <| Sm_Lbf (by decide) <| Sm_Lbf (by decide) <| Sm_Lbf (by decide) <| Sm_Lbf (by decide) <| Sm_Lbf (by decide) <| Sm_Lbt rfl <| Sm_bf (by decide) <| Sm_bf (by decide) <| Sm_bf (by decide) <| Sm_bf (by decide) <| Sm_bf (by decide) <| Sm_bf (by decide) <| Sm_bf (by decide) <| Sm_bf (by decide) <| Sm_bf (by decide) <| Sm_bt rfl <| ?_
  refine Sm_j0 (k_whole I (i := 0) hn) (fun ⟨a, ca⟩ ⟨b, m⟩ ⟨k1, k0, k2, k3, k4, k5⟩ => ?_)
  dsimp only at *
  by_cases hf : ca.1 1 6 = 0
  · rw [k4 hf]
    exact Sm_Lb (fun q => Sm_bt q (Sm_bf (by decide) (Sm_bf (by decide) (ki_T k1 (fun _ => rfl))))) (fun q => Sm_bf q (Sm_bf (by decide) (Sm_bt rfl (ki_T k1 (fun _ => rfl)))))
  · have key : ∀ (z w : Int32), Sm 900 13000 (jd (f_vl_ofTruth z) (fun q => some ((q, ca), 0, 0))) (jc (f_mo_answerTruth m w) (fun q => some q)) (XE n u h cs0 ms0) := fun z w => ki_T k1 (fun z => absurd z hf)
    exact Sm_Lb (fun q => Sm_b (fun q => Sm_b (fun q => Sm_b (fun _ => key _ _) (fun _ => key _ _)) (fun q => Sm_b (fun _ => key _ _) (fun _ => key _ _))) (fun q => Sm_b (fun q => Sm_b (fun _ => key _ _) (fun _ => key _ _)) (fun q => Sm_b (fun _ => key _ _) (fun _ => key _ _)))) (fun q => Sm_b (fun q => Sm_b (fun q => Sm_b (fun _ => key _ _) (fun _ => key _ _)) (fun q => Sm_b (fun _ => key _ _) (fun _ => key _ _))) (fun q => Sm_b (fun q => Sm_b (fun _ => key _ _) (fun _ => key _ _)) (fun q => Sm_b (fun _ => key _ _) (fun _ => key _ _))))
theorem ki_129 (I : CI 0 u h cs0 ms0 cs ms) : Sm 900 13000 (f_ki_of cs 129) (f_mo_kindOf ms 129) (XE 0 u h cs0 ms0) := by
  have hr : f_mo_kindOf ms 129 = mo_kindOf_25 ms 129 := e_bf (by decide) (e_bt (by decide) rfl)
  rw [ki_of_v (nth_no I.1 (i := 0) (Nat.le_refl _) (by decide) 0), hr]
  refine Sm_Lbf (by decide) <| Sm_Lbf (by decide) <| Sm_Lbf (by decide) <| Sm_Lbf (by decide) <| Sm_Lbf (by decide) <| Sm_Lbf (by decide) <| Sm_Lbf (by decide) <| Sm_Lbf (by decide) <| Sm_Lbf (by decide) <| Sm_Lbf (by decide) <| Sm_Lbt rfl <| Sm_bf (by decide) <| Sm_bf (by decide) <| Sm_bf (by decide) <| Sm_bf (by decide) <| Sm_bf (by decide) <| Sm_bf (by decide) <| Sm_bf (by decide) <| Sm_bf (by decide) <| Sm_bf (by decide) <| Sm_bf (by decide) <| Sm_bt rfl <| Sm_Ld rfl ?_
  obtain ⟨m, em, hm⟩ := XE_fail (e := 7) I (by decide) (by decide)
  exact Sm_R em (Sm_end hm)
theorem ki_130 (I : CI n u h cs0 ms0 cs ms) (hn : 0 < n) : Sm 900 13000 (f_ki_of cs 130) (f_mo_kindOf ms 130) (XE n u h cs0 ms0) := by
  refine ki_take I hn (e_bf (by decide) (e_bf (by decide) (e_bf (by decide) rfl))) (fun m b1 b2 b3 => Sm_Lbf (by decide) <| Sm_Lbf (by decide) <| Sm_Lbf (by decide) <| Sm_Lbf (by decide) <| Sm_Lbf (by decide) <| Sm_Lbf (by decide) <| Sm_Lbf (by decide) <| Sm_Lbf (by decide) <| Sm_Lbf (by decide) <| Sm_Lbf (by decide) <| Sm_Lbf (by decide) <| Sm_Lbt rfl <| Sm_bf (by decide) <| Sm_bf (by decide) <| Sm_bf (by decide) <| Sm_bf (by decide) <| Sm_bf (by decide) <| Sm_bf (by decide) <| Sm_bf (by decide) <| Sm_bf (by decide) <| Sm_bf (by decide) <| Sm_bf (by decide) <| Sm_bf (by decide) <| Sm_bt rfl <| ?_)
  refine Sm_c (rows_m b1.1 hn) (Sm_c (cols_m b1.1 hn) ?_)
  have key : ∀ {t : Int32} {y : Option GS}, f_ki_typeOf cs (av cs 0 0) = some t → (y = mo_kindOf_390 m (FP.i2d t)) → Sm 900 13000 (jc (f_ki_typeOf cs (av cs 0 0)) (fun q25 => jd (f_vl_ofNumber (FP.i2d q25)) (fun q26 => some ((q26, cs), 0, 0)))) y (XE n u h cs0 ms0) := fun e1 e2 => Sm_Lc e1 (Sm_R e2 (ki_N b1 rfl))
  rw [b2, nI_mul]
  have hm := many_c b1.1 hn
  by_cases h0 : nI (one1 (aR cs 0) * one1 (aC cs 0)) ≤ 1
  · refine Sm_bt h0 ?_
    by_cases h2 : (av cs 0 0).1 = 2
    · exact Sm_bt h2 (key (t := 2) (e_c hm (e_bt h0 (e_bt h2 rfl))) (congrArg _ (by decide)))
    · refine Sm_bf h2 ?_
      by_cases h3 : (av cs 0 0).1 = 3
      · exact Sm_bt h3 (key (t := 4) (e_c hm (e_bt h0 (e_bf h2 (e_bt h3 rfl)))) (congrArg _ (by decide)))
      · refine Sm_bf h3 ?_
        by_cases h4 : (av cs 0 0).1 = 4
        · exact Sm_bt h4 (key (t := 16) (e_c hm (e_bt h0 (e_bf h2 (e_bf h3 (e_bt h4 rfl))))) (congrArg _ (by decide)))
        · exact Sm_bf h4 (key (t := 1) (e_c hm (e_bt h0 (e_bf h2 (e_bf h3 (e_bf h4 rfl))))) (congrArg _ (by decide)))
  · exact Sm_bf h0 (key (t := 64) (e_c hm (e_bf h0 rfl)) (congrArg _ (by decide)))
theorem ki_131 (I : CI n u h cs0 ms0 cs ms) (hn : 0 < n) : Sm 900 13000 (f_ki_of cs 131) (f_mo_kindOf ms 131) (XE n u h cs0 ms0) := by
  refine ki_take I hn (e_bf (by decide) (e_bf (by decide) (e_bf (by decide) rfl))) (fun m b1 b2 b3 => Sm_Lbf (by decide) <| Sm_Lbf (by decide) <| Sm_Lbf (by decide) <| Sm_Lbf (by decide) <| Sm_Lbf (by decide) <| Sm_Lbf (by decide) <| Sm_Lbf (by decide) <| Sm_Lbf (by decide) <| Sm_Lbf (by decide) <| Sm_Lbf (by decide) <| Sm_Lbf (by decide) <| Sm_Lbf (by decide) <| Sm_Lbt rfl <| Sm_bf (by decide) <| Sm_bf (by decide) <| Sm_bf (by decide) <| Sm_bf (by decide) <| Sm_bf (by decide) <| Sm_bf (by decide) <| Sm_bf (by decide) <| Sm_bf (by decide) <| Sm_bf (by decide) <| Sm_bf (by decide) <| Sm_bf (by decide) <| Sm_bf (by decide) <| Sm_bt rfl <| ?_)
  rw [b2]
  refine Sm_Lb (fun q => Sm_bt q (ki_N b1 b3.symm)) (fun q => Sm_bf q (Sm_Ld rfl ?_))
  obtain ⟨m2, em, hm, hm2, hm3⟩ := XE_err (e := 7) b1 (by decide) (by decide)
  refine Sm_c em ?_
  obtain ⟨m4, em4, hm4⟩ := answerAny_m (m := m2) (w := m2.2.1 0 21)
  exact Sm_c em4 (Sm_end (XE_ch hm hm4 hm3 (by decide) (by decide) (by decide)))
theorem ki_132 (I : CI 0 u h cs0 ms0 cs ms) : Sm 900 13000 (f_ki_of cs 132) (f_mo_kindOf ms 132) (XE 0 u h cs0 ms0) := by
  have hr : f_mo_kindOf ms 132 = mo_kindOf_25 ms 132 := e_bf (by decide) (e_bf (by decide) (e_bt (by decide) rfl))
  rw [ki_of_v (nth_no I.1 (i := 0) (Nat.le_refl _) (by decide) 0), hr]
  refine Sm_Lbf (by decide) <| Sm_Lbf (by decide) <| Sm_Lbf (by decide) <| Sm_Lbf (by decide) <| Sm_Lbf (by decide) <| Sm_Lbf (by decide) <| Sm_Lbf (by decide) <| Sm_Lbf (by decide) <| Sm_Lbf (by decide) <| Sm_Lbf (by decide) <| Sm_Lbf (by decide) <| Sm_Lbf (by decide) <| Sm_Lbf (by decide) <| Sm_bf (by decide) <| Sm_bf (by decide) <| Sm_bf (by decide) <| Sm_bf (by decide) <| Sm_bf (by decide) <| Sm_bf (by decide) <| Sm_bf (by decide) <| Sm_bf (by decide) <| Sm_bf (by decide) <| Sm_bf (by decide) <| Sm_bf (by decide) <| Sm_bf (by decide) <| Sm_bf (by decide) <| ki_N I rfl
end KI
