/-! ### the call, function by function -/
def cL (st8 : CS) (p0 : Int32) : Option ((Int32 × CS) × Nat × Nat) := jb (p0 = 94) (jd (f_lu_index st8) (fun q18 => wf_call_166 q18)) (jb (p0 = 100) (jc (f_an_transpose st8) (fun q17 => wf_call_166 q17)) (jb (90 ≤ p0) (jb (101 ≤ p0) (jb (119 ≤ p0) (jd (f_ki_of st8 p0) (fun q9 => wf_call_135 q9.2 q9.1)) (jd (f_da_of st8 p0) (fun q11 => wf_call_135 q11.2 q11.1))) (jd (f_lu_of st8 p0) (fun q13 => wf_call_135 q13.2 q13.1))) (jd (f_tx_of st8 p0) (fun q15 => wf_call_135 q15.2 q15.1))))
def cR (st15 : GS) (x1 : Int32) : Option (Int32 × GS) := jb (90 ≤ x1) (jb (101 ≤ x1) (jb (117 ≤ x1) (jc (f_mo_kindOf st15 x1) (fun q16 => mo_call_131  q16)) (jc (f_mo_dates st15 x1) (fun q17 => mo_call_131  q17))) (jc (f_mo_lookUps st15 x1) (fun q18 => mo_call_131  q18))) (jc (f_mo_words st15 x1) (fun q19 => mo_call_131  q19))
/-- where a call begins -/
def HY (tp n u h : Nat) (cs : CS) (ms : GS) : Prop := CI n u h cs ms cs ms ∧ St tp cs ms ∧ Mk [] ms ∧ (∀ i j, i < j → j < n → aF cs i + aR cs i * aC cs i ≤ aF cs j) ∧ ms.1 0 22 = 0
def CQ (tp n u h : Nat) (cs : CS) (ms : GS) (p : Int32) : Prop := TA (901 + 4 * PH (cs.2 40) u) (13003 + 40 * PH (cs.2 40) u) (cL cs p) (fun r => Tr (cR ms p) (fun b => QQ tp h r b))
section CF
variable {tp n u h : Nat} {cs : CS} {ms : GS}
theorem fin_call {C S : Nat} {X : Option ((VV × CS) × Nat × Nat)} {Y : Option GS} (hC : C ≤ 900 + 4 * PH (cs.2 40) u) (hS : S ≤ 13000 + 40 * PH (cs.2 40) u) (hs : St tp cs ms) (hX : Sm C S X Y (XE n u h cs ms)) : TA (901 + 4 * PH (cs.2 40) u) (13003 + 40 * PH (cs.2 40) u) (jd X (fun q => wf_call_135 q.2 q.1)) (fun r => Tr (jc Y (fun q => mo_call_131 q)) (fun b => QQ tp h r b)) := by
  refine TA_mono (TA_jd hX (fun a ha => ?_)) (show C + 1 ≤ _ by omega) (show S + 3 ≤ _ by omega) (fun _ z => z)
  obtain ⟨m, em, hx⟩ := ha
  exact TA_mono (call_XE hs hx) (Nat.le_refl _) (Nat.le_refl _) (fun r hr => Tr_jce em hr)
theorem fin_90 {X : Option ((VV × CS) × Nat × Nat)} {Y : Option GS} (hs : St tp cs ms) (hX : Sm 900 13000 X Y (XE n u h cs ms)) : TA (901 + 4 * PH (cs.2 40) u) (13003 + 40 * PH (cs.2 40) u) (jd X (fun q => wf_call_135 q.2 q.1)) (fun r => Tr (jc Y (fun q => mo_call_131 q)) (fun b => QQ tp h r b)) := fin_call (Nat.le_add_right _ _) (Nat.le_add_right _ _) hs hX
theorem cc_66 (H : HY tp n u h cs ms) (hn : 1 ≤ n) (hm : n ≤ 1) : CQ tp n u h cs ms 66 := by
  have hr : cR ms 66 = jc (f_mo_words ms 66) (fun q => mo_call_131  q) := e_bf (by decide) rfl
  unfold CQ
  rw [hr]
  exact TA_jbf (by decide) <| TA_jbf (by decide) <| TA_jbf (by decide) <| fin_90 H.2.1 (d_66 H.1 (by omega) )
theorem cc_67 (H : HY tp n u h cs ms) (hn : 1 ≤ n) (hm : n ≤ 2) : CQ tp n u h cs ms 67 := by
  have hr : cR ms 67 = jc (f_mo_words ms 67) (fun q => mo_call_131  q) := e_bf (by decide) rfl
  unfold CQ
  rw [hr]
  exact TA_jbf (by decide) <| TA_jbf (by decide) <| TA_jbf (by decide) <| fin_90 H.2.1 (d_67 H.1 (by omega) H.2.2.1)
theorem cc_68 (H : HY tp n u h cs ms) (hn : 1 ≤ n) (hm : n ≤ 2) : CQ tp n u h cs ms 68 := by
  have hr : cR ms 68 = jc (f_mo_words ms 68) (fun q => mo_call_131  q) := e_bf (by decide) rfl
  unfold CQ
  rw [hr]
  exact TA_jbf (by decide) <| TA_jbf (by decide) <| TA_jbf (by decide) <| fin_90 H.2.1 (d_68 H.1 (by omega) H.2.2.1)
theorem cc_69 (H : HY tp n u h cs ms) (hn : 3 ≤ n) (hm : n ≤ 3) : CQ tp n u h cs ms 69 := by
  have hr : cR ms 69 = jc (f_mo_words ms 69) (fun q => mo_call_131  q) := e_bf (by decide) rfl
  unfold CQ
  rw [hr]
  exact TA_jbf (by decide) <| TA_jbf (by decide) <| TA_jbf (by decide) <| fin_90 H.2.1 (d_69 H.1 (by omega) H.2.2.1)
theorem cc_70 (H : HY tp n u h cs ms) (hn : 2 ≤ n) (hm : n ≤ 3) : CQ tp n u h cs ms 70 := by
  have hr : cR ms 70 = jc (f_mo_words ms 70) (fun q => mo_call_131  q) := e_bf (by decide) rfl
  unfold CQ
  rw [hr]
  exact TA_jbf (by decide) <| TA_jbf (by decide) <| TA_jbf (by decide) <| fin_90 H.2.1 (d_70 H.1 (by omega) )
theorem cc_71 (H : HY tp n u h cs ms) (hn : 2 ≤ n) (hm : n ≤ 3) : CQ tp n u h cs ms 71 := by
  have hr : cR ms 71 = jc (f_mo_words ms 71) (fun q => mo_call_131  q) := e_bf (by decide) rfl
  unfold CQ
  rw [hr]
  exact TA_jbf (by decide) <| TA_jbf (by decide) <| TA_jbf (by decide) <| fin_90 H.2.1 (d_71 H.1 (by omega) )
theorem cc_72 (H : HY tp n u h cs ms) (hn : 4 ≤ n) (hm : n ≤ 4) : CQ tp n u h cs ms 72 := by
  have hr : cR ms 72 = jc (f_mo_words ms 72) (fun q => mo_call_131  q) := e_bf (by decide) rfl
  unfold CQ
  rw [hr]
  exact TA_jbf (by decide) <| TA_jbf (by decide) <| TA_jbf (by decide) <| fin_90 H.2.1 (d_72 H.1 (by omega) H.2.2.1)
theorem cc_73 (H : HY tp n u h cs ms) (hn : 3 ≤ n) (hm : n ≤ 4) : CQ tp n u h cs ms 73 := by
  have hr : cR ms 73 = jc (f_mo_words ms 73) (fun q => mo_call_131  q) := e_bf (by decide) rfl
  unfold CQ
  rw [hr]
  exact TA_jbf (by decide) <| TA_jbf (by decide) <| TA_jbf (by decide) <| fin_90 H.2.1 (d_73 H.1 (by omega) H.2.2.1)
theorem cc_74 (H : HY tp n u h cs ms) (hn : 2 ≤ n) (hm : n ≤ 2) : CQ tp n u h cs ms 74 := by
  have hr : cR ms 74 = jc (f_mo_words ms 74) (fun q => mo_call_131  q) := e_bf (by decide) rfl
  unfold CQ
  rw [hr]
  exact TA_jbf (by decide) <| TA_jbf (by decide) <| TA_jbf (by decide) <| fin_90 H.2.1 (d_74 H.1 (by omega) H.2.2.1)
theorem cc_75 (H : HY tp n u h cs ms) (hn : 1 ≤ n) (hm : n ≤ 1) : CQ tp n u h cs ms 75 := by
  have hr : cR ms 75 = jc (f_mo_words ms 75) (fun q => mo_call_131  q) := e_bf (by decide) rfl
  unfold CQ
  rw [hr]
  exact TA_jbf (by decide) <| TA_jbf (by decide) <| TA_jbf (by decide) <| fin_90 H.2.1 (d_75 H.1 (by omega) H.2.2.1)
theorem cc_76 (H : HY tp n u h cs ms) (hn : 1 ≤ n) (hm : n ≤ 1) : CQ tp n u h cs ms 76 := by
  have hr : cR ms 76 = jc (f_mo_words ms 76) (fun q => mo_call_131  q) := e_bf (by decide) rfl
  unfold CQ
  rw [hr]
  exact TA_jbf (by decide) <| TA_jbf (by decide) <| TA_jbf (by decide) <| fin_90 H.2.1 (d_76 H.1 (by omega) H.2.2.1)
theorem cc_77 (H : HY tp n u h cs ms) (hn : 1 ≤ n) (hm : n ≤ 1) : CQ tp n u h cs ms 77 := by
  have hr : cR ms 77 = jc (f_mo_words ms 77) (fun q => mo_call_131  q) := e_bf (by decide) rfl
  unfold CQ
  rw [hr]
  exact TA_jbf (by decide) <| TA_jbf (by decide) <| TA_jbf (by decide) <| fin_90 H.2.1 (d_77 H.1 (by omega) H.2.2.1)
theorem cc_78 (H : HY tp n u h cs ms) (hn : 1 ≤ n) (hm : n ≤ 1) : CQ tp n u h cs ms 78 := by
  have hr : cR ms 78 = jc (f_mo_words ms 78) (fun q => mo_call_131  q) := e_bf (by decide) rfl
  unfold CQ
  rw [hr]
  exact TA_jbf (by decide) <| TA_jbf (by decide) <| TA_jbf (by decide) <| fin_90 H.2.1 (d_78 H.1 (by omega) H.2.2.1)
theorem cc_79 (H : HY tp n u h cs ms) (hn : 1 ≤ n) (hm : n ≤ 30) : CQ tp n u h cs ms 79 := by
  have hr : cR ms 79 = jc (f_mo_words ms 79) (fun q => mo_call_131  q) := e_bf (by decide) rfl
  unfold CQ
  rw [hr]
  exact TA_jbf (by decide) <| TA_jbf (by decide) <| TA_jbf (by decide) <| fin_90 H.2.1 (d_79 H.1 (by omega) H.2.2.1)
theorem cc_80 (H : HY tp n u h cs ms) (hn : 3 ≤ n) (hm : n ≤ 30) : CQ tp n u h cs ms 80 := by
  have hr : cR ms 80 = jc (f_mo_words ms 80) (fun q => mo_call_131  q) := e_bf (by decide) rfl
  unfold CQ
  rw [hr]
  exact TA_jbf (by decide) <| TA_jbf (by decide) <| TA_jbf (by decide) <| fin_call (Nat.le_refl _) (Nat.le_refl _) H.2.1 (d_80 H.1 (by omega) H.2.2.1 H.2.2.2.1)
theorem cc_81 (H : HY tp n u h cs ms) (hn : 2 ≤ n) (hm : n ≤ 2) : CQ tp n u h cs ms 81 := by
  have hr : cR ms 81 = jc (f_mo_words ms 81) (fun q => mo_call_131  q) := e_bf (by decide) rfl
  unfold CQ
  rw [hr]
  exact TA_jbf (by decide) <| TA_jbf (by decide) <| TA_jbf (by decide) <| fin_90 H.2.1 (d_81 H.1 (by omega) )
theorem cc_82 (H : HY tp n u h cs ms) (hn : 1 ≤ n) (hm : n ≤ 1) : CQ tp n u h cs ms 82 := by
  have hr : cR ms 82 = jc (f_mo_words ms 82) (fun q => mo_call_131  q) := e_bf (by decide) rfl
  unfold CQ
  rw [hr]
  exact TA_jbf (by decide) <| TA_jbf (by decide) <| TA_jbf (by decide) <| fin_90 H.2.1 (d_82 H.1 (by omega) H.2.2.1)
theorem cc_83 (H : HY tp n u h cs ms) (hn : 1 ≤ n) (hm : n ≤ 1) : CQ tp n u h cs ms 83 := by
  have hr : cR ms 83 = jc (f_mo_words ms 83) (fun q => mo_call_131  q) := e_bf (by decide) rfl
  unfold CQ
  rw [hr]
  exact TA_jbf (by decide) <| TA_jbf (by decide) <| TA_jbf (by decide) <| fin_90 H.2.1 (d_83 H.1 (by omega) )
theorem cc_87 (H : HY tp n u h cs ms) (hn : 1 ≤ n) (hm : n ≤ 1) : CQ tp n u h cs ms 87 := by
  have hr : cR ms 87 = jc (f_mo_words ms 87) (fun q => mo_call_131  q) := e_bf (by decide) rfl
  unfold CQ
  rw [hr]
  exact TA_jbf (by decide) <| TA_jbf (by decide) <| TA_jbf (by decide) <| fin_90 H.2.1 (d_87 H.1 (by omega) H.2.2.1)
theorem cc_88 (H : HY tp n u h cs ms) (hn : 2 ≤ n) (hm : n ≤ 3) : CQ tp n u h cs ms 88 := by
  have hr : cR ms 88 = jc (f_mo_words ms 88) (fun q => mo_call_131  q) := e_bf (by decide) rfl
  unfold CQ
  rw [hr]
  exact TA_jbf (by decide) <| TA_jbf (by decide) <| TA_jbf (by decide) <| fin_90 H.2.1 (d_88 H.1 (by omega) H.2.2.1)
theorem cc_89 (H : HY tp n u h cs ms) (hn : 2 ≤ n) (hm : n ≤ 2) : CQ tp n u h cs ms 89 := by
  have hr : cR ms 89 = jc (f_mo_words ms 89) (fun q => mo_call_131  q) := e_bf (by decide) rfl
  unfold CQ
  rw [hr]
  exact TA_jbf (by decide) <| TA_jbf (by decide) <| TA_jbf (by decide) <| fin_90 H.2.1 (d_89 H.1 (by omega) )
theorem cc_90 (H : HY tp n u h cs ms) (hn : 3 ≤ n) (hm : n ≤ 4) : CQ tp n u h cs ms 90 := by
  have hr : cR ms 90 = jc (f_mo_lookUps ms 90) (fun q => mo_call_131  q) := e_bt (by decide) (e_bf (by decide) rfl)
  unfold CQ
  rw [hr]
  exact TA_jbf (by decide) <| TA_jbf (by decide) <| TA_jbt (by decide) <| TA_jbf (by decide) <| fin_90 H.2.1 (d_90 H.1 (by omega) )
theorem cc_91 (H : HY tp n u h cs ms) (hn : 3 ≤ n) (hm : n ≤ 4) : CQ tp n u h cs ms 91 := by
  have hr : cR ms 91 = jc (f_mo_lookUps ms 91) (fun q => mo_call_131  q) := e_bt (by decide) (e_bf (by decide) rfl)
  unfold CQ
  rw [hr]
  exact TA_jbf (by decide) <| TA_jbf (by decide) <| TA_jbt (by decide) <| TA_jbf (by decide) <| fin_90 H.2.1 (d_91 H.1 (by omega) )
theorem cc_92 (H : HY tp n u h cs ms) (hn : 2 ≤ n) (hm : n ≤ 3) : CQ tp n u h cs ms 92 := by
  have hr : cR ms 92 = jc (f_mo_lookUps ms 92) (fun q => mo_call_131  q) := e_bt (by decide) (e_bf (by decide) rfl)
  unfold CQ
  rw [hr]
  exact TA_jbf (by decide) <| TA_jbf (by decide) <| TA_jbt (by decide) <| TA_jbf (by decide) <| fin_90 H.2.1 (d_92 H.1 (by omega) )
theorem cc_93 (H : HY tp n u h cs ms) (hn : 2 ≤ n) (hm : n ≤ 3) : CQ tp n u h cs ms 93 := by
  have hr : cR ms 93 = jc (f_mo_lookUps ms 93) (fun q => mo_call_131  q) := e_bt (by decide) (e_bf (by decide) rfl)
  unfold CQ
  rw [hr]
  exact TA_jbf (by decide) <| TA_jbf (by decide) <| TA_jbt (by decide) <| TA_jbf (by decide) <| fin_90 H.2.1 (d_93 H.1 (by omega) )
theorem cc_94 (H : HY tp n u h cs ms) (hn : 2 ≤ n) (hm : n ≤ 3) : CQ tp n u h cs ms 94 := by
  have hr : cR ms 94 = jc (f_mo_lookUps ms 94) (fun q18 => mo_call_131  q18) := e_bt (by decide) (e_bf (by decide) rfl)
  have hl : f_mo_lookUps ms 94 = jc (f_mo_index ms) (fun q => some q) := e_bf (by decide) (e_bf (by decide) (e_bf (by decide) (e_bf (by decide) (e_bt rfl rfl))))
  unfold CQ
  rw [hr, hl]
  refine TA_jbt rfl (TA_mono (TA_jd (c := 0) (s := 0) (x_index H.2.1 H.1 (by omega)) (fun c ⟨m, em, v, ev, hq⟩ => ?_)) (show 1 + 0 ≤ _ by omega) (show 3 + 0 ≤ _ by omega) (fun _ z => z))
  rw [ev]
  exact TA_some (Nat.le_refl _) (Nat.le_refl _) (Tr_jce (e_c em rfl) hq)
theorem cc_95 (H : HY tp n u h cs ms) (hn : 0 ≤ n) (hm : n ≤ 1) : CQ tp n u h cs ms 95 := by
  have hr : cR ms 95 = jc (f_mo_lookUps ms 95) (fun q => mo_call_131  q) := e_bt (by decide) (e_bf (by decide) rfl)
  unfold CQ
  rw [hr]
  exact TA_jbf (by decide) <| TA_jbf (by decide) <| TA_jbt (by decide) <| TA_jbf (by decide) <| fin_90 H.2.1 (d_95 H.1 (by omega) H.2.1.2.2.1)
theorem cc_96 (H : HY tp n u h cs ms) (hn : 0 ≤ n) (hm : n ≤ 1) : CQ tp n u h cs ms 96 := by
  have hr : cR ms 96 = jc (f_mo_lookUps ms 96) (fun q => mo_call_131  q) := e_bt (by decide) (e_bf (by decide) rfl)
  unfold CQ
  rw [hr]
  exact TA_jbf (by decide) <| TA_jbf (by decide) <| TA_jbt (by decide) <| TA_jbf (by decide) <| fin_90 H.2.1 (d_96 H.1 (by omega) H.2.1.2.2.1)
theorem cc_97 (H : HY tp n u h cs ms) (hn : 1 ≤ n) (hm : n ≤ 1) : CQ tp n u h cs ms 97 := by
  have hr : cR ms 97 = jc (f_mo_lookUps ms 97) (fun q => mo_call_131  q) := e_bt (by decide) (e_bf (by decide) rfl)
  unfold CQ
  rw [hr]
  exact TA_jbf (by decide) <| TA_jbf (by decide) <| TA_jbt (by decide) <| TA_jbf (by decide) <| fin_90 H.2.1 (d_97 H.1 (by omega) )
theorem cc_98 (H : HY tp n u h cs ms) (hn : 1 ≤ n) (hm : n ≤ 1) : CQ tp n u h cs ms 98 := by
  have hr : cR ms 98 = jc (f_mo_lookUps ms 98) (fun q => mo_call_131  q) := e_bt (by decide) (e_bf (by decide) rfl)
  unfold CQ
  rw [hr]
  exact TA_jbf (by decide) <| TA_jbf (by decide) <| TA_jbt (by decide) <| TA_jbf (by decide) <| fin_90 H.2.1 (d_98 H.1 (by omega) )
theorem cc_99 (H : HY tp n u h cs ms) (hn : 2 ≤ n) (hm : n ≤ 5) : CQ tp n u h cs ms 99 := by
  have hr : cR ms 99 = jc (f_mo_lookUps ms 99) (fun q => mo_call_131  q) := e_bt (by decide) (e_bf (by decide) rfl)
  unfold CQ
  rw [hr]
  exact TA_jbf (by decide) <| TA_jbf (by decide) <| TA_jbt (by decide) <| TA_jbf (by decide) <| fin_90 H.2.1 (d_99 H.1 (by omega) H.2.2.1)
theorem cc_100 (H : HY tp n u h cs ms) (hn : 1 ≤ n) (hm : n ≤ 1) : CQ tp n u h cs ms 100 := by
  have hr : cR ms 100 = jc (f_mo_lookUps ms 100) (fun q18 => mo_call_131  q18) := e_bt (by decide) (e_bf (by decide) rfl)
  unfold CQ
  rw [hr]
  obtain ⟨c, ec, m, em, v, ev, hq⟩ := x_transpose H.2.1 H.1 (by omega) H.2.2.2.2
  refine TA_jbf (by decide) (TA_jbt rfl (TA_jce ec ?_))
  rw [ev]
  exact TA_some (Nat.zero_le _) (Nat.zero_le _) (Tr_jce em hq)
theorem cc_101 (H : HY tp n u h cs ms) (hn : 3 ≤ n) (hm : n ≤ 3) : CQ tp n u h cs ms 101 := by
  have hr : cR ms 101 = jc (f_mo_dates ms 101) (fun q => mo_call_131  q) := e_bt (by decide) (e_bt (by decide) (e_bf (by decide) rfl))
  unfold CQ
  rw [hr]
  exact TA_jbf (by decide) <| TA_jbf (by decide) <| TA_jbt (by decide) <| TA_jbt (by decide) <| TA_jbf (by decide) <| fin_90 H.2.1 (d_101 H.1 (by omega) )
theorem cc_102 (H : HY tp n u h cs ms) (hn : 3 ≤ n) (hm : n ≤ 3) : CQ tp n u h cs ms 102 := by
  have hr : cR ms 102 = jc (f_mo_dates ms 102) (fun q => mo_call_131  q) := e_bt (by decide) (e_bt (by decide) (e_bf (by decide) rfl))
  unfold CQ
  rw [hr]
  exact TA_jbf (by decide) <| TA_jbf (by decide) <| TA_jbt (by decide) <| TA_jbt (by decide) <| TA_jbf (by decide) <| fin_90 H.2.1 (d_102 H.1 (by omega) )
theorem cc_103 (H : HY tp n u h cs ms) (hn : 1 ≤ n) (hm : n ≤ 1) : CQ tp n u h cs ms 103 := by
  have hr : cR ms 103 = jc (f_mo_dates ms 103) (fun q => mo_call_131  q) := e_bt (by decide) (e_bt (by decide) (e_bf (by decide) rfl))
  unfold CQ
  rw [hr]
  exact TA_jbf (by decide) <| TA_jbf (by decide) <| TA_jbt (by decide) <| TA_jbt (by decide) <| TA_jbf (by decide) <| fin_90 H.2.1 (d_103 H.1 (by omega) )
theorem cc_104 (H : HY tp n u h cs ms) (hn : 1 ≤ n) (hm : n ≤ 1) : CQ tp n u h cs ms 104 := by
  have hr : cR ms 104 = jc (f_mo_dates ms 104) (fun q => mo_call_131  q) := e_bt (by decide) (e_bt (by decide) (e_bf (by decide) rfl))
  unfold CQ
  rw [hr]
  exact TA_jbf (by decide) <| TA_jbf (by decide) <| TA_jbt (by decide) <| TA_jbt (by decide) <| TA_jbf (by decide) <| fin_90 H.2.1 (d_104 H.1 (by omega) )
theorem cc_105 (H : HY tp n u h cs ms) (hn : 1 ≤ n) (hm : n ≤ 1) : CQ tp n u h cs ms 105 := by
  have hr : cR ms 105 = jc (f_mo_dates ms 105) (fun q => mo_call_131  q) := e_bt (by decide) (e_bt (by decide) (e_bf (by decide) rfl))
  unfold CQ
  rw [hr]
  exact TA_jbf (by decide) <| TA_jbf (by decide) <| TA_jbt (by decide) <| TA_jbt (by decide) <| TA_jbf (by decide) <| fin_90 H.2.1 (d_105 H.1 (by omega) )
theorem cc_106 (H : HY tp n u h cs ms) (hn : 1 ≤ n) (hm : n ≤ 1) : CQ tp n u h cs ms 106 := by
  have hr : cR ms 106 = jc (f_mo_dates ms 106) (fun q => mo_call_131  q) := e_bt (by decide) (e_bt (by decide) (e_bf (by decide) rfl))
  unfold CQ
  rw [hr]
  exact TA_jbf (by decide) <| TA_jbf (by decide) <| TA_jbt (by decide) <| TA_jbt (by decide) <| TA_jbf (by decide) <| fin_90 H.2.1 (d_106 H.1 (by omega) )
theorem cc_107 (H : HY tp n u h cs ms) (hn : 1 ≤ n) (hm : n ≤ 1) : CQ tp n u h cs ms 107 := by
  have hr : cR ms 107 = jc (f_mo_dates ms 107) (fun q => mo_call_131  q) := e_bt (by decide) (e_bt (by decide) (e_bf (by decide) rfl))
  unfold CQ
  rw [hr]
  exact TA_jbf (by decide) <| TA_jbf (by decide) <| TA_jbt (by decide) <| TA_jbt (by decide) <| TA_jbf (by decide) <| fin_90 H.2.1 (d_107 H.1 (by omega) )
theorem cc_108 (H : HY tp n u h cs ms) (hn : 1 ≤ n) (hm : n ≤ 1) : CQ tp n u h cs ms 108 := by
  have hr : cR ms 108 = jc (f_mo_dates ms 108) (fun q => mo_call_131  q) := e_bt (by decide) (e_bt (by decide) (e_bf (by decide) rfl))
  unfold CQ
  rw [hr]
  exact TA_jbf (by decide) <| TA_jbf (by decide) <| TA_jbt (by decide) <| TA_jbt (by decide) <| TA_jbf (by decide) <| fin_90 H.2.1 (d_108 H.1 (by omega) )
theorem cc_109 (H : HY tp n u h cs ms) (hn : 1 ≤ n) (hm : n ≤ 2) : CQ tp n u h cs ms 109 := by
  have hr : cR ms 109 = jc (f_mo_dates ms 109) (fun q => mo_call_131  q) := e_bt (by decide) (e_bt (by decide) (e_bf (by decide) rfl))
  unfold CQ
  rw [hr]
  exact TA_jbf (by decide) <| TA_jbf (by decide) <| TA_jbt (by decide) <| TA_jbt (by decide) <| TA_jbf (by decide) <| fin_90 H.2.1 (d_109 H.1 (by omega) )
theorem cc_110 (H : HY tp n u h cs ms) (hn : 1 ≤ n) (hm : n ≤ 2) : CQ tp n u h cs ms 110 := by
  have hr : cR ms 110 = jc (f_mo_dates ms 110) (fun q => mo_call_131  q) := e_bt (by decide) (e_bt (by decide) (e_bf (by decide) rfl))
  unfold CQ
  rw [hr]
  exact TA_jbf (by decide) <| TA_jbf (by decide) <| TA_jbt (by decide) <| TA_jbt (by decide) <| TA_jbf (by decide) <| fin_90 H.2.1 (d_110 H.1 (by omega) )
theorem cc_111 (H : HY tp n u h cs ms) (hn : 2 ≤ n) (hm : n ≤ 2) : CQ tp n u h cs ms 111 := by
  have hr : cR ms 111 = jc (f_mo_dates ms 111) (fun q => mo_call_131  q) := e_bt (by decide) (e_bt (by decide) (e_bf (by decide) rfl))
  unfold CQ
  rw [hr]
  exact TA_jbf (by decide) <| TA_jbf (by decide) <| TA_jbt (by decide) <| TA_jbt (by decide) <| TA_jbf (by decide) <| fin_90 H.2.1 (d_111 H.1 (by omega) )
theorem cc_112 (H : HY tp n u h cs ms) (hn : 2 ≤ n) (hm : n ≤ 2) : CQ tp n u h cs ms 112 := by
  have hr : cR ms 112 = jc (f_mo_dates ms 112) (fun q => mo_call_131  q) := e_bt (by decide) (e_bt (by decide) (e_bf (by decide) rfl))
  unfold CQ
  rw [hr]
  exact TA_jbf (by decide) <| TA_jbf (by decide) <| TA_jbt (by decide) <| TA_jbt (by decide) <| TA_jbf (by decide) <| fin_90 H.2.1 (d_112 H.1 (by omega) )
theorem cc_113 (H : HY tp n u h cs ms) (hn : 2 ≤ n) (hm : n ≤ 2) : CQ tp n u h cs ms 113 := by
  have hr : cR ms 113 = jc (f_mo_dates ms 113) (fun q => mo_call_131  q) := e_bt (by decide) (e_bt (by decide) (e_bf (by decide) rfl))
  unfold CQ
  rw [hr]
  exact TA_jbf (by decide) <| TA_jbf (by decide) <| TA_jbt (by decide) <| TA_jbt (by decide) <| TA_jbf (by decide) <| fin_90 H.2.1 (d_113 H.1 (by omega) )
theorem cc_114 (H : HY tp n u h cs ms) (hn : 3 ≤ n) (hm : n ≤ 3) : CQ tp n u h cs ms 114 := by
  have hr : cR ms 114 = jc (f_mo_dates ms 114) (fun q => mo_call_131  q) := e_bt (by decide) (e_bt (by decide) (e_bf (by decide) rfl))
  unfold CQ
  rw [hr]
  exact TA_jbf (by decide) <| TA_jbf (by decide) <| TA_jbt (by decide) <| TA_jbt (by decide) <| TA_jbf (by decide) <| fin_90 H.2.1 (d_114 H.1 (by omega) )
theorem cc_115 (H : HY tp n u h cs ms) (hn : 2 ≤ n) (hm : n ≤ 3) : CQ tp n u h cs ms 115 := by
  have hr : cR ms 115 = jc (f_mo_dates ms 115) (fun q => mo_call_131  q) := e_bt (by decide) (e_bt (by decide) (e_bf (by decide) rfl))
  unfold CQ
  rw [hr]
  exact TA_jbf (by decide) <| TA_jbf (by decide) <| TA_jbt (by decide) <| TA_jbt (by decide) <| TA_jbf (by decide) <| fin_90 H.2.1 (d_115 H.1 (by omega) )
theorem cc_116 (H : HY tp n u h cs ms) (hn : 2 ≤ n) (hm : n ≤ 3) : CQ tp n u h cs ms 116 := by
  have hr : cR ms 116 = jc (f_mo_dates ms 116) (fun q => mo_call_131  q) := e_bt (by decide) (e_bt (by decide) (e_bf (by decide) rfl))
  unfold CQ
  rw [hr]
  exact TA_jbf (by decide) <| TA_jbf (by decide) <| TA_jbt (by decide) <| TA_jbt (by decide) <| TA_jbf (by decide) <| fin_90 H.2.1 (d_116 H.1 (by omega) )
theorem cc_119 (H : HY tp n u h cs ms) (hn : 1 ≤ n) (hm : n ≤ 1) : CQ tp n u h cs ms 119 := by
  have hr : cR ms 119 = jc (f_mo_kindOf ms 119) (fun q => mo_call_131  q) := e_bt (by decide) (e_bt (by decide) (e_bt (by decide) rfl))
  unfold CQ
  rw [hr]
  exact TA_jbf (by decide) <| TA_jbf (by decide) <| TA_jbt (by decide) <| TA_jbt (by decide) <| TA_jbt (by decide) <| fin_90 H.2.1 (ki_119 H.1 (by omega))
theorem cc_120 (H : HY tp n u h cs ms) (hn : 1 ≤ n) (hm : n ≤ 1) : CQ tp n u h cs ms 120 := by
  have hr : cR ms 120 = jc (f_mo_kindOf ms 120) (fun q => mo_call_131  q) := e_bt (by decide) (e_bt (by decide) (e_bt (by decide) rfl))
  unfold CQ
  rw [hr]
  exact TA_jbf (by decide) <| TA_jbf (by decide) <| TA_jbt (by decide) <| TA_jbt (by decide) <| TA_jbt (by decide) <| fin_90 H.2.1 (ki_120 H.1 (by omega))
theorem cc_121 (H : HY tp n u h cs ms) (hn : 1 ≤ n) (hm : n ≤ 1) : CQ tp n u h cs ms 121 := by
  have hr : cR ms 121 = jc (f_mo_kindOf ms 121) (fun q => mo_call_131  q) := e_bt (by decide) (e_bt (by decide) (e_bt (by decide) rfl))
  unfold CQ
  rw [hr]
  exact TA_jbf (by decide) <| TA_jbf (by decide) <| TA_jbt (by decide) <| TA_jbt (by decide) <| TA_jbt (by decide) <| fin_90 H.2.1 (ki_121 H.1 (by omega))
theorem cc_122 (H : HY tp n u h cs ms) (hn : 1 ≤ n) (hm : n ≤ 1) : CQ tp n u h cs ms 122 := by
  have hr : cR ms 122 = jc (f_mo_kindOf ms 122) (fun q => mo_call_131  q) := e_bt (by decide) (e_bt (by decide) (e_bt (by decide) rfl))
  unfold CQ
  rw [hr]
  exact TA_jbf (by decide) <| TA_jbf (by decide) <| TA_jbt (by decide) <| TA_jbt (by decide) <| TA_jbt (by decide) <| fin_90 H.2.1 (ki_122 H.1 (by omega))
theorem cc_123 (H : HY tp n u h cs ms) (hn : 1 ≤ n) (hm : n ≤ 1) : CQ tp n u h cs ms 123 := by
  have hr : cR ms 123 = jc (f_mo_kindOf ms 123) (fun q => mo_call_131  q) := e_bt (by decide) (e_bt (by decide) (e_bt (by decide) rfl))
  unfold CQ
  rw [hr]
  exact TA_jbf (by decide) <| TA_jbf (by decide) <| TA_jbt (by decide) <| TA_jbt (by decide) <| TA_jbt (by decide) <| fin_90 H.2.1 (ki_123 H.1 (by omega))
theorem cc_124 (H : HY tp n u h cs ms) (hn : 1 ≤ n) (hm : n ≤ 1) : CQ tp n u h cs ms 124 := by
  have hr : cR ms 124 = jc (f_mo_kindOf ms 124) (fun q => mo_call_131  q) := e_bt (by decide) (e_bt (by decide) (e_bt (by decide) rfl))
  unfold CQ
  rw [hr]
  exact TA_jbf (by decide) <| TA_jbf (by decide) <| TA_jbt (by decide) <| TA_jbt (by decide) <| TA_jbt (by decide) <| fin_90 H.2.1 (ki_124 H.1 (by omega))
theorem cc_125 (H : HY tp n u h cs ms) (hn : 1 ≤ n) (hm : n ≤ 1) : CQ tp n u h cs ms 125 := by
  have hr : cR ms 125 = jc (f_mo_kindOf ms 125) (fun q => mo_call_131  q) := e_bt (by decide) (e_bt (by decide) (e_bt (by decide) rfl))
  unfold CQ
  rw [hr]
  exact TA_jbf (by decide) <| TA_jbf (by decide) <| TA_jbt (by decide) <| TA_jbt (by decide) <| TA_jbt (by decide) <| fin_90 H.2.1 (ki_125 H.1 (by omega))
theorem cc_126 (H : HY tp n u h cs ms) (hn : 1 ≤ n) (hm : n ≤ 1) : CQ tp n u h cs ms 126 := by
  have hr : cR ms 126 = jc (f_mo_kindOf ms 126) (fun q => mo_call_131  q) := e_bt (by decide) (e_bt (by decide) (e_bt (by decide) rfl))
  unfold CQ
  rw [hr]
  exact TA_jbf (by decide) <| TA_jbf (by decide) <| TA_jbt (by decide) <| TA_jbt (by decide) <| TA_jbt (by decide) <| fin_90 H.2.1 (ki_126 H.1 (by omega))
theorem cc_127 (H : HY tp n u h cs ms) (hn : 1 ≤ n) (hm : n ≤ 1) : CQ tp n u h cs ms 127 := by
  have hr : cR ms 127 = jc (f_mo_kindOf ms 127) (fun q => mo_call_131  q) := e_bt (by decide) (e_bt (by decide) (e_bt (by decide) rfl))
  unfold CQ
  rw [hr]
  exact TA_jbf (by decide) <| TA_jbf (by decide) <| TA_jbt (by decide) <| TA_jbt (by decide) <| TA_jbt (by decide) <| fin_90 H.2.1 (ki_127 H.1 (by omega))
theorem cc_128 (H : HY tp n u h cs ms) (hn : 1 ≤ n) (hm : n ≤ 1) : CQ tp n u h cs ms 128 := by
  have hr : cR ms 128 = jc (f_mo_kindOf ms 128) (fun q => mo_call_131  q) := e_bt (by decide) (e_bt (by decide) (e_bt (by decide) rfl))
  unfold CQ
  rw [hr]
  exact TA_jbf (by decide) <| TA_jbf (by decide) <| TA_jbt (by decide) <| TA_jbt (by decide) <| TA_jbt (by decide) <| fin_90 H.2.1 (ki_128 H.1 (by omega))
theorem cc_129 (H : HY tp n u h cs ms) (hn : 0 ≤ n) (hm : n ≤ 0) : CQ tp n u h cs ms 129 := by
  have n0 : n = 0 := by omega
  subst n0
  have hr : cR ms 129 = jc (f_mo_kindOf ms 129) (fun q => mo_call_131  q) := e_bt (by decide) (e_bt (by decide) (e_bt (by decide) rfl))
  unfold CQ
  rw [hr]
  exact TA_jbf (by decide) <| TA_jbf (by decide) <| TA_jbt (by decide) <| TA_jbt (by decide) <| TA_jbt (by decide) <| fin_90 H.2.1 (ki_129 H.1)
theorem cc_130 (H : HY tp n u h cs ms) (hn : 1 ≤ n) (hm : n ≤ 1) : CQ tp n u h cs ms 130 := by
  have hr : cR ms 130 = jc (f_mo_kindOf ms 130) (fun q => mo_call_131  q) := e_bt (by decide) (e_bt (by decide) (e_bt (by decide) rfl))
  unfold CQ
  rw [hr]
  exact TA_jbf (by decide) <| TA_jbf (by decide) <| TA_jbt (by decide) <| TA_jbt (by decide) <| TA_jbt (by decide) <| fin_90 H.2.1 (ki_130 H.1 (by omega))
theorem cc_131 (H : HY tp n u h cs ms) (hn : 1 ≤ n) (hm : n ≤ 1) : CQ tp n u h cs ms 131 := by
  have hr : cR ms 131 = jc (f_mo_kindOf ms 131) (fun q => mo_call_131  q) := e_bt (by decide) (e_bt (by decide) (e_bt (by decide) rfl))
  unfold CQ
  rw [hr]
  exact TA_jbf (by decide) <| TA_jbf (by decide) <| TA_jbt (by decide) <| TA_jbt (by decide) <| TA_jbt (by decide) <| fin_90 H.2.1 (ki_131 H.1 (by omega))
theorem cc_132 (H : HY tp n u h cs ms) (hn : 0 ≤ n) (hm : n ≤ 0) : CQ tp n u h cs ms 132 := by
  have n0 : n = 0 := by omega
  subst n0
  have hr : cR ms 132 = jc (f_mo_kindOf ms 132) (fun q => mo_call_131  q) := e_bt (by decide) (e_bt (by decide) (e_bt (by decide) rfl))
  unfold CQ
  rw [hr]
  exact TA_jbf (by decide) <| TA_jbf (by decide) <| TA_jbt (by decide) <| TA_jbt (by decide) <| TA_jbt (by decide) <| fin_90 H.2.1 (ki_132 H.1)
end CF
theorem cc_all {tp n u h k : Nat} {cs : CS} {ms : GS} (H : HY tp n u h cs ms) (hk : k < 67) (ho : okk k n) : CQ tp n u h cs ms (nI (k + 66)) := by
  have hc : k = 0 ∨ k = 1 ∨ k = 2 ∨ k = 3 ∨ k = 4 ∨ k = 5 ∨ k = 6 ∨ k = 7 ∨ k = 8 ∨ k = 9 ∨ k = 10 ∨ k = 11 ∨ k = 12 ∨ k = 13 ∨ k = 14 ∨ k = 15 ∨ k = 16 ∨ k = 17 ∨ k = 18 ∨ k = 19 ∨ k = 20 ∨ k = 21 ∨ k = 22 ∨ k = 23 ∨ k = 24 ∨ k = 25 ∨ k = 26 ∨ k = 27 ∨ k = 28 ∨ k = 29 ∨ k = 30 ∨ k = 31 ∨ k = 32 ∨ k = 33 ∨ k = 34 ∨ k = 35 ∨ k = 36 ∨ k = 37 ∨ k = 38 ∨ k = 39 ∨ k = 40 ∨ k = 41 ∨ k = 42 ∨ k = 43 ∨ k = 44 ∨ k = 45 ∨ k = 46 ∨ k = 47 ∨ k = 48 ∨ k = 49 ∨ k = 50 ∨ k = 51 ∨ k = 52 ∨ k = 53 ∨ k = 54 ∨ k = 55 ∨ k = 56 ∨ k = 57 ∨ k = 58 ∨ k = 59 ∨ k = 60 ∨ k = 61 ∨ k = 62 ∨ k = 63 ∨ k = 64 ∨ k = 65 ∨ k = 66 := by omega
  rcases hc with rfl | rfl | rfl | rfl | rfl | rfl | rfl | rfl | rfl | rfl | rfl | rfl | rfl | rfl | rfl | rfl | rfl | rfl | rfl | rfl | rfl | rfl | rfl | rfl | rfl | rfl | rfl | rfl | rfl | rfl | rfl | rfl | rfl | rfl | rfl | rfl | rfl | rfl | rfl | rfl | rfl | rfl | rfl | rfl | rfl | rfl | rfl | rfl | rfl | rfl | rfl | rfl | rfl | rfl | rfl | rfl | rfl | rfl | rfl | rfl | rfl | rfl | rfl | rfl | rfl | rfl | rfl
  · exact cc_66 H ho.1 ho.2
  · exact cc_67 H ho.1 ho.2
  · exact cc_68 H ho.1 ho.2
  · exact cc_69 H ho.1 ho.2
  · exact cc_70 H ho.1 ho.2
  · exact cc_71 H ho.1 ho.2
  · exact cc_72 H ho.1 ho.2
  · exact cc_73 H ho.1 ho.2
  · exact cc_74 H ho.1 ho.2
  · exact cc_75 H ho.1 ho.2
  · exact cc_76 H ho.1 ho.2
  · exact cc_77 H ho.1 ho.2
  · exact cc_78 H ho.1 ho.2
  · exact cc_79 H ho.1 ho.2
  · exact cc_80 H ho.1 ho.2
  · exact cc_81 H ho.1 ho.2
  · exact cc_82 H ho.1 ho.2
  · exact cc_83 H ho.1 ho.2
  · exact absurd ho (fun z => by have h1 : 1 ≤ n := z.1; have h2 : n ≤ 0 := z.2; omega)
  · exact absurd ho (fun z => by have h1 : 1 ≤ n := z.1; have h2 : n ≤ 0 := z.2; omega)
  · exact absurd ho (fun z => by have h1 : 1 ≤ n := z.1; have h2 : n ≤ 0 := z.2; omega)
  · exact cc_87 H ho.1 ho.2
  · exact cc_88 H ho.1 ho.2
  · exact cc_89 H ho.1 ho.2
  · exact cc_90 H ho.1 ho.2
  · exact cc_91 H ho.1 ho.2
  · exact cc_92 H ho.1 ho.2
  · exact cc_93 H ho.1 ho.2
  · exact cc_94 H ho.1 ho.2
  · exact cc_95 H ho.1 ho.2
  · exact cc_96 H ho.1 ho.2
  · exact cc_97 H ho.1 ho.2
  · exact cc_98 H ho.1 ho.2
  · exact cc_99 H ho.1 ho.2
  · exact cc_100 H ho.1 ho.2
  · exact cc_101 H ho.1 ho.2
  · exact cc_102 H ho.1 ho.2
  · exact cc_103 H ho.1 ho.2
  · exact cc_104 H ho.1 ho.2
  · exact cc_105 H ho.1 ho.2
  · exact cc_106 H ho.1 ho.2
  · exact cc_107 H ho.1 ho.2
  · exact cc_108 H ho.1 ho.2
  · exact cc_109 H ho.1 ho.2
  · exact cc_110 H ho.1 ho.2
  · exact cc_111 H ho.1 ho.2
  · exact cc_112 H ho.1 ho.2
  · exact cc_113 H ho.1 ho.2
  · exact cc_114 H ho.1 ho.2
  · exact cc_115 H ho.1 ho.2
  · exact cc_116 H ho.1 ho.2
  · exact absurd ho (fun z => by have h1 : 1 ≤ n := z.1; have h2 : n ≤ 0 := z.2; omega)
  · exact absurd ho (fun z => by have h1 : 1 ≤ n := z.1; have h2 : n ≤ 0 := z.2; omega)
  · exact cc_119 H ho.1 ho.2
  · exact cc_120 H ho.1 ho.2
  · exact cc_121 H ho.1 ho.2
  · exact cc_122 H ho.1 ho.2
  · exact cc_123 H ho.1 ho.2
  · exact cc_124 H ho.1 ho.2
  · exact cc_125 H ho.1 ho.2
  · exact cc_126 H ho.1 ho.2
  · exact cc_127 H ho.1 ho.2
  · exact cc_128 H ho.1 ho.2
  · exact cc_129 H ho.1 ho.2
  · exact cc_130 H ho.1 ho.2
  · exact cc_131 H ho.1 ho.2
  · exact cc_132 H ho.1 ho.2
