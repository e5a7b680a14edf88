/-! ### VLOOKUP, HLOOKUP, LOOKUP, MATCH, ROWS, COLUMNS, ROW, COLUMN -/
theorem TV_ok {v : VV} {m : GS} (hv : okV v) (h1 : m.1 0 32 = v.1) (h2 : m.2.1 0 34 = v.2.1) (h3 : m.1 0 33 = nI v.2.2.length) (h4 : ∀ j, j < v.2.2.length → m.1 17 j = nI (v.2.2.getD j 0)) : TV v m := by
  refine ⟨h1, fun z => ?_, fun z => ⟨?_, okV_t hv, h3, h4⟩, fun z1 z2 => ⟨?_, Or.inl h2.symm⟩⟩
  · rcases hv with rfl | ⟨x, rfl⟩ | ⟨t, rfl, ht⟩ | (rfl | rfl) | ⟨e, e1, e8, rfl⟩
    · rfl
    · exact absurd (show (1 : Int32) = 0 from z) (by decide)
    · exact absurd (show (2 : Int32) = 0 from z) (by decide)
    · exact absurd (show (3 : Int32) = 0 from z) (by decide)
    · exact absurd (show (3 : Int32) = 0 from z) (by decide)
    · exact absurd (show (4 : Int32) = 0 from z) (by decide)
  · rcases hv with rfl | ⟨x, rfl⟩ | ⟨t, rfl, ht⟩ | (rfl | rfl) | ⟨e, e1, e8, rfl⟩
    · rfl
    · exact absurd (show (1 : Int32) = 2 from z) (by decide)
    · rfl
    · exact absurd (show (3 : Int32) = 2 from z) (by decide)
    · exact absurd (show (3 : Int32) = 2 from z) (by decide)
    · exact absurd (show (4 : Int32) = 2 from z) (by decide)
  · rcases hv with rfl | ⟨x, rfl⟩ | ⟨t, rfl, ht⟩ | (rfl | rfl) | ⟨e, e1, e8, rfl⟩
    · rfl
    · rfl
    · exact absurd rfl z2
    · rfl
    · rfl
    · rfl
section LKT
variable {n u h i : Nat} {cs0 cs : CS} {ms0 ms : GS}
theorem ansV_m (I : CI n u h cs0 ms0 cs ms) (hi : i < n) {k : Nat} (hk : k < one1 (aR cs i) * one1 (aC cs i)) : Tr (f_mo_answerValue ms (nI (ap cs i k))) (fun m => CI n u h cs0 ms0 cs m ∧ TV (av cs i k) m ∧ Ch [20, 21, 27, 32, 33, 34] [13, 17] ms m) := by
  obtain ⟨m1, em, I1, T1, ch1⟩ := take_m I hi hk
  have hok := av_ok I.1 hi k
  generalize av cs i k = v at T1 hok
  have htl := (okV_t hok).1
  refine Tr_jce em (Tr_jn (Tr_jn (Tr_jn ?_)))
  have hch : Ch [32, 33, 34] [] m1 (uI (uD (uI m1 0 32 (m1.1 0 20)) 0 34 ((uI m1 0 32 (m1.1 0 20)).2.1 0 21)) 0 33 ((uD (uI m1 0 32 (m1.1 0 20)) 0 34 ((uI m1 0 32 (m1.1 0 20)).2.1 0 21)).1 0 27)) := Ch_f (Ch_d (Ch_f Ch_refl (by decide)) (by decide)) (by decide)
  refine ansV_loop htl v.2.2.length 0 FU _ (by omega) (FU_lt (by omega)) (Txt_ch T1.2.2 hch (by decide) (by decide) (by decide)) (fun q hq => absurd hq (Nat.not_lt_zero q)) (fun M c1 c2 c3 => Tr_some ?_)
  have hall : Ch [32, 33, 34] [17] m1 M := Ch_trans (Ch_mono hch (fun _ z => z) (D := [17]) (fun _ z => by cases z)) (Ch_mono c1 (G := [32, 33, 34]) (D := [17]) (fun _ z => by cases z) (fun _ z => z)) (fun _ z => z) (fun _ z => z)
  refine ⟨CI_ref I1 hall (by decide) (by decide) (by decide), TV_ok hok ?_ ?_ ?_ c3, Ch_trans (Ch_mono ch1 (by decide) (by decide)) hall (by decide) (by decide)⟩
  · rw [c1.1 32 (by decide)]; exact T1.1
  · rw [c1.2.2.1 34 (by decide)]; exact T1.2.1
  · rw [c1.1 33 (by decide)]; exact T1.2.2.1
theorem at_c (hA : Rargs n u h cs ms) (hi : i < n) {a b : Nat} (ha : a < 4000) (hb : b < 4000) : f_ar_at cs (nI i) (nI a) (nI b) = some (av cs i (a * one1 (aC cs i) + b)) := by
  obtain ⟨g1, g2, g3, g4, g5, g6, g7, g8, g9, g10, g11, g12⟩ := geo hA hi
  have hc : one1 (aC cs i) ≤ 512 := by unfold one1; split <;> omega
  have := Nat.mul_le_mul (show a ≤ 4000 by omega) hc
  refine e_c (cols_c hA hi) ?_
  rw [nI_mul, nI_add]
  exact e_c (nth_c hA hi (by omega)) rfl
theorem nth_any (hA : Rargs n u h cs ms) (hi : i < n) (k : Int32) : ∃ v, f_ar_nth cs (nI i) k = some v := by
  by_cases hk : k < 0
  · exact ⟨_, e_c (grid_at hA i hi) (e_bt hk rfl)⟩
  · obtain ⟨j, hj, rfl⟩ := nI_of hk
    exact ⟨_, nth_c hA hi hj⟩
theorem at_any (hA : Rargs n u h cs ms) (hi : i < n) (a b : Int32) : ∃ v, f_ar_at cs (nI i) a b = some v := by
  obtain ⟨v, hv⟩ := nth_any hA hi (a * nI (one1 (aC cs i)) + b)
  exact ⟨v, e_c (cols_c hA hi) (e_c hv rfl)⟩
theorem one_le (hA : Rargs n u h cs ms) (hi : i < n) : 1 ≤ one1 (aR cs i) ∧ one1 (aR cs i) ≤ 512 ∧ 1 ≤ one1 (aC cs i) ∧ one1 (aC cs i) ≤ 512 ∧ one1 (aR cs i) * one1 (aC cs i) ≤ 512 := by
  obtain ⟨g1, g2, g3, g4, g5, g6, g7, g8, g9, g10, g11, g12⟩ := geo hA hi
  refine ⟨one1_pos _, ?_, one1_pos _, ?_, ?_⟩
  · unfold one1; split <;> omega
  · unfold one1; split <;> omega
  · rcases one1_mul _ _ g9 with ⟨a1, a2⟩ | ⟨a1, a2⟩ <;> omega
/-- the value at a grid's place, told -/
theorem told_at (I : CI n u h cs0 ms0 cs ms) (hi : i < n) {a b : Nat} (ha : a < one1 (aR cs i)) (hb : b < one1 (aC cs i)) : Tr (jc (f_mo_valueAt ms (nI i) (nI a) (nI b)) (fun q1 => jc (f_mo_answerValue ms q1) (fun q2 => some q2))) (fun r => XE n u h cs0 ms0 (av cs i (a * one1 (aC cs i) + b), cs) r) := by
  have hlt : a * one1 (aC cs i) + b < one1 (aR cs i) * one1 (aC cs i) := by
    have := Nat.mul_le_mul_right (one1 (aC cs i)) (show a + 1 ≤ one1 (aR cs i) by omega)
    rw [Nat.add_mul, Nat.one_mul] at this
    omega
  exact Tr_jce (valueAt_m I.1 hi ha hb) (Tr_jc (ansV_m I hi hlt) (fun m ⟨m1, m2, m3⟩ => Tr_some (XE_told m1 m2)))
theorem XE_av {m : GS} {c : CS} {v w : VV} (hx : XE n u h cs0 ms0 (v, c) m) (e : v = w) : XE n u h cs0 ms0 (w, c) m := by rw [← e]; exact hx
end LKT
theorem XE_fail {n u h e : Nat} {cs0 cs : CS} {ms0 ms : GS} (I : CI n u h cs0 ms0 cs ms) (h1 : 1 ≤ e) (h8 : e ≤ 8) : Tr (jc (f_mo_fail ms (nI e)) (fun q => some q)) (fun m => XE n u h cs0 ms0 (er e, cs) m) := Tr_jc (XE_err I h1 h8) (fun m ⟨m1, _, _⟩ => Tr_some m1)
/-- VLOOKUP (p = 1) and HLOOKUP -/
theorem x_table {n u h : Nat} {cs0 cs : CS} {ms0 ms : GS} (I : CI n u h cs0 ms0 cs ms) (hn : 2 < n) {p p' : Int32} (hp : (p = 1 ∧ p' = 0) ∨ (p = 0 ∧ p' = 1)) : Sm 900 13000 (f_lu_inTable cs p) (f_mo_lookIn ms p') (XE n u h cs0 ms0) := by
  refine Sm_jj (sought_ok I (by omega)) (fun ⟨x, ca⟩ m1 ⟨b1, b0, b2, b3, b4, b5, b6⟩ => ?_)
  refine Sm_j0 (k_whole b1 (i := 2) hn) (fun ⟨w, cb⟩ ⟨w', m2⟩ ⟨d1, d0, d2, d3, d4, d5⟩ => ?_)
  refine Sm_j0 (k_truthOr d1 (i := 3) (by decide) 1 (Or.inr rfl)) (fun ⟨tr, cc⟩ ⟨tr', m3⟩ ⟨e1, e0, e2, e3, e4, e5⟩ => ?_)
  dsimp only at *
  have hW := WT_ch (WT_ch b5 d5 (by decide) (by decide) (by decide) (by decide) (by decide)) e5 (by decide) (by decide) (by decide) (by decide) (by decide)
  have h1n : 1 < n := by omega
  obtain ⟨r1, r2, r3, r4, r5⟩ := one_le e1.1 h1n
  have hrc := rows_c e1.1 h1n
  have hcc := cols_c e1.1 h1n
  have hrm := rows_m e1.1 h1n
  have hcm := cols_m e1.1 h1n
  have hxt := okV_t b2
  -- how it is found
  obtain ⟨how, hhow, hX, hYw⟩ : ∃ how : Int32, (how = 0 ∨ how = 1) ∧ (∀ {R : VV × CS → Prop} {C S : Nat}, TA C S (lu_inTable_31 cc p x w how) R → TA C S (jb (tr = 0) (lu_inTable_31 cc p x w 0) (lu_inTable_31 cc p x w 1)) R) ∧ (cc.1 1 6 = 0 → ∀ {st : GS} {x1 x2 z1 z2 z3 z4 : Int32} {R : GS → Prop}, Tr (mo_lookIn_107 st x1 x2 z1 z2 z3 z4 how) R → Tr (mo_lookIn_98 st x1 x2 tr' z1 z2 z3 z4) R) := by
    by_cases ht : tr = 0
    · exact ⟨0, Or.inl rfl, fun q => TA_jbt ht q, fun hf {_ _ _ _ _ _ _ _} q => Tr_jbt (by rw [e4 hf]; exact ht) q⟩
    · exact ⟨1, Or.inr rfl, fun q => TA_jbf ht q, fun hf {_ _ _ _ _ _ _ _} q => Tr_jbf (by rw [e4 hf]; exact ht) q⟩
  have hway : (how = 0 ∧ how = 0) ∨ (0 < how ∧ how = 1) ∨ (how < 0 ∧ ¬ how = 0 ∧ ¬ how = 1) := by
    rcases hhow with rfl | rfl
    · exact Or.inl ⟨rfl, rfl⟩
    · exact Or.inr (Or.inl ⟨by decide, rfl⟩)
  have Y0 : ¬ m3.1 0 22 = 0 → Tr (jb (1 ≤ w') (jb (p' = 0) (jc (f_mo_columnsOf m3 1) (fun q12 => mo_lookIn_49 m3 p' w' tr' w' q12)) (jc (f_mo_rowsOf m3 1) (fun q13 => mo_lookIn_49 m3 p' w' tr' w' q13))) (jc (f_mo_fail m3 3) (fun q14 => mo_lookIn_57 q14 p' w' tr'))) (fun m => Ch SF0 SC m3 m) := fun he => by
    have R : Tr (mo_lookIn_57 m3 p' w' tr') (fun m => Ch SF0 SC m3 m) := Tr_jbf he (Tr_some Ch_refl)
    have R2 : ∀ q, Tr (mo_lookIn_49 m3 p' w' tr' w' q) (fun m => Ch SF0 SC m3 m) := fun q => Tr_jb (fun _ => R) (fun _ => Tr_jce (fail_skip he) R)
    exact Tr_jb (fun _ => Tr_jb (fun _ => Tr_jce hcm (R2 _)) (fun _ => Tr_jce hrm (R2 _))) (fun _ => Tr_jce (fail_skip he) R)
  have E57 : ∀ {c : CS} {e : Nat}, CI n u h cs0 ms0 c m3 → 1 ≤ e → e ≤ 8 → Tr (jc (f_mo_fail m3 (nI e)) (fun q => mo_lookIn_57 q p' w' tr')) (fun m => XE n u h cs0 ms0 (er e, c) m) := fun I3 h1 h8 => Tr_jc (XE_err I3 h1 h8) (fun m ⟨k1, _, k3⟩ => Tr_jbf k3 (Tr_some k1))
  by_cases hw1 : 1 ≤ w
  · have hw0 : ¬ w < 1 := Int32.not_lt.mpr hw1
    obtain ⟨k, k1, k2, rfl⟩ := iB_one d2 hw0
    -- the limit of the third argument
    have lim : ∀ L : Nat, L ≤ 512 → ((nI k ≤ nI L) ↔ k ≤ L) := fun L hL => nI_leI (by omega) (by omega)
    -- the two shapes
    have main : ∀ (L step many : Nat), L ≤ 512 → many ≤ 512 → (∀ j, j < many → j * step < one1 (aR cc 1) * one1 (aC cc 1)) →
        (∀ {C S : Nat} {R : VV × CS → Prop}, TA C S (jb (nI k ≤ nI L) (jc (f_lu_find cc x (nI 1) (nI step) (nI many) how) (fun q => lu_inTable_113 q.2 p (nI k) q.1)) (jd (f_vl_ofError 4) (fun q9 => some ((q9, cc), 0, 0)))) R → TA C S (lu_inTable_31 cc p x (nI k) how) R) →
        (cc.1 1 6 = 0 → ∀ {R : GS → Prop}, Tr (jb (nI k ≤ nI L) (jb ((m3.1 0 22) = 0) (mo_lookIn_107 m3 p' (nI k) 1 0 (nI step) (nI many) how) (some m3)) (jc (f_mo_fail m3 4) (fun q8 => mo_lookIn_57 q8 p' (nI k) tr'))) R → Tr (jb (p' = 0) (jc (f_mo_columnsOf m3 1) (fun q12 => mo_lookIn_49 m3 p' (nI k) tr' (nI k) q12)) (jc (f_mo_rowsOf m3 1) (fun q13 => mo_lookIn_49 m3 p' (nI k) tr' (nI k) q13))) R) →
        (k ≤ L → ∀ j, j < many → ∃ a b, a < one1 (aR cc 1) ∧ b < one1 (aC cc 1) ∧ (∀ c, Cp [7, 43, 44] cc c → ∀ {C S : Nat} {R : VV × CS → Prop}, TA C S (jc (f_ar_at c (nI 1) (nI a) (nI b)) (fun q => some ((q, c), 0, 0))) R → TA C S (lu_inTable_113 c p (nI k) (nI j)) R) ∧ (∀ (M : GS) {R : GS → Prop}, Tr (mo_lookIn_153 M 1 (nI a) (nI b)) R → Tr (jb (p' = 0) (mo_lookIn_141 M p' (nI k) (nI j) 1 (nI j)) (mo_lookIn_141 M p' (nI k) (nI j) 1 (nI k - 1))) R)) →
        Sm (900 - 1) (13000 - 3) (jb (tr = 0) (lu_inTable_31 cc p x (nI k) 0) (lu_inTable_31 cc p x (nI k) 1)) (jb (1 ≤ w') (jb (p' = 0) (jc (f_mo_columnsOf m3 1) (fun q12 => mo_lookIn_49 m3 p' w' tr' w' q12)) (jc (f_mo_rowsOf m3 1) (fun q13 => mo_lookIn_49 m3 p' w' tr' w' q13))) (jc (f_mo_fail m3 3) (fun q14 => mo_lookIn_57 q14 p' w' tr'))) (XE n u h cs0 ms0) := by
      intro L step many hL hmany hst hXr hYr hplace
      by_cases hkL : k ≤ L
      · obtain ⟨⟨rr, c⟩, ef, q1, q2⟩ := find_c (how := how) (step := step) (many := many) e1.1 h1n b2 (fun j hj => by have := hst j hj; omega) hmany
        dsimp only at q1 q2
        have I3 := CI_cls e1 q2 (by decide)
        have hf1 : c.1 1 6 = cc.1 1 6 := by rw [Cp_1 q2 (by decide)]
        obtain ⟨mm3, em3, s1, s2, s3⟩ : Tr (f_mo_find m3 (nI 1) 0 (nI step) (nI many) how) _ := find_m hway e1 h1n hxt hW hst hmany
        generalize hres : fres (decide (how = 0)) (fun k => hit how x (av cc 1 (k * step))) many 0 none = o at q1 s1
        have hol : ∀ j, o = some j → j < many := fun j hj => by
          have := fres_lt many 0 none (fun j hj => by cases hj) j (by rw [hres]; exact hj)
          omega
        have hY107 : ∀ {R : GS → Prop}, Tr (jb (0 ≤ mm3.1) (jb (p' = 0) (mo_lookIn_141 mm3.2 p' (nI k) mm3.1 1 mm3.1) (mo_lookIn_141 mm3.2 p' (nI k) mm3.1 1 (nI k - 1))) (jc (f_mo_fail mm3.2 7) (fun q4 => some q4))) R → Tr (mo_lookIn_107 m3 p' (nI k) 1 0 (nI step) (nI many) how) R := fun q => Tr_jce em3 q
        have I4 := CI_cls s2 q2 (by decide)
        cases ho : o with
        | none =>
          rw [ho] at q1 s1
          refine Sm_fin I3 (V := er 7) (hX (hXr (TA_jbt ((lim L hL).mpr hkL) (TA_jce ef ?_)))) Y0 (fun hf he => ?_)
          · dsimp only
            rw [q1]
            exact TA_jbt rfl (TA_vl rfl)
          · rw [hf1] at hf
            rw [d4 (e0 hf)] at Y0 E57 ⊢
            refine Tr_jbt hw1 (hYr hf (Tr_jbt ((lim L hL).mpr hkL) (Tr_jbt he (hY107 ?_))))
            rw [s1]
            exact Tr_jbf (by decide) (XE_fail (e := 7) I4 (by decide) (by decide))
        | some j =>
          rw [ho] at q1 s1
          have hj := hol j ho
          obtain ⟨a, b, ha, hb, hXp, hYp⟩ := hplace hkL j hj
          have hac : aR c 1 = aR cc 1 ∧ aC c 1 = aC cc 1 ∧ aF c 1 = aF cc 1 := aR_cf (Cp_Cf q2 (by decide)) (by decide)
          refine Sm_fin I3 (V := av c 1 (a * one1 (aC c 1) + b)) (hX (hXr (TA_jbt ((lim L hL).mpr hkL) (TA_jce ef ?_)))) Y0 (fun hf he => ?_)
          · dsimp only
            rw [q1]
            refine hXp c q2 (TA_jce (at_c I3.1 h1n (by omega) (by omega)) (TA_some (Nat.zero_le _) (Nat.zero_le _) rfl))
          · rw [hf1] at hf
            rw [d4 (e0 hf)]
            refine Tr_jbt hw1 (hYr hf (Tr_jbt ((lim L hL).mpr hkL) (Tr_jbt he (hY107 ?_))))
            rw [s1]
            exact Tr_jbt (nI_pos' (by omega)) (hYp mm3.2 (told_at I4 h1n (by rw [hac.1]; exact ha) (by rw [hac.2.1]; exact hb)))
      · refine Sm_fin e1 (V := er 4) (hX (hXr (TA_jbf (fun z => hkL ((lim L hL).mp z)) (TA_vl rfl)))) Y0 (fun hf he => ?_)
        have hE := E57 (e := 4) e1 (by decide) (by decide)
        rw [d4 (e0 hf)] at hE ⊢
        exact Tr_jbt hw1 (hYr hf (Tr_jbf (fun z => hkL ((lim L hL).mp z)) hE))
    rcases hp with ⟨rfl, rfl⟩ | ⟨rfl, rfl⟩
    · refine main (one1 (aC cc 1)) (one1 (aC cc 1)) (one1 (aR cc 1)) r4 r2 (fun j hj => Nat.mul_lt_mul_of_pos_right hj (by omega)) (fun q => ?_) (fun hf {R} q => ?_) (fun hkL j hj => ⟨j, k - 1, hj, by omega, fun c hc {C S R} q => ?_, fun M {R} q => ?_⟩)
      · exact TA_jce hrc (TA_jce hcc (TA_jbt hw1 (TA_jbf (by decide) (TA_jb (fun z => by
          have q := q
          unfold jb at q
          rw [if_pos z] at q
          exact TA_jbf (by decide) q) (fun z => by
          have q := q
          unfold jb at q
          rw [if_neg z] at q
          exact q)))))
      · refine Tr_jbt rfl (Tr_jce hcm (Tr_jb (fun z => ?_) (fun z => ?_)))
        · unfold jb at q
          rw [if_pos z] at q
          refine Tr_jb (fun z2 => ?_) (fun z2 => ?_)
          · rw [if_pos z2] at q
            exact Tr_jbt rfl (Tr_jce hcm (Tr_jbt rfl (Tr_jce hrm (hYw hf q))))
          · rw [if_neg z2] at q
            exact q
        · unfold jb at q
          rw [if_neg z] at q
          exact q
      · refine TA_jbf (fun z => ?_) (TA_jbf (by decide) ?_)
        · have := (oI_none (o := some j) (fun i hi => by injection hi with hi; omega)).mp z
          cases this
        · rw [show nI k - 1 = nI (k - 1) from nI_pre (by omega)]
          exact q
      · refine Tr_jbt rfl (Tr_jbt rfl ?_)
        rw [show nI k - 1 = nI (k - 1) from nI_pre (by omega)]
        exact q
    · refine main (one1 (aR cc 1)) 1 (one1 (aC cc 1)) r2 r4 (fun j hj => by
        rw [Nat.mul_one]
        exact Nat.lt_of_lt_of_le hj (Nat.le_mul_of_pos_left _ (by omega))) (fun q => ?_) (fun hf {R} q => ?_) (fun hkL j hj => ⟨k - 1, j, by omega, hj, fun c hc {C S R} q => ?_, fun M {R} q => ?_⟩)
      · exact TA_jce hrc (TA_jce hcc (TA_jbt hw1 (TA_jbt rfl (TA_jb (fun z => by
          have q := q
          unfold jb at q
          rw [if_pos z] at q
          exact TA_jbt rfl q) (fun z => by
          have q := q
          unfold jb at q
          rw [if_neg z] at q
          exact q)))))
      · refine Tr_jbf (by decide) (Tr_jce hrm (Tr_jb (fun z => ?_) (fun z => ?_)))
        · unfold jb at q
          rw [if_pos z] at q
          refine Tr_jb (fun z2 => ?_) (fun z2 => ?_)
          · rw [if_pos z2] at q
            exact Tr_jbf (by decide) (Tr_jbf (by decide) (Tr_jce hcm (hYw hf q)))
          · rw [if_neg z2] at q
            exact q
        · unfold jb at q
          rw [if_neg z] at q
          exact q
      · refine TA_jbf (fun z => ?_) (TA_jbt rfl ?_)
        · have := (oI_none (o := some j) (fun i hi => by injection hi with hi; omega)).mp z
          cases this
        · rw [show nI k - 1 = nI (k - 1) from nI_pre (by omega)]
          exact q
      · refine Tr_jbf (by decide) (Tr_jbf (by decide) ?_)
        rw [show nI k - 1 = nI (k - 1) from nI_pre (by omega)]
        exact q
  · refine Sm_fin e1 (V := er 3) (hX (TA_jce hrc (TA_jce hcc (TA_jbf hw1 (TA_vl rfl))))) Y0 (fun hf he => ?_)
    have hE := E57 (e := 3) e1 (by decide) (by decide)
    rw [d4 (e0 hf)] at hE ⊢
    exact Tr_jbf hw1 hE
