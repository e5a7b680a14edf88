theorem PH_set {cs : CS} {j u : Nat} {v : VV} : PH ((uV cs 40 j v).2 40) u ≤ PH (cs.2 40) u + 1 := PH_up
/-- both states behind put's store -/
theorem put_RS {tp n u h j : Nat} {cs : CS} {ms : GS} {v : VV} {kd : Int32} {d : UInt64} (hR : RS tp n u h cs ms) (hj : j < u) (hv : VR v (uD (uI (uI ms 0 0 0) 9 j kd) 12 j d |>.1 9) (uD (uI (uI ms 0 0 0) 9 j kd) 12 j d |>.1 9) (uD (uI (uI ms 0 0 0) 9 j kd) 12 j d |>.1 10) (uD (uI (uI ms 0 0 0) 9 j kd) 12 j d |>.1 11) (uD (uI (uI ms 0 0 0) 9 j kd) 12 j d |>.1 3) (uD (uI (uI ms 0 0 0) 9 j kd) 12 j d |>.2.1 12) h j) : RS tp n u h (uV cs 40 j v) (uD (uI (uI ms 0 0 0) 9 j kd) 12 j d) := by
  refine set_RS hR hj (Nat.le_refl _) (fun k h0 h3 => ?_) ?_ (fun i h0 h3 h9 h10 h11 => ?_) (fun q hq => ?_) (fun q hq => rfl) (fun q hq => rfl) (fun q hq => rfl) (fun q hq => ?_) (fun i hi => ?_) hv
  · show (uI ms 0 0 0).1 0 k = _
    exact uI_ne h0
  · exact hR.2.2.2.1.2.2.2.2.2.2.2.2.2.1
  · show (uI (uI ms 0 0 0) 9 j kd).1 i = _
    rw [uI_off1 h9, uI_off1 h0]
  · show (uI (uI ms 0 0 0) 9 j kd).1 9 q = _
    rw [uI_ne hq, uI_off1 (by decide)]
  · exact uD_ne (st := uI (uI ms 0 0 0) 9 j kd) hq
  · exact if_neg hi
theorem p_put {tp n u h : Nat} {cs : CS} {ms : GS} (hR : RS tp n u h cs ms) (p0 p1 p2 : Int32) : nn (FP.dmul (FP.i2d p2) d125) = true ∧ TA 1 3 (f_wf_put cs p0 p1 (FP.dmul (FP.i2d p2) d125)) (fun a => Tr (f_mo_put ms p0 p1 (FP.dmul (FP.i2d p2) d125)) (fun b => a.1 = b.1 ∧ RS tp n u h a.2 b.2 ∧ PH (a.2.2 40) u ≤ PH (cs.2 40) u + 1)) := by
  obtain ⟨z, hv, hz⟩ := DV_x8 p2
  refine ⟨nn_DV hv, ?_⟩
  obtain ⟨z1, z2, z3, z4⟩ := x8_pos hz
  have hu : u ≤ 512 := hR.2.2.2.1.2.2.2.2.2.1
  generalize hvv : FP.dmul (FP.i2d p2) d125 = v at hv
  -- the class's store, and the reference's
  have fin : ∀ (w : VV) (kd : Int32) (d : UInt64), (∀ j, j < u → VR w (uD (uI (uI ms 0 0 0) 9 j kd) 12 j d |>.1 9) (uD (uI (uI ms 0 0 0) 9 j kd) 12 j d |>.1 9) (uD (uI (uI ms 0 0 0) 9 j kd) 12 j d |>.1 10) (uD (uI (uI ms 0 0 0) 9 j kd) 12 j d |>.1 11) (uD (uI (uI ms 0 0 0) 9 j kd) 12 j d |>.1 3) (uD (uI (uI ms 0 0 0) 9 j kd) 12 j d |>.2.1 12) h j) → (∀ q7, f_mo_placeOf (uI ms 0 0 0) p0 = some q7 → ¬ q7 < 0 → inb q7 513 = true → f_mo_put ms p0 p1 v = some (1, uD (uI (uI ms 0 0 0) 9 q7.toNatClampNeg kd) 12 q7.toNatClampNeg d)) → (∀ q7, f_mo_placeOf (uI ms 0 0 0) p0 = some q7 → q7 < 0 → f_mo_put ms p0 p1 v = some (0, uI ms 0 0 0)) → Tr (f_ar_set cs p0 w) (fun a => (a.1 = 0 ∨ a.1 = 1) ∧ Tr (f_mo_put ms p0 p1 v) (fun b => a.1 = b.1 ∧ RS tp n u h a.2 b.2 ∧ PH (a.2.2 40) u ≤ PH (cs.2 40) u + 1)) := by
    intro w kd d hw hm hn
    rcases set_at (ms := uI ms 0 0 0) hR p0 with ⟨c1, m1⟩ | ⟨j, hj, c1, m1⟩
    · exact ⟨_, c1 w, Or.inl rfl, _, hn _ m1 (by decide), rfl, hR, Nat.le_succ _⟩
    · have e := hm _ m1 (nI_pos (by omega)) (inb_of (by omega) (by decide))
      rw [nI_clamp (by omega)] at e
      exact ⟨_, c1 w, Or.inr rfl, _, e, rfl, put_RS hR hj (hw j hj), PH_set⟩
  have b01 : ∀ {x : Int32}, (x = 0 ∨ x = 1) → isB x = true := fun h => by rcases h with rfl | rfl <;> rfl
  have no0 : ∀ st5 : GS, ∀ q7 : Int32, q7 < 0 → ∀ z0 : Int32, mo_put_52 st5 p1 v q7 z0 = some (0, st5) := fun st5 q7 hq z0 => e_bt hq rfl
  by_cases k0 : p1 = 0
  · subst k0
    refine TA_jbt rfl ?_
    refine TA_mono (TA_jde (c := 0) (s := 0) (show f_vl_ofEmpty = _ from rfl) (TA_jc (fin (0, 0, []) 0 FP.dconst0 (fun j hj => Or.inl ⟨rfl, ?_⟩) ?_ ?_) (fun a ⟨a1, a2⟩ => TA_jg (b01 a1) (TA_some (Nat.le_refl _) (Nat.le_refl _) a2)))) (by decide) (by decide) (fun _ q => q)
    · show (uI (uI ms 0 0 0) 9 j 0).1 9 j = 0
      exact uI_at
    · intro q7 hq hn hin
      refine e_n (e_c hq (e_bt rfl ?_))
      refine e_bf hn (e_bf (by decide) (e_g hin (e_n ?_)))
      exact e_bf (by decide) (e_bf (by decide) (e_bf (by decide) (e_g hin rfl)))
    · intro q7 hq hn
      exact e_n (e_c hq (e_bt rfl (no0 _ _ hn _)))
  refine TA_jbf k0 ?_
  by_cases k1 : p1 = 1
  · subst k1
    refine TA_jbt rfl ?_
    obtain ⟨B, hB, hB2⟩ := DV_big
    obtain ⟨B', hB', hB2'⟩ := DV_nbig
    have hm1 : ∀ q7, f_mo_placeOf (uI ms 0 0 0) p0 = some q7 → f_mo_put ms p0 1 v = mo_put_47 (uI ms 0 0 0) 1 v q7 := fun q7 hq => e_n (e_c hq (e_bf (by decide) (e_bf (by decide) (e_bf (by decide) (e_bt rfl (e_bf (fun q => by have := (cv_ge hv hB).mp q; omega) (e_bf (fun q => by have := (cv_le hv hB').mp q; omega) rfl)))))))
    have hd : ∃ d, (z = 0 → d = FP.dconst0) ∧ (¬ z = 0 → d = v) := by
      by_cases hz0 : z = 0
      · exact ⟨FP.dconst0, fun _ => rfl, fun q => absurd hz0 q⟩
      · exact ⟨v, fun q => absurd q hz0, fun _ => rfl⟩
    obtain ⟨d, hd0, hd1⟩ := hd
    have hdv : d = v := by
      by_cases hz0 : z = 0
      · rw [hd0 hz0, ← hvv, z2.mp hz0]
        decide +kernel
      · exact hd1 hz0
    have go : ∀ w : UInt64, ∀ zw : Int, DV w zw → zw < 4294967296 * UU → TA 1 3 (wf_put_60 cs p0 v w) (fun a => Tr (f_mo_put ms p0 1 v) (fun b => a.1 = b.1 ∧ RS tp n u h a.2 b.2 ∧ PH (a.2.2 40) u ≤ PH (cs.2 40) u + 1)) := by
      intro w zw hw hzw
      refine TA_jbf (fun q => by have := (cv_ge hw hB).mp q; omega) ?_
      refine TA_mono (TA_jde (c := 0) (s := 0) (show f_vl_ofNumber v = _ from rfl) (TA_jc (fin (1, v, []) 1 d (fun j hj => Or.inr (Or.inl ⟨p2, by rw [← hvv], ?_, ?_⟩)) ?_ ?_) (fun a ⟨a1, a2⟩ => ?_))) (by decide) (by decide) (fun _ q => q)
      · show (uI (uI ms 0 0 0) 9 j 1).1 9 j = 1
        exact uI_at
      · show (uD (uI (uI ms 0 0 0) 9 j 1) 12 j d).2.1 12 j = v
        rw [uD_at, hdv]
      · intro q7 hq hn hin
        refine (hm1 q7 hq).trans (e_bf hn (e_bf (by decide) (e_g hin (e_n (e_bt rfl ?_)))))
        by_cases hz0 : z = 0
        · refine e_bt ((cv_eq hv DV_0).mpr hz0) (e_g hin ?_)
          rw [hd0 hz0]
          rfl
        · refine e_bf (fun q => hz0 ((cv_eq hv DV_0).mp q)) (e_g hin ?_)
          rw [hd1 hz0]
          rfl
      · intro q7 hq hn
        exact (hm1 q7 hq).trans (no0 _ _ hn _)
      · rcases a1 with e | e
        · refine TA_jbt e (TA_some (Nat.le_refl _) (Nat.le_refl _) ?_)
          exact Tr_mono a2 (fun b ⟨b1, b2⟩ => ⟨e.symm.trans b1, b2⟩)
        · refine TA_jbf (by rw [e]; decide) (TA_some (Nat.le_refl _) (Nat.le_refl _) ?_)
          exact Tr_mono a2 (fun b ⟨b1, b2⟩ => ⟨e.symm.trans b1, b2⟩)
    refine TA_jb (fun q => go v z hv z3) (fun q => go _ _ (DV_neg hv) (by omega))
  refine TA_jbf k1 ?_
  have hbad : ∀ q7, f_mo_placeOf (uI ms 0 0 0) p0 = some q7 → ¬ p1 = 3 → ¬ p1 = 4 → f_mo_put ms p0 p1 v = some (0, uI ms 0 0 0) := fun q7 hq k3 k4 => e_n (e_c hq (e_bf k0 (e_bf k3 (e_bf k4 (e_bf k1 (by
    by_cases g : q7 < 0
    · exact e_bt g rfl
    · refine e_bf g (e_bt rfl rfl)))))))
  have hpl : ∃ q7, f_mo_placeOf (uI ms 0 0 0) p0 = some q7 := by
    rcases set_at (ms := uI ms 0 0 0) hR p0 with ⟨c1, m1⟩ | ⟨j, hj, c1, m1⟩
    · exact ⟨_, m1⟩
    · exact ⟨_, m1⟩
  obtain ⟨q7, hq7⟩ := hpl
  by_cases k2 : p1 = 2
  · refine TA_jbt k2 (TA_some (Nat.zero_le _) (Nat.zero_le _) ⟨_, hbad q7 hq7 (by rw [k2]; decide) (by rw [k2]; decide), rfl, hR, Nat.le_succ _⟩)
  refine TA_jbf k2 ?_
  by_cases k3 : p1 = 3
  · subst k3
    refine TA_jbt rfl ?_
    have hm1 : ∀ q7, f_mo_placeOf (uI ms 0 0 0) p0 = some q7 → f_mo_put ms p0 3 v = mo_put_47 (uI ms 0 0 0) 3 v q7 := fun q7 hq => e_n (e_c hq (e_bf (by decide) (e_bt rfl rfl)))
    have go : ∀ (zz : Int32) (d : UInt64), (zz = 0 ∧ d = FP.dconst0 ∧ z = 0) ∨ (zz = 1 ∧ d = FP.dconst1 ∧ ¬ z = 0) → TA 1 3 (wf_put_108 cs p0 zz) (fun a => Tr (f_mo_put ms p0 3 v) (fun b => a.1 = b.1 ∧ RS tp n u h a.2 b.2 ∧ PH (a.2.2 40) u ≤ PH (cs.2 40) u + 1)) := by
      intro zz d hzz
      have ew : (if zz = 0 then (0 : UInt64) else 4607182418800017408) = d := by
        rcases hzz with ⟨e1, e2, -⟩ | ⟨e1, e2, -⟩
        · rw [e1, e2]; rfl
        · rw [e1, e2]; rfl
      refine TA_mono (TA_jde (c := 0) (s := 0) (show f_vl_ofTruth zz = _ from rfl) (TA_jc (fin (3, (if zz = 0 then (0 : UInt64) else 4607182418800017408), []) 3 d (fun j hj => Or.inr (Or.inr (Or.inr (Or.inl ⟨?_, ?_, ?_⟩)))) ?_ ?_) (fun a ⟨a1, a2⟩ => TA_jg (b01 a1) (TA_some (Nat.le_refl _) (Nat.le_refl _) a2)))) (by decide) (by decide) (fun _ q => q)
      · rcases hzz with ⟨e1, -⟩ | ⟨e1, -⟩
        · rw [if_pos e1]; exact Or.inl rfl
        · rw [e1]; exact Or.inr rfl
      · show (uI (uI ms 0 0 0) 9 j 3).1 9 j = 3
        exact uI_at
      · show (uD (uI (uI ms 0 0 0) 9 j 3) 12 j d).2.1 12 j = (if zz = 0 then (0 : UInt64) else 4607182418800017408)
        rw [uD_at, ew]
      · intro q7 hq hn hin
        refine (hm1 q7 hq).trans (e_bf hn (e_bf (by decide) (e_g hin (e_n (e_bf (by decide) (e_bt rfl ?_))))))
        rcases hzz with ⟨-, e2, e3⟩ | ⟨-, e2, e3⟩
        · refine e_bt ((cv_eq hv DV_0).mpr e3) (e_g hin ?_)
          rw [e2]; rfl
        · refine e_bf (fun q => e3 ((cv_eq hv DV_0).mp q)) (e_g hin ?_)
          rw [e2]; rfl
      · intro q7 hq hn
        exact (hm1 q7 hq).trans (no0 _ _ hn _)
    exact TA_jb (fun q => go 0 _ (Or.inl ⟨rfl, rfl, (cv_eq hv DV_0).mp q⟩)) (fun q => go 1 _ (Or.inr ⟨rfl, rfl, fun g => q ((cv_eq hv DV_0).mpr g)⟩))
  refine TA_jbf k3 ?_
  by_cases k4 : p1 = 4
  · subst k4
    refine TA_jbt rfl ?_
    obtain ⟨e, hc1, hc2⟩ := errC hv (x8_eq hz) 8 1 FU rfl (FU_lt (by decide)) (Nat.le_refl _) (fun i h1 h2 => by omega)
    obtain ⟨r, hr1, hr2, hr3⟩ := errM hv (x8_eq hz) 8 1 FU (4613937818241073152 : UInt64) rfl (FU_lt (by decide))
    have he : 1 ≤ e ∧ e ≤ 8 := by
      rcases hc2 with ⟨h1, h2, -⟩ | ⟨h1, -⟩
      · exact ⟨h1, h2⟩
      · rw [h1]; exact ⟨by decide, by decide⟩
    have hre : r = FP.i2d (nI e) := by
      rcases hc2 with ⟨h1, h2, h3⟩ | ⟨h1, h2⟩
      · rw [hr2 ⟨e, h1, h2, h3⟩]
        refine DV_inj hv ?_ (fun q => ?_)
        · rw [(x8_eq hz e).mpr h3]; exact DV_k (by omega)
        · rw [z2.mp q] at h3
          have : (0 : Int32).toInt = 0 := by decide
          omega
      · rw [hr3 (fun i k1 k2 => h2 i k1 k2), h1]
        decide +kernel
    have hm1 : ∀ q7, f_mo_placeOf (uI ms 0 0 0) p0 = some q7 → f_mo_put ms p0 4 v = mo_put_47 (uI ms 0 0 0) 4 v q7 := fun q7 hq => e_n (e_c hq (e_bf (by decide) (e_bf (by decide) (e_bt rfl rfl))))
    refine TA_jc (P := fun q => q = nI e) ⟨_, hc1, rfl⟩ (fun q hq => ?_)
    subst hq
    refine TA_mono (TA_jde (c := 0) (s := 0) (show f_vl_ofError (nI e) = _ from rfl) (TA_jc (fin (4, FP.i2d (nI e), []) 4 r (fun j hj => Or.inr (Or.inr (Or.inr (Or.inr ⟨e, he.1, he.2, rfl, ?_, ?_⟩)))) ?_ ?_) (fun a ⟨a1, a2⟩ => TA_jg (b01 a1) (TA_some (Nat.le_refl _) (Nat.le_refl _) a2)))) (by decide) (by decide) (fun _ q => q)
    · show (uI (uI ms 0 0 0) 9 j 4).1 9 j = 4
      exact uI_at
    · show (uD (uI (uI ms 0 0 0) 9 j 4) 12 j r).2.1 12 j = FP.i2d (nI e)
      rw [uD_at, hre]
    · intro q7 hq hn hin
      refine (hm1 q7 hq).trans (e_bf hn (e_bf (by decide) (e_g hin (e_n (e_bf (by decide) (e_bf (by decide) (e_bt rfl (e_c (e_n hr1) (e_g hin rfl)))))))))
    · intro q7 hq hn
      exact (hm1 q7 hq).trans (no0 _ _ hn _)
  refine TA_jbf k4 (TA_some (Nat.zero_le _) (Nat.zero_le _) ⟨_, hbad q7 hq7 k3 k4, rfl, hR, Nat.le_succ _⟩)
/-- the reference's copy of the text put -/
theorem putTM {h : Nat} {t : TT} (ht : t.length ≤ 255) (hh : h + 255 ≤ 140000) : ∀ (m i fu : Nat) (M : GS), i + m = t.length → m < fu → M.1 0 2 = nI t.length → M.1 0 3 = nI h → (∀ j, j < t.length → M.1 2 j = nI (t.getD j 0)) → (∀ j, j < i → M.1 3 (h + j) = nI (t.getD j 0)) → Tr (mo_putText_53 fu M (nI i)) (fun r => r.1 = 1 ∧ r.2.2 = M.2 ∧ r.2.1 0 3 = nI (h + t.length) ∧ (∀ k, k ≠ 3 → r.2.1 0 k = M.1 0 k) ∧ (∀ j, j < t.length → r.2.1 3 (h + j) = nI (t.getD j 0)) ∧ (∀ j, j < h → r.2.1 3 j = M.1 3 j) ∧ ∀ c, c ≠ 0 → c ≠ 3 → r.2.1 c = M.1 c) := by
  intro m
  induction m with
  | zero =>
    intro i fu M hi hf h2 h3 hc hd
    obtain ⟨g, rfl⟩ : ∃ g, fu = g + 1 := ⟨fu - 1, by omega⟩
    refine Tr_jbt (by rw [h2]; exact nI_le (by omega) (by omega)) (Tr_jn (Tr_some ⟨rfl, rfl, ?_, fun k hk => ?_, fun j hj => ?_, fun j hj => ?_, fun c c0 c3 => ?_⟩))
    · show (uI M 0 3 _).1 0 3 = _
      rw [uI_at, h3, h2, nI_add]
    · exact uI_ne hk
    · exact hd j (by omega)
    · rfl
    · exact uI_off1 c0
  | succ m ih =>
    intro i fu M hi hf h2 h3 hc hd
    obtain ⟨g, rfl⟩ : ∃ g, fu = g + 1 := ⟨fu - 1, by omega⟩
    refine Tr_jbf (by rw [h2]; exact nI_ge (by omega) (by omega)) (Tr_jg (inb_of (by omega) (by decide)) (Tr_jg (by rw [h3, nI_add]; exact inb_of (by omega) (by decide)) (Tr_jn (Tr_jn ?_))))
    rw [h3, nI_add, nI_clamp (by omega), nI_clamp (by omega), nI_1, hc i (by omega)]
    refine Tr_mono (ih (i + 1) g (uI M 3 (h + i) (nI (t.getD i 0))) (by omega) (by omega) h2 h3 hc (fun j hj => ?_)) (fun r ⟨r1, r2, r3, r4, r5, r6, r7⟩ => ⟨r1, r2, r3, r4, r5, fun j hj => (r6 j hj).trans (uI_ne (by omega)), fun c c0 c3 => (r7 c c0 c3).trans (uI_off1 c3)⟩)
    by_cases e : j = i
    · rw [e, uI_at]
    · rw [uI_ne (by omega)]; exact hd j (by omega)
theorem p_putText {tp n u h : Nat} {cs : CS} {ms : GS} (hR : RS tp n u h cs ms) (hh : h + 255 ≤ 140000) (p0 : Int32) : TA 1 3 (f_wf_putText cs p0) (fun a => Tr (f_mo_putText ms p0) (fun b => a.1 = b.1 ∧ (∃ h', h' ≤ h + 255 ∧ RS tp n u h' a.2 b.2) ∧ PH (a.2.2 40) u ≤ PH (cs.2 40) u + 1)) := by
  obtain ⟨hT, hC, hH, hA, hN⟩ := id hR
  have hu : u ≤ 512 := hA.2.2.2.2.2.1
  obtain ⟨⟨t1, t2⟩, c2, c3⟩ := hC
  refine TA_mono (TA_jde (c := 0) (s := 0) (show f_vl_ofText ((cs.2 0 2).2.2) = _ from rfl) ?_) (by decide) (by decide) (fun _ q => q)
  rcases set_at (ms := uI ms 0 0 0) hR p0 with ⟨s1, m1⟩ | ⟨j, hj, s1, m1⟩
  · refine TA_jc (P := fun a => a = (0, cs)) ⟨_, s1 _, rfl⟩ (fun a ha => ?_)
    subst ha
    exact TA_jg rfl (TA_some (Nat.le_refl _) (Nat.le_refl _) ⟨_, e_n (e_c m1 (e_bf (by decide) rfl)), rfl, ⟨h, by omega, hR⟩, Nat.le_succ _⟩)
  · refine TA_jc (P := fun a => a = (1, uV cs 40 j (2, 0, (cs.2 0 2).2.2))) ⟨_, s1 _, rfl⟩ (fun a ha => ?_)
    subst ha
    refine TA_jg rfl (TA_some (Nat.le_refl _) (Nat.le_refl _) ?_)
    have hin : inb (nI j) 513 = true := inb_of (by omega) (by decide)
    refine Tr_jn (Tr_jce m1 (Tr_jbt (nI_pos' (by omega)) (Tr_jg hin (Tr_jn (Tr_jg hin (Tr_jn (Tr_jg hin (Tr_jn (Tr_jg hin (Tr_jn ?_))))))))))
    rw [nI_clamp (by omega)]
    refine Tr_mono (putTM (h := h) (t := (cs.2 0 2).2.2) t1 hh (cs.2 0 2).2.2.length 0 FU _ (by omega) (FU_lt (by omega)) ?_ ?_ ?_ (fun j hj => absurd hj (Nat.not_lt_zero j))) (fun r ⟨r1, r2, r3, r4, r5, r6, r7⟩ => ⟨r1.symm, ⟨h + (cs.2 0 2).2.2.length, by omega, ?_⟩, PH_set⟩)
    · exact c2
    · exact hA.2.2.2.2.2.2.2.2.2.1
    · exact c3
    have k9 : r.2.1 9 j = 2 := by rw [r7 9 (by decide) (by decide), uI_off1 (by decide), uI_off1 (by decide)]; exact (show (uI (uI ms 0 0 0) 9 j 2).1 9 j = 2 from uI_at)
    refine set_RS hR hj (by omega) (fun k h0 h3 => ?_) r3 (fun i h0 h3 h9 h10 h11 => ?_) (fun q hq => ?_) (fun q hq => ?_) (fun q hq => ?_) (fun q hq => ?_) (fun q hq => ?_) (fun i hi => ?_) (Or.inr (Or.inr (Or.inl ⟨_, h, rfl, ⟨t1, t2⟩, k9, ?_, ?_, Nat.le_refl _, r5⟩)))
    · rw [r4 k h3]
      show (uI ms 0 0 0).1 0 k = _
      exact uI_ne h0
    · rw [r7 i h0 h3, uI_off1 h11, uI_off1 h10]
      show (uI (uI ms 0 0 0) 9 j 2).1 i = _
      rw [uI_off1 h9, uI_off1 h0]
    · rw [r7 9 (by decide) (by decide), uI_off1 (by decide), uI_off1 (by decide)]
      show (uI (uI ms 0 0 0) 9 j 2).1 9 q = _
      rw [uI_ne hq, uI_off1 (by decide)]
    · rw [r7 10 (by decide) (by decide), uI_off1 (by decide), uI_ne hq]
      rfl
    · rw [r7 11 (by decide) (by decide), uI_ne hq]
      rfl
    · rw [r6 q hq]
      rfl
    · rw [r2]
      exact uD_ne (st := uI (uI ms 0 0 0) 9 j 2) hq
    · rw [r2]
      exact if_neg hi
    · rw [r7 10 (by decide) (by decide), uI_off1 (by decide), uI_at]
      exact hA.2.2.2.2.2.2.2.2.2.1
    · rw [r7 11 (by decide) (by decide), uI_at]
      exact c2
