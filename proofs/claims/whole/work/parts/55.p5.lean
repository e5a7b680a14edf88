theorem lN_big {m : Nat} (h : m < 2 ^ 63) : (lN m).toInt = (m : Int) := Int64.toInt_ofNat_of_lt h
theorem i_one {p : Int32} (h : ¬ p < 1) : ∃ a : Nat, 1 ≤ a ∧ a < 2 ^ 31 ∧ p = nI a := by
  have h0 : ¬ p < 0 := by
    intro z
    apply h
    rw [Int32.lt_iff_toInt_lt] at z ⊢
    have e0 : (0 : Int32).toInt = 0 := by decide
    have e1 : (1 : Int32).toInt = 1 := by decide
    omega
  obtain ⟨a, ha, rfl⟩ := nI_of h0
  refine ⟨a, ?_, ha, rfl⟩
  rcases Nat.eq_zero_or_pos a with z | z
  · subst z; exact absurd (by decide) h
  · exact z
theorem p_argument {tp n u h : Nat} {cs : CS} {ms : GS} (hR : RS tp n u h cs ms) (p0 p1 : Int32) : ∃ ms', f_mo_argument ms p0 p1 = some ms' ∧ ((ms'.1 0 0 = 0 ∧ ∃ cs' n' u', f_wf_argument cs p0 p1 = some cs' ∧ RS tp n' u' h cs' ms' ∧ PH (cs'.2 40) u' = PH (cs.2 40) u) ∨ (ms'.1 0 0 = 1 ∧ (¬ (p0 = 0 ∧ p1 = 0) ∧ (p0 < 1 ∨ p1 < 1)) ∧ RS tp n u h cs ms') ∨ (ms'.1 0 0 = 2 ∧ ((p0 = 0 ∧ p1 = 0) ∨ (1 ≤ p0 ∧ 1 ≤ p1)) ∧ f_ar_addF cs p0 p1 = some 0 ∧ RS tp n u h cs ms')) := by
  obtain ⟨a1, a2, a3, a4, a5, a6, -⟩ := id hR.2.2.2.1
  have two : ∀ q0 q1 : Int32, mo_argument_86 ms q0 q1 = some (uI ms 0 0 2) := by
    intro q0 q1
    unfold mo_argument_86 mo_argument_91
    refine e_n (e_bf ?_ rfl)
    exact (by decide : ¬ (2 : Int32) = 0)
  have one : ∀ q0 q1 : Int32, mo_argument_68 ms q0 q1 = some (uI ms 0 0 1) := by
    intro q0 q1
    unfold mo_argument_68 mo_argument_91
    refine e_n (e_bf ?_ rfl)
    exact (by decide : ¬ (1 : Int32) = 0)
  have h30 : n = 30 → ms.1 0 7 = 30 := fun e => by rw [a2, e]; rfl
  have h30n : n < 30 → ¬ ms.1 0 7 = 30 := fun e z => by
    rw [a2] at z
    have := (nI_eq (a := n) (b := 30) (by omega) (by decide)).mp z
    omega
  have full : n = 30 → ∀ q0 q1 : Int32, f_ar_addF cs q0 q1 = some 0 := fun e q0 q1 => e_n (e_bt (by rw [a1, e]; exact nI_le (a := 30) (b := 30) (Nat.le_refl _) (by decide)) rfl)
  by_cases hz : p0 = 0 ∧ p1 = 0
  · obtain ⟨rfl, rfl⟩ := hz
    by_cases hn : n = 30
    · refine ⟨uI ms 0 0 2, ?_, Or.inr (Or.inr ⟨rfl, Or.inl ⟨rfl, rfl⟩, full hn _ _, hR⟩)⟩
      exact e_bt rfl (e_bt rfl (e_bf (show ¬ (1 : Int32) = 0 by decide) (e_bt (h30 hn) (two _ _))))
    · obtain ⟨c, e1, c1, r, e2, r0, hRS, hPH⟩ := arg_new (a := 0) (b := 0) hR (by omega) ⟨by decide, by decide, Iff.rfl⟩ (by omega)
      have hR' := hRS
      refine ⟨r, ?_, Or.inl ⟨r0, c.2, n + 1, u + 0 * 0, ?_, hRS, hPH⟩⟩
      · exact e_bt rfl (e_bt rfl (e_bf (show ¬ (1 : Int32) = 0 by decide) (e_bf (h30n (by omega)) e2)))
      · exact e_bt rfl (e_bt rfl (e_bf (show ¬ (1 : Int32) = 0 by decide) (e_c e1 (e_bf (by rw [c1]; decide) rfl))))
  · have h12 : f_mo_argument ms p0 p1 = mo_argument_12 ms p0 p1 := by
      by_cases h0 : p0 = 0
      · exact e_bt h0 (e_bf (fun z => hz ⟨h0, z⟩) rfl)
      · exact e_bf h0 rfl
    have h12c : f_wf_argument cs p0 p1 = wf_argument_12 cs p0 p1 := by
      by_cases h0 : p0 = 0
      · exact e_bt h0 (e_bf (fun z => hz ⟨h0, z⟩) rfl)
      · exact e_bf h0 rfl
    rw [h12, h12c]
    have h51 : ∀ P : Prop, (mo_argument_51 ms p0 p1 0 0 = some (uI ms 0 0 1) → P) → True := fun _ _ => trivial
    by_cases b0 : p0 < 1
    · have k : ∀ z0 : Int32, mo_argument_51 ms p0 p1 0 z0 = some (uI ms 0 0 1) := fun z0 => e_bt rfl (e_bt b0 (one _ _))
      refine ⟨uI ms 0 0 1, ?_, Or.inr (Or.inl ⟨rfl, ⟨hz, Or.inl b0⟩, hR⟩)⟩
      by_cases g1 : 512 < p0
      · exact e_bt g1 (k 0)
      · by_cases g2 : 512 < p1
        · exact e_bf g1 (e_bt g2 (k 0))
        · by_cases g3 : 512 < ((ms.1 0 8) + (p0 * p1))
          · exact e_bf g1 (e_bf g2 (e_bt g3 (k 0)))
          · exact e_bf g1 (e_bf g2 (e_bf g3 (k 1)))
    · by_cases b1 : p1 < 1
      · have k : ∀ z0 : Int32, mo_argument_51 ms p0 p1 0 z0 = some (uI ms 0 0 1) := fun z0 => e_bt rfl (e_bf b0 (e_bf (fun z => absurd b1 (Int32.not_lt.mpr z)) (one _ _)))
        refine ⟨uI ms 0 0 1, ?_, Or.inr (Or.inl ⟨rfl, ⟨hz, Or.inr b1⟩, hR⟩)⟩
        by_cases g1 : 512 < p0
        · exact e_bt g1 (k 0)
        · by_cases g2 : 512 < p1
          · exact e_bf g1 (e_bt g2 (k 0))
          · by_cases g3 : 512 < ((ms.1 0 8) + (p0 * p1))
            · exact e_bf g1 (e_bf g2 (e_bt g3 (k 0)))
            · exact e_bf g1 (e_bf g2 (e_bf g3 (k 1)))
      · have c0 := Int32.not_lt.mp b0
        have c1 := Int32.not_lt.mp b1
        have k : ∀ z0 : Int32, mo_argument_51 ms p0 p1 0 z0 = mo_argument_72 ms p0 p1 z0 := fun z0 => e_bt rfl (e_bf b0 (e_bt c1 rfl))
        obtain ⟨a, ha1, ha, rfl⟩ := i_one b0
        obtain ⟨b, hb1, hb, rfl⟩ := i_one b1
        by_cases hn : n = 30
        · have k2 : ∀ z0 : Int32, mo_argument_51 ms (nI a) (nI b) 0 z0 = some (uI ms 0 0 2) := fun z0 => (k z0).trans (e_bt (h30 hn) (two _ _))
          refine ⟨uI ms 0 0 2, ?_, Or.inr (Or.inr ⟨rfl, Or.inr ⟨c0, c1⟩, full hn _ _, hR⟩)⟩
          by_cases g1 : 512 < nI a
          · exact e_bt g1 (k2 0)
          · by_cases g2 : 512 < nI b
            · exact e_bf g1 (e_bt g2 (k2 0))
            · by_cases g3 : 512 < ((ms.1 0 8) + (nI a * nI b))
              · exact e_bf g1 (e_bf g2 (e_bt g3 (k2 0)))
              · exact e_bf g1 (e_bf g2 (e_bf g3 (k2 1)))
        · have L : ∀ m : Nat, m < 2 ^ 31 → ((512 : Int32) < nI m ↔ 512 < m) := fun m hm => nI_ltI (a := 512) (by decide) hm
          have no : ¬ (u + a * b ≤ 512) → f_ar_addF cs (nI a) (nI b) = some 0 := fun hu => by
            have hab : a * b < 2 ^ 62 := Nat.lt_of_lt_of_le (Nat.mul_lt_mul'' ha hb) (by decide)
            refine e_n (e_bf (by rw [a1]; exact nI_ge (b := 30) (by omega) (by decide)) ?_)
            rw [nI_l ha, nI_l hb, lN_mul]
            refine e_bf (fun z => ?_) (e_bf (fun z => ?_) rfl)
            · have z := (lg_cmp_lt _ _).mp z
              rw [Int64.lt_iff_toInt_lt, lN_big (by omega)] at z
              have : (0 : Int64).toInt = 0 := by decide
              omega
            · rw [lg_cmp_le, a4, nI_l (by omega), lN_add, Int64.le_iff_toInt_le, lN_big (by omega)] at z
              have : ((512 : Int32).toInt64).toInt = 512 := by decide
              omega
          have k2 : mo_argument_51 ms (nI a) (nI b) 0 0 = some (uI ms 0 0 2) := by
            refine (k 0).trans (e_bf (h30n (by omega)) ?_)
            first | exact two _ _ | exact e_bt rfl (two _ _)
          by_cases g1 : 512 < a
          · have := Nat.le_mul_of_pos_right a (show 0 < b by omega)
            exact ⟨uI ms 0 0 2, (e_bt ((L a ha).mpr g1) k2), Or.inr (Or.inr ⟨rfl, Or.inr ⟨c0, c1⟩, no (by omega), hR⟩)⟩
          · by_cases g2 : 512 < b
            · have := Nat.le_mul_of_pos_left b (show 0 < a by omega)
              exact ⟨uI ms 0 0 2, (e_bf (fun z => g1 ((L a ha).mp z)) (e_bt ((L b hb).mpr g2) k2)), Or.inr (Or.inr ⟨rfl, Or.inr ⟨c0, c1⟩, no (by omega), hR⟩)⟩
            · have hab : a * b ≤ 512 * 512 := Nat.mul_le_mul (by omega) (by omega)
              have hmul : ms.1 0 8 + nI a * nI b = nI (u + a * b) := by rw [a5, show nI a * nI b = nI (a * b) from (Int32.ofNat_mul a b).symm, nI_add]
              by_cases g3 : 512 < u + a * b
              · exact ⟨uI ms 0 0 2, (e_bf (fun z => g1 ((L a ha).mp z)) (e_bf (fun z => g2 ((L b hb).mp z)) (e_bt (by rw [hmul]; exact (L _ (by omega)).mpr g3) k2))), Or.inr (Or.inr ⟨rfl, Or.inr ⟨c0, c1⟩, no (by omega), hR⟩)⟩
              · obtain ⟨c, e1, c1', r, e2, r0, hRS, hPH⟩ := arg_new (a := a) (b := b) hR (by omega) ⟨by omega, by omega, by omega⟩ (by omega)
                refine ⟨r, (e_bf (fun z => g1 ((L a ha).mp z)) (e_bf (fun z => g2 ((L b hb).mp z)) (e_bf (by rw [hmul]; exact fun z => g3 ((L _ (by omega)).mp z)) ((k 1).trans (e_bf (h30n (by omega)) e2))))), Or.inl ⟨r0, c.2, n + 1, u + a * b, ?_, hRS, hPH⟩⟩
                exact (e_bf b0 (e_bt c1 (e_c e1 (e_bf (by rw [c1']; decide) rfl))))
/-! ### look -/
theorem tellM {h j : Nat} {v : VV} : ∀ {ms : GS} (_ : VR v (ms.1 19) (ms.1 19) (ms.1 20) (ms.1 21) (ms.1 3) (ms.2.1 22) h j) (_ : j < 512) (_ : h ≤ 140000), Tr (f_mo_tellKept ms (nI j)) (fun m => Rtold v m ∧ m.2.2 = ms.2.2 ∧ (∀ i, i ≠ 0 → m.2.1 i = ms.2.1 i) ∧ (∀ k, k ≠ 34 → m.2.1 0 k = ms.2.1 0 k) ∧ (∀ i, i ≠ 0 → i ≠ 17 → m.1 i = ms.1 i) ∧ ∀ k, k ≠ 32 → k ≠ 33 → m.1 0 k = ms.1 0 k) := by
  intro ms hv hj hh
  have hin : inb (nI j) 512 = true := inb_of hj (by decide)
  have ecl : (nI j).toNatClampNeg = j := nI_clamp (by omega)
  have other : ∀ (v1 : ms.1 19 j = v.1) (_ : ¬ v.1 = 2) (_ : Rtold v (uI (uD (uI ms 0 32 (ms.1 19 j)) 0 34 (ms.2.1 22 j)) 0 33 0)), Tr (f_mo_tellKept ms (nI j)) (fun m => Rtold v m ∧ m.2.2 = ms.2.2 ∧ (∀ i, i ≠ 0 → m.2.1 i = ms.2.1 i) ∧ (∀ k, k ≠ 34 → m.2.1 0 k = ms.2.1 0 k) ∧ (∀ i, i ≠ 0 → i ≠ 17 → m.1 i = ms.1 i) ∧ ∀ k, k ≠ 32 → k ≠ 33 → m.1 0 k = ms.1 0 k) := fun v1 v2 hT => by
    refine Tr_jg hin (Tr_jn ?_)
    rw [ecl]
    refine Tr_jg hin (Tr_jn ?_)
    refine Tr_jbf (fun z => v2 (v1.symm.trans z)) (Tr_jn ?_)
    refine Tr_jbt (show (0 : Int32) ≤ 0 by decide) (Tr_some ⟨hT, rfl, fun i hi => ?_, fun k hk => ?_, fun i h0 _ => ?_, fun k h1 h2 => ?_⟩)
    · exact if_neg hi
    · exact uD_ne (st := uI ms 0 32 (ms.1 19 j)) hk
    · rw [uI_off1 h0]
      exact uI_off1 h0
    · rw [uI_ne h2]
      exact (show (uI ms 0 32 (ms.1 19 j)).1 0 k = ms.1 0 k from uI_ne h1)
  have told : ∀ (w : VV), (w.1 = 0 → w = (0, 0, [])) → (¬ w.1 = 2) → (¬ w.1 = 0 → w.2.2 = []) → ms.1 19 j = w.1 → (¬ w.1 = 0 → ms.2.1 22 j = w.2.1) → Rtold w (uI (uD (uI ms 0 32 (ms.1 19 j)) 0 34 (ms.2.1 22 j)) 0 33 0) := fun w w0 w2 wt wk wn => ⟨wk, w0, fun z => absurd z w2, fun z _ => ⟨wt z, Or.inl (wn z).symm⟩⟩
  rcases hv with ⟨rfl, k0⟩ | ⟨x, rfl, k0, k1⟩ | ⟨t, f, rfl, ht, k0, k1, k2, k3, k4⟩ | ⟨rfl | rfl, k0, k1⟩ | ⟨e, e1, e8, rfl, k0, k1⟩
  · exact other k0 (by decide) (told _ (fun _ => rfl) (by decide) (fun z => absurd rfl z) k0 (fun z => absurd rfl z))
  · exact other k0 (show ¬ (1 : Int32) = 2 by decide) (told _ (fun z => absurd (show (1 : Int32) = 0 from z) (by decide)) (show ¬ (1 : Int32) = 2 by decide) (fun _ => rfl) k0 (fun _ => k1))
  · refine Tr_jg hin (Tr_jn ?_)
    rw [ecl]
    refine Tr_jg hin (Tr_jn ?_)
    refine Tr_jbt k0 (Tr_jg hin ?_)
    show Tr (mo_tellKept_39 (uD (uI ms 0 32 (ms.1 19 j)) 0 34 (ms.2.1 22 j)) (nI j) (ms.1 21 j)) _
    rw [k2]
    refine Tr_jn ?_
    have loop : ∀ (m i fu : Nat) (M : GS), i + m = t.length → m < fu → M.1 0 33 = nI t.length → M.1 20 j = nI f → (∀ q, q < t.length → M.1 3 (f + q) = nI (t.getD q 0)) → (∀ q, q < i → M.1 17 q = nI (t.getD q 0)) → Tr (mo_tellKept_44 fu M (nI j) (nI i)) (fun r => r.2 = M.2 ∧ (∀ q, q < t.length → r.1 17 q = nI (t.getD q 0)) ∧ ∀ c, c ≠ 17 → r.1 c = M.1 c) := by
      intro m
      have htl := ht.1
      induction m with
      | zero =>
        intro i fu M hi hf h33 h20 h3 h17
        obtain ⟨g, rfl⟩ : ∃ g, fu = g + 1 := ⟨fu - 1, by omega⟩
        exact Tr_jbt (by rw [h33]; exact nI_le (by omega) (by omega)) (Tr_some ⟨rfl, fun q hq => h17 q (by omega), fun _ _ => rfl⟩)
      | succ m ih =>
        intro i fu M hi hf h33 h20 h3 h17
        obtain ⟨g, rfl⟩ : ∃ g, fu = g + 1 := ⟨fu - 1, by omega⟩
        refine Tr_jbf (by rw [h33]; exact nI_ge (by omega) (by omega)) (Tr_jg hin (Tr_jg (by rw [ecl, h20, nI_add]; exact inb_of (by omega) (by decide)) (Tr_jg (inb_of (by omega) (by decide)) (Tr_jn (Tr_jn ?_)))))
        rw [ecl, h20, nI_add, nI_clamp (by omega), nI_clamp (by omega), nI_1, h3 i (by omega)]
        refine Tr_mono (ih (i + 1) g (uI M 17 i (nI (t.getD i 0))) (by omega) (by omega) h33 h20 h3 (fun q hq => ?_)) (fun r ⟨r1, r2, r3⟩ => ⟨r1, r2, fun c hc => (r3 c hc).trans (uI_off1 hc)⟩)
        by_cases e : q = i
        · rw [e, uI_at]
        · rw [uI_ne e]; exact h17 q (by omega)
    refine Tr_mono (loop t.length 0 FU _ (by omega) (FU_lt (by have := ht.1; omega)) rfl k1 k4 (fun q hq => absurd hq (Nat.not_lt_zero q))) (fun m ⟨m1, m2, m3⟩ => ?_)
    have c0 := m3 0 (by decide)
    refine ⟨⟨?_, fun z => absurd (show (2 : Int32) = 0 from z) (by decide), fun _ => ⟨rfl, ht, ?_, m2⟩, fun _ z => absurd rfl z⟩, ?_, fun i hi => ?_, fun k hk => ?_, fun i h0 h17 => ?_, fun k h1 h2 => ?_⟩
    · rw [c0]; exact k0
    · rw [c0]; rfl
    · rw [m1]; rfl
    · rw [m1]; exact if_neg hi
    · rw [m1]; exact uD_ne (st := uI ms 0 32 (ms.1 19 j)) hk
    · rw [m3 i h17, uI_off1 h0]
      exact uI_off1 h0
    · rw [c0, uI_ne h2]
      exact (show (uI ms 0 32 (ms.1 19 j)).1 0 k = ms.1 0 k from uI_ne h1)
  · exact other k0 (show ¬ (3 : Int32) = 2 by decide) (told _ (fun z => absurd (show (3 : Int32) = 0 from z) (by decide)) (show ¬ (3 : Int32) = 2 by decide) (fun _ => rfl) k0 (fun _ => k1))
  · exact other k0 (show ¬ (3 : Int32) = 2 by decide) (told _ (fun z => absurd (show (3 : Int32) = 0 from z) (by decide)) (show ¬ (3 : Int32) = 2 by decide) (fun _ => rfl) k0 (fun _ => k1))
  · exact other k0 (show ¬ (4 : Int32) = 2 by decide) (told _ (fun z => absurd (show (4 : Int32) = 0 from z) (by decide)) (show ¬ (4 : Int32) = 2 by decide) (fun _ => rfl) k0 (fun _ => k1))
theorem VR_le {v : VV} {kd nm fr sz le le' : Nat → Int32} {nu : Nat → UInt64} {h j : Nat} (hv : VR v kd nm fr sz le nu h j) (hle : ∀ i, i < h → le' i = le i) : VR v kd nm fr sz le' nu h j := by
  rcases hv with g | g | ⟨t, f, g1, g2, g3, g4, g5, g6, g7⟩ | g | g
  · exact Or.inl g
  · exact Or.inr (Or.inl g)
  · exact Or.inr (Or.inr (Or.inl ⟨t, f, g1, g2, g3, g4, g5, g6, fun i hi => by rw [hle _ (by omega)]; exact g7 i hi⟩))
  · exact Or.inr (Or.inr (Or.inr (Or.inl g)))
  · exact Or.inr (Or.inr (Or.inr (Or.inr g)))
theorem nI_mul (a b : Nat) : nI a * nI b = nI (a * b) := (Int32.ofNat_mul a b).symm
/-- a place of a grid, by row and column -/
theorem place_ok {R C : Nat} {x y : Int32} (h1 : ¬ x < 0) (h2 : ¬ nI R ≤ x) (h3 : ¬ y < 0) (h4 : ¬ nI C ≤ y) (hRC : R * C ≤ 512) (hR : R ≤ 512) (hC : C ≤ 512) : ∃ a b : Nat, x = nI a ∧ y = nI b ∧ a < R ∧ b < C ∧ a * C + b < R * C ∧ x * nI C + y = nI (a * C + b) := by
  obtain ⟨a, ha, rfl⟩ := nI_of h1
  obtain ⟨b, hb, rfl⟩ := nI_of h3
  rw [nI_leI (by omega) ha] at h2
  rw [nI_leI (by omega) hb] at h4
  refine ⟨a, b, rfl, rfl, by omega, by omega, ?_, by rw [nI_mul, nI_add]⟩
  have : (a + 1) * C ≤ R * C := Nat.mul_le_mul_right C (by omega)
  rw [Nat.add_mul, Nat.one_mul] at this
  omega
theorem p_look {tp n u h : Nat} {cs : CS} {ms : GS} (hR : RS tp n u h cs ms) (hh : h ≤ 140000) (p0 p1 : Int32) : Tr (f_wf_look cs p0 p1) (fun a => Tr (f_mo_look ms p0 p1) (fun b => a.1 = b.1 ∧ RS tp n u h a.2 b.2 ∧ a.2.2 40 = cs.2 40)) := by
  obtain ⟨hT, hC, hH, hA, hN⟩ := id hR
  obtain ⟨r, c, k1, k2, k3, k4, kr, kc, k5, k6, k7⟩ := id hN
  have hr512 : r ≤ 512 := Nat.le_trans (Nat.le_mul_of_pos_right r kc) k5
  have hc512 : c ≤ 512 := Nat.le_trans (Nat.le_mul_of_pos_left c kr) k5
  have no : f_an_tell cs p0 p1 = some (0, cs) → Tr (f_mo_look ms p0 p1) (fun b => (-1) = b.1 ∧ RS tp n u h cs b.2) → Tr (f_wf_look cs p0 p1) (fun a => Tr (f_mo_look ms p0 p1) (fun b => a.1 = b.1 ∧ RS tp n u h a.2 b.2 ∧ a.2.2 40 = cs.2 40)) := fun e hm => Tr_jce e (Tr_jbt rfl (Tr_some (Tr_mono hm (fun b ⟨b1, b2⟩ => ⟨b1, b2, rfl⟩))))
  by_cases g1 : p0 < 0
  · exact no (e_bt g1 rfl) (Tr_jn (Tr_jbt g1 (Tr_some ⟨rfl, hR⟩)))
  by_cases g2 : nI r ≤ p0
  · refine no (e_bf g1 (e_bt (by rw [k1]; exact g2) rfl)) (Tr_jn (Tr_jbf g1 (Tr_jb (fun _ => Tr_some ⟨rfl, hR⟩) (fun _ => Tr_jbt ?_ (Tr_some ⟨rfl, hR⟩)))))
    show ms.1 0 49 ≤ p0
    rw [k3]; exact g2
  by_cases g3 : p1 < 0
  · exact no (e_bf g1 (e_bf (by rw [k1]; exact g2) (e_bt g3 rfl))) (Tr_jn (Tr_jbf g1 (Tr_jbt g3 (Tr_some ⟨rfl, hR⟩))))
  have m3 : ¬ (uI ms 0 0 0).1 0 49 ≤ p0 := by show ¬ ms.1 0 49 ≤ p0; rw [k3]; exact g2
  by_cases g4 : nI c ≤ p1
  · refine no (e_bf g1 (e_bf (by rw [k1]; exact g2) (e_bf g3 (e_bt (by rw [k2]; exact g4) rfl)))) (Tr_jn (Tr_jbf g1 (Tr_jbf g3 (Tr_jbf m3 (Tr_jbf ?_ (Tr_some ⟨rfl, hR⟩))))))
    show ¬ p1 < ms.1 0 50
    rw [k4]; exact Int32.not_lt.mpr g4
  have m4 : p1 < (uI ms 0 0 0).1 0 50 := by show p1 < ms.1 0 50; rw [k4]; exact Int32.not_le.mp g4
  obtain ⟨a, b, ea, eb, ha, hb, hab, eab⟩ := place_ok g1 g2 g3 g4 k5 hr512 hc512
  have ec : f_an_tell cs p0 p1 = some (1, uV cs 2 3 (cs.2 42 (a * c + b))) := by
    refine e_bf g1 (e_bf (by rw [k1]; exact g2) (e_bf g3 (e_bf (by rw [k2]; exact g4) ?_)))
    rw [k2, eab]
    refine e_bt (nI_lt (b := 512) (by omega) (by decide)) (e_g (inb_of (by omega) (by decide)) ?_)
    rw [nI_clamp (by omega)]
    rfl
  refine Tr_jce ec (Tr_jbf (show ¬ (1 : Int32) = 0 by decide) (Tr_some ?_))
  rcases k7 with ⟨q1, q2, q3, q4⟩ | ⟨q1, q2⟩
  · refine Tr_jn (Tr_jbf g1 (Tr_jbf g3 (Tr_jbf m3 (Tr_jbt m4 (Tr_jbt (show ms.1 0 36 < 0 from q1) (Tr_some ⟨?_, ?_, rfl⟩))))))
    · have : a * c + b = 0 := by subst q2; subst q3; omega
      rw [this]
      show (cs.2 42 0).1 = ms.1 0 32
      rw [← q4]
      exact k6.1.symm
    · refine ⟨hT, hC, hH, hA, r, c, k1, k2, k3, k4, kr, kc, k5, ?_, Or.inl ⟨q1, q2, q3, ?_⟩⟩
      · have : a * c + b = 0 := by subst q2; subst q3; omega
        show Rtold (cs.2 42 (a * c + b)) _
        rw [this, ← q4]
        exact k6
      · have : a * c + b = 0 := by subst q2; subst q3; omega
        show cs.2 42 (a * c + b) = cs.2 42 0
        rw [this]
  · refine Tr_jn (Tr_jbf g1 (Tr_jbf g3 (Tr_jbf m3 (Tr_jbt m4 (Tr_jbf (show ¬ ms.1 0 36 < 0 from q1) ?_)))))
    have e50 : (uI ms 0 0 0).1 0 50 = nI c := k4
    rw [e50, eab]
    refine Tr_jc (tellM (ms := uI ms 0 0 0) (q2 _ hab) (by omega) hh) (fun m ⟨m1, m2, m3, m4, m5, m6⟩ => Tr_some ⟨?_, ?_, rfl⟩)
    · exact m1.1.symm
    · have w : ∀ i, i ≠ 0 → i ≠ 17 → m.1 i = ms.1 i := fun i h0 h17 => (m5 i h0 h17).trans (uI_off1 h0)
      have w0 : ∀ k, k ≠ 32 → k ≠ 33 → k ≠ 0 → m.1 0 k = ms.1 0 k := fun k h1 h2 h3 => (m6 k h1 h2).trans (uI_ne h3)
      have wd : ∀ i, i ≠ 0 → m.2.1 i = ms.2.1 i := fun i hi => m3 i hi
      refine ⟨⟨hT.1, ?_, hT.2.2.1, hT.2.2.2.1, fun j hj => ?_⟩, ⟨hC.1, ?_, fun j hj => ?_⟩, ⟨?_, ?_⟩, ?_, ?_⟩
      · exact (w0 1 (by decide) (by decide) (by decide)).trans hT.2.1
      · rw [w 1 (by decide) (by decide)]
        exact hT.2.2.2.2 j hj
      · exact (w0 2 (by decide) (by decide) (by decide)).trans hC.2.1
      · rw [w 2 (by decide) (by decide)]
        exact hC.2.2 j hj
      · exact hH.1.trans (w0 18 (by decide) (by decide) (by decide)).symm
      · exact hH.2.trans (w0 19 (by decide) (by decide) (by decide)).symm
      · exact Rargs_mv hA rfl rfl (fun _ _ _ => rfl) rfl rfl (w0 7 (by decide) (by decide) (by decide)) (w0 8 (by decide) (by decide) (by decide)) (w0 3 (by decide) (by decide) (by decide)) (w 3 (by decide) (by decide)) (w 4 (by decide) (by decide)) (w 5 (by decide) (by decide)) (w 6 (by decide) (by decide)) (w 7 (by decide) (by decide)) (w 8 (by decide) (by decide)) (w 9 (by decide) (by decide)) (w 10 (by decide) (by decide)) (w 11 (by decide) (by decide)) (wd 12 (by decide))
      · refine ⟨r, c, k1, k2, (w0 49 (by decide) (by decide) (by decide)).trans k3, (w0 50 (by decide) (by decide) (by decide)).trans k4, kr, kc, k5, m1, Or.inr ⟨?_, fun i hi => ?_⟩⟩
        · rw [w0 36 (by decide) (by decide) (by decide)]; exact q1
        · rw [w 19 (by decide) (by decide), w 20 (by decide) (by decide), w 21 (by decide) (by decide), w 3 (by decide) (by decide), wd 22 (by decide)]
          exact q2 i hi
