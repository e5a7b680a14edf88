/-! ### free days -/
def zf (x : UInt64) : Int := FP.Core.zval FP.Core.b64 (FP.Core.val64 x) / UU
def dayIs (v : VV) (d : Int) : Bool := decide (v.1 = 1) && decide (zf v.2.1 = d)
def holB (val : Nat → VV) : Nat → Int → Bool
  | 0, _ => false
  | k + 1, d => holB val k d || dayIs (val k) d
def workB (d : Int) : Bool := decide (1 < d % 7)
theorem zf_DV {x : UInt64} {z : Int} (h : DV x z) : zf x = z / UU := by unfold zf; rw [h.2]
/-- the values of the third argument, and how many -/
def hM (n : Nat) (cs : CS) : Nat := if 2 < n then one1 (aR cs 2) * one1 (aC cs 2) else 0
theorem vr_at {n u h i : Nat} {cs : CS} {ms : GS} (hA : Rargs n u h cs ms) (hi : i < n) {k : Nat} (hk : k < one1 (aR cs i) * one1 (aC cs i)) : VR (av cs i k) (ms.1 9) (ms.1 9) (ms.1 10) (ms.1 11) (ms.1 3) (ms.2.1 12) h (ap cs i k) := by
  obtain ⟨g1, g2, g3, g4, g5, g6, g7, g8, g9, g10, g11, g12⟩ := geo hA hi
  unfold av ap
  rcases one1_mul _ _ g9 with ⟨k1, k2⟩ | ⟨k1, k2⟩
  · rw [if_pos k1, if_neg (by rw [k1]; omega)]
    exact Or.inl ⟨rfl, hA.2.2.2.2.2.2.2.2.2.2.1⟩
  · rw [if_neg k1, if_pos (by omega)]
    exact hA.2.2.2.2.2.2.2.2.2.2.2 _ (by omega)
/-- kind and number of a value in the reference's arrays -/
theorem vr_kn {v : VV} {kd nm fr sz le : Nat → Int32} {nu : Nat → UInt64} {h j : Nat} (hv : VR v kd nm fr sz le nu h j) : (kd j = 1 ↔ v.1 = 1) ∧ (v.1 = 1 → nu j = v.2.1 ∧ ∃ x : Int32, v.2.1 = FP.dmul (FP.i2d x) d125) := by
  rcases hv with ⟨rfl, k0⟩ | ⟨x, rfl, k0, k1⟩ | ⟨t, f, rfl, ht, k0, k1, k2, k3, k4⟩ | ⟨rfl | rfl, k0, k1⟩ | ⟨e, e1, e8, rfl, k0, k1⟩
  · rw [k0]; exact ⟨⟨fun z => absurd z (by decide), fun z => absurd (show (0 : Int32) = 1 from z) (by decide)⟩, fun z => absurd (show (0 : Int32) = 1 from z) (by decide)⟩
  · exact ⟨⟨fun _ => rfl, fun _ => k0⟩, fun _ => ⟨k1, x, rfl⟩⟩
  · rw [k0]; exact ⟨⟨fun z => absurd z (by decide), fun z => absurd (show (2 : Int32) = 1 from z) (by decide)⟩, fun z => absurd (show (2 : Int32) = 1 from z) (by decide)⟩
  · rw [k0]; exact ⟨⟨fun z => absurd z (by decide), fun z => absurd (show (3 : Int32) = 1 from z) (by decide)⟩, fun z => absurd (show (3 : Int32) = 1 from z) (by decide)⟩
  · rw [k0]; exact ⟨⟨fun z => absurd z (by decide), fun z => absurd (show (3 : Int32) = 1 from z) (by decide)⟩, fun z => absurd (show (3 : Int32) = 1 from z) (by decide)⟩
  · rw [k0]; exact ⟨⟨fun z => absurd z (by decide), fun z => absurd (show (4 : Int32) = 1 from z) (by decide)⟩, fun z => absurd (show (4 : Int32) = 1 from z) (by decide)⟩
theorem okV_1 {v : VV} (hv : okV v) (h1 : v.1 = 1) : ∃ x : Int32, v.2.1 = FP.dmul (FP.i2d x) d125 := by
  rcases hv with rfl | ⟨x, rfl⟩ | ⟨t, rfl, ht⟩ | (rfl | rfl) | ⟨e, e1, e8, rfl⟩
  · exact absurd (show (0 : Int32) = 1 from h1) (by decide)
  · exact ⟨x, rfl⟩
  · exact absurd (show (2 : Int32) = 1 from h1) (by decide)
  · exact absurd (show (3 : Int32) = 1 from h1) (by decide)
  · exact absurd (show (3 : Int32) = 1 from h1) (by decide)
  · exact absurd (show (4 : Int32) = 1 from h1) (by decide)
theorem isWork_m {n u h : Nat} {cs0 cs : CS} {ms0 ms : GS} (I : CI n u h cs0 ms0 cs ms) {d : Nat} (hd : d ≤ 3000000) : f_mo_isWork ms (nI d) 2 = some (b01 (workB (d : Int) && !holB (av cs 2) (hM n cs) (d : Int))) := by
  have hU := UU_pos
  have hg := given_m I.1 (i := 2) (by decide)
  have hn30 := I.1.2.2.1
  have loop : ∀ (r k fu : Nat), k + r = hM n cs → r < fu → mo_isWork_20 fu ms (nI d) 2 (b01 (workB (d : Int) && !holB (av cs 2) k (d : Int))) (nI k) = some (b01 (workB (d : Int) && !holB (av cs 2) (hM n cs) (d : Int))) := by
    intro r
    induction r with
    | zero =>
      intro k fu hk hf
      obtain ⟨g, rfl⟩ : ∃ g, fu = g + 1 := ⟨fu - 1, by omega⟩
      obtain rfl : k = hM n cs := by omega
      by_cases h2 : 2 < n
      · rw [if_pos h2] at hg
        refine e_c hg (e_bf (by decide) (e_c (rows_m I.1 h2) (e_c (cols_m I.1 h2) (e_bt ?_ (e_g (isB_b01 _) rfl)))))
        obtain ⟨t1, t2, t3, t4, t5⟩ := one_le I.1 h2
        rw [nI_mul]
        unfold hM
        rw [if_pos h2]
        exact Int32.le_refl _
      · rw [if_neg h2] at hg
        exact e_c hg (e_bt rfl (e_g (isB_b01 _) rfl))
    | succ r ih =>
      intro k fu hk hf
      obtain ⟨g, rfl⟩ : ∃ g, fu = g + 1 := ⟨fu - 1, by omega⟩
      have h2 : 2 < n := by
        refine Classical.byContradiction fun z => ?_
        unfold hM at hk
        rw [if_neg z] at hk
        omega
      rw [if_pos h2] at hg
      obtain ⟨t1, t2, t3, t4, t5⟩ := one_le I.1 h2
      have hkM : k < one1 (aR cs 2) * one1 (aC cs 2) := by
        unfold hM at hk
        rw [if_pos h2] at hk
        omega
      obtain ⟨g1, g2, g3, g4, g5, g6, g7, g8, g9, g10, g11, g12⟩ := geo I.1 h2
      refine e_c hg (e_bf (by decide) (e_c (rows_m I.1 h2) (e_c (cols_m I.1 h2) (e_bf ?_ ?_))))
      · rw [nI_mul]; exact nI_ge hkM (Nat.lt_of_le_of_lt t5 (by decide))
      · -- once not a work day, so it stays
        have mono : ∀ j, holB (av cs 2) k (d : Int) = true → holB (av cs 2) (k + j) (d : Int) = true := fun j hj => by
          induction j with
          | zero => exact hj
          | succ j ihj =>
            show (holB (av cs 2) (k + j) (d : Int) || _) = true
            rw [ihj, Bool.true_or]
        cases hb : (workB (d : Int) && !holB (av cs 2) k (d : Int)) with
        | false =>
          refine e_bt rfl (e_g (isB_b01 _) ?_)
          have hend : (workB (d : Int) && !holB (av cs 2) (hM n cs) (d : Int)) = false := by
            rw [Bool.and_eq_false_iff] at hb ⊢
            rcases hb with hb | hb
            · exact Or.inl hb
            · refine Or.inr ?_
              have h1 : holB (av cs 2) k (d : Int) = true := by
                cases hh : holB (av cs 2) k (d : Int) with
                | true => rfl
                | false => rw [hh] at hb; cases hb
              have h2 := mono (r + 1) h1
              rw [hk] at h2
              rw [h2]
              rfl
          rw [hend]
        | true =>
          refine e_bf (by decide) ?_
          have hwk : workB (d : Int) = true ∧ holB (av cs 2) k (d : Int) = false := by
            rw [Bool.and_eq_true] at hb
            refine ⟨hb.1, ?_⟩
            cases hh : holB (av cs 2) k (d : Int) with
            | true => rw [hh] at hb; cases hb.2
            | false => rfl
          have hstep : ∀ b : Bool, b = !dayIs (av cs 2 k) (d : Int) → b01 b = b01 (workB (d : Int) && !holB (av cs 2) (k + 1) (d : Int)) := fun b hbb => by
            show b01 b = b01 (workB (d : Int) && !(holB (av cs 2) k (d : Int) || dayIs (av cs 2 k) (d : Int)))
            rw [hwk.1, hwk.2, Bool.false_or, Bool.true_and, hbb]
          have hvr := vr_at I.1 h2 hkM
          obtain ⟨v1, v2⟩ := vr_kn hvr
          have hap := ap_lt I.1 h2 hkM
          have e71 : mo_isWork_71 (mo_isWork_20 g) ms (nI d) 2 (nI k) (nI (ap cs 2 k)) = some (b01 (workB (d : Int) && !holB (av cs 2) (hM n cs) (d : Int))) := by
            have hin : inb (nI (ap cs 2 k)) 513 = true := inb_of hap (by decide)
            have next : ∀ b : Bool, b = !dayIs (av cs 2 k) (d : Int) → mo_isWork_105 (mo_isWork_20 g) ms (nI d) 2 (nI k) (b01 b) = some (b01 (workB (d : Int) && !holB (av cs 2) (hM n cs) (d : Int))) := fun b hbb => by
              rw [hstep b hbb]
              refine e_n ?_
              rw [nI_1]
              exact ih (k + 1) g (by omega) (by omega)
            refine e_g hin ?_
            rw [nI_clamp (by omega)]
            by_cases hk1 : (av cs 2 k).1 = 1
            · refine e_bt (v1.mpr hk1) (e_g hin ?_)
              obtain ⟨w1, x, w2⟩ := v2 hk1
              rw [w1]
              obtain ⟨z, z1, z2⟩ := DV_x8 x
              obtain ⟨z', y1, y2, y3, y4⟩ := NG_x8 x
              have ezz : z' = z := y1.2.symm.trans z1.2
              subst ezz
              rw [w2]
              obtain ⟨c, ec, c1, c2, c3⟩ := floor_NG z1 y2 y3
              refine e_c ec ?_
              have hcmp := cv_eq (op := .l) c1 (DV_k (show d < 2 ^ 31 by omega))
              have hz := zf_DV z1
              by_cases he : z' / UU = (d : Int)
              · refine e_bt (hcmp.mpr (by rw [he])) (next false ?_)
                unfold dayIs
                rw [decide_eq_true hk1, w2, hz, decide_eq_true he]
                rfl
              · refine e_bf (fun q => he (Int.eq_of_mul_eq_mul_right (by omega) (hcmp.mp q))) (next true ?_)
                unfold dayIs
                rw [w2, hz, decide_eq_false he, Bool.and_false]
                rfl
            · refine e_bf (fun z => hk1 (v1.mp z)) (next true ?_)
              unfold dayIs
              rw [decide_eq_false hk1, Bool.false_and]
              rfl
          refine e_c (isOut_m I.1 h2) ?_
          unfold ap at e71
          by_cases h0 : aR cs 2 = 0
          · rw [if_pos h0] at e71 ⊢
            exact e_bf (by decide) e71
          · rw [if_neg h0] at e71 ⊢
            refine e_bt rfl (e_g (inb_of (n := 2) (by decide) (by decide)) ?_)
            have c2 : (2 : Int32).toNatClampNeg = 2 := rfl
            rw [c2, g6, nI_add]
            exact e71
  have e7 : nI d + 7 - (nI d + 7) / 7 * 7 = nI ((d + 7) % 7) := by
    show nI d + nI 7 - (nI d + nI 7) / nI 7 * nI 7 = _
    rw [nI_add]
    exact nI_mod (by omega) (by decide)
  have start := loop (hM n cs) 0 FU (by omega) (FU_lt (by
    unfold hM
    split
    · rename_i h2
      have := one_le I.1 h2
      omega
    · decide))
  unfold f_mo_isWork
  rw [e7]
  by_cases hw : 1 < (d : Int) % 7
  · have hwb : workB (d : Int) = true := decide_eq_true hw
    refine e_bf (nI_ge (a := 1) (by omega) (by omega)) ?_
    rw [hwb] at start ⊢
    exact start
  · have hwb : workB (d : Int) = false := decide_eq_false hw
    refine e_bt (nI_le (b := 1) (by omega) (by decide)) ?_
    rw [hwb] at start ⊢
    exact start
/-! the class's list of free days -/
def FLs (f : Nat → Nat) (c : Nat) (C : CS) : Prop := C.1 5 2 = nI c ∧ ∀ j, j < c → C.1 45 j = nI (f j)
def Srt (f : Nat → Nat) (c : Nat) : Prop := ∀ i j, i < j → j < c → f i < f j
theorem isWorkday_c {d : Nat} (hd : d ≤ 3000000) : f_ca_isWorkday (nI d) = some (b01 (workB (d : Int))) := by
  have e : nI d - 2 = iZ ((d : Int) - 2) := by rw [iZ_nI]; exact iZ_sub _ 2
  have fm : f_ma_floorMod (iZ ((d : Int) - 2)) 7 = some (iZ (((d : Int) - 2) % 7)) := floorMod_c (b := 7) (by omega) (by omega) (by omega) (by omega)
  unfold f_ca_isWorkday
  rw [e]
  refine e_c fm ?_
  unfold workB
  by_cases h : 1 < (d : Int) % 7
  · rw [decide_eq_true h]
    refine e_bf (fun z => ?_) rfl
    have := (iZ_leI (a := 5) (by omega) (by omega) (by omega) (by omega)).mp z
    omega
  · rw [decide_eq_false h]
    exact e_bt ((iZ_leI (a := 5) (by omega) (by omega) (by omega) (by omega)).mpr (by omega)) rfl
/-- one day put into its place -/
def insF (f : Nat → Nat) (p d : Nat) : Nat → Nat := fun j => if j < p then f j else if j = p then d else f (j - 1)
theorem addFree_c {f : Nat → Nat} {c d : Nat} {C : CS} (hL : FLs f c C) (hS : Srt f c) (hc : c < 512) (hb : ∀ j, j < c → f j ≤ 2958465) (hd : d ≤ 2958465) : ∃ C' f' c', f_da_addFree C (nI d) = some C' ∧ Cp [5, 45] C C' ∧ FLs f' c' C' ∧ Srt f' c' ∧ c' ≤ c + 1 ∧ (∀ j, j < c' → f' j ≤ 2958465) ∧ ∀ e, (∃ j, j < c' ∧ f' j = e) ↔ ((∃ j, j < c ∧ f j = e) ∨ (e = d ∧ workB (d : Int) = true)) := by
  -- where it belongs
  have loop5 : ∀ (p fu : Nat), p ≤ c → p < fu → (∀ j, p ≤ j → j < c → d < f j) → ∃ q, q ≤ c ∧ (∀ j, q ≤ j → j < c → d < f j) ∧ (q = 0 ∨ f (q - 1) ≤ d) ∧ da_addFree_5 fu C (nI d) (nI p) = da_addFree_27 C (nI d) (nI q) := by
    intro p
    induction p with
    | zero =>
      intro fu h1 h2 h3
      obtain ⟨g, rfl⟩ : ∃ g, fu = g + 1 := ⟨fu - 1, by omega⟩
      exact ⟨0, Nat.zero_le _, h3, Or.inl rfl, e_bt (by decide) rfl⟩
    | succ p ih =>
      intro fu h1 h2 h3
      obtain ⟨g, rfl⟩ : ∃ g, fu = g + 1 := ⟨fu - 1, by omega⟩
      have hfp := hb p (by omega)
      have ep : nI (p + 1) - 1 = nI p := nI_pred p
      by_cases hle : f p ≤ d
      · refine ⟨p + 1, h1, h3, Or.inr hle, e_bf (nI_nle (by omega) (by omega)) ?_⟩
        rw [ep]
        refine e_g (inb_of (by omega) (by decide)) ?_
        rw [nI_clamp (by omega), hL.2 p (by omega)]
        exact e_bt (nI_le hle (by omega)) rfl
      · obtain ⟨q, q1, q2, q3, q4⟩ := ih g (by omega) (by omega) (fun j j1 j2 => by
          by_cases e : j = p
          · rw [e]; omega
          · exact h3 j (by omega) j2)
        refine ⟨q, q1, q2, q3, e_bf (nI_nle (by omega) (by omega)) ?_⟩
        rw [ep]
        refine e_g (inb_of (by omega) (by decide)) ?_
        rw [nI_clamp (by omega), hL.2 p (by omega)]
        refine e_bf (nI_ge (by omega) (by omega)) (e_n ?_)
        rw [i_m1, ep]
        exact q4
  obtain ⟨p, p1, p2, p3, p4⟩ := loop5 c FU (Nat.le_refl _) (FU_lt (by omega)) (fun j j1 j2 => by omega)
  have etop : f_da_addFree C (nI d) = da_addFree_27 C (nI d) (nI p) := by
    refine e_n ?_
    rw [hL.1]
    exact p4
  -- the shift
  have shift : ∀ (k fu : Nat) (X : CS), p ≤ k → k ≤ c → k < fu + p → X.1 5 2 = nI c → (∀ j, j < k → X.1 45 j = nI (f j)) → (∀ j, k < j → j ≤ c → X.1 45 j = nI (f (j - 1))) → Cp [5, 45] C X → ∃ C', da_addFree_79 fu X (nI d) (nI p) (nI k) = some C' ∧ Cp [5, 45] C C' ∧ FLs (insF f p d) (c + 1) C' := by
    intro k
    induction k with
    | zero =>
      intro fu X h1 h2 h3 h4 h5 h6 h7
      obtain rfl : p = 0 := by omega
      obtain ⟨g, rfl⟩ : ∃ g, fu = g + 1 := ⟨fu - 1, by omega⟩
      refine ⟨_, e_bt (Int32.le_refl _) (e_g (inb_of (n := 0) (by decide) (by decide)) (e_n (e_n rfl))), Cp_uC (Cp_uC h7 (by decide)) (by decide), ?_, fun j hj => ?_⟩
      · rw [uC_at, uC_off (show (5 : Nat) ≠ 45 by decide), h4, nI_1]
      · rw [uC_off (show (45 : Nat) ≠ 5 by decide)]
        unfold insF
        by_cases e : j = 0
        · subst e
          rw [if_neg (by omega), if_pos rfl]
          exact uC_at
        · rw [if_neg (by omega), if_neg e]
          have : (nI 0).toNatClampNeg = 0 := rfl
          rw [this, uC_ne e]
          exact h6 j (by omega) (by omega)
    | succ k ih =>
      intro fu X h1 h2 h3 h4 h5 h6 h7
      obtain ⟨g, rfl⟩ : ∃ g, fu = g + 1 := ⟨fu - 1, by omega⟩
      by_cases e : p = k + 1
      · subst e
        refine ⟨_, e_bt (Int32.le_refl _) (e_g (inb_of (by omega) (by decide)) (e_n (e_n rfl))), Cp_uC (Cp_uC h7 (by decide)) (by decide), ?_, fun j hj => ?_⟩
        · rw [uC_at, uC_off (show (5 : Nat) ≠ 45 by decide), h4, nI_1]
        · rw [uC_off (show (45 : Nat) ≠ 5 by decide), nI_clamp (by omega)]
          unfold insF
          by_cases e1 : j < k + 1
          · rw [if_pos e1, uC_ne (by omega)]
            exact h5 j e1
          · by_cases e2 : j = k + 1
            · rw [if_neg e1, if_pos e2, e2]; exact uC_at
            · rw [if_neg e1, if_neg e2, uC_ne e2]
              exact h6 j (by omega) (by omega)
      · refine (fun ⟨C', a1, a2⟩ => ⟨C', e_bf (nI_ge (by omega) (by omega)) ?_, a2⟩) (ih g (uC X 45 (k + 1) (nI (f k))) (by omega) (by omega) (by omega) (by rw [uC_off (by decide)]; exact h4) (fun j hj => by rw [uC_ne (by omega)]; exact h5 j (by omega)) (fun j j1 j2 => by
          by_cases e2 : j = k + 1
          · rw [e2, uC_at]; rfl
          · rw [uC_ne e2]; exact h6 j (by omega) j2) (Cp_uC h7 (by decide)))
        have ep : nI (k + 1) - 1 = nI k := nI_pred k
        rw [ep]
        refine e_g (inb_of (by omega) (by decide)) (e_g (inb_of (by omega) (by decide)) (e_n (e_n ?_)))
        rw [nI_clamp (by omega), nI_clamp (by omega), h5 k (by omega), i_m1, ep]
        exact a1
  have stay : ∀ {C' : CS}, some C = some C' → (∀ e, e = d → (∃ j, j < c ∧ f j = e) ∨ ¬ workB (d : Int) = true) → ∃ C'' f' c', some C' = some C'' ∧ Cp [5, 45] C C'' ∧ FLs f' c' C'' ∧ Srt f' c' ∧ c' ≤ c + 1 ∧ (∀ j, j < c' → f' j ≤ 2958465) ∧ ∀ e, (∃ j, j < c' ∧ f' j = e) ↔ ((∃ j, j < c ∧ f j = e) ∨ (e = d ∧ workB (d : Int) = true)) := fun {C'} hC hk => by
    have := Option.some.inj hC
    subst this
    refine ⟨C, f, c, rfl, Cp_refl, hL, hS, by omega, hb, fun e => ⟨Or.inl, fun z => ?_⟩⟩
    rcases z with z | ⟨z1, z2⟩
    · exact z
    · exact (hk e z1).elim id (fun w => absurd z2 w)
  have e48 : ∀ z : Int32, z = 0 → (p = 0 ∨ f (p - 1) < d) → da_addFree_27 C (nI d) (nI p) = da_addFree_48 C (nI d) (nI p) z → ∃ C' f' c', f_da_addFree C (nI d) = some C' ∧ Cp [5, 45] C C' ∧ FLs f' c' C' ∧ Srt f' c' ∧ c' ≤ c + 1 ∧ (∀ j, j < c' → f' j ≤ 2958465) ∧ ∀ e, (∃ j, j < c' ∧ f' j = e) ↔ ((∃ j, j < c ∧ f j = e) ∨ (e = d ∧ workB (d : Int) = true)) := fun z hz hlt h27 => by
    rw [etop, h27]
    cases hw : workB (d : Int) with
    | false =>
      have e : da_addFree_48 C (nI d) (nI p) z = some C := e_bt hz (e_c (isWorkday_c (by omega)) (e_bt (by rw [hw]; rfl) rfl))
      rw [e]
      have := stay (C' := C) rfl (fun e he => Or.inr (by rw [hw]; decide))
      rw [hw] at this
      exact this
    | true =>
      obtain ⟨C', a1, a2, a3⟩ := shift c FU C p1 (Nat.le_refl _) (by have := FU_lt (n := 600) (by decide); omega) hL.1 hL.2 (fun j j1 j2 => by omega) Cp_refl
      have e : da_addFree_48 C (nI d) (nI p) z = some C' := by
        refine e_bt hz (e_c (isWorkday_c (by omega)) (e_bf (by rw [hw]; decide) (e_bt (by rw [hL.1]; exact nI_lt (b := 512) hc (by decide)) (e_n ?_))))
        rw [hL.1]
        exact a1
      have hbelow : ∀ j, j < p → f j < d := fun j hj => by
        rcases hlt with h0 | h0
        · omega
        · by_cases e2 : j = p - 1
          · rw [e2]; exact h0
          · have := hS j (p - 1) (by omega) (by omega)
            omega
      refine ⟨C', insF f p d, c + 1, e, a2, a3, ?_, Nat.le_refl _, ?_, ?_⟩
      · intro i j hij hj
        unfold insF
        by_cases j1 : j < p
        · rw [if_pos (by omega), if_pos j1]; exact hS i j hij (by omega)
        · by_cases j2 : j = p
          · rw [if_pos (by omega), if_neg j1, if_pos j2]; exact hbelow i (by omega)
          · rw [if_neg j1, if_neg j2]
            by_cases i1 : i < p
            · rw [if_pos i1]; exact hS i (j - 1) (by omega) (by omega)
            · by_cases i2 : i = p
              · rw [if_neg i1, if_pos i2]; exact p2 (j - 1) (by omega) (by omega)
              · rw [if_neg i1, if_neg i2]; exact hS (i - 1) (j - 1) (by omega) (by omega)
      · intro j hj
        unfold insF
        split
        · exact hb j (by omega)
        · split
          · exact hd
          · exact hb (j - 1) (by omega)
      · intro e
        unfold insF
        refine ⟨fun ⟨j, j1, j2⟩ => ?_, fun z => ?_⟩
        · by_cases q1 : j < p
          · rw [if_pos q1] at j2; exact Or.inl ⟨j, by omega, j2⟩
          · by_cases q2 : j = p
            · rw [if_neg q1, if_pos q2] at j2; exact Or.inr ⟨j2.symm, rfl⟩
            · rw [if_neg q1, if_neg q2] at j2; exact Or.inl ⟨j - 1, by omega, j2⟩
        · rcases z with ⟨j, j1, j2⟩ | ⟨z1, -⟩
          · by_cases q1 : j < p
            · exact ⟨j, by omega, by rw [if_pos q1]; exact j2⟩
            · exact ⟨j + 1, by omega, by rw [if_neg (by omega), if_neg (by omega), Nat.add_sub_cancel]; exact j2⟩
          · exact ⟨p, by omega, by rw [if_neg (by omega), if_pos rfl]; exact z1.symm⟩
  by_cases hp0 : p = 0
  · refine e48 0 rfl (Or.inl hp0) ?_
    rw [hp0]
    exact e_bt (by decide) rfl
  · have hfp := hb (p - 1) (by omega)
    have ep : nI p - 1 = nI (p - 1) := nI_pre (by omega)
    have hin : inb (nI p - 1) 512 = true := by rw [ep]; exact inb_of (by omega) (by decide)
    have hval : C.1 45 (nI p - 1).toNatClampNeg = nI (f (p - 1)) := by rw [ep, nI_clamp (by omega)]; exact hL.2 _ (by omega)
    by_cases hk : f (p - 1) = d
    · have e : f_da_addFree C (nI d) = some C := by
        rw [etop]
        exact e_bf (nI_nle (by omega) (by omega)) (e_g hin (e_bt (by rw [hval, hk]) (e_bf (by decide) rfl)))
      rw [e]
      exact stay rfl (fun e' he => Or.inl ⟨p - 1, by omega, by rw [he]; exact hk⟩)
    · refine e48 0 rfl (Or.inr (by rcases p3 with h | h <;> omega)) ?_
      exact e_bf (nI_nle (by omega) (by omega)) (e_g hin (e_bf (by rw [hval]; exact fun z => hk ((nI_eq (by omega) (by omega)).mp z)) rfl))
theorem readFree_c {n u h : Nat} {cs : CS} {ms : GS} (hA : Rargs n u h cs ms) : ∃ C f c, f_da_readFree cs 2 = some C ∧ Cp [5, 45] cs C ∧ FLs f c C ∧ Srt f c ∧ c ≤ 512 ∧ (∀ j, j < c → f j ≤ 2958465) ∧ ∀ d : Nat, d ≤ 2958465 → ((∃ j, j < c ∧ f j = d) ↔ (workB (d : Int) = true ∧ holB (av cs 2) (hM n cs) (d : Int) = true)) := by
  have hU := UU_pos
  have hn30 := hA.2.2.1
  have hch0 : Cp [5, 45] cs (uC cs 5 2 0) := Cp_uC Cp_refl (by decide)
  have mv : ∀ {c : CS}, Cp [5, 45] cs c → Rargs n u h c ms := fun {c} hc => Rargs_ch (F := []) (C := []) hA (Cp_Cf hc (by decide)) Ch_refl (fun _ z => by cases z) (fun _ z => by cases z)
  by_cases h2 : 2 < n
  · obtain ⟨t1, t2, t3, t4, t5⟩ := one_le hA h2
    have eM : hM n cs = one1 (aR cs 2) * one1 (aC cs 2) := by unfold hM; rw [if_pos h2]
    have loop : ∀ (r k fu : Nat) (X : CS) (f : Nat → Nat) (c : Nat), k + r = hM n cs → r < fu → Cp [5, 45] cs X → FLs f c X → Srt f c → c ≤ k → (∀ j, j < c → f j ≤ 2958465) → (∀ d : Nat, d ≤ 2958465 → ((∃ j, j < c ∧ f j = d) ↔ (workB (d : Int) = true ∧ holB (av cs 2) k (d : Int) = true))) → ∃ C f c, da_readFree_16 fu X 2 (nI (hM n cs)) (nI k) = some C ∧ Cp [5, 45] cs C ∧ FLs f c C ∧ Srt f c ∧ c ≤ 512 ∧ (∀ j, j < c → f j ≤ 2958465) ∧ ∀ d : Nat, d ≤ 2958465 → ((∃ j, j < c ∧ f j = d) ↔ (workB (d : Int) = true ∧ holB (av cs 2) (hM n cs) (d : Int) = true)) := by
      intro r
      induction r with
      | zero =>
        intro k fu X f c hk hf hX hL hS hc hb hm
        obtain ⟨g, rfl⟩ : ∃ g, fu = g + 1 := ⟨fu - 1, by omega⟩
        obtain rfl : k = hM n cs := by omega
        exact ⟨X, f, c, e_bt (Int32.le_refl _) rfl, hX, hL, hS, by omega, hb, hm⟩
      | succ r ih =>
        intro k fu X f c hk hf hX hL hS hc hb hm
        obtain ⟨g, rfl⟩ : ∃ g, fu = g + 1 := ⟨fu - 1, by omega⟩
        have hnth := nth_c (mv hX) h2 (k := k) (by omega)
        have hav : av X 2 k = av cs 2 k := av_cf (Cp_Cf hX (by decide)) (by omega)
        rw [hav] at hnth
        have hok := av_ok hA h2 k
        have hok1 : (av cs 2 k).1 = 1 → ∃ x : Int32, (av cs 2 k).2.1 = FP.dmul (FP.i2d x) d125 := okV_1 hok
        -- the step's end
        have next : ∀ (X' : CS) (f' : Nat → Nat) (c' : Nat), Cp [5, 45] cs X' → FLs f' c' X' → Srt f' c' → c' ≤ k + 1 → (∀ j, j < c' → f' j ≤ 2958465) → (∀ d : Nat, d ≤ 2958465 → ((∃ j, j < c' ∧ f' j = d) ↔ ((∃ j, j < c ∧ f j = d) ∨ (workB (d : Int) = true ∧ dayIs (av cs 2 k) (d : Int) = true)))) → ∃ C f c, da_readFree_62 (da_readFree_16 g) X' 2 (nI (hM n cs)) (nI k) = some C ∧ Cp [5, 45] cs C ∧ FLs f c C ∧ Srt f c ∧ c ≤ 512 ∧ (∀ j, j < c → f j ≤ 2958465) ∧ ∀ d : Nat, d ≤ 2958465 → ((∃ j, j < c ∧ f j = d) ↔ (workB (d : Int) = true ∧ holB (av cs 2) (hM n cs) (d : Int) = true)) := fun X' f' c' a1 a2 a3 a4 a5 a6 => by
          obtain ⟨C, f2, c2, b1, b2⟩ := ih (k + 1) g X' f' c' (by omega) (by omega) a1 a2 a3 a4 a5 (fun d hd => by
            rw [a6 d hd, hm d hd]
            show _ ↔ workB (d : Int) = true ∧ (holB (av cs 2) k (d : Int) || dayIs (av cs 2 k) (d : Int)) = true
            rw [Bool.or_eq_true]
            exact ⟨fun z => z.elim (fun w => ⟨w.1, Or.inl w.2⟩) (fun w => ⟨w.1, Or.inr w.2⟩), fun z => z.2.elim (fun w => Or.inl ⟨z.1, w⟩) (fun w => Or.inr ⟨z.1, w⟩)⟩)
          refine ⟨C, f2, c2, e_n ?_, b2⟩
          rw [nI_1]
          exact b1
        have skip : (∀ d : Nat, d ≤ 2958465 → ¬ dayIs (av cs 2 k) (d : Int) = true) → ∃ C f c, da_readFree_62 (da_readFree_16 g) X 2 (nI (hM n cs)) (nI k) = some C ∧ Cp [5, 45] cs C ∧ FLs f c C ∧ Srt f c ∧ c ≤ 512 ∧ (∀ j, j < c → f j ≤ 2958465) ∧ ∀ d : Nat, d ≤ 2958465 → ((∃ j, j < c ∧ f j = d) ↔ (workB (d : Int) = true ∧ holB (av cs 2) (hM n cs) (d : Int) = true)) := fun hno => next X f c hX hL hS (by omega) hb (fun d hd => ⟨Or.inl, fun z => z.elim id (fun w => absurd w.2 (hno d hd))⟩)
        have e0 : ∀ {o : Option CS} {P : CS → (Nat → Nat) → Nat → Prop}, da_readFree_16 (g + 1) X 2 (nI (hM n cs)) (nI k) = o → (∃ C f c, o = some C ∧ P C f c) → ∃ C f c, da_readFree_16 (g + 1) X 2 (nI (hM n cs)) (nI k) = some C ∧ P C f c := fun {o P} h1 h2 => by rw [h1]; exact h2
        have hlt : ¬ nI (hM n cs) ≤ nI k := nI_ge (by omega) (by omega)
        by_cases hk1 : (av cs 2 k).1 = 1
        · obtain ⟨x, hx⟩ := hok1 hk1
          obtain ⟨z, z1, z2, z3, z4⟩ := NG_x8 x
          rw [← hx] at z1
          have hzf := zf_DV z1
          rcases hasDay_c z1 z2 z3 with ⟨d, d1, d2, d3, d4, d5⟩ | ⟨d1, d2⟩
          · obtain ⟨X', f', c', a1, a2, a3, a4, a5, a6, a7⟩ := addFree_c hL hS (by omega) hb d1
            refine e0 (e_bf hlt (e_c hnth (e_bt hk1 (e_c d4 (e_bf (by decide) (e_c (by rw [d5]; exact a1) rfl)))))) (next X' f' c' (Cp_trans hX a2 (fun _ z => z)) a3 a4 (by omega) a6 (fun e he => ?_))
            rw [a7 e]
            have hde : dayIs (av cs 2 k) (e : Int) = true ↔ e = d := by
              unfold dayIs
              rw [decide_eq_true hk1, Bool.true_and, decide_eq_true_eq, hzf, d3]
              omega
            rw [hde]
            exact ⟨fun z => z.imp id (fun w => ⟨by rw [w.1]; exact w.2, w.1⟩), fun z => z.imp id (fun w => ⟨w.2, by rw [← w.2]; exact w.1⟩)⟩
          · refine e0 (e_bf hlt (e_c hnth (e_bt hk1 (e_c d2 (e_bt rfl rfl))))) (skip (fun d hd q => d1 ?_))
            unfold dayIs at q
            rw [Bool.and_eq_true, decide_eq_true_eq, decide_eq_true_eq, hzf] at q
            omega
        · refine e0 (e_bf hlt (e_c hnth (e_bf hk1 rfl))) (skip (fun d hd q => hk1 ?_))
          unfold dayIs at q
          rw [Bool.and_eq_true, decide_eq_true_eq] at q
          exact q.1
    have hmc := many_c (mv hch0) h2
    have hac : aR (uC cs 5 2 0) 2 = aR cs 2 ∧ aC (uC cs 5 2 0) 2 = aC cs 2 ∧ aF (uC cs 5 2 0) 2 = aF cs 2 := aR_cf (Cp_Cf hch0 (by decide)) (by decide)
    rw [hac.1, hac.2.1, ← eM] at hmc
    obtain ⟨C, f, c, b1, b2⟩ := loop (hM n cs) 0 FU (uC cs 5 2 0) (fun _ => 0) 0 (by omega) (FU_lt (by omega)) hch0 ⟨uC_at, fun j hj => absurd hj (Nat.not_lt_zero j)⟩ (fun i j _ hj => absurd hj (Nat.not_lt_zero j)) (Nat.zero_le _) (fun j hj => absurd hj (Nat.not_lt_zero j)) (fun d _ => ⟨fun ⟨j, hj, _⟩ => absurd hj (Nat.not_lt_zero j), fun z => by cases z.2⟩)
    exact ⟨C, f, c, e_n (e_c hmc b1), b2⟩
  · have hmc := many_no (mv hch0) (i := 2) (by omega) (by decide)
    have hnt := nth_no (mv hch0) (i := 2) (by omega) (by decide) 0
    refine ⟨uC cs 5 2 0, fun _ => 0, 0, e_n (e_c hmc ?_), hch0, ⟨uC_at, fun j hj => absurd hj (Nat.not_lt_zero j)⟩, fun i j _ hj => absurd hj (Nat.not_lt_zero j), by decide, fun j hj => absurd hj (Nat.not_lt_zero j), fun d _ => ⟨fun ⟨j, hj, _⟩ => absurd hj (Nat.not_lt_zero j), fun z => ?_⟩⟩
    · show da_readFree_16 (19999998 + 1 + 1) (uC cs 5 2 0) 2 1 0 = _
      refine e_bf (by decide) (e_c hnt (e_bf (by decide) (e_n (e_bt (by decide) rfl))))
    · have : hM n cs = 0 := by unfold hM; rw [if_neg h2]
      rw [this] at z
      cases z.2
