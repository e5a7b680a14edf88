/-! ### argument -/
/-- how many numbers stand among the first values: what a call may cost -/
def PH (f : Nat → VV) : Nat → Nat
  | 0 => 0
  | k + 1 => PH f k + if (f k).1 = 1 then 1 else 0
theorem PH_congr {f g : Nat → VV} : ∀ {u : Nat}, (∀ j, j < u → f j = g j) → PH f u = PH g u
  | 0, _ => rfl
  | u + 1, h => by
    unfold PH
    rw [PH_congr (fun j hj => h j (by omega)), h u (by omega)]
theorem PH_le {f : Nat → VV} : ∀ {u : Nat}, PH f u ≤ u
  | 0 => Nat.le_refl _
  | u + 1 => by
    unfold PH
    have := PH_le (f := f) (u := u)
    split <;> omega
theorem PH_ext {f : Nat → VV} {u : Nat} : ∀ {m : Nat}, (∀ j, u ≤ j → j < u + m → ¬ (f j).1 = 1) → PH f (u + m) = PH f u
  | 0, _ => rfl
  | m + 1, h => by
    show PH f (u + m) + (if (f (u + m)).1 = 1 then 1 else 0) = _
    rw [if_neg (h (u + m) (by omega) (by omega)), PH_ext (fun j h1 h2 => h j h1 (by omega))]
    rfl
theorem PH_up {f : Nat → VV} {k : Nat} {v : VV} : ∀ {u : Nat}, PH (va_up f k v) u ≤ PH f u + 1
  | 0 => Nat.zero_le _
  | u + 1 => by
    unfold PH
    by_cases e : u = k
    · subst e
      rw [PH_congr (g := f) (fun j hj => by unfold va_up; rw [if_neg (by omega)])]
      unfold va_up
      rw [if_pos rfl]
      split <;> split <;> omega
    · have := PH_up (f := f) (k := k) (v := v) (u := u)
      have e2 : va_up f k v u = f u := by unfold va_up; rw [if_neg e]
      rw [e2]
      split <;> omega
theorem addC {cs0 : CS} {u ab n : Nat} (hu : u + ab ≤ 512) (hn : n < 30) : ∀ (m i fu : Nat) (cs : CS), i + m = ab → m < fu → cs.1 1 4 = nI (u + i) → cs.1 1 5 = nI n → (∀ j, cs.2 40 j = if u ≤ j ∧ j < u + i then cs.2 1 0 else cs0.2 40 j) → cs.2 1 = cs0.2 1 → (∀ x, x ≠ 40 → cs.2 x = cs0.2 x) → Tr (ar_add_84 fu cs (lN ab) (nI i)) (fun a => a.1 = 1 ∧ a.2.1 1 4 = nI (u + ab) ∧ a.2.1 1 5 = nI (n + 1) ∧ (∀ j, a.2.2 40 j = if u ≤ j ∧ j < u + ab then cs0.2 1 0 else cs0.2 40 j) ∧ (∀ x, x ≠ 40 → a.2.2 x = cs0.2 x) ∧ (∀ x, x ≠ 1 → a.2.1 x = cs.1 x) ∧ ∀ k, k ≠ 4 → k ≠ 5 → a.2.1 1 k = cs.1 1 k) := by
  intro m
  induction m with
  | zero =>
    intro i fu cs hi hf h4 h5 hv h1 hx
    obtain ⟨g, rfl⟩ : ∃ g, fu = g + 1 := ⟨fu - 1, by omega⟩
    obtain rfl : i = ab := by omega
    refine Tr_jbt ((lg_cmp_ge _ _).mpr ?_) (Tr_jn (Tr_some ⟨rfl, ?_, ?_, fun j => ?_, hx, fun x g1 => uC_off g1, fun k g1 g2 => uC_ne g2⟩))
    · rw [nI_l (by omega)]
      exact Int64.le_refl _
    · rw [uC_ne (by decide)]; exact h4
    · rw [uC_at, h5, nI_1]
    · rw [← h1]; exact hv j
  | succ m ih =>
    intro i fu cs hi hf h4 h5 hv h1 hx
    obtain ⟨g, rfl⟩ : ∃ g, fu = g + 1 := ⟨fu - 1, by omega⟩
    refine Tr_jbf (fun z => ?_) (Tr_jg (by rw [h4]; exact inb_of (by omega) (by decide)) (Tr_jn (Tr_jn (Tr_jn ?_))))
    · have z := (lg_cmp_ge _ _).mp z
      rw [nI_l (by omega), Int64.le_iff_toInt_le, lN_toInt (by omega), lN_toInt (by omega)] at z
      omega
    rw [h4, nI_clamp (by omega), nI_1]
    have e4 : (uV cs 40 (u + i) (cs.2 1 0)).1 1 4 = nI (u + i) := h4
    rw [e4, nI_1]
    refine Tr_mono (ih (i + 1) g (uC (uV cs 40 (u + i) (cs.2 1 0)) 1 4 (nI (u + i + 1))) (by omega) (by omega) uC_at ((uC_ne (by decide)).trans h5) (fun j => ?_) h1 (fun x g1 => ?_)) (fun a ⟨q1, q2, q3, q4, q5, q6, q7⟩ => ⟨q1, q2, q3, q4, q5, fun x g1 => (q6 x g1).trans (uC_off g1), fun k g1 g2 => (q7 k g1 g2).trans (uC_ne g1)⟩)
    · show (if (40 : Nat) = 40 then va_up (cs.2 40) (u + i) (cs.2 1 0) else cs.2 40) j = if u ≤ j ∧ j < u + (i + 1) then cs.2 1 0 else cs0.2 40 j
      rw [if_pos rfl]
      unfold va_up
      by_cases e : j = u + i
      · rw [if_pos e, if_pos (by omega)]
      · rw [if_neg e, hv j]
        by_cases e2 : u ≤ j ∧ j < u + i
        · rw [if_pos e2, if_pos (by omega)]
        · rw [if_neg e2, if_neg (by omega)]
    · show (if x = 40 then _ else cs.2 x) = _
      rw [if_neg g1]
      exact hx x g1
theorem addM {ms0 : GS} {u a b n : Nat} (hu : u + a * b ≤ 512) (hn : n < 30) : ∀ (m i fu : Nat) (ms : GS), i + m = a * b → m < fu → ms.1 0 8 = nI u → ms.1 0 7 = nI n → (∀ j, ms.1 9 j = if u ≤ j ∧ j < u + i then 0 else ms0.1 9 j) → Tr (mo_argument_158 fu ms (nI a) (nI b) (nI i)) (fun r => r.1 0 8 = nI (u + a * b) ∧ r.1 0 7 = nI (n + 1) ∧ (∀ j, r.1 9 j = if u ≤ j ∧ j < u + a * b then 0 else ms0.1 9 j) ∧ (∀ x, x ≠ 0 → x ≠ 9 → r.1 x = ms.1 x) ∧ (∀ k, k ≠ 7 → k ≠ 8 → r.1 0 k = ms.1 0 k) ∧ r.2 = ms.2) := by
  intro m
  have hmul : nI a * nI b = nI (a * b) := (Int32.ofNat_mul a b).symm
  induction m with
  | zero =>
    intro i fu ms hi hf h8 h7 hv
    obtain ⟨g, rfl⟩ : ∃ g, fu = g + 1 := ⟨fu - 1, by omega⟩
    obtain rfl : i = a * b := by omega
    refine Tr_jbt (by rw [hmul]; exact Int32.le_refl _) (Tr_jn (Tr_jn (Tr_some ⟨?_, ?_, fun j => ?_, fun x g1 g2 => ?_, fun k g1 g2 => ?_, rfl⟩)))
    · rw [uI_ne (by decide), uI_at, h8, hmul, nI_add]
    · rw [uI_at, uI_ne (by decide), h7, nI_1]
    · exact hv j
    · rw [uI_off1 g1, uI_off1 g1]
    · rw [uI_ne g1, uI_ne g2]
  | succ m ih =>
    intro i fu ms hi hf h8 h7 hv
    obtain ⟨g, rfl⟩ : ∃ g, fu = g + 1 := ⟨fu - 1, by omega⟩
    refine Tr_jbf (by rw [hmul]; exact nI_ge (by omega) (by omega)) (Tr_jg (by rw [h8, nI_add]; exact inb_of (by omega) (by decide)) (Tr_jn (Tr_jn ?_)))
    rw [h8, nI_add, nI_clamp (by omega), nI_1]
    refine Tr_mono (ih (i + 1) g (uI ms 9 (u + i) 0) (by omega) (by omega) h8 h7 (fun j => ?_)) (fun r ⟨q1, q2, q3, q4, q5, q6⟩ => ⟨q1, q2, q3, fun x g1 g2 => (q4 x g1 g2).trans (uI_off1 g2), q5, q6⟩)
    by_cases e : j = u + i
    · rw [e, uI_at, if_pos (by omega)]
    · rw [uI_ne e, hv j]
      by_cases e2 : u ≤ j ∧ j < u + i
      · rw [if_pos e2, if_pos (by omega)]
      · rw [if_neg e2, if_neg (by omega)]
theorem VR_mono {v : VV} {kd nm fr sz le : Nat → Int32} {nu : Nat → UInt64} {h h' j : Nat} (hv : VR v kd nm fr sz le nu h j) (hh : h ≤ h') : VR v kd nm fr sz le nu h' j := by
  rcases hv with g | g | ⟨t, f, g1, g2, g3, g4, g5, g6, g7⟩ | g | g
  · exact Or.inl g
  · exact Or.inr (Or.inl g)
  · exact Or.inr (Or.inr (Or.inl ⟨t, f, g1, g2, g3, g4, g5, by omega, g7⟩))
  · exact Or.inr (Or.inr (Or.inr (Or.inl g)))
  · exact Or.inr (Or.inr (Or.inr (Or.inr g)))
theorem VR_at {v : VV} {kd kd' nm nm' fr fr' sz sz' le : Nat → Int32} {nu nu' : Nat → UInt64} {h j : Nat} (hv : VR v kd nm fr sz le nu h j) (e1 : kd' j = kd j) (e2 : fr' j = fr j) (e3 : sz' j = sz j) (e4 : nu' j = nu j) : VR v kd' nm' fr' sz' le nu' h j := by
  unfold VR at hv ⊢
  rw [e1, e2, e3, e4]
  exact hv
/-- both states behind an accepted argument of a rows and b columns -/
theorem arg_new {tp n u h a b : Nat} {cs : CS} {ms : GS} (hR : RS tp n u h cs ms) (hn : n < 30) (hab : a ≤ 512 ∧ b ≤ 512 ∧ (a = 0 ↔ b = 0)) (hu : u + a * b ≤ 512) : Tr (f_ar_add cs (nI a) (nI b)) (fun c => c.1 = 1 ∧ Tr (mo_argument_91 ms (nI a) (nI b) 0) (fun r => r.1 0 0 = 0 ∧ RS tp (n + 1) (u + a * b) h c.2 r ∧ PH (c.2.2 40) (u + a * b) = PH (cs.2 40) u)) := by
  obtain ⟨hT, hC, hH, hA, hN⟩ := id hR
  obtain ⟨a1, a2, a3, a4, a5, a6, a7, a8, a9, a10, a11, a12⟩ := id hA
  have hab2 : a * b ≤ 512 := by omega
  have hm : (nI a).toInt64 * (nI b).toInt64 = lN (a * b) := by rw [nI_l (by omega), nI_l (by omega), lN_mul]
  refine Tr_jn (Tr_jbf (by rw [a1]; exact nI_ge (b := 30) hn (by decide)) (Tr_jbf (fun z => ?_) (Tr_jbt ?_ (Tr_jg (by rw [a1]; exact inb_of hn (by decide)) (Tr_jn (Tr_jn (Tr_jn (Tr_jn (Tr_jn ?_)))))))))
  · have z := (lg_cmp_lt _ _).mp z
    rw [hm, Int64.lt_iff_toInt_lt, lN_toInt (by omega)] at z
    have : (0 : Int64).toInt = 0 := by decide
    omega
  · rw [lg_cmp_le, hm, a4, nI_l (by omega), lN_add, Int64.le_iff_toInt_le, lN_toInt (by omega)]
    have : ((512 : Int32).toInt64).toInt = 512 := by decide
    omega
  rw [hm, a1, nI_clamp (by omega)]
  generalize hcs1 : uC (uC (uC (uC cs (9 + n) 0 (nI a)) (9 + n) 1 (nI b)) (9 + n) 2 ((uC (uC cs (9 + n) 0 (nI a)) (9 + n) 1 (nI b)).1 1 4)) (9 + n) 3 0 = cs1
  have hoff : ∀ i, i ≠ 9 + n → cs1.1 i = cs.1 i := fun i hi => by rw [← hcs1, uC_off hi, uC_off hi, uC_off hi, uC_off hi]
  have hg0 : cs1.1 (9 + n) 0 = nI a := by rw [← hcs1, uC_ne (by decide), uC_ne (by decide), uC_ne (by decide), uC_at]
  have hg1 : cs1.1 (9 + n) 1 = nI b := by rw [← hcs1, uC_ne (by decide), uC_ne (by decide), uC_at]
  have hg2 : cs1.1 (9 + n) 2 = nI u := by rw [← hcs1, uC_ne (by decide), uC_at, uC_off (by omega), uC_off (by omega)]; exact a4
  have hg3 : cs1.1 (9 + n) 3 = 0 := by rw [← hcs1, uC_at]
  have hv0 : cs1.2 = cs.2 := by rw [← hcs1]; rfl
  refine Tr_mono (addC (cs0 := cs) hu hn (a * b) 0 FU cs1 (by omega) (FU_lt (by omega)) (by rw [hoff 1 (by omega)]; exact a4) (by rw [hoff 1 (by omega)]; exact a1) (fun j => by rw [hv0, if_neg (by omega)]) (by rw [hv0]) (fun x _ => by rw [hv0])) (fun c ⟨q1, q2, q3, q4, q5, q6, q7⟩ => ⟨q1, ?_⟩)
  have inn : inb (nI n) 30 = true := inb_of hn (by decide)
  have e7 : ∀ (m : GS), m.1 0 7 = nI n → inb (m.1 0 7) 30 = true := fun m e => by rw [e]; exact inn
  refine Tr_jn (Tr_jbt rfl (Tr_jg (e7 _ a2) (Tr_jn (Tr_jg (e7 _ a2) (Tr_jn (Tr_jg (e7 _ a2) (Tr_jn (Tr_jg (e7 _ a2) (Tr_jn (Tr_jg (e7 _ a2) (Tr_jn ?_)))))))))))
  have ecl : (ms.1 0 7).toNatClampNeg = n := by rw [a2]; exact nI_clamp (by omega)
  show Tr (mo_argument_158 FU (uI (uI (uI (uI (uI (uI ms 0 0 0) 4 (ms.1 0 7).toNatClampNeg (nI a)) 5 (ms.1 0 7).toNatClampNeg (nI b)) 6 (ms.1 0 7).toNatClampNeg (ms.1 0 8)) 7 (ms.1 0 7).toNatClampNeg 0) 8 (ms.1 0 7).toNatClampNeg 0) (nI a) (nI b) (nI 0)) _
  rw [ecl, a5]
  generalize hms1 : uI (uI (uI (uI (uI (uI ms 0 0 0) 4 n (nI a)) 5 n (nI b)) 6 n (nI u)) 7 n 0) 8 n 0 = ms1
  have moff : ∀ i, i ≠ 0 → i ≠ 4 → i ≠ 5 → i ≠ 6 → i ≠ 7 → i ≠ 8 → ms1.1 i = ms.1 i := fun i h0 h4 h5 h6 h7 h8 => by rw [← hms1, uI_off1 h8, uI_off1 h7, uI_off1 h6, uI_off1 h5, uI_off1 h4, uI_off1 h0]
  have m0 : ∀ k, k ≠ 0 → ms1.1 0 k = ms.1 0 k := fun k hk => by rw [← hms1, uI_off1 (by decide), uI_off1 (by decide), uI_off1 (by decide), uI_off1 (by decide), uI_off1 (by decide)]; exact uI_ne hk
  have m00 : ms1.1 0 0 = 0 := by rw [← hms1]; rfl
  have m4 : ∀ i, ms1.1 4 i = if i = n then nI a else ms.1 4 i := fun i => by rw [← hms1]; rfl
  have m5 : ∀ i, ms1.1 5 i = if i = n then nI b else ms.1 5 i := fun i => by rw [← hms1]; rfl
  have m6 : ∀ i, ms1.1 6 i = if i = n then nI u else ms.1 6 i := fun i => by rw [← hms1]; rfl
  have m7 : ∀ i, ms1.1 7 i = if i = n then 0 else ms.1 7 i := fun i => by rw [← hms1]; rfl
  have m8 : ∀ i, ms1.1 8 i = if i = n then 0 else ms.1 8 i := fun i => by rw [← hms1]; rfl
  have md : ms1.2 = ms.2 := by rw [← hms1]; rfl
  refine Tr_mono (addM (ms0 := ms) hu hn (a * b) 0 FU ms1 (by omega) (FU_lt (by omega)) ((m0 8 (by decide)).trans a5) ((m0 7 (by decide)).trans a2) (fun j => by rw [if_neg (by omega), moff 9 (by decide) (by decide) (by decide) (by decide) (by decide) (by decide)])) (fun r ⟨r1, r2, r3, r4, r5, r6⟩ => ?_)
  have rd : r.2 = ms.2 := r6.trans md
  have rk : ∀ k, k ≠ 0 → k ≠ 7 → k ≠ 8 → r.1 0 k = ms.1 0 k := fun k g0 g7 g8 => (r5 k g7 g8).trans (m0 k g0)
  have rc : ∀ i, i ≠ 0 → i ≠ 9 → i ≠ 4 → i ≠ 5 → i ≠ 6 → i ≠ 7 → i ≠ 8 → r.1 i = ms.1 i := fun i g0 g9 g4 g5 g6 g7 g8 => (r4 i g0 g9).trans (moff i g0 g4 g5 g6 g7 g8)
  have cc : ∀ i, i ≠ 9 + n → i ≠ 1 → c.2.1 i = cs.1 i := fun i g1 g2 => (q6 i g2).trans (hoff i g1)
  have cg : ∀ k, c.2.1 (9 + n) k = cs1.1 (9 + n) k := fun k => by rw [q6 (9 + n) (by omega)]
  have c1 : ∀ k, k ≠ 4 → k ≠ 5 → c.2.1 1 k = cs.1 1 k := fun k g1 g2 => (q7 k g1 g2).trans (by rw [hoff 1 (by omega)])
  refine ⟨(r5 0 (by decide) (by decide)).trans m00, ⟨?_, ?_, ?_, ?_, ?_⟩, ?_⟩
  · obtain ⟨t1, t2, t3, t4, t5⟩ := hT
    refine ⟨by rw [cc 0 (by omega) (by decide)]; exact t1, (rk 1 (by decide) (by decide) (by decide)).trans t2, t3, t4, fun j hj => ?_⟩
    rw [cc 39 (by omega) (by decide), rc 1 (by decide) (by decide) (by decide) (by decide) (by decide) (by decide) (by decide)]
    exact t5 j hj
  · unfold Rcut at hC ⊢
    rw [q5 0 (by decide), rk 2 (by decide) (by decide) (by decide), rc 2 (by decide) (by decide) (by decide) (by decide) (by decide) (by decide) (by decide)]
    exact hC
  · exact ⟨(c1 7 (by decide) (by decide)).trans (hH.1.trans (rk 18 (by decide) (by decide) (by decide)).symm), (c1 8 (by decide) (by decide)).trans (hH.2.trans (rk 19 (by decide) (by decide) (by decide)).symm)⟩
  · refine ⟨q3, r2, by omega, q2, r1, hu, fun i hi => ?_, fun k hk => ?_, ?_, (rk 3 (by decide) (by decide) (by decide)).trans a10, ?_, fun j hj => ?_⟩
    · have R4 : ∀ i, r.1 4 i = if i = n then nI a else ms.1 4 i := fun i => by rw [r4 4 (by decide) (by decide)]; exact m4 i
      have R5 : ∀ i, r.1 5 i = if i = n then nI b else ms.1 5 i := fun i => by rw [r4 5 (by decide) (by decide)]; exact m5 i
      have R6 : ∀ i, r.1 6 i = if i = n then nI u else ms.1 6 i := fun i => by rw [r4 6 (by decide) (by decide)]; exact m6 i
      have R7 : ∀ i, r.1 7 i = if i = n then 0 else ms.1 7 i := fun i => by rw [r4 7 (by decide) (by decide)]; exact m7 i
      have R8 : ∀ i, r.1 8 i = if i = n then 0 else ms.1 8 i := fun i => by rw [r4 8 (by decide) (by decide)]; exact m8 i
      by_cases e : i = n
      · subst e
        exact ⟨a, b, u, (cg 0).trans hg0, (cg 1).trans hg1, (cg 2).trans hg2, by rw [R4, if_pos rfl], by rw [R5, if_pos rfl], by rw [R6, if_pos rfl], hab.1, hab.2.1, hab.2.2, Nat.le_refl _, Or.inl ⟨(cg 3).trans hg3, by rw [R7, if_pos rfl]⟩⟩
      · obtain ⟨r', c', f', k1, k2, k3, k4, k5, k6, k7, k8, k9, k10, k11⟩ := a7 i (by omega)
        refine ⟨r', c', f', ?_, ?_, ?_, ?_, ?_, ?_, k7, k8, k9, by omega, ?_⟩
        · rw [cc (9 + i) (by omega) (by omega)]; exact k1
        · rw [cc (9 + i) (by omega) (by omega)]; exact k2
        · rw [cc (9 + i) (by omega) (by omega)]; exact k3
        · rw [R4, if_neg e]; exact k4
        · rw [R5, if_neg e]; exact k5
        · rw [R6, if_neg e]; exact k6
        · rw [cc (9 + i) (by omega) (by omega), R7, if_neg e, R8, if_neg e]; exact k11
    · rw [cc 8 (by omega) (by decide)]; exact a8 k hk
    · rw [q5 1 (by decide)]; exact a9
    · rw [r3, if_neg (by omega)]; exact a11
    · rw [q4 j]
      by_cases e : u ≤ j ∧ j < u + a * b
      · rw [if_pos e, a9]
        exact Or.inl ⟨rfl, by rw [r3, if_pos e]⟩
      · rw [if_neg e]
        refine VR_at (kd := ms.1 9) (nm := ms.1 9) (fr := ms.1 10) (sz := ms.1 11) (nu := ms.2.1 12) ?_ (by rw [r3, if_neg e]) (by rw [rc 10 (by decide) (by decide) (by decide) (by decide) (by decide) (by decide) (by decide)]) (by rw [rc 11 (by decide) (by decide) (by decide) (by decide) (by decide) (by decide) (by decide)]) (by rw [rd])
        rw [rc 3 (by decide) (by decide) (by decide) (by decide) (by decide) (by decide) (by decide)]
        exact a12 j (by omega)
  · obtain ⟨r', c', k1, k2, k3, k4, k5⟩ := hN
    refine ⟨r', c', by rw [cc 2 (by omega) (by decide)]; exact k1, by rw [cc 2 (by omega) (by decide)]; exact k2, (rk 49 (by decide) (by decide) (by decide)).trans k3, (rk 50 (by decide) (by decide) (by decide)).trans k4, ?_⟩
    unfold Rtold at k5 ⊢
    rw [q5 2 (by decide), q5 42 (by decide), rk 32 (by decide) (by decide) (by decide), rk 33 (by decide) (by decide) (by decide), rk 36 (by decide) (by decide) (by decide), rc 17 (by decide) (by decide) (by decide) (by decide) (by decide) (by decide) (by decide), rc 19 (by decide) (by decide) (by decide) (by decide) (by decide) (by decide) (by decide), rc 20 (by decide) (by decide) (by decide) (by decide) (by decide) (by decide) (by decide), rc 21 (by decide) (by decide) (by decide) (by decide) (by decide) (by decide) (by decide), rc 3 (by decide) (by decide) (by decide) (by decide) (by decide) (by decide) (by decide), rd]
    exact k5
  · rw [PH_ext (fun j h1 h2 => by rw [q4 j, if_pos ⟨h1, h2⟩, a9]; decide)]
    exact PH_congr (fun j hj => by rw [q4 j, if_neg (by omega)])
