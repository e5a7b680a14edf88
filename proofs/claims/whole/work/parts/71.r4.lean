theorem tv_long {L S : TT} (h1 : 255 < L.length) (h2 : 255 < S.length) : tv L = tv S := by
  unfold tv
  rw [if_neg (by omega), if_neg (by omega)]
theorem XE_val {n u h : Nat} {cs0 cs : CS} {ms0 m : GS} {v v' : VV} (hx : XE n u h cs0 ms0 (v, cs) m) (hf : ¬ cs.1 1 6 = 0) : XE n u h cs0 ms0 (v', cs) m := by
  obtain ⟨x1, x2, x3, x4⟩ := hx
  refine ⟨x1, x2, x3, ?_⟩
  rcases x4 with ⟨y, -⟩ | ⟨e, e1, e2, e3, e4⟩
  · exact absurd y hf
  · exact Or.inr ⟨e, e1, e2, e3, e4.elim Or.inl (fun z => absurd z.1 hf)⟩
theorem okT_app {a b : TT} (ha : ∀ c ∈ a, c < 256) (hb : ∀ c ∈ b, c < 256) : ∀ c ∈ a ++ b, c < 256 := fun c hc => (List.mem_append.mp hc).elim (ha c) (hb c)
/-- the class's text, while it is short, is the whole one -/
def Sh (L S : TT) : Prop := L = S ∨ (255 < L.length ∧ 255 < S.length)
theorem Sh_tv {L S : TT} (h : Sh L S) : tv L = tv S := by
  rcases h with rfl | ⟨h1, h2⟩
  · rfl
  · exact tv_long h1 h2
theorem Sm_aws {α β : Type} {C0 S0 N q : Nat} {L t : TT} {f : BT → Option (α × Nat × Nat)} {Y : Option β} {Q : α → β → Prop} (hq : 16 ≤ q) (hq2 : q ≤ 2 * N + 16) (hN : 510 ≤ N) (hN2 : N ≤ 2000) (ht : t.length ≤ 255) (hL31 : L.length < 2 ^ 31) (h1 : L.length ≤ 255 → ∀ q', 16 ≤ q' → q' ≤ 2 * N + 16 → Sm (fc q' N + C0) (fs q' N + S0) (f (L ++ t, q')) Y Q) (h2 : 255 < L.length → Sm (fc q N + C0) (fs q N + S0) (f (L, q)) Y Q) : Sm (fc q N + C0) (fs q N + S0) (jd (f_tx_appendWhileShort (L, q) t) f) Y Q := by
  by_cases h : 255 < L.length
  · have e : f_tx_appendWhileShort (L, q) t = some ((L, q), 0, 0) := e_c rfl (e_bt (nI_lt (a := 255) h hL31) rfl)
    have := TA_jde (c := fc q N + C0) (s := fs q N + S0) e (h2 h)
    rw [Nat.zero_add, Nat.zero_add] at this
    exact this
  · obtain ⟨q', c, s, e, k1, k2, k3, k4⟩ := sb_cost (x := (L, q)) (t := t) hq hq2 (by show L.length + t.length ≤ N; omega) hN2
    have e2 : f_tx_appendWhileShort (L, q) t = some ((L ++ t, q'), c + 0, s + 0) := by
      refine e_c rfl (e_bf (nI_nlt (a := 255) (by show L.length ≤ 255; omega) (by decide)) ?_)
      show jd (sbAdd (L, q) t) _ = _
      unfold jd
      rw [e]
      rfl
    have k3 : c + fc q' N ≤ fc q N := k3
    have k4 : s + fs q' N ≤ fs q N := k4
    exact TA_mono (TA_jde e2 (h1 (by omega) q' k1 k2)) (by omega) (by omega) (fun _ z => z)
theorem makeAll_m {t L : TT} {f c : Nat} {m : GS} (hc : c ≠ 0) (hc16 : c ≠ 16) (hf : f ∉ [30, 31]) (htl : t.length ≤ 255) (hL : Mk L m) (hT : Txt f c t m) : Tr (f_mo_makeOf m c 0 (m.1 0 f)) (fun r => Mk (L ++ t) r ∧ Ch [30, 31] [16] m r) := by
  rw [hT.1]
  have := makeOf_m hc hc16 hf htl (b := t.length) (Nat.le_refl _) t.length 0 FU L m (Or.inl (by omega)) (FU_lt (by omega)) hL hT
  rw [seg_all] at this
  exact this
/-- CONCATENATE -/
theorem conc {n u h : Nat} {cs0 : CS} {ms0 : GS} (hn : n ≤ 30) : ∀ (r k fu gu q : Nat) (L S : TT) (cs : CS) (ms : GS), k + r = n → r < fu → r < gu → 16 ≤ q → q ≤ 2 * 510 + 16 → CI n u h cs0 ms0 cs ms → Sh L S → Mk S ms → L.length ≤ 510 → S.length ≤ 255 * k → (∀ c ∈ S, c < 256) → Sm (4 * r + (fc q 510 + 3)) (40 * r + (fs q 510 + 262)) (tx_concatenate_10 fu cs (nI k) (L, q)) (mo_concatenate_2 gu ms (nI k)) (XE n u h cs0 ms0) := by
  intro r
  induction r with
  | zero =>
    intro k fu gu q L S cs ms hk hf hg hq hq2 I hLS hM hL hS hSc
    obtain ⟨f, rfl⟩ : ∃ f, fu = f + 1 := ⟨fu - 1, by omega⟩
    obtain ⟨g, rfl⟩ : ∃ g, gu = g + 1 := ⟨gu - 1, by omega⟩
    obtain rfl : k = n := by omega
    refine Sm_Lbt (by rw [I.1.1]; exact Int32.le_refl _) (TA_mono (tv_end (C := 3) (S := 262) (by omega) (by decide) (by decide)) (by omega) (by omega) (fun a ha => ?_))
    rw [ha, Sh_tv hLS]
    refine Tr_jbt (by rw [I.1.2.1]; exact Int32.le_refl _) (Tr_jc (tv_m I hM hSc (by omega)) (fun m hm => Tr_some hm))
  | succ r ih =>
    intro k fu gu q L S cs ms hk hf hg hq hq2 I hLS hM hL hS hSc
    obtain ⟨f, rfl⟩ : ∃ f, fu = f + 1 := ⟨fu - 1, by omega⟩
    obtain ⟨g, rfl⟩ : ∃ g, gu = g + 1 := ⟨gu - 1, by omega⟩
    refine Sm_Lbf (by rw [I.1.1]; exact nI_ge (by omega) (by omega)) (Sm_bf (by rw [I.1.2.1]; exact nI_ge (by omega) (by omega)) ?_)
    have hkt := k_text I (i := k) (by omega)
    refine Sm_mono (c := 4 + (4 * r + (fc q 510 + 3))) (s := 40 + (40 * r + (fs q 510 + 262))) (TA_mono (TA_jd hkt (fun a ⟨m, em, b1, b0, b2, b3, b4⟩ => ?_)) (Nat.le_refl _) (Nat.le_refl _) (fun _ z => z)) (by omega) (by omega) (fun _ _ z => z)
    obtain ⟨t, ca⟩ := a
    dsimp only at *
    have htl := b2.1
    obtain ⟨m2, e2, k1, k2⟩ := makeAll_m (by decide) (by decide) (by decide) htl (Mk_ch hM b4 (by decide) (by decide) (by decide)) b3
    have I2 := CI_ref b1 k2 (by decide) (by decide) (by decide)
    have hY : mo_concatenate_2 (g + 1) ms (nI k) = mo_concatenate_2 g m2 (nI (k + 1)) := by
      refine e_bf (by rw [I.1.2.1]; exact nI_ge (by omega) (by omega)) (e_c em (e_c e2 (e_n ?_)))
      rw [nI_1]
    have hStl : (S ++ t).length ≤ 255 * (k + 1) := by rw [List.length_append]; omega
    have hSt : ∀ c ∈ S ++ t, c < 256 := okT_app hSc b2.2
    have fin : ∀ (q' : Nat) (L' : TT), 16 ≤ q' → q' ≤ 2 * 510 + 16 → Sh L' (S ++ t) → L'.length ≤ 510 → Sm (fc q' 510 + (4 * r + 3)) (fs q' 510 + (40 * r + 262)) (tx_concatenate_10 f ca (nI (k + 1)) (L', q')) (mo_concatenate_2 g m2 (nI (k + 1))) (XE n u h cs0 ms0) := fun q' L' a1 a2 a3 a4 =>
      Sm_mono (ih (k + 1) f g q' L' (S ++ t) ca m2 (by omega) (by omega) (by omega) a1 a2 I2 a3 k1 a4 hStl hSt) (by omega) (by omega) (fun _ _ z => z)
    have hgoal : Sm (fc q 510 + (4 * r + 3)) (fs q 510 + (40 * r + 262)) (jd (f_tx_appendWhileShort (L, q) t) (fun q5 => jn (nI k + 1) (fun v7 => tx_concatenate_10 f ca v7 q5))) (mo_concatenate_2 g m2 (nI (k + 1))) (XE n u h cs0 ms0) := by
      refine Sm_aws hq hq2 (by decide) (by decide) htl (by omega) (fun hs q' a1 a2 => Sm_Ln ?_) (fun hs => Sm_Ln ?_)
      · rw [nI_1]
        rcases hLS with rfl | ⟨w1, w2⟩
        · exact fin q' _ a1 a2 (Or.inl rfl) (by rw [List.length_append]; omega)
        · omega
      · rw [nI_1]
        refine fin q L hq hq2 (Or.inr ⟨hs, ?_⟩) hL
        rw [List.length_append]
        rcases hLS with rfl | ⟨w1, w2⟩ <;> omega
    have hgoal := Sm_mono (C := 4 * r + (fc q 510 + 3)) (S := 40 * r + (fs q 510 + 262)) hgoal (by omega) (by omega) (fun _ _ z => z)
    refine TA_mono hgoal (Nat.le_refl _) (Nat.le_refl _) (fun rr hr => ?_)
    have hY2 : jc (f_mo_textOf ms (nI k)) (fun q2 => jc (f_mo_makeOf q2 13 0 (q2.1 0 27)) (fun q3 => jn (nI k + 1) (fun v4 => mo_concatenate_2 g q3 v4))) = mo_concatenate_2 g m2 (nI (k + 1)) := e_c em (e_c e2 (e_n (by rw [nI_1])))
    show Tr (jc (f_mo_textOf ms (nI k)) (fun q2 => jc (f_mo_makeOf q2 13 0 (q2.1 0 27)) (fun q3 => jn (nI k + 1) (fun v4 => mo_concatenate_2 g q3 v4)))) _
    rw [hY2]
    exact hr
theorem x_conc {n u h : Nat} {cs0 cs : CS} {ms0 ms : GS} (I : CI n u h cs0 ms0 cs ms) (hM : Mk [] ms) : Sm 900 13000 (f_tx_concatenate cs) (f_mo_concatenate ms) (XE n u h cs0 ms0) := by
  have hn := I.1.2.2.1
  refine Sm_La (k := 2) (n := 20) (Sm_mono (conc hn n 0 FU FU 16 [] [] cs ms (by omega) (FU_lt (by omega)) (FU_lt (by omega)) (by decide) (by decide) I (Or.inl rfl) hM (by decide) (by decide) (fun c hc => by cases hc)) ?_ ?_ (fun _ _ z => z))
  · show 4 * n + (62 + 3) ≤ 898
    omega
  · show 40 * n + (2008 + 262) ≤ 12980
    omega
/-! REPT -/
def rp (t : TT) : Nat → TT
  | 0 => []
  | k + 1 => rp t k ++ t
theorem rp_len {t : TT} : ∀ k, (rp t k).length = k * t.length
  | 0 => by rw [Nat.zero_mul]; rfl
  | k + 1 => by
    show (rp t k ++ t).length = _
    rw [List.length_append, rp_len k, Nat.add_mul, Nat.one_mul]
theorem rp_ok {t : TT} (ht : okT t) : ∀ k, ∀ c ∈ rp t k, c < 256
  | 0 => fun c hc => by cases hc
  | k + 1 => okT_app (rp_ok ht k) ht.2
theorem repC {cs : CS} {t : TT} {k : Nat} (hk : k * t.length ≤ 255) (hk2 : k ≤ 255) : ∀ (m i q fu : Nat), i + m = k → m < fu → 16 ≤ q → q ≤ 2 * 255 + 16 → TA (fc q 255 + 3) (fs q 255 + 262) (tx_repeat_67 fu cs t (nI k) (nI i) (rp t i, q)) (fun a => a = (tv (rp t k), cs)) := by
  intro m
  induction m with
  | zero =>
    intro i q fu hi hf hq hq2
    obtain ⟨f, rfl⟩ : ∃ f, fu = f + 1 := ⟨fu - 1, by omega⟩
    obtain rfl : i = k := by omega
    exact TA_jbt (Int32.le_refl _) (tv_end (by rw [rp_len]; omega) (by omega) (by omega))
  | succ m ih =>
    intro i q fu hi hf hq hq2
    obtain ⟨f, rfl⟩ : ∃ f, fu = f + 1 := ⟨fu - 1, by omega⟩
    have hi1 : (i + 1) * t.length ≤ k * t.length := Nat.mul_le_mul_right _ (by omega)
    rw [Nat.add_mul, Nat.one_mul] at hi1
    refine TA_jbf (nI_ge (by omega) (by omega)) (TA_appS (x := (rp t i, q)) hq hq2 (by show (rp t i).length + _ ≤ _; rw [rp_len]; omega) (by decide) (fun q' h1 h2 => TA_jn ?_))
    rw [nI_1]
    exact ih (i + 1) q' f (by omega) (by omega) h1 h2
theorem repM {t : TT} (ht : okT t) (h0 : 0 < t.length) {k : Nat} (hk : k ≤ 1000000000) {Q : GS → Prop} : ∀ (m i fu : Nat) (M : GS), i + m = 257 → m < fu → i ≤ k → Mk (rp t i) M → Txt 28 14 t M → (∀ j M', (j = k ∨ (j ≤ k ∧ 255 < j * t.length)) → Mk (rp t j) M' → Ch [30, 31] [16] M M' → j ≤ 257 → Tr (f_mo_answerText M') Q) → Tr (mo_repeat_34 fu M (nI k) (nI i)) Q := by
  have htl := ht.1
  intro m
  induction m with
  | zero =>
    intro i fu M hi hf hik hM hT hend
    obtain ⟨f, rfl⟩ : ∃ f, fu = f + 1 := ⟨fu - 1, by omega⟩
    have hl : 255 < (rp t i).length := by
      rw [rp_len]
      have := Nat.le_mul_of_pos_right i h0
      omega
    have h31 : M.1 0 31 = 1 := by
      rcases hM with ⟨x, y, z⟩ | ⟨x, y, z⟩
      · omega
      · exact y
    rw [rp_len] at hl
    have R : Tr (mo_repeat_72 M) Q := Tr_jc (hend i M (Or.inr ⟨hik, hl⟩) hM Ch_refl (by omega)) (fun r hr => Tr_some hr)
    exact Tr_jb (fun _ => R) (fun _ => Tr_jbf (by rw [h31]; decide) R)
  | succ m ih =>
    intro i fu M hi hf hik hM hT hend
    obtain ⟨f, rfl⟩ : ∃ f, fu = f + 1 := ⟨fu - 1, by omega⟩
    by_cases hk2 : k ≤ i
    · have e : i = k := by omega
      have R : Tr (mo_repeat_72 M) Q := Tr_jc (hend i M (Or.inl e) hM Ch_refl (by omega)) (fun r hr => Tr_some hr)
      exact Tr_jbt (nI_le hk2 (by omega)) R
    · refine Tr_jbf (nI_ge (by omega) (by omega)) ?_
      rcases hM with ⟨x, y, z⟩ | ⟨x, y, z⟩
      · refine Tr_jbt y (Tr_jbf (by rw [hT.1]; exact nI_nle h0 (by omega)) ?_)
        refine Tr_jc (makeAll_m (by decide) (by decide) (by decide) htl (Or.inl ⟨x, y, z⟩) hT) (fun r ⟨r1, r2⟩ => Tr_jn ?_)
        rw [nI_1]
        exact ih (i + 1) f r (by omega) (by omega) (by omega) r1 (Txt_ch hT r2 (by decide) (by decide) (by decide)) (fun j M' m1 m2 m3 m4 => hend j M' m1 m2 (Ch_trans r2 m3 (fun _ z => z) (fun _ z => z)) m4)
      · have hl : 255 < (rp t i).length := x
        rw [rp_len] at hl
        have R : Tr (mo_repeat_72 M) Q := Tr_jc (hend i M (Or.inr ⟨hik, hl⟩) (Or.inr ⟨x, y, z⟩) Ch_refl (by omega)) (fun r hr => Tr_some hr)
        exact Tr_jbf (by rw [y]; decide) R
theorem x_rept {n u h : Nat} {cs0 cs : CS} {ms0 ms : GS} (I : CI n u h cs0 ms0 cs ms) (hn : 1 < n) (hM : Mk [] ms) : Sm 900 13000 (f_tx_repeat cs) (f_mo_repeat ms) (XE n u h cs0 ms0) := by
  refine Sm_jj2 (read_b I (i := 0) (by omega)) (fun ⟨t, ca⟩ m2 ⟨b1, b0, b2, c1, c2, c3⟩ => ?_)
  have hM2 := Mk_ch hM c3 (by decide) (by decide) (by decide)
  refine Sm_j0 (k_whole b1 (i := 1) (by omega)) (fun ⟨x, cs1⟩ ⟨y, m3⟩ ⟨d1, d0, d2, d3, d4, d5⟩ => ?_)
  dsimp only at *
  have hB := Txt_ch c1 d5 (by decide) (by decide) (by decide)
  have hM3 := Mk_ch hM2 d5 (by decide) (by decide) (by decide)
  have htl := b2.1
  have R24 : ¬ m3.1 0 22 = 0 → Tr (mo_repeat_24 m3 y) (fun m => Ch SF0 SC m3 m) := fun he => Tr_jbf he (Tr_some Ch_refl)
  have Y0 : ¬ m3.1 0 22 = 0 → Tr (jb (0 ≤ y) (mo_repeat_24 m3 y) (jc (f_mo_fail m3 3) (fun q7 => mo_repeat_24 q7 y))) (fun m => Ch SF0 SC m3 m) := fun he => Tr_jb (fun _ => R24 he) (fun _ => Tr_jce (fail_skip he) (R24 he))
  by_cases hx : x < 0
  · refine Sm_fin d1 (V := er 3) (TA_jbt hx (TA_vl rfl)) Y0 (fun hf he => ?_)
    refine Tr_jbf (by rw [d4 hf]; exact Int32.not_le.mpr hx) (Tr_jc (XE_err d1 (e := 3) (by decide) (by decide)) (fun m ⟨k1, k2, k3⟩ => Tr_jbf k3 (Tr_some k1)))
  · obtain ⟨k, k1, rfl⟩ := iB_low d2 hx
    have hkl : k * t.length ≤ 1000000000 * 255 := Nat.mul_le_mul k1 htl
    have e64 : (nI k).toInt64 * (nI t.length).toInt64 = lN (k * t.length) := by rw [nI_l (by omega), nI_l (by omega), lN_mul]
    have top : ∀ V, TA 896 12960 (jb ((lg_cmp ((nI k).toInt64 * (nI t.length).toInt64) (255 : Int64)) ≤ 0) (jc (f_js_isEmpty t) (fun q13 => jb (q13 = 0) (tx_repeat_54 cs1 t (nI k)) (tx_repeat_54 cs1 t 0))) (tx_repeat_37 cs1)) (fun r => r = (V, cs1)) → TA 896 12960 (jb (nI k < 0) (tx_repeat_37 cs1) (jc (f_js_length t) (fun q12 => jb ((lg_cmp ((nI k).toInt64 * q12.toInt64) (255 : Int64)) ≤ 0) (jc (f_js_isEmpty t) (fun q13 => jb (q13 = 0) (tx_repeat_54 cs1 t (nI k)) (tx_repeat_54 cs1 t 0))) (tx_repeat_37 cs1)))) (fun r => r = (V, cs1)) := fun V h => TA_jbf hx (TA_jce rfl h)
    by_cases h0 : t.length = 0
    · -- nothing to repeat
      have ht0 : t = [] := List.eq_nil_of_length_eq_zero h0
      refine Sm_fin d1 (V := tv []) (top _ ?_) Y0 (fun hf he => ?_)
      · rw [e64, h0, Nat.mul_zero]
        refine TA_jbt (by decide) (TA_jce rfl ?_)
        rw [if_pos h0]
        refine TA_jbf (by decide) (TA_mono (TA_ja (k := 2) (n := 20) (repC (t := t) (k := 0) (by omega) (by decide) 0 0 16 FU rfl (FU_lt (by decide)) (by decide) (by decide))) (by decide) (by decide) (fun _ z => z))
      · rw [d4 hf]
        refine Tr_jbt (Int32.not_lt.mp hx) (Tr_jbt he ?_)
        have R : Tr (mo_repeat_72 m3) (fun m => XE n u h cs0 ms0 (tv [], cs1) m) := Tr_jc (tv_m d1 hM3 (fun c hc => by cases hc) (by decide)) (fun r hr => Tr_some hr)
        show Tr (mo_repeat_34 (19999999 + 1) m3 (nI k) 0) _
        refine Tr_jb (fun _ => R) (fun _ => Tr_jb (fun _ => Tr_jbt ?_ R) (fun _ => R))
        rw [hB.1, h0]
        exact Int32.le_refl _
    · by_cases hkk : k * t.length ≤ 255
      · have hk255 : k ≤ 255 := Nat.le_trans (Nat.le_mul_of_pos_right k (by omega)) hkk
        refine Sm_fin d1 (V := tv (rp t k)) (top _ ?_) Y0 (fun hf he => ?_)
        · rw [e64]
          refine TA_jbt ((lc_le (b := 255) (by omega) (by decide)).mpr hkk) (TA_jce rfl ?_)
          rw [if_neg h0]
          refine TA_jbt rfl (TA_mono (TA_ja (k := 2) (n := 20) (repC hkk hk255 k 0 16 FU (by omega) (FU_lt (by omega)) (by decide) (by decide))) (by decide) (by decide) (fun _ z => z))
        · rw [d4 hf]
          refine Tr_jbt (Int32.not_lt.mp hx) (Tr_jbt he (repM b2 (by omega) k1 257 0 FU m3 rfl (FU_lt (by decide)) (Nat.zero_le _) hM3 hB (fun j M' m1 m2 m4 m5 => ?_)))
          have hj : j = k := by
            rcases m1 with m1 | ⟨m1, m6⟩
            · exact m1
            · have := Nat.mul_le_mul_right t.length m1
              omega
          subst hj
          exact tv_m (CI_ref d1 m4 (by decide) (by decide) (by decide)) m2 (rp_ok b2 j) (by rw [rp_len]; omega)
      · refine Sm_fin d1 (V := er 3) (top _ ?_) Y0 (fun hf he => ?_)
        · rw [e64]
          exact TA_jbf (fun z => hkk ((lc_le (b := 255) (by omega) (by decide)).mp z)) (TA_vl rfl)
        · rw [d4 hf]
          refine Tr_jbt (Int32.not_lt.mp hx) (Tr_jbt he (repM b2 (by omega) k1 257 0 FU m3 rfl (FU_lt (by decide)) (Nat.zero_le _) hM3 hB (fun j M' m1 m2 m4 m5 => ?_)))
          have hj : 255 < j * t.length := by
            rcases m1 with m1 | ⟨m1, m6⟩
            · rw [m1]; omega
            · exact m6
          have hj2 : j * t.length ≤ 257 * 255 := Nat.mul_le_mul m5 htl
          have := tv_m (CI_ref d1 m4 (by decide) (by decide) (by decide)) m2 (rp_ok b2 j) (by rw [rp_len]; omega)
          have e : tv (rp t j) = er 3 := by
            unfold tv
            rw [if_neg (by rw [rp_len]; omega)]
          rw [e] at this
          exact this
theorem fc765 : fc 16 765 = 94 := by decide
theorem fs765 : fs 16 765 = 3028 := by decide
/-- REPLACE -/
theorem x_replace {n u h : Nat} {cs0 cs : CS} {ms0 ms : GS} (I : CI n u h cs0 ms0 cs ms) (hn : 3 < n) (hM : Mk [] ms) : Sm 900 13000 (f_tx_replace cs) (f_mo_replace ms) (XE n u h cs0 ms0) := by
  refine Sm_jj2 (read_b I (i := 0) (by omega)) (fun ⟨t, ca⟩ m2 ⟨b1, b0, b2, c1, c2, c3⟩ => ?_)
  have hM2 := Mk_ch hM c3 (by decide) (by decide) (by decide)
  refine Sm_j0 (k_whole b1 (i := 1) (by omega)) (fun ⟨s, cs1⟩ ⟨s', m3⟩ ⟨d1, d0, d2, d3, d4, d5⟩ => ?_)
  refine Sm_j0 (k_whole d1 (i := 2) (by omega)) (fun ⟨k, cs2⟩ ⟨k', m4⟩ ⟨e1, e0, e2, e3, e4, e5⟩ => ?_)
  refine Sm_jj (k_text e1 (i := 3) (by omega)) (fun ⟨w, cs3⟩ m5 ⟨f1, f0, f2, f3, f5⟩ => ?_)
  dsimp only at *
  have hB := Txt_ch (Txt_ch (Txt_ch c1 d5 (by decide) (by decide) (by decide)) e5 (by decide) (by decide) (by decide)) f5 (by decide) (by decide) (by decide)
  have hM3 := Mk_ch (Mk_ch (Mk_ch hM2 d5 (by decide) (by decide) (by decide)) e5 (by decide) (by decide) (by decide)) f5 (by decide) (by decide) (by decide)
  have htl := b2.1
  have hwl := f2.1
  have Y0 : ¬ m5.1 0 22 = 0 → Tr (jb (s' < 1) (mo_replace_35 m5 s' k') (jb (0 ≤ k') (mo_replace_40 m5 s' k') (mo_replace_35 m5 s' k'))) (fun m => Ch SF0 SC m5 m) := fun he => by
    have R : Tr (mo_replace_40 m5 s' k') (fun m => Ch SF0 SC m5 m) := Tr_jbf he (Tr_some Ch_refl)
    have R2 : Tr (mo_replace_35 m5 s' k') (fun m => Ch SF0 SC m5 m) := Tr_jce (fail_skip he) R
    exact Tr_jb (fun _ => R2) (fun _ => Tr_jb (fun _ => R) (fun _ => R2))
  have E0 : Tr (mo_replace_35 m5 s' k') (fun m => XE n u h cs0 ms0 (er 3, cs3) m) := Tr_jc (XE_err f1 (e := 3) (by decide) (by decide)) (fun m ⟨m1, m2, m3⟩ => Tr_jbf m3 (Tr_some m1))
  have hs' : cs3.1 1 6 = 0 → s' = s := fun hf => d4 (e0 (f0 hf))
  have hk' : cs3.1 1 6 = 0 → k' = k := fun hf => e4 (f0 hf)
  by_cases hs : s < 1
  · refine Sm_fin f1 (V := er 3) (TA_jbt hs (TA_vl rfl)) Y0 (fun hf he => Tr_jbt (by rw [hs' hf]; exact hs) E0)
  by_cases hk : k < 0
  · refine Sm_fin f1 (V := er 3) (TA_jbf hs (TA_jbf (Int32.not_le.mpr hk) (TA_vl rfl))) Y0 (fun hf he => Tr_jbf (by rw [hs' hf]; exact hs) (Tr_jbf (by rw [hk' hf]; exact Int32.not_le.mpr hk) E0))
  obtain ⟨a, a1, a2, rfl⟩ := iB_one d2 hs
  obtain ⟨b, b5, rfl⟩ := iB_low e2 hk
  have e1s : nI a - 1 = nI (a - 1) := nI_pre (by omega)
  generalize hst : min (a - 1) t.length = st
  have hst1 : st ≤ t.length := by omega
  generalize hbh : st + min b (t.length - st) = bh
  have hbh1 : bh ≤ t.length := by omega
  have hlen : ((([] ++ seg t 0 st) ++ w) ++ seg t bh t.length).length ≤ 765 := by
    rw [List.length_append, List.length_append, List.nil_append, seg_len hst1, seg_len (Nat.le_refl _)]
    omega
  have hchr : ∀ c ∈ ((([] ++ seg t 0 st) ++ w) ++ seg t bh t.length), c < 256 := okT_app (okT_app (fun c hc => b2.2 c (seg_mem (by simpa using hc))) f2.2) (fun c hc => b2.2 c (seg_mem hc))
  refine Sm_fin f1 (V := tv ((([] ++ seg t 0 st) ++ w) ++ seg t bh t.length)) ?_ Y0 (fun hf he => ?_)
  · refine TA_jbf hs (TA_jbt (Int32.not_lt.mp hk) (TA_jce rfl (TA_jce (by rw [e1s]; exact min_c (by omega) (by omega)) (TA_jce rfl ?_))))
    rw [hst, nI_sub hst1]
    refine TA_jce (min_c (by omega) (by omega)) (TA_jn ?_)
    rw [nI_add, hbh]
    refine TA_mono (TA_ja (k := 2) (n := 20) (c := 400) (s := 8000) ?_) (by decide) (by decide) (fun _ z => z)
    refine TA_mono (TA_jde (c := fc 16 765 + 200) (s := fs 16 765 + 2000) (sub_c (a := 0) (b := st) (Nat.zero_le _) hst1 htl) ?_) (by rw [fc765]; omega) (by rw [fs765]; omega) (fun _ z => z)
    refine TA_appS (x := (([] : TT), 16)) (by decide) (by decide) (by show 0 + _ ≤ _; rw [seg_len hst1]; omega) (by decide) (fun q1 p1 p2 => ?_)
    refine TA_appS (x := ([] ++ seg t 0 st, q1)) p1 p2 (by show ([] ++ seg t 0 st).length + _ ≤ _; rw [List.nil_append, seg_len hst1]; omega) (by decide) (fun q2 p3 p4 => TA_jce rfl ?_)
    refine TA_mono (TA_jde (c := fc q2 765 + 100) (s := fs q2 765 + 1000) (sub_c (a := bh) (b := t.length) hbh1 (Nat.le_refl _) htl) ?_) (by omega) (by omega) (fun _ z => z)
    refine TA_appS (x := (([] ++ seg t 0 st) ++ w, q2)) p3 p4 (by rw [List.length_append] at hlen; exact hlen) (by decide) (fun q3 p5 p6 => ?_)
    exact tv_end (Nat.lt_of_le_of_lt hlen (by decide)) (by omega) (by omega)
  · rw [hs' hf, hk' hf]
    refine Tr_jbf hs (Tr_jbt (Int32.not_lt.mp hk) (Tr_jbt he ?_))
    rw [e1s, hB.1]
    refine Tr_jce (lesser_m (by omega) (by omega)) ?_
    rw [hst]
    have g1 := makeOf_m (f := 28) (c := 14) (by decide) (by decide) (by decide) htl hst1 st 0 FU [] m5 (Or.inl (by omega)) (FU_lt (by omega)) hM3 hB
    refine Tr_jc g1 (fun r1 ⟨r2, r3⟩ => ?_)
    have hA1 := Txt_ch f3 r3 (by decide) (by decide) (by decide)
    have hB1 := Txt_ch hB r3 (by decide) (by decide) (by decide)
    refine Tr_jc (makeAll_m (by decide) (by decide) (by decide) hwl r2 hA1) (fun r4 ⟨r5, r6⟩ => ?_)
    have hB2 := Txt_ch hB1 r6 (by decide) (by decide) (by decide)
    rw [hB2.1, nI_sub hst1]
    refine Tr_jce (lesser_m (by omega) (by omega)) ?_
    rw [nI_add, hbh]
    have g2 := makeOf_m (f := 28) (c := 14) (by decide) (by decide) (by decide) htl (b := t.length) (Nat.le_refl _) (t.length - bh) bh FU (([] ++ seg t 0 st) ++ w) r4 (Or.inl (by omega)) (FU_lt (by omega)) r5 hB2
    refine Tr_jc g2 (fun r7 ⟨r8, r9⟩ => ?_)
    have I7 := CI_ref (CI_ref (CI_ref f1 r3 (by decide) (by decide) (by decide)) r6 (by decide) (by decide) (by decide)) r9 (by decide) (by decide) (by decide)
    exact Tr_jc (tv_m I7 r8 hchr (by omega)) (fun r hr => Tr_some hr)
/-! FIND -/
theorem findC {cs : CS} {part text : TT} (hp : okT part) (ht : okT text) : ∀ (m a fu : Nat), a + m = 256 → m < fu → a ≤ 256 → (∀ p, a ≤ p → isP part text p → (∀ j, a ≤ j → j < p → ¬ isP part text j) → TA 1 3 (tx_find_38 fu cs part text (nI a)) (fun r => r = ((1, FP.i2d (nI (p + 1)), []), cs))) ∧ ((∀ j, a ≤ j → ¬ isP part text j) → TA 1 3 (tx_find_38 fu cs part text (nI a)) (fun r => r = (er 3, cs))) := by
  have hpl := hp.1
  have htl := ht.1
  have hsub : ∀ a b : Nat, a ≤ 255 → b ≤ 255 → (nI a - nI b).toInt = (a : Int) - (b : Int) := fun a b h1 h2 => pk_sub_toInt (by omega) (by omega)
  have hcmp : ∀ a : Nat, a < 2 ^ 31 → ((nI text.length - nI part.length < nI a) ↔ ¬ a + part.length ≤ text.length) := fun a ha => by
    rw [Int32.lt_iff_toInt_lt, hsub _ _ htl hpl, nI_toInt ha]
    omega
  intro m
  induction m with
  | zero =>
    intro a fu ha hf ha2
    obtain ⟨f, rfl⟩ : ∃ f, fu = f + 1 := ⟨fu - 1, by omega⟩
    exact ⟨fun p h1 h2 h3 => by have := h2.1; omega, fun _ => TA_jce rfl (TA_jce rfl (TA_jbt ((hcmp a (by omega)).mpr (by omega)) (TA_vl rfl)))⟩
  | succ m ih =>
    intro a fu ha hf ha2
    obtain ⟨f, rfl⟩ : ∃ f, fu = f + 1 := ⟨fu - 1, by omega⟩
    obtain ⟨i1, i2⟩ := isAt_c (at_ := a) hp ht (by omega)
    obtain ⟨k1, k2⟩ := ih (a + 1) f (by omega) (by omega) (by omega)
    refine ⟨fun p h1 h2 h3 => ?_, fun h => ?_⟩
    · refine TA_jce rfl (TA_jce rfl (TA_jbf (fun z => (hcmp a (by omega)).mp z (by have := h2.1; omega)) ?_))
      by_cases e : a = p
      · subst e
        refine TA_jce (i1 h2) (TA_jbf (by decide) ?_)
        rw [nI_1]
        exact TA_vl rfl
      · refine TA_jce (i2 (h3 a (Nat.le_refl _) (by omega))) (TA_jbt rfl (TA_jn ?_))
        rw [nI_1]
        exact k1 p (by omega) h2 (fun j j1 j2 => h3 j (by omega) j2)
    · refine TA_jce rfl (TA_jce rfl ?_)
      by_cases hle : a + part.length ≤ text.length
      · refine TA_jbf (fun z => (hcmp a (by omega)).mp z hle) (TA_jce (i2 (h a (Nat.le_refl _))) (TA_jbt rfl (TA_jn ?_)))
        rw [nI_1]
        exact k2 (fun j j1 => h j (by omega))
      · exact TA_jbt ((hcmp a (by omega)).mpr hle) (TA_vl rfl)
theorem findM {m2 : GS} {part text : TT} (hp : okT part) (ht : okT text) (hC : Txt 29 15 part m2) (hB : Txt 28 14 text m2) : ∀ (m a fu : Nat), a + m = text.length + 1 → m < fu → (∀ p, a ≤ p → p ≤ text.length → isP part text p → (∀ j, a ≤ j → j < p → ¬ isP part text j) → mo_findText_57 fu m2 0 (nI a) = mo_findText_127 m2 (nI p)) ∧ ((∀ j, a ≤ j → ¬ isP part text j) → mo_findText_57 fu m2 0 (nI a) = mo_findText_127 m2 (nI (text.length + 1))) := by
  have htl := ht.1
  intro m
  induction m with
  | zero =>
    intro a fu ha hf
    obtain ⟨f, rfl⟩ : ∃ f, fu = f + 1 := ⟨fu - 1, by omega⟩
    obtain rfl : a = text.length + 1 := by omega
    exact ⟨fun p h1 h2 => by omega, fun _ => e_bt (by rw [hB.1]; exact nI_lt (by omega) (by omega)) rfl⟩
  | succ m ih =>
    intro a fu ha hf
    obtain ⟨f, rfl⟩ : ∃ f, fu = f + 1 := ⟨fu - 1, by omega⟩
    obtain ⟨i1, i2⟩ := stands_m (at_ := a) hp ht hB hC (by omega)
    rw [← hB.1, ← hC.1] at i1 i2
    obtain ⟨k1, k2⟩ := ih (a + 1) f (by omega) (by omega)
    have n1 : ¬ m2.1 0 28 < nI a := by rw [hB.1]; exact nI_nlt (by omega) (by omega)
    have next : ¬ isP part text a → mo_findText_57 (f + 1) m2 0 (nI a) = mo_findText_57 f m2 0 (nI (a + 1)) := fun h => by
      refine e_bf n1 (e_bt rfl (e_c (i2 h) (e_bt rfl (e_n ?_))))
      rw [nI_1]
    refine ⟨fun p h1 h2 h3 h4 => ?_, fun h => (next (h a (Nat.le_refl _))).trans (k2 (fun j j1 => h j (by omega)))⟩
    by_cases e : a = p
    · subst e
      exact e_bf n1 (e_bt rfl (e_c (i1 h3) (e_bf (by decide) rfl)))
    · exact (next (h4 a (Nat.le_refl _) (by omega))).trans (k1 p (by omega) h2 h3 (fun j j1 j2 => h4 j (by omega) j2))
/-- the reference's end of a search -/
theorem found_m {n u h p : Nat} {cs0 cs : CS} {ms0 ms : GS} {text : TT} (I : CI n u h cs0 ms0 cs ms) (hB : Txt 28 14 text ms) (htl : text.length ≤ 255) (hp : p ≤ text.length) : Tr (mo_findText_127 ms (nI p)) (fun m => XE n u h cs0 ms0 ((1, FP.i2d (nI (p + 1)), []), cs) m) := by
  refine Tr_jbt (by rw [hB.1]; exact nI_le hp (by omega)) ?_
  unfold mo_findText_140
  rw [nI_1]
  exact Tr_jc (XE_num I (fun _ => rfl)) (fun m hm => Tr_some hm)
theorem unfound_m {n u h : Nat} {cs0 cs : CS} {ms0 ms : GS} {text : TT} (I : CI n u h cs0 ms0 cs ms) (hB : Txt 28 14 text ms) (htl : text.length ≤ 255) : Tr (mo_findText_127 ms (nI (text.length + 1))) (fun m => XE n u h cs0 ms0 (er 3, cs) m) := by
  refine Tr_jbf (by rw [hB.1]; exact nI_ge (by omega) (by omega)) ?_
  exact Tr_jc (XE_err I (e := 3) (by decide) (by decide)) (fun m ⟨k1, k2, k3⟩ => Tr_jc (answerAny_m) (fun r hr => Tr_some (XE_ch k1 hr k3 (by decide) (by decide) (by decide))))
theorem first_P {P : Nat → Prop} (a : Nat) : ∀ n, (∃ p, a ≤ p ∧ p < a + n ∧ P p ∧ ∀ j, a ≤ j → j < p → ¬ P j) ∨ ∀ j, a ≤ j → j < a + n → ¬ P j
  | 0 => Or.inr (fun j h1 h2 => by omega)
  | n + 1 => by
    rcases first_P a n with ⟨p, h1, h2, h3, h4⟩ | h
    · exact Or.inl ⟨p, h1, by omega, h3, h4⟩
    · by_cases e : P (a + n)
      · exact Or.inl ⟨a + n, by omega, by omega, e, h⟩
      · refine Or.inr (fun j j1 j2 => ?_)
        by_cases e2 : j = a + n
        · rw [e2]; exact e
        · exact h j j1 (by omega)
theorem x_find {n u h : Nat} {cs0 cs : CS} {ms0 ms : GS} (I : CI n u h cs0 ms0 cs ms) (hn : 1 < n) : Sm 900 13000 (f_tx_find cs) (f_mo_findText ms 0) (XE n u h cs0 ms0) := by
  refine Sm_jj2 (read_c I (i := 0) (by omega)) (fun ⟨part, ca⟩ m2 ⟨b1, b0, b2, c1, c2, c3⟩ => ?_)
  refine Sm_jj2 (read_b b1 (i := 1) (by omega)) (fun ⟨text, cb⟩ m3 ⟨d1, d0, d2, d3, d4, d5⟩ => ?_)
  refine Sm_j0 (k_wholeOr d1 (i := 2) (by decide) 1 ⟨by decide, by decide⟩) (fun ⟨s, cs1⟩ ⟨s', m4⟩ ⟨e1, e0, e2, e3, e4, e5⟩ => ?_)
  dsimp only at *
  have hC := Txt_ch (Txt_ch c1 d5 (by decide) (by decide) (by decide)) e5 (by decide) (by decide) (by decide)
  have hB := Txt_ch d3 e5 (by decide) (by decide) (by decide)
  have hpl := b2.1
  have htl := d2.1
  have Y0 : ¬ m4.1 0 22 = 0 → Tr (jb (s' < 1) (mo_findText_40 m4 0 s') (jb (s' ≤ ((m4.1 0 28) + 1)) (mo_findText_45 m4 0 s') (mo_findText_40 m4 0 s'))) (fun m => Ch SF0 SC m4 m) := fun he => by
    have R : Tr (mo_findText_45 m4 0 s') (fun m => Ch SF0 SC m4 m) := Tr_jbf he (Tr_some Ch_refl)
    have R2 : Tr (mo_findText_40 m4 0 s') (fun m => Ch SF0 SC m4 m) := Tr_jce (fail_skip he) R
    exact Tr_jb (fun _ => R2) (fun _ => Tr_jb (fun _ => R) (fun _ => R2))
  have E0 : Tr (mo_findText_40 m4 0 s') (fun m => XE n u h cs0 ms0 (er 3, cs1) m) := Tr_jc (XE_err e1 (e := 3) (by decide) (by decide)) (fun m ⟨m1, m2, m3⟩ => Tr_jbf m3 (Tr_some m1))
  by_cases hs : s < 1
  · exact Sm_fin e1 (V := er 3) (TA_jbt hs (TA_vl rfl)) Y0 (fun hf he => Tr_jbt (by rw [e4 hf]; exact hs) E0)
  obtain ⟨a, a1, a2, rfl⟩ := iB_one e2 hs
  have e1s : nI a - 1 = nI (a - 1) := nI_pre (by omega)
  by_cases hal : a ≤ text.length + 1
  · have hle : nI a ≤ m4.1 0 28 + 1 := by rw [hB.1, nI_1]; exact nI_le hal (by omega)
    obtain ⟨C1, C2⟩ := findC (cs := cs1) b2 d2 (257 - a) (a - 1) FU (by omega) (FU_lt (by omega)) (by omega)
    obtain ⟨M1, M2⟩ := findM b2 d2 hC hB (text.length + 2 - a) (a - 1) FU (by omega) (FU_lt (by omega))
    rcases first_P (P := isP part text) (a - 1) 300 with ⟨p, p1, p2, p3, p4⟩ | hno
    · have hpt : p ≤ text.length := by have := p3.1; omega
      refine Sm_fin e1 (V := (1, FP.i2d (nI (p + 1)), [])) (TA_jbf hs (TA_jn ?_)) Y0 (fun hf he => ?_)
      · rw [e1s]
        exact TA_mono (C1 p p1 p3 p4) (by decide) (by decide) (fun _ z => z)
      · rw [e4 hf]
        refine Tr_jbf hs (Tr_jbt hle (Tr_jbt he (Tr_jn ?_)))
        rw [e1s, M1 p p1 hpt p3 p4]
        exact found_m e1 hB htl hpt
    · have hno2 : ∀ j, a - 1 ≤ j → ¬ isP part text j := fun j j1 => by
        by_cases j2 : j < a - 1 + 300
        · exact hno j j1 j2
        · intro z
          have := z.1
          omega
      refine Sm_fin e1 (V := er 3) (TA_jbf hs (TA_jn ?_)) Y0 (fun hf he => ?_)
      · rw [e1s]
        exact TA_mono (C2 hno2) (by decide) (by decide) (fun _ z => z)
      · rw [e4 hf]
        refine Tr_jbf hs (Tr_jbt hle (Tr_jbt he (Tr_jn ?_)))
        rw [e1s, M2 hno2]
        exact unfound_m e1 hB htl
  · have hsub : (nI text.length - nI part.length).toInt = (text.length : Int) - (part.length : Int) := pk_sub_toInt (by omega) (by omega)
    refine Sm_fin e1 (V := er 3) (TA_jbf hs (TA_jn ?_)) Y0 (fun hf he => ?_)
    · rw [e1s]
      show TA _ _ (tx_find_38 (19999999 + 1) cs1 part text (nI (a - 1))) _
      refine TA_jce rfl (TA_jce rfl (TA_jbt ?_ (TA_vl rfl)))
      rw [Int32.lt_iff_toInt_lt, hsub, nI_toInt (by omega)]
      omega
    · rw [e4 hf] at E0 ⊢
      refine Tr_jbf hs (Tr_jbf ?_ E0)
      rw [hB.1, nI_1]
      exact nI_ge (by omega) (by omega)
