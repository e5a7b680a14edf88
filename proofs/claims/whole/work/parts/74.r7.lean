/-! BASE -/
theorem k_num {n u h i : Nat} {cs0 cs : CS} {ms0 ms : GS} (I : CI n u h cs0 ms0 cs ms) (hi : i < n) : Tr (f_ar_number cs (nI i)) (fun a => NG a.1 ∧ Tr (f_mo_number ms (nI i)) (fun b => CI n u h cs0 ms0 a.2 b.2 ∧ (a.2.1 1 6 = 0 → cs.1 1 6 = 0) ∧ NG b.1 ∧ (a.2.1 1 6 = 0 → b.1 = a.1) ∧ Ch [20, 21, 22, 27] [13] ms b.2)) :=
  Tr_mono (t_num (CI_self I) hi) (fun _ ⟨ha1, ha⟩ => ⟨ha1, Tr_mono ha (fun _ ⟨b1, b2⟩ => ⟨(CI_two I b1).1, (CI_two I b1).2, b2⟩)⟩)
def chb (d : Nat) : Nat := if 10 ≤ d then 65 + d - 10 else 48 + d
def gb (n x k : Nat) : Nat := chb (x / n ^ k % n)
theorem gb_lt {n x k : Nat} (hn : 2 ≤ n) (hn2 : n ≤ 36) : gb n x k < 256 := by
  have := Nat.mod_lt (x / n ^ k) (show 0 < n by omega)
  unfold gb chb
  split <;> omega
/-- digits from place D - 1 down -/
def dl (g : Nat → Nat) : Nat → TT
  | 0 => []
  | D + 1 => g D :: dl g D
theorem rng_rev {g : Nat → Nat} : ∀ D, (rng g D).reverse = dl g D
  | 0 => rfl
  | D + 1 => by
    rw [rng_succ, List.reverse_append, rng_rev D]
    rfl
theorem dl_len {g : Nat → Nat} : ∀ D, (dl g D).length = D
  | 0 => rfl
  | D + 1 => by
    show (dl g D).length + 1 = _
    rw [dl_len D]
theorem dl_lt {g : Nat → Nat} (h : ∀ k, g k < 256) : ∀ D, ∀ c ∈ dl g D, c < 256
  | 0 => fun c hc => by cases hc
  | D + 1 => fun c hc => by
    rcases List.mem_cons.mp hc with e | e
    · rw [e]; exact h D
    · exact dl_lt h D c e
theorem dl_zero {g : Nat → Nat} {c : Nat} : ∀ e, (∀ k, c ≤ k → k < c + e → g k = 48) → dl g (c + e) = rp [48] e ++ dl g c
  | 0, _ => rfl
  | e + 1, h => by
    show g (c + e) :: dl g (c + e) = _
    rw [dl_zero e (fun k h1 h2 => h k h1 (by omega)), h (c + e) (by omega) (by omega), rp_front]
    rfl
theorem n_count {n : Nat} (hn : 2 ≤ n) : ∀ f x, x < n ^ f → ∃ c, c ≤ f ∧ x < n ^ c ∧ (1 ≤ c → n ^ (c - 1) ≤ x)
  | 0, x, h => ⟨0, Nat.le_refl _, h, fun z => by omega⟩
  | f + 1, x, h => by
    by_cases g : x < n ^ f
    · obtain ⟨c, h1, h2, h3⟩ := n_count hn f x g
      exact ⟨c, by omega, h2, h3⟩
    · exact ⟨f + 1, Nat.le_refl _, h, fun _ => by rw [Nat.add_sub_cancel]; omega⟩
theorem i_m1 (x : Int32) : x + (-1) = x - 1 := (Int32.sub_eq_add_neg x 1).symm
theorem chb_v {d : Nat} (h : d < 36) (K : Int32 → Prop) (h1 : 10 ≤ d → K ((65 + nI d) - 10)) (h2 : d < 10 → K (48 + nI d)) : K (nI (chb d)) := by
  unfold chb
  by_cases g : 10 ≤ d
  · rw [if_pos g]
    have := h1 g
    rw [show (65 : Int32) = nI 65 from rfl, show (10 : Int32) = nI 10 from rfl, nI_add, nI_sub (by omega)] at this
    exact this
  · rw [if_neg g]
    have := h2 (by omega)
    rw [show (48 : Int32) = nI 48 from rfl, nI_add] at this
    exact this
theorem baseC {cs : CS} {n x d D : Nat} (hn : 2 ≤ n) (hn2 : n ≤ 36) (hx : x < 2 ^ 31) (hD : D ≤ 255) (hdD : d ≤ D) (hup : x < n ^ D) (hlow : ∀ k, k < D → k < d ∨ 0 < x / n ^ k) : ∀ (m k q fu : Nat), k + m = D → m < fu → 16 ≤ q → q ≤ 2 * 255 + 16 → TA (fc q 255 + 3) (fs q 255 + 262) (tx_base_99 fu cs (nI n) (lN (x / n ^ k)) (nI d) (nI k) (rng (gb n x) k, q)) (fun r => r = (tv (dl (gb n x) D), cs)) := by
  have hn0 : 0 < n := by omega
  have hfin : ∀ (q : Nat), TA (fc q 255 + 3) (fs q 255 + 262) (tx_base_172 cs (rng (gb n x) D, q)) (fun r => r = (tv (dl (gb n x) D), cs)) := fun q => by
    refine TA_jce (a := ((rng (gb n x) D).reverse, q)) rfl ?_
    rw [rng_rev]
    exact tv_end (by rw [dl_len]; omega) (by omega) (by omega)
  intro m
  induction m with
  | zero =>
    intro k q fu hk hf hq hq2
    obtain ⟨g, rfl⟩ : ∃ g, fu = g + 1 := ⟨fu - 1, by omega⟩
    obtain rfl : k = D := by omega
    have hz : x / n ^ k = 0 := Nat.div_eq_of_lt hup
    by_cases h255 : 255 ≤ k
    · exact TA_jbt (nI_le (a := 255) h255 (by omega)) (hfin q)
    · refine TA_jbf (nI_ge (b := 255) (by omega) (by decide)) (TA_jbf (nI_nlt hdD (by omega)) (TA_jbt ?_ (hfin q)))
      rw [hz]
      decide
  | succ m ih =>
    intro k q fu hk hf hq hq2
    obtain ⟨g, rfl⟩ : ∃ g, fu = g + 1 := ⟨fu - 1, by omega⟩
    have hxk : x / n ^ k ≤ x := Nat.div_le_self _ _
    have hmod := Nat.mod_lt (x / n ^ k) hn0
    have hdd : x / n ^ k / n = x / n ^ (k + 1) := by rw [Nat.div_div_eq_div_mul, ← Nat.pow_succ]
    have e64 : (nI n).toInt64 = lN n := nI_l (by omega)
    have fin : ∀ z : Int32, z = nI (gb n x k) → TA (fc q 255 + 3) (fs q 255 + 262) (tx_base_154 (tx_base_99 g) cs (nI n) (lN (x / n ^ k)) (nI d) (nI k) z (rng (gb n x) k, q)) (fun r => r = (tv (dl (gb n x) D), cs)) := fun z hz => by
      have hg := gb_lt (x := x) (k := k) hn hn2
      unfold tx_base_154
      rw [hz, u16 (by omega), e64]
      refine TA_appC (x := (rng (gb n x) k, q)) hg hq hq2 (by rw [rng_len]; omega) (by decide) (fun q' h1 h2 => TA_jg (nzl_of hn0 (by omega)) (TA_jn (TA_jn ?_)))
      rw [lN_div (by omega) (by omega), hdd, nI_1]
      show TA _ _ (tx_base_99 g cs (nI n) (lN (x / n ^ (k + 1))) (nI d) (nI (k + 1)) (rng (gb n x) k ++ [gb n x k], q')) _
      rw [← rng_succ]
      exact ih (k + 1) q' g (by omega) (by omega) h1 h2
    have step : TA (fc q 255 + 3) (fs q 255 + 262) (tx_base_121 (tx_base_99 g) cs (nI n) (lN (x / n ^ k)) (nI d) (nI k) (rng (gb n x) k, q)) (fun r => r = (tv (dl (gb n x) D), cs)) := by
      unfold tx_base_121
      rw [e64]
      refine TA_jg (nzl_of hn0 (by omega)) (TA_jn ?_)
      rw [lN_mod (by omega) (by omega), lN_i]
      by_cases g10 : 10 ≤ x / n ^ k % n
      · refine TA_jbt (nI_le (a := 10) g10 (by omega)) (fin _ ?_)
        exact chb_v (d := x / n ^ k % n) (by omega) (fun w => (65 + nI (x / n ^ k % n)) - 10 = w) (fun _ => rfl) (fun z => by omega)
      · refine TA_jbf (nI_ge (b := 10) (by omega) (by decide)) (fin _ ?_)
        exact chb_v (d := x / n ^ k % n) (by omega) (fun w => 48 + nI (x / n ^ k % n) = w) (fun z => by omega) (fun _ => rfl)
    refine TA_jbf (nI_ge (b := 255) (by omega) (by decide)) ?_
    by_cases hkd : k < d
    · exact TA_jbt (nI_lt hkd (by omega)) step
    · refine TA_jbf (nI_nlt (by omega) (by omega)) (TA_jbf (fun z => ?_) step)
      have hpos := (hlow k (by omega)).resolve_left hkd
      have := (lc_le (a := x / n ^ k) (b := 0) (by omega) (by decide)).mp z
      omega
theorem bs158 {n x : Nat} (hn : 2 ≤ n) (hn2 : n ≤ 36) (hx : x < 2 ^ 31) {K : GS → Int32 → Int64 → Int32 → Option GS} {M : GS} {k : Nat} (hk : k < 2 ^ 31) : ∀ (j i fu : Nat), i + j = k → j < fu → mo_base_158 K fu M (nI n) (lN x) (nI k) (lN (x / n ^ i)) (nI i) = jc (f_mo_make M (nI (gb n x k))) (fun q1 => jn (nI k + (-1)) (fun v2 => K q1 (nI n) (lN x) v2)) := by
  have hn0 : 0 < n := by omega
  have e64 : (nI n).toInt64 = lN n := nI_l (by omega)
  have hz : nzl (nI n).toInt64 = true := by rw [e64]; exact nzl_of hn0 (by omega)
  intro j
  induction j with
  | zero =>
    intro i fu hi hf
    obtain ⟨g, rfl⟩ : ∃ g, fu = g + 1 := ⟨fu - 1, by omega⟩
    obtain rfl : i = k := by omega
    have hxk : x / n ^ i ≤ x := Nat.div_le_self _ _
    have hmod := Nat.mod_lt (x / n ^ i) hn0
    refine e_bt (Int32.le_refl _) (e_g hz (e_n ?_))
    rw [e64, lN_mod (by omega) (by omega), lN_i]
    have fin : ∀ z : Int32, z = nI (gb n x i) → mo_base_210 K M (nI n) (lN x) (nI i) z = jc (f_mo_make M (nI (gb n x i))) (fun q1 => jn (nI i + (-1)) (fun v2 => K q1 (nI n) (lN x) v2)) := fun z hz => by rw [hz]; rfl
    by_cases g10 : 10 ≤ x / n ^ i % n
    · refine e_bt (nI_le (a := 10) g10 (by omega)) (fin _ ?_)
      exact chb_v (d := x / n ^ i % n) (by omega) (fun w => (65 + nI (x / n ^ i % n)) - 10 = w) (fun _ => rfl) (fun z => by omega)
    · refine e_bf (nI_ge (b := 10) (by omega) (by decide)) (fin _ ?_)
      exact chb_v (d := x / n ^ i % n) (by omega) (fun w => 48 + nI (x / n ^ i % n) = w) (fun z => by omega) (fun _ => rfl)
  | succ j ih =>
    intro i fu hi hf
    obtain ⟨g, rfl⟩ : ∃ g, fu = g + 1 := ⟨fu - 1, by omega⟩
    have hxk : x / n ^ i ≤ x := Nat.div_le_self _ _
    have hdd : x / n ^ i / n = x / n ^ (i + 1) := by rw [Nat.div_div_eq_div_mul, ← Nat.pow_succ]
    refine e_bf (nI_ge (by omega) (by omega)) (e_g hz (e_n (e_n ?_)))
    rw [e64, lN_div (by omega) (by omega), hdd, nI_1]
    exact ih (i + 1) g (by omega) (by omega)
theorem bs146 {n x : Nat} (hn : 2 ≤ n) (hn2 : n ≤ 36) (hx : x < 2 ^ 31) {Q : GS → Prop} : ∀ (m fu : Nat) (L : TT) (M : GS), m ≤ 300 → m < fu → Mk L M → (∀ M', Mk (L ++ dl (gb n x) m) M' → Ch [30, 31] [16] M M' → Tr (f_mo_answerText M') Q) → Tr (mo_base_146 fu M (nI n) (lN x) (nI m - 1)) Q := by
  intro m
  induction m with
  | zero =>
    intro fu L M hm hf hL hend
    obtain ⟨g, rfl⟩ : ∃ g, fu = g + 1 := ⟨fu - 1, by omega⟩
    exact Tr_jbt (by decide) (Tr_jc (hend M (by rw [show dl (gb n x) 0 = [] from rfl, List.append_nil]; exact hL) Ch_refl) (fun r hr => Tr_some hr))
  | succ m ih =>
    intro fu L M hm hf hL hend
    obtain ⟨g, rfl⟩ : ∃ g, fu = g + 1 := ⟨fu - 1, by omega⟩
    have e1 : nI (m + 1) - 1 = nI m := nI_pre (by omega)
    rw [e1]
    refine Tr_jbf (nI_pos (by omega)) ?_
    have e := bs158 (K := mo_base_146 g) (M := M) hn hn2 hx (k := m) (by omega) m 0 FU (by omega) (FU_lt (by omega))
    rw [Nat.pow_zero, Nat.div_one] at e
    show Tr (mo_base_158 (mo_base_146 g) FU M (nI n) (lN x) (nI m) (lN x) (nI 0)) Q
    rw [e]
    refine Tr_jc (make_m hL) (fun r ⟨r1, r2⟩ => Tr_jn ?_)
    rw [i_m1]
    refine ih g (L ++ [gb n x m]) r (by omega) (by omega) r1 (fun M' m1 m2 => hend M' ?_ (Ch_trans r2 m2 (fun _ z => z) (fun _ z => z)))
    rw [List.append_assoc] at m1
    exact m1
theorem bs121 {n x l w : Nat} (hn : 2 ≤ n) (hn2 : n ≤ 36) (hx : x < 2 ^ 31) (hl : l ≤ 255) (hw : w ≤ 100) {Q : GS → Prop} : ∀ (j i fu : Nat) (L : TT) (M : GS), (i + j = l ∨ (l ≤ i ∧ j = 0 ∧ i ≤ 300)) → j < fu → Mk L M → (∀ M', Mk (L ++ (rp [48] j ++ dl (gb n x) w)) M' → Ch [30, 31] [16] M M' → Tr (f_mo_answerText M') Q) → Tr (mo_base_121 fu M (nI n) (nI l) (lN x) (nI w) (nI i)) Q := by
  intro j
  induction j with
  | zero =>
    intro i fu L M hi hf hL hend
    obtain ⟨g, rfl⟩ : ∃ g, fu = g + 1 := ⟨fu - 1, by omega⟩
    refine Tr_jbt (nI_le (by omega) (by omega)) (Tr_jn (bs146 hn hn2 hx w FU L M (by omega) (FU_lt (by omega)) hL hend))
  | succ j ih =>
    intro i fu L M hi hf hL hend
    obtain ⟨g, rfl⟩ : ∃ g, fu = g + 1 := ⟨fu - 1, by omega⟩
    refine Tr_jbf (nI_ge (by omega) (by omega)) (Tr_jc (make_m (c := 48) hL) (fun r ⟨r1, r2⟩ => Tr_jn ?_))
    rw [nI_1]
    refine ih (i + 1) g (L ++ [48]) r (by omega) (by omega) r1 (fun M' m1 m2 => hend M' ?_ (Ch_trans r2 m2 (fun _ z => z) (fun _ z => z)))
    rw [rp_front]
    rw [List.append_assoc] at m1
    exact m1
theorem bs97 {n x c : Nat} (hn : 2 ≤ n) (hn2 : n ≤ 36) (hx : x < 2 ^ 31) (hc : c ≤ 31) (hup : x < n ^ c) (hlow : ∀ k, k < c → 0 < x / n ^ k) {M : GS} {l : Int32} {b : Nat} (hb : b ≤ 1) : ∀ (j k fu : Nat), k + j = c → j < fu → mo_base_97 fu M (nI n) l (lN x) (nI (b + k)) (lN (x / n ^ k)) = mo_base_121 FU M (nI n) l (lN x) (nI (b + c)) (nI (b + c)) := by
  have hn0 : 0 < n := by omega
  have e64 : (nI n).toInt64 = lN n := nI_l (by omega)
  intro j
  induction j with
  | zero =>
    intro k fu hk hf
    obtain ⟨g, rfl⟩ : ∃ g, fu = g + 1 := ⟨fu - 1, by omega⟩
    obtain rfl : k = c := by omega
    have hz : x / n ^ k = 0 := Nat.div_eq_of_lt hup
    rw [hz]
    exact e_bt (by decide) rfl
  | succ j ih =>
    intro k fu hk hf
    obtain ⟨g, rfl⟩ : ∃ g, fu = g + 1 := ⟨fu - 1, by omega⟩
    have hxk : x / n ^ k ≤ x := Nat.div_le_self _ _
    have hpos := hlow k (by omega)
    have hdd : x / n ^ k / n = x / n ^ (k + 1) := by rw [Nat.div_div_eq_div_mul, ← Nat.pow_succ]
    refine e_bf (fun z => ?_) (e_n (e_g (by rw [e64]; exact nzl_of hn0 (by omega)) (e_n ?_)))
    · have := (lc_le (a := x / n ^ k) (b := 0) (by omega) (by decide)).mp z
      omega
    · rw [e64, lN_div (by omega) (by omega), hdd, nI_1]
      exact ih (k + 1) g (by omega) (by omega)
theorem n_low {n x c : Nat} (hn : 2 ≤ n) (h : 1 ≤ c → n ^ (c - 1) ≤ x) : ∀ k, k < c → 0 < x / n ^ k := fun k hk => by
  refine Nat.div_pos ?_ (Nat.pow_pos (by omega))
  exact Nat.le_trans (Nat.pow_le_pow_right (by omega) (show k ≤ c - 1 by omega)) (h (by omega))
theorem DV_m1 : DV 13830554455654793216 (-UU) := ⟨DFin_c (by decide +kernel), by unfold UU; decide +kernel⟩
theorem tdiv_neg_iff {z : Int} : Int.tdiv z UU < 0 ↔ z ≤ -UU := by
  have hU := UU_pos
  have e := Int.tmod_add_mul_tdiv z UU
  rcases Int.lt_or_le z 0 with g | g
  · have h1 : Int.tmod z UU ≤ 0 := by
      have := Int.tmod_nonneg UU (show 0 ≤ -z by omega)
      rw [Int.neg_tmod] at this
      omega
    have h2 : -UU < Int.tmod z UU := by
      have := Int.tmod_lt_of_pos (-z) hU
      rw [Int.neg_tmod] at this
      omega
    refine ⟨fun k => ?_, fun k => ?_⟩
    · have := Int.mul_le_mul_of_nonneg_left (show Int.tdiv z UU ≤ -1 by omega) (show 0 ≤ UU by omega)
      omega
    · refine Int.not_le.mp fun w => ?_
      have := Int.mul_nonneg (show 0 ≤ UU by omega) w
      omega
  · have := Int.tdiv_nonneg g (show 0 ≤ UU by omega)
    exact ⟨fun k => by omega, fun k => by omega⟩
theorem x_base {n u h : Nat} {cs0 cs : CS} {ms0 ms : GS} (I : CI n u h cs0 ms0 cs ms) (hn : 1 < n) (hM : Mk [] ms) : Sm 900 13000 (f_tx_base cs) (f_mo_base ms) (XE n u h cs0 ms0) := by
  have hU := UU_pos
  obtain ⟨⟨v, ca⟩, ea, ⟨z, a1, a2, a3, -⟩, ⟨w, m1⟩, em, b1, b0, ⟨y, b2, b3, b4, -⟩, b5, b6⟩ := k_num I (i := 0) (by omega)
  dsimp only at *
  refine Sm_Lc ea (Sm_c em ?_)
  obtain ⟨c, ec, c1, c2, c3, c4, c5⟩ := cut_NG b2 b3 b4
  refine Sm_c ec ?_
  have hM1 := Mk_ch hM b6 (by decide) (by decide) (by decide)
  refine Sm_j0 (k_whole b1 (i := 1) (by omega)) (fun ⟨x1, cs1⟩ ⟨y1, m2⟩ ⟨d1, d0, d2, d3, d4, d5⟩ => ?_)
  have hM2 := Mk_ch hM1 d5 (by decide) (by decide) (by decide)
  refine Sm_j0 (k_wholeOr d1 (i := 2) (by decide) 0 ⟨by decide, by decide⟩) (fun ⟨x2, cs2⟩ ⟨y2, m3⟩ ⟨f1, f0, f2, f3, f4, f5⟩ => ?_)
  dsimp only at *
  have hM3 := Mk_ch hM2 f5 (by decide) (by decide) (by decide)
  -- the reference where something is wrong already
  have Y0 : ¬ m3.1 0 22 = 0 → Tr (jb ((Op.cmpValue (FP.dcmp c FP.dconst0) .g) < 0) (mo_base_61 m3 c y1 y2) (jb (0 ≤ (Op.cmpValue (FP.dcmp c (4845873199050653696 : UInt64)) .l)) (mo_base_61 m3 c y1 y2) (jb (y1 < 2) (mo_base_61 m3 c y1 y2) (jb (36 < y1) (mo_base_61 m3 c y1 y2) (jb (y2 < 0) (mo_base_61 m3 c y1 y2) (jb (y2 ≤ 255) (mo_base_67 m3 c y1 y2) (mo_base_61 m3 c y1 y2))))))) (fun m => Ch SF0 SC m3 m) := fun he => by
    have R : Tr (mo_base_67 m3 c y1 y2) (fun m => Ch SF0 SC m3 m) := Tr_jbf he (Tr_some Ch_refl)
    have R2 : Tr (mo_base_61 m3 c y1 y2) (fun m => Ch SF0 SC m3 m) := Tr_jce (fail_skip he) R
    exact Tr_jb (fun _ => R2) (fun _ => Tr_jb (fun _ => R2) (fun _ => Tr_jb (fun _ => R2) (fun _ => Tr_jb (fun _ => R2) (fun _ => Tr_jb (fun _ => R2) (fun _ => Tr_jb (fun _ => R) (fun _ => R2))))))
  have E0 : Tr (mo_base_61 m3 c y1 y2) (fun m => XE n u h cs0 ms0 (er 6, cs2) m) := Tr_jc (XE_err f1 (e := 6) (by decide) (by decide)) (fun m ⟨m1, m2, k3⟩ => Tr_jbf k3 (Tr_some m1))
  have hv : cs2.1 1 6 = 0 → w = v ∧ y1 = x1 ∧ y2 = x2 := fun hf => ⟨b5 (d0 (f0 hf)), d4 (f0 hf), f4 hf⟩
  have hz : cs2.1 1 6 = 0 → y = z := fun hf => by
    have e := (hv hf).1
    subst e
    exact b2.2.symm.trans a1.2
  have E9 : TA 900 13000 (tx_base_69 cs2) (fun r => r = (er 6, cs2)) := TA_vl rfl
  have nb1 : ¬ 0 ≤ Op.cmpValue (FP.dcmp v (4845873199050653696 : UInt64)) .l := fun q => by
    have := (cv_ge a1 DV_2p53).mp q
    omega
  have nb2 : ¬ 0 ≤ Op.cmpValue (FP.dcmp c (4845873199050653696 : UInt64)) .l := fun q => by
    have := (cv_ge c1 DV_2p53).mp q
    have w1 := Int.mul_le_mul_of_nonneg_right c3 (show (0 : Int) ≤ UU by omega)
    omega
  have hlt0 : (Op.cmpValue (FP.dcmp c FP.dconst0) .g < 0) ↔ y ≤ -UU := by
    rw [cv_lt c1 (show DV FP.dconst0 0 from DV_0), ← tdiv_neg_iff]
    refine ⟨fun q => Int.not_le.mp fun k => ?_, fun q => ?_⟩
    · have := Int.mul_nonneg k (show 0 ≤ UU by omega)
      omega
    · exact Int.mul_neg_of_neg_of_pos q hU
  have hle1 : (Op.cmpValue (FP.dcmp v (13830554455654793216 : UInt64)) .g ≤ 0) ↔ z ≤ -UU := cv_le a1 DV_m1
  by_cases g1 : z ≤ -UU
  · exact Sm_fin f1 (V := er 6) (TA_jbt (hle1.mpr g1) E9) Y0 (fun hf he => Tr_jbt (hlt0.mpr (by rw [hz hf]; exact g1)) E0)
  have n1 := fun q => g1 (hle1.mp q)
  have n2 : cs2.1 1 6 = 0 → ¬ Op.cmpValue (FP.dcmp c FP.dconst0) .g < 0 := fun hf q => g1 (by rw [← hz hf]; exact hlt0.mp q)
  by_cases g2 : x1 < 2
  · exact Sm_fin f1 (V := er 6) (TA_jbf n1 (TA_jbf nb1 (TA_jbt g2 E9))) Y0 (fun hf he => Tr_jbf (n2 hf) (Tr_jbf nb2 (Tr_jbt (by rw [(hv hf).2.1]; exact g2) E0)))
  by_cases g3 : 36 < x1
  · exact Sm_fin f1 (V := er 6) (TA_jbf n1 (TA_jbf nb1 (TA_jbf g2 (TA_jbt g3 E9)))) Y0 (fun hf he => Tr_jbf (n2 hf) (Tr_jbf nb2 (Tr_jbf (by rw [(hv hf).2.1]; exact g2) (Tr_jbt (by rw [(hv hf).2.1]; exact g3) E0))))
  by_cases g4 : x2 < 0
  · exact Sm_fin f1 (V := er 6) (TA_jbf n1 (TA_jbf nb1 (TA_jbf g2 (TA_jbf g3 (TA_jbt g4 E9))))) Y0 (fun hf he => Tr_jbf (n2 hf) (Tr_jbf nb2 (Tr_jbf (by rw [(hv hf).2.1]; exact g2) (Tr_jbf (by rw [(hv hf).2.1]; exact g3) (Tr_jbt (by rw [(hv hf).2.2]; exact g4) E0)))))
  by_cases g5 : x2 ≤ 255
  · have hx0 : ¬ x1 < 0 := fun z => g2 (Int32.lt_trans z (by decide))
    obtain ⟨k, k1, rfl⟩ := iB_low d2 hx0
    have hk2 : 2 ≤ k := Nat.le_of_not_lt fun z => g2 (nI_lt (b := 2) z (by decide))
    have hk36 : k ≤ 36 := Nat.le_of_not_lt fun z => g3 (nI_lt (a := 36) z (by omega))
    obtain ⟨l, l1, rfl⟩ := iB_low f2 g4
    have hl : l ≤ 255 := (nI_leI (a := l) (b := 255) (by omega) (by decide)).mp g5
    -- the number without what is behind its point
    have ht0 : 0 ≤ Int.tdiv z UU := Int.not_lt.mp fun q => g1 (tdiv_neg_iff.mp q)
    obtain ⟨t1, t2⟩ := tdiv_bound a2 a3
    obtain ⟨x, hx⟩ : ∃ x : Nat, Int.tdiv z UU = (x : Int) := ⟨(Int.tdiv z UU).toNat, by omega⟩
    have hx31 : x < 2 ^ 31 := by omega
    have hxl : FP.d2l v = lN x := lN_inj (by rw [d2l_DV a1 (by omega) (by omega), hx]) (by omega)
    obtain ⟨c0, hc0, hup, hlo⟩ := n_count hk2 31 x (Nat.lt_of_lt_of_le hx31 (Nat.pow_le_pow_left hk2 31))
    have hlow := n_low (x := x) (c := c0) hk2 hlo
    have hXl : cs2.1 1 6 = 0 → FP.d2l c = lN x := fun hf => lN_inj (by rw [d2l_DV c1 (by rw [tdiv_mul]; omega) (by rw [tdiv_mul]; omega), tdiv_mul, hz hf, hx]) (by omega)
    -- how many digits
    obtain ⟨b, hb, hbx, hb0⟩ : ∃ b : Nat, b ≤ 1 ∧ (b = 1 ↔ x = 0) ∧ (x = 0 → c0 = 0) := by
      have hc00 : x = 0 → c0 = 0 := fun e => by
        refine Nat.eq_zero_of_not_pos fun q => ?_
        have := hlow 0 q
        rw [e, Nat.zero_div] at this
        omega
      by_cases e : x = 0
      · exact ⟨1, Nat.le_refl _, ⟨fun _ => e, fun _ => rfl⟩, hc00⟩
      · exact ⟨0, Nat.zero_le _, ⟨fun q => by omega, fun q => absurd q e⟩, hc00⟩
    have hw1 : 1 ≤ b + c0 := by
      by_cases e : x = 0
      · have := hbx.mpr e; omega
      · have : ¬ c0 = 0 := fun q => by rw [q, Nat.pow_zero] at hup; omega
        omega
    have hgz : ∀ i, b + c0 ≤ i → gb k x i = 48 := fun i hi => by
      unfold gb
      rw [Nat.div_eq_of_lt (Nat.lt_of_lt_of_le hup (Nat.pow_le_pow_right (by omega) (show c0 ≤ i by omega))), Nat.zero_mod]
      rfl
    have hD : dl (gb k x) (max (max l 1) c0) = rp [48] (l - (b + c0)) ++ dl (gb k x) (b + c0) := by
      rw [← dl_zero (l - (b + c0)) (fun i h1 _ => hgz i h1)]
      congr 1
      by_cases e : x = 0
      · have := hbx.mpr e; have := hb0 e; omega
      · have : ¬ b = 1 := fun q => e (hbx.mp q)
        omega
    have hDlen : max (max l 1) c0 ≤ 255 := by omega
    have hmax : f_ma_max (nI l) 1 = some (nI (max l 1)) := by
      by_cases q : l < 1
      · rw [Nat.max_eq_right (by omega)]
        exact e_bt (nI_lt (b := 1) q (by decide)) rfl
      · rw [Nat.max_eq_left (by omega)]
        exact e_bf (nI_nlt (a := l) (b := 1) (by omega) (by omega)) rfl
    have CC := baseC (cs := cs2) (d := max l 1) (D := max (max l 1) c0) hk2 hk36 hx31 hDlen (Nat.le_max_left _ _) (Nat.lt_of_lt_of_le hup (Nat.pow_le_pow_right (by omega) (Nat.le_max_right _ _))) (fun i hi => by
      by_cases q : i < max l 1
      · exact Or.inl q
      · exact Or.inr (hlow i (by omega))) (max (max l 1) c0) 0 16 FU (by omega) (FU_lt (by omega)) (by decide) (by decide)
    rw [Nat.pow_zero, Nat.div_one] at CC
    refine Sm_fin f1 (V := tv (dl (gb k x) (max (max l 1) c0))) (TA_jbf n1 (TA_jbf nb1 (TA_jbf g2 (TA_jbf g3 (TA_jbf g4 (TA_jbt g5 ?_)))))) Y0 (fun hf he => ?_)
    · refine TA_mono (TA_ja (k := 2) (n := 20) (c := 33) (s := 1250) (TA_jn ?_)) (by decide) (by decide) (fun _ z => z)
      rw [hxl]
      exact TA_jce hmax CC
    · obtain ⟨-, e1, e2⟩ := hv hf
      rw [e1, e2]
      refine Tr_jbf (n2 hf) (Tr_jbf nb2 (Tr_jbf g2 (Tr_jbf g3 (Tr_jbf g4 (Tr_jbt g5 (Tr_jbt he (Tr_jn ?_)))))))
      rw [hXl hf]
      have fin : Tr (mo_base_97 FU m3 (nI k) (nI l) (lN x) (nI b) (lN x)) (fun m => XE n u h cs0 ms0 (tv (dl (gb k x) (max (max l 1) c0)), cs2) m) := by
        have e97 := bs97 hk2 hk36 hx31 hc0 hup hlow (M := m3) (l := nI l) hb c0 0 FU (by omega) (FU_lt (by omega))
        rw [Nat.pow_zero, Nat.div_one, Nat.add_zero] at e97
        rw [e97]
        refine bs121 hk2 hk36 hx31 hl (show b + c0 ≤ 100 by omega) (l - (b + c0)) (b + c0) FU [] m3 (by omega) (FU_lt (by omega)) hM3 (fun M' q1 q2 => ?_)
        rw [List.nil_append, ← hD] at q1
        exact tv_m (CI_ref f1 q2 (by decide) (by decide) (by decide)) q1 (dl_lt (fun i => gb_lt hk2 hk36) _) (by rw [dl_len]; omega)
      by_cases e : x = 0
      · refine Tr_jbt ((lc_eq (b := 0) (by omega) (by decide)).mpr e) ?_
        rw [hbx.mpr e] at fin
        exact fin
      · refine Tr_jbf (fun q => e ((lc_eq (b := 0) (by omega) (by decide)).mp q)) ?_
        have hb00 : b = 0 := by
          have : ¬ b = 1 := fun q => e (hbx.mp q)
          omega
        rw [hb00] at fin
        exact fin
  · exact Sm_fin f1 (V := er 6) (TA_jbf n1 (TA_jbf nb1 (TA_jbf g2 (TA_jbf g3 (TA_jbf g4 (TA_jbf g5 E9)))))) Y0 (fun hf he => Tr_jbf (n2 hf) (Tr_jbf nb2 (Tr_jbf (by rw [(hv hf).2.1]; exact g2) (Tr_jbf (by rw [(hv hf).2.1]; exact g3) (Tr_jbf (by rw [(hv hf).2.2]; exact g4) (Tr_jbf (by rw [(hv hf).2.2]; exact g5) E0))))))
