theorem appC16 {L : TT} {c : Nat} (hc : c < 256) (hL : L.length < 16) : f_sb_appC (L, 16) (nI c) = some ((L ++ [c], 16), 0, 0) := by
  refine e_g (inb_of hc (by decide)) ?_
  rw [nI_clamp (by omega)]
  refine e_g ?_ ?_
  · simp only [Bool.and_eq_true, decide_eq_true_eq, List.length_cons, List.length_nil]
    omega
  · have e1 : gcap 16 (L.length + 1) = 16 := by unfold gcap; rw [if_pos (by omega)]
    have e2 : gc 16 (L.length + 1) = 0 := by unfold gc; rw [if_pos (by omega)]
    have e3 : gs 16 (L.length + 1) = 0 := by unfold gs; rw [if_pos (by omega)]
    show some ((L ++ [c], gcap 16 (L.length + 1)), gc 16 (L.length + 1), gs 16 (L.length + 1)) = _
    rw [e1, e2, e3]
/-- digits of a number from the least, none of 0 -/
def rdg (q : Nat) : TT := if q = 0 then [] else (digs q).reverse
theorem rdg_pos {q : Nat} (h : 0 < q) : rdg q = (48 + q % 10) :: rdg (q / 10) := by
  unfold rdg
  rw [if_neg (by omega)]
  by_cases h10 : q < 10
  · rw [digs_lt h10, if_pos (by omega), Nat.mod_eq_of_lt h10]
    rfl
  · rw [digs_ge h10, if_neg (by omega), List.reverse_append]
    rfl
theorem cchar {q : Nat} (hq : q < 2 ^ 63) : (((48 + (lN q - lN q / (10 : Int64) * (10 : Int64)).toInt32).toUInt32 % 65536).toInt32) = nI (48 + q % 10) := by
  have e1 : (lN q - lN q / (10 : Int64) * (10 : Int64)) = lN (q % 10) := lN_mod (a := q) (b := 10) hq (by decide)
  rw [e1, lN_i]
  show ((nI 48 + nI (q % 10)).toUInt32 % 65536).toInt32 = _
  rw [nI_add, u16 (by omega)]
/-- the body of the digits' loop: one digit -/
theorem w148 {K : CS → Int64 → Int32 → Int32 → Int32 → BT → Option ((TT × CS) × Nat × Nat)} {st : CS} {q : Nat} {b d : Int32} {k : Nat} {L : TT} {r : Option ((TT × CS) × Nat × Nat)} (hq : q < 2 ^ 63) (hL : L.length < 16) (h : K st (lN (q / 10)) b d (nI (k + 1)) (L ++ [48 + q % 10], 16) = r) : ar_written_148 K st (lN q) b d (nI k) (L, 16) = r := by
  unfold ar_written_148
  rw [cchar hq]
  have e2 : lN q / (10 : Int64) = lN (q / 10) := lN_div (a := q) (b := 10) hq (by decide)
  rw [e2]
  have hc := appC16 (c := 48 + q % 10) (L := L) (by omega) hL
  show jd (f_sb_appC (L, 16) (nI (48 + q % 10))) _ = r
  unfold jd
  rw [hc]
  show ja 0 0 (K st (lN (q / 10)) b d (nI k + 1) (L ++ [48 + q % 10], 16)) = r
  rw [nI_1, h]
  unfold ja
  rcases r with _ | ⟨a, x, y⟩
  · rfl
  · show some (a, 0 + x, 0 + y) = _
    rw [Nat.zero_add, Nat.zero_add]
theorem w106_tail {st : CS} {b : Int32} {d : Nat} : ∀ (m q k fu : Nat) (L : TT), q < 10 ^ m → m < fu → d < k → k + m < 200 → L.length + m < 16 → q < 2 ^ 62 → ar_written_106 fu st (lN q) b (nI d) (nI k) (L, 16) = ar_written_179 st b (L ++ rdg q, 16) := by
  intro m
  induction m with
  | zero =>
    intro q k fu L hq hf hd hk hL h62
    obtain ⟨g, rfl⟩ : ∃ g, fu = g + 1 := ⟨fu - 1, by omega⟩
    obtain rfl : q = 0 := by simpa using hq
    refine e_bf (nI_ge (b := 255) (by omega) (by decide)) (e_bf (nI_ge (by omega) (by omega)) (e_bt ((lc_le (a := 0) (b := 0) (by decide) (by decide)).mpr (by decide)) ?_))
    show _ = ar_written_179 st b (L ++ rdg 0, 16)
    rw [show rdg 0 = [] from rfl, List.append_nil]
  | succ m ih =>
    intro q k fu L hq hf hd hk hL h62
    obtain ⟨g, rfl⟩ : ∃ g, fu = g + 1 := ⟨fu - 1, by omega⟩
    refine e_bf (nI_ge (b := 255) (by omega) (by decide)) (e_bf (nI_ge (by omega) (by omega)) ?_)
    by_cases h0 : q = 0
    · subst h0
      refine e_bt ((lc_le (a := 0) (b := 0) (by decide) (by decide)).mpr (by decide)) ?_
      rw [show rdg 0 = [] from rfl, List.append_nil]
    · refine e_bf (fun z => by have := (lc_le (a := q) (b := 0) (by omega) (by decide)).mp z; omega) ?_
      refine e_bf (fun z => by have := (nI_eq (by omega) (by omega)).mp z; omega) ?_
      refine w148 (by omega) (by omega) ?_
      rw [rdg_pos (by omega)]
      rw [ih (q / 10) (k + 1) g (L ++ [48 + q % 10]) ((Nat.div_lt_iff_lt_mul (by decide)).mpr (by rw [← Nat.pow_succ]; exact hq)) (by omega) (by omega) (by omega) (by rw [List.length_append]; show L.length + 1 + m < 16; omega) (by omega)]
      rw [List.append_assoc]
      rfl
/-- one step of the digits' loop at place k below d -/
theorem w106_low {st : CS} {b : Int32} {d q k fu : Nat} {L : TT} {r : Option ((TT × CS) × Nat × Nat)} (hk : k < d) (hd : d ≤ 3) (hL : L.length < 16) (hq : q < 2 ^ 62) (h : ar_written_106 fu st (lN (q / 10)) b (nI d) (nI (k + 1)) (L ++ [48 + q % 10], 16) = r) : ar_written_106 (fu + 1) st (lN q) b (nI d) (nI k) (L, 16) = r := by
  refine e_bf (nI_ge (b := 255) (by omega) (by decide)) (e_bt (nI_le (by omega) (by omega)) (e_bf (fun z => by have := (nI_eq (by omega) (by omega)).mp z; omega) ?_))
  exact w148 (by omega) hL h
/-- at place d: the point, if there is one, and a digit -/
theorem w106_at {st : CS} {b : Int32} {d q fu : Nat} {L : TT} {r : Option ((TT × CS) × Nat × Nat)} (hd : d ≤ 3) (hL : L.length + 2 < 16) (hq : q < 2 ^ 62) (h : ar_written_106 fu st (lN (q / 10)) b (nI d) (nI (d + 1)) (L ++ (if d = 0 then [] else [46]) ++ [48 + q % 10], 16) = r) : ar_written_106 (fu + 1) st (lN q) b (nI d) (nI d) (L, 16) = r := by
  refine e_bf (nI_ge (b := 255) (by omega) (by decide)) (e_bt (nI_le (by omega) (by omega)) (e_bt rfl ?_))
  by_cases h0 : d = 0
  · subst h0
    rw [if_pos rfl, List.append_nil] at h
    exact e_bt (by exact Int32.le_refl _) (w148 (by omega) (by omega) h)
  · rw [if_neg h0] at h
    refine e_bf (nI_nle (by omega) (by omega)) ?_
    have hc := appC16 (c := 46) (L := L) (by decide) (by omega)
    show jd (f_sb_appC (L, 16) (nI 46)) _ = r
    unfold jd
    rw [hc]
    show ja 0 0 (ar_written_148 (ar_written_106 fu) st (lN q) b (nI d) (nI d) (L ++ [46], 16)) = r
    rw [w148 (by omega) (by rw [List.length_append]; show L.length + 1 < 16; omega) h]
    unfold ja
    rcases r with _ | ⟨a, x, y⟩
    · rfl
    · show some (a, 0 + x, 0 + y) = _
      rw [Nat.zero_add, Nat.zero_add]
/-- the end of written -/
theorem w179 {st : CS} {neg : Bool} {L : TT} (hL : L.length < 15) : TA 2 20 (ar_written_179 st (if neg then 1 else 0) (L, 16)) (fun a => a = ((if neg then [45] else []) ++ L.reverse, st)) := by
  have fin : ∀ M : TT, M.length ≤ 16 → TA 2 20 (ar_written_192 st (M, 16)) (fun a => a = (M.reverse, st)) := fun M hM => by
    refine TA_jc (P := fun q => q = (M.reverse, 16)) ⟨_, rfl, rfl⟩ (fun q hq => ?_)
    subst hq
    refine TA_mono (TA_toS (x := (M.reverse, 16)) (n := 16) (c0 := 0) (s0 := 0) (by show M.reverse.length ≤ 16; rw [List.length_reverse]; exact hM) ?_) (by decide) (by decide) (fun _ z => z)
    exact TA_some (Nat.zero_le _) (Nat.zero_le _) rfl
  cases neg
  · refine TA_jbt rfl ?_
    exact fin L (by omega)
  · refine TA_jbf (by decide) ?_
    have hc := appC16 (c := 45) (L := L) (by decide) (by omega)
    refine TA_mono (TA_jde (c := 2) (s := 20) hc (TA_mono (fin (L ++ [45]) (by rw [List.length_append]; show L.length + 1 ≤ 16; omega)) (Nat.le_refl _) (Nat.le_refl _) (fun a ha => ?_))) (by decide) (by decide) (fun _ z => z)
    rw [ha, List.reverse_append]
    rfl
theorem rdg_rev {q : Nat} : ([48 + q % 10] ++ rdg (q / 10)).reverse = digs q := by
  by_cases h : 0 < q
  · rw [List.singleton_append, ← rdg_pos h]
    unfold rdg
    rw [if_neg (by omega), List.reverse_reverse]
  · obtain rfl : q = 0 := by omega
    rw [digs_lt (by decide)]
    rfl
/-- written, of thousandths -/
theorem w64 {st : CS} {neg : Bool} {N : Nat} (hN : N < 1000000000000) : TA 4 40 (ar_written_64 FU st (lN N) (if neg then 1 else 0) 3) (fun a => a = (wtxt neg N, st)) := by
  have e10 : ∀ q : Nat, q < 2 ^ 62 → lN q - lN q / (10 : Int64) * (10 : Int64) = lN (q % 10) := fun q hq => lN_mod (a := q) (b := 10) (by omega) (by decide)
  have d10 : ∀ q : Nat, q < 2 ^ 62 → lN q / (10 : Int64) = lN (q / 10) := fun q hq => lN_div (a := q) (b := 10) (by omega) (by decide)
  have z10 : ∀ q : Nat, q < 10 → ((lg_cmp (lN q) 0) = 0 ↔ q = 0) := fun q hq => lc_eq (a := q) (b := 0) (by omega) (by decide)
  -- what is left to do, with d digits behind the point
  have go : ∀ (d q : Nat) (L : TT), ar_written_106 FU st (lN q) (if neg then 1 else 0) (nI d) 0 (([] : TT), 16) = ar_written_179 st (if neg then 1 else 0) (L, 16) → L.length < 15 → (if neg then [45] else []) ++ L.reverse = wtxt neg N → TA 4 40 (ar_written_94 st (lN q) (if neg then 1 else 0) (nI d)) (fun a => a = (wtxt neg N, st)) := fun d q L h hL he => by
    refine TA_mono (TA_ja (k := 2) (n := 20) (c := 2) (s := 20) ?_) (by decide) (by decide) (fun _ z => z)
    rw [h]
    exact TA_mono (w179 hL) (by decide) (by decide) (fun a ha => by rw [ha, he])
  have hlen : ∀ m q : Nat, q < 10 ^ m → (rdg q).length ≤ m := by
    intro m
    induction m with
    | zero => intro q hq; obtain rfl : q = 0 := by simpa using hq
              exact Nat.le_refl _
    | succ m ih =>
      intro q hq
      by_cases h : 0 < q
      · rw [rdg_pos h]
        have := ih (q / 10) ((Nat.div_lt_iff_lt_mul (by decide)).mpr (by rw [← Nat.pow_succ]; exact hq))
        show _ + 1 ≤ _
        omega
      · obtain rfl : q = 0 := by omega
        exact Nat.zero_le _
  have tail : ∀ (d q g : Nat) (L : TT), d ≤ 3 → q < 10 ^ 9 → 20 ≤ g → L.length ≤ 3 → ar_written_106 (g + 1) st (lN q) (if neg then 1 else 0) (nI d) (nI d) (L, 16) = ar_written_179 st (if neg then 1 else 0) (L ++ (if d = 0 then [] else [46]) ++ [48 + q % 10] ++ rdg (q / 10), 16) := fun d q g L hd hq hg hL => by
    refine w106_at hd (by omega) (by omega) ?_
    exact w106_tail 8 (q / 10) (d + 1) g _ (by omega) (by omega) (by omega) (by omega) (by
      rw [List.length_append, List.length_append]
      show L.length + (if d = 0 then ([] : TT) else [46]).length + 1 + 8 < 16
      split
      · show L.length + 0 + 1 + 8 < 16; omega
      · show L.length + 1 + 1 + 8 < 16; omega) (by omega)
  have hq8 : ∀ q : Nat, q < 10 ^ 9 → (rdg (q / 10)).length ≤ 8 := fun q hq => hlen 8 _ (by omega)
  show TA 4 40 (ar_written_64 (19999999 + 1) st (lN N) (if neg then 1 else 0) (nI 3)) _
  refine TA_jbf (by decide) ?_
  rw [e10 N (by omega), d10 N (by omega)]
  by_cases h1 : N % 10 = 0
  · rw [h1]
    refine TA_jbt ((z10 0 (by decide)).mpr rfl) (TA_jn (TA_jn ?_))
    show TA 4 40 (ar_written_64 (19999998 + 1) st (lN (N / 10)) (if neg then 1 else 0) (nI 2)) _
    refine TA_jbf (by decide) ?_
    rw [e10 (N / 10) (by omega), d10 (N / 10) (by omega)]
    by_cases h2 : N / 10 % 10 = 0
    · rw [h2]
      refine TA_jbt ((z10 0 (by decide)).mpr rfl) (TA_jn (TA_jn ?_))
      show TA 4 40 (ar_written_64 (19999997 + 1) st (lN (N / 10 / 10)) (if neg then 1 else 0) (nI 1)) _
      refine TA_jbf (by decide) ?_
      rw [e10 (N / 10 / 10) (by omega), d10 (N / 10 / 10) (by omega)]
      by_cases h3 : N / 10 / 10 % 10 = 0
      · rw [h3]
        refine TA_jbt ((z10 0 (by decide)).mpr rfl) (TA_jn (TA_jn ?_))
        show TA 4 40 (ar_written_64 (19999996 + 1) st (lN (N / 10 / 10 / 10)) (if neg then 1 else 0) (nI 0)) _
        refine TA_jbt (by decide) ?_
        refine go 0 _ _ (tail 0 _ 19999999 [] (by decide) (by omega) (by decide) (by decide)) ?_ ?_
        · have := hq8 (N / 10 / 10 / 10) (by omega)
          rw [List.length_append, List.length_append, List.length_append, show (if (0 : Nat) = 0 then ([] : TT) else [46]) = [] from rfl]
          show 0 + 0 + 1 + _ < 15
          omega
        · refine congrArg (fun X : TT => (if neg then [45] else []) ++ X) ?_
          unfold frac
          rw [if_pos rfl, List.nil_append, List.nil_append, rdg_rev, if_pos (by omega), List.append_nil, show N / 10 / 10 / 10 = N / 1000 by omega]
      · refine TA_jbf (fun z => h3 ((z10 _ (by omega)).mp z)) ?_
        refine go 1 _ _ (w106_low (d := 1) (k := 0) (fu := 19999999) (by decide) (by decide) (by decide) (by omega) (tail 1 _ 19999998 _ (by decide) (by omega) (by decide) (by simp))) ?_ ?_
        · have := hq8 (N / 10 / 10 / 10) (by omega)
          simp
          omega
        · refine congrArg (fun X : TT => (if neg then [45] else []) ++ X) ?_
          unfold frac
          rw [if_neg (show ¬ (1 : Nat) = 0 by decide), List.append_assoc, List.reverse_append, rdg_rev, if_neg (by omega), if_pos (by omega), show N / 10 / 10 / 10 = N / 1000 by omega, show N / 10 / 10 % 10 = N % 1000 / 100 by omega]
          rfl
    · refine TA_jbf (fun z => h2 ((z10 _ (by omega)).mp z)) ?_
      refine go 2 _ _ (w106_low (d := 2) (k := 0) (fu := 19999999) (by decide) (by decide) (by decide) (by omega) (w106_low (d := 2) (k := 1) (fu := 19999998) (by decide) (by decide) (by simp) (by omega) (tail 2 _ 19999997 _ (by decide) (by omega) (by decide) (by simp)))) ?_ ?_
      · have := hq8 (N / 10 / 10 / 10) (by omega)
        simp
        omega
      · refine congrArg (fun X : TT => (if neg then [45] else []) ++ X) ?_
        unfold frac
        rw [if_neg (show ¬ (2 : Nat) = 0 by decide), List.append_assoc, List.reverse_append, rdg_rev, if_neg (by omega), if_neg (by omega), if_pos (by omega), show N / 10 / 10 / 10 = N / 1000 by omega, show N / 10 / 10 % 10 = N % 1000 / 100 by omega, show N / 10 % 10 = N % 1000 % 100 / 10 by omega]
        rfl
  · refine TA_jbf (fun z => h1 ((z10 _ (by omega)).mp z)) ?_
    refine go 3 _ _ (w106_low (d := 3) (k := 0) (fu := 19999999) (by decide) (by decide) (by decide) (by omega) (w106_low (d := 3) (k := 1) (fu := 19999998) (by decide) (by decide) (by simp) (by omega) (w106_low (d := 3) (k := 2) (fu := 19999997) (by decide) (by decide) (by simp) (by omega) (tail 3 _ 19999996 _ (by decide) (by omega) (by decide) (by simp))))) ?_ ?_
    · have := hq8 (N / 10 / 10 / 10) (by omega)
      simp
      omega
    · refine congrArg (fun X : TT => (if neg then [45] else []) ++ X) ?_
      unfold frac
      rw [if_neg (show ¬ (3 : Nat) = 0 by decide), List.append_assoc, List.reverse_append, rdg_rev, if_neg (by omega), if_neg (by omega), if_neg (by omega), show N / 10 / 10 / 10 = N / 1000 by omega, show N / 10 / 10 % 10 = N % 1000 / 100 by omega, show N / 10 % 10 = N % 1000 % 100 / 10 by omega, show N % 10 = N % 1000 % 10 by omega]
      rfl
