/-! ### INDEX and TRANSPOSE -/
/-- the class has written its answer, the reference is to keep its own -/
def RX (tp h : Nat) (c : CS) (m : GS) : Prop := ∃ v, wf_call_166 c = some (v, 0, 0) ∧ Tr (mo_call_131 m) (fun b => QQ tp h v b)
theorem RX_one {tp n u h : Nat} {cs0 ca c : CS} {ms0 m : GS} {V : VV} (hs : St tp cs0 ms0) (hA : Rargs n u h ca m) (hf : Cf cs0 ca) (hm : Ch SF SC ms0 m) (hF : Fq V m) (hc : Ca ca c) (d1 : c.1 2 1 = 1) (d2 : c.1 2 2 = 1) (d3 : c.2 2 3 = V) (d4 : c.2 42 0 = V) : RX tp h c m := by
  refine ⟨_, c166_one d1 d2, ?_⟩
  rw [d3]
  exact tail_one hs hA hf hm hF hc d1 d2 d3 d4
theorem KF_R {n u h : Nat} {cs : CS} {a b : GS} (hR : Rargs n u h cs a) (hF : KF a b) : Rargs n u h cs b := by
  have e : ∀ i, i < 19 → b.1 i = a.1 i := fun i hi => hF.1 i (by omega) (by omega) (by omega)
  have e0 := e 0 (by decide)
  exact Rargs_mv hR rfl rfl (fun _ _ _ => rfl) rfl rfl (by rw [e0]) (by rw [e0]) (by rw [e0]) (e 3 (by decide)) (e 4 (by decide)) (e 5 (by decide)) (e 6 (by decide)) (e 7 (by decide)) (e 8 (by decide)) (e 9 (by decide)) (e 10 (by decide)) (e 11 (by decide)) (hF.2 12 (by decide))
theorem KS_0 {n u h H W t l : Nat} {cs : CS} {a : GS} (hA : Rargs n u h cs a) (hn : 0 < n) (h41 : a.1 0 41 = 0) (h36 : a.1 0 36 = 0) (h37 : a.1 0 37 = nI t) (h38 : a.1 0 38 = nI l) (hH : t + H ≤ one1 (aR cs 0)) (hW : l + W ≤ one1 (aC cs 0)) : KS a cs (fun x y => (t + x) * one1 (aC cs 0) + (l + y)) H W := by
  intro K st x y i hF hx hy
  have e0 : st.1 0 = a.1 0 := hF.1 0 (by decide) (by decide) (by decide)
  have k41 : st.1 0 41 = 0 := by rw [e0]; exact h41
  refine e_bt k41 (e_bt k41 (e_c (a := nI (ap cs 0 ((t + x) * one1 (aC cs 0) + (l + y)))) ?_ rfl))
  rw [e0, h36, h37, h38, nI_add, nI_add]
  exact valueAt_m (KF_R hA hF) hn (by omega) (by omega)
theorem KS_1 {n u h : Nat} {cs : CS} {a : GS} (hA : Rargs n u h cs a) (hn : 0 < n) (h41 : ¬ a.1 0 41 = 0) (h36 : a.1 0 36 = 0) (h37 : a.1 0 37 = 0) (h38 : a.1 0 38 = 0) : KS a cs (fun x y => y * one1 (aC cs 0) + x) (one1 (aC cs 0)) (one1 (aR cs 0)) := by
  intro K st x y i hF hx hy
  have e0 : st.1 0 = a.1 0 := hF.1 0 (by decide) (by decide) (by decide)
  have k41 : ¬ st.1 0 41 = 0 := by rw [e0]; exact h41
  refine e_bf k41 (e_bf k41 (e_c (a := nI (ap cs 0 (y * one1 (aC cs 0) + x))) ?_ rfl))
  have ez : (0 : Int32) = nI 0 := rfl
  rw [e0, h36, h37, h38, ez, nI_add, nI_add, Nat.zero_add, Nat.zero_add]
  exact valueAt_m (KF_R hA hF) hn hy hx
def aP (st : GS) (p1 p2 p3 p4 p5 : Int32) : GS := uI (uI (uI (uI (uI (uI st 0 36 0) 0 37 p1) 0 38 p2) 0 39 p3) 0 40 p4) 0 41 p5
theorem aP_Ch {st ms0 : GS} {p1 p2 p3 p4 p5 : Int32} (h : Ch SF SC ms0 st) : Ch SP SC ms0 (aP st p1 p2 p3 p4 p5) :=
  Ch_f (Ch_f (Ch_f (Ch_f (Ch_f (Ch_f (Ch_mono h (fun x hx => List.mem_append_right _ hx) (fun _ z => z)) (by decide)) (by decide)) (by decide)) (by decide)) (by decide)) (by decide)
theorem mul_one1 {a b : Nat} (ha : 0 < a) (hb : 0 < b) : a * b = 1 ↔ a = 1 ∧ b = 1 := by
  constructor
  · intro h
    have h1 := Nat.le_mul_of_pos_right a hb
    have h2 := Nat.le_mul_of_pos_left b ha
    omega
  · rintro ⟨rfl, rfl⟩; rfl
/-- INDEX's part -/
theorem part_0 {tp n u h H W t l : Nat} {cs0 ca c : CS} {ms0 ma : GS} (hs : St tp cs0 ms0) (I : CI n u h cs0 ms0 ca ma) (hn : 0 < n) (h22 : ma.1 0 22 = 0) (hH0 : 0 < H) (hW0 : 0 < W) (hH : t + H ≤ one1 (aR ca 0)) (hW : l + W ≤ one1 (aC ca 0)) (hI : AI ca c H W (PO ca (fun x y => (t + x) * one1 (aC ca 0) + (l + y)) W) (H * W)) (ht : c.2 2 3 = PO ca (fun x y => (t + x) * one1 (aC ca 0) + (l + y)) W 0) : Tr (f_mo_answerPart ma 0 (nI t) (nI l) (nI H) (nI W) 0) (fun m => RX tp h c m) := by
  obtain ⟨r1, r2, r3, r4, r5⟩ := one_le I.1 hn
  have hp : ∀ x y, x < H → y < W → (t + x) * one1 (aC ca 0) + (l + y) < one1 (aR ca 0) * one1 (aC ca 0) := fun x y hx hy => row_lt (by omega) (by omega)
  have hHW : H * W ≤ 512 := Nat.le_trans (Nat.mul_le_mul (by omega : H ≤ one1 (aR ca 0)) (by omega : W ≤ one1 (aC ca 0))) r5
  have hm : nI H * nI W = nI (H * W) := nI_mul H W
  by_cases h1 : H = 1 ∧ W = 1
  · obtain ⟨rfl, rfl⟩ := h1
    have hp0 := hp 0 0 (by decide) (by decide)
    rw [Nat.add_zero, Nat.add_zero] at hp0
    refine Tr_jbt (by decide) (Tr_jce (valueAt_m I.1 hn (show t < _ by omega) (show l < _ by omega)) ?_)
    refine Tr_jc (ansV_m I hn hp0) (fun m ⟨k1, k2, k3⟩ => Tr_some ?_)
    have e22 : m.1 0 22 = 0 := (k3.1 22 (by decide)).trans h22
    have hP : PO ca (fun x y => (t + x) * one1 (aC ca 0) + (l + y)) 1 0 = av ca 0 (t * one1 (aC ca 0) + l) := rfl
    rw [hP] at ht
    refine RX_one (V := av ca 0 (t * one1 (aC ca 0) + l)) hs k1.1 k1.2.2.1 k1.2.2.2.1 (Or.inl ⟨e22, k2⟩) hI.1 hI.2.1 hI.2.2.1 ht ?_
    exact (hI.2.2.2 0 (by decide)).trans hP
  · have hne : ¬ H * W = 1 := fun z => h1 ((mul_one1 hH0 hW0).mp z)
    have hne2 : ¬ (c.1 2 1 = 1 ∧ c.1 2 2 = 1) := by
      rw [hI.2.1, hI.2.2.1]
      rintro ⟨z1, z2⟩
      exact h1 ⟨(nI_eq (a := H) (b := 1) (by omega) (by decide)).mp z1, (nI_eq (a := W) (b := 1) (by omega) (by decide)).mp z2⟩
    refine Tr_jbf (by rw [hm]; exact fun z => hne ((nI_eq (a := H * W) (b := 1) (by omega) (by decide)).mp z)) (Tr_jn (Tr_jn (Tr_jn (Tr_jn (Tr_jn (Tr_jg (by decide) (Tr_jn (Tr_some ?_))))))))
    refine ⟨_, c166_many hne2, ?_⟩
    exact tail_part (m := aP ma (nI t) (nI l) (nI H) (nI W) 0) hs I.1 hn I.2.2.2.2 I.2.2.1 (aP_Ch I.2.2.2.1) h22 rfl hH0 hW0 (by omega) (by omega) hHW (Or.inl ⟨rfl, rfl, rfl⟩) (KS_0 (n := n) (u := u) (h := h) I.1 hn rfl rfl rfl rfl hH hW) hp hI ht
/-- TRANSPOSE -/
theorem x_transpose {tp n u h : Nat} {cs0 cs : CS} {ms0 ms : GS} (hs : St tp cs0 ms0) (I : CI n u h cs0 ms0 cs ms) (hn : 0 < n) (h22 : ms.1 0 22 = 0) : Tr (f_an_transpose cs) (fun c => Tr (f_mo_lookUps ms 100) (fun m => RX tp h c m)) := by
  obtain ⟨c, ec, hI, ht⟩ := trans_c I.1 hn
  refine ⟨c, ec, ?_⟩
  obtain ⟨r1, r2, r3, r4, r5⟩ := one_le I.1 hn
  have hm : nI (one1 (aR cs 0)) * nI (one1 (aC cs 0)) = nI (one1 (aR cs 0) * one1 (aC cs 0)) := nI_mul _ _
  refine Tr_jbf (by decide) (Tr_jbf (by decide) (Tr_jbf (by decide) (Tr_jbf (by decide) (Tr_jbf (by decide) (Tr_jbf (by decide) (Tr_jbf (by decide) (Tr_jbf (by decide) (Tr_jbf (by decide) (Tr_jbf (by decide) (Tr_jce (rows_m I.1 hn) (Tr_jce (cols_m I.1 hn) ?_)))))))))))
  by_cases h1 : one1 (aR cs 0) = 1 ∧ one1 (aC cs 0) = 1
  · obtain ⟨e1, e2⟩ := h1
    have hp0 : 0 < one1 (aR cs 0) * one1 (aC cs 0) := Nat.mul_pos r1 r3
    have hv := valueAt_m I.1 hn (r := 0) (c := 0) r1 r3
    rw [Nat.zero_mul, Nat.add_zero] at hv
    refine Tr_jc (P := fun m => RX tp h c m) (Tr_jbt (by rw [hm, e1, e2]; decide) (Tr_jce hv ?_)) (fun m k => Tr_some k)
    refine Tr_jc (ansV_m I hn hp0) (fun m ⟨k1, k2, k3⟩ => Tr_some ?_)
    have e22 : m.1 0 22 = 0 := (k3.1 22 (by decide)).trans h22
    have hP : PO cs (fun x y => y * one1 (aC cs 0) + x) (one1 (aR cs 0)) 0 = av cs 0 0 := by
      unfold PO
      rw [Nat.zero_div, Nat.zero_mod]
      show av cs 0 (0 * one1 (aC cs 0) + 0) = _
      rw [Nat.zero_mul]
    rw [hP] at ht
    refine RX_one (V := av cs 0 0) hs k1.1 k1.2.2.1 k1.2.2.2.1 (Or.inl ⟨e22, k2⟩) hI.1 ?_ ?_ ht ?_
    · rw [hI.2.1, e2]; rfl
    · rw [hI.2.2.1, e1]; rfl
    · exact (hI.2.2.2 0 (by rw [e1, e2]; decide)).trans hP
  · have hne : ¬ one1 (aR cs 0) * one1 (aC cs 0) = 1 := fun z => h1 ((mul_one1 r1 r3).mp z)
    have hne2 : ¬ (c.1 2 1 = 1 ∧ c.1 2 2 = 1) := by
      rw [hI.2.1, hI.2.2.1]
      rintro ⟨z1, z2⟩
      exact h1 ⟨(nI_eq (a := one1 (aR cs 0)) (b := 1) (by omega) (by decide)).mp z2, (nI_eq (a := one1 (aC cs 0)) (b := 1) (by omega) (by decide)).mp z1⟩
    refine Tr_jc (P := fun m => RX tp h c m) (Tr_jbf (by rw [hm]; exact fun z => hne ((nI_eq (a := one1 (aR cs 0) * one1 (aC cs 0)) (b := 1) (by omega) (by decide)).mp z)) (Tr_jn (Tr_jn (Tr_jn (Tr_jn (Tr_jn (Tr_jg (by decide) (Tr_jn (Tr_some ?_))))))))) (fun m k => Tr_some k)
    refine ⟨_, c166_many hne2, ?_⟩
    exact tail_part (m := aP ms 0 0 (nI (one1 (aR cs 0))) (nI (one1 (aC cs 0))) 1) hs I.1 hn I.2.2.2.2 I.2.2.1 (aP_Ch I.2.2.2.1) h22 rfl r3 r1 r4 r2 (by rw [Nat.mul_comm]; exact r5) (Or.inr ⟨show ¬ (1 : Int32) = 0 by decide, rfl, rfl⟩) (KS_1 (n := n) (u := u) (h := h) I.1 hn (show ¬ (1 : Int32) = 0 by decide) rfl rfl rfl) (fun x y hx hy => row_lt hy hx) hI ht
/-- INDEX: the reference's checks -/
theorem idx_81 {m : GS} {x y : Int32} (h : ¬ m.1 0 22 = 0) : mo_index_81 m x y = some m := e_bf h rfl
theorem ne_nI {e : Nat} (h : 1 ≤ e) (h8 : e ≤ 8) : ¬ nI e = (0 : Int32) := fun z => by
  have := (nI_eq (a := e) (b := 0) (by omega) (by decide)).mp z
  omega
theorem idx_58 {n u h f : Nat} {ca : CS} {m : GS} {x y : Int32} (hA : Rargs n u h ca m) (hn : 0 < n) (hf : f ≤ 8) (h22 : m.1 0 22 = nI f) : ((nI (one1 (aR ca 0)) < x ∨ nI (one1 (aC ca 0)) < y) → Tr (mo_index_58 m x y) (fun r => r.1 0 22 = nI (if f = 0 then 4 else f) ∧ Ch [22] [] m r)) ∧ (¬ (nI (one1 (aR ca 0)) < x ∨ nI (one1 (aC ca 0)) < y) → mo_index_58 m x y = mo_index_81 m x y) := by
  have h76 : Tr (mo_index_76 m x y) (fun r => r.1 0 22 = nI (if f = 0 then 4 else f) ∧ Ch [22] [] m r) := by
    refine Tr_jc (failM hf h22 (e := 4) (by decide) (by decide)) (fun r ⟨r1, r2⟩ => ?_)
    rw [idx_81 (by rw [r1]; by_cases f0 : f = 0; · rw [if_pos f0]; decide
                   · rw [if_neg f0]; exact ne_nI (by omega) hf)]
    exact Tr_some ⟨r1, r2⟩
  constructor
  · intro hb
    refine Tr_jce (rows_m hA hn) (Tr_jb (fun _ => h76) (fun q => Tr_jce (cols_m hA hn) (Tr_jbf ?_ h76)))
    exact Int32.not_le.mpr (hb.resolve_left q)
  · intro hb
    exact e_c (rows_m hA hn) (e_bf (fun z => hb (Or.inl z)) (e_c (cols_m hA hn) (e_bt (Int32.not_lt.mp (fun z => hb (Or.inr z))) rfl)))
theorem idx_45 {n u h f : Nat} {ca : CS} {m : GS} {x y : Int32} (hA : Rargs n u h ca m) (hn : 0 < n) (hf : f ≤ 8) (h22 : m.1 0 22 = nI f) : (¬ f = 0 → Tr (mo_index_45 m x y) (fun r => r.1 0 22 = nI f ∧ Ch [22] [] m r)) ∧ (f = 0 → (x < 0 ∨ y < 0) → Tr (mo_index_45 m x y) (fun r => r.1 0 22 = nI 3 ∧ Ch [22] [] m r)) ∧ (f = 0 → ¬ (x < 0 ∨ y < 0) → (nI (one1 (aR ca 0)) < x ∨ nI (one1 (aC ca 0)) < y) → Tr (mo_index_45 m x y) (fun r => r.1 0 22 = nI 4 ∧ Ch [22] [] m r)) ∧ (f = 0 → ¬ (x < 0 ∨ y < 0) → ¬ (nI (one1 (aR ca 0)) < x ∨ nI (one1 (aC ca 0)) < y) → mo_index_45 m x y = mo_index_81 m x y) := by
  have any : ∀ {g : Nat} {m1 : GS}, 1 ≤ g → g ≤ 8 → m1.1 0 22 = nI g → Ch [22] [] m m1 → Tr (mo_index_58 m1 x y) (fun r => r.1 0 22 = nI g ∧ Ch [22] [] m r) := fun {g m1} g1 g8 e1 e2 => by
    have hA1 := Rargs_ch hA Cf_refl e2 (by decide) (by decide)
    obtain ⟨k1, k2⟩ := idx_58 (x := x) (y := y) hA1 hn g8 e1
    by_cases hb : nI (one1 (aR ca 0)) < x ∨ nI (one1 (aC ca 0)) < y
    · obtain ⟨r, er, r1, r2⟩ := k1 hb
      rw [if_neg (by omega)] at r1
      exact ⟨r, er, r1, Ch_trans e2 r2 (by decide) (by decide)⟩
    · rw [k2 hb, idx_81 (by rw [e1]; exact ne_nI g1 g8)]
      exact Tr_some ⟨e1, e2⟩
  have h53 : Tr (mo_index_53 m x y) (fun r => r.1 0 22 = nI (if f = 0 then 3 else f) ∧ Ch [22] [] m r) := by
    refine Tr_jc (failM hf h22 (e := 3) (by decide) (by decide)) (fun r ⟨r1, r2⟩ => any ?_ ?_ r1 r2)
    · split <;> omega
    · split <;> omega
  have neg : (x < 0 ∨ y < 0) → Tr (mo_index_45 m x y) (fun r => r.1 0 22 = nI (if f = 0 then 3 else f) ∧ Ch [22] [] m r) := fun hb => by
    refine Tr_jb (fun _ => h53) (fun q => Tr_jbf (Int32.not_le.mpr (hb.resolve_left q)) h53)
  have pos : ¬ (x < 0 ∨ y < 0) → mo_index_45 m x y = mo_index_58 m x y := fun hb => e_bf (fun z => hb (Or.inl z)) (e_bt (Int32.not_lt.mp (fun z => hb (Or.inr z))) rfl)
  refine ⟨fun f0 => ?_, fun f0 hb => ?_, fun f0 hb hc => ?_, fun f0 hb hc => ?_⟩
  · by_cases hb : x < 0 ∨ y < 0
    · have := neg hb
      rwa [if_neg f0] at this
    · rw [pos hb]
      exact any (by omega) hf h22 Ch_refl
  · have := neg hb
    rwa [if_pos f0] at this
  · rw [pos hb]
    have := (idx_58 (x := x) (y := y) hA hn hf h22).1 hc
    rwa [if_pos f0] at this
  · rw [pos hb]
    exact (idx_58 (x := x) (y := y) hA hn hf h22).2 hc
/-- a max of one less -/
theorem max_c {a : Nat} (ha : a ≤ 512) : f_ma_max (nI a - 1) 0 = some (nI (a - 1)) := by
  by_cases h0 : a = 0
  · subst h0; exact e_bt (by decide) rfl
  · rw [nI_pre (by omega)]
    exact e_bf (nI_pos (by omega)) rfl
theorem idx_part {tp n u h a b : Nat} {cs0 ca : CS} {ms0 ma : GS} (hs : St tp cs0 ms0) (I : CI n u h cs0 ms0 ca ma) (hn : 0 < n) (h22 : ma.1 0 22 = 0) (ha : a ≤ one1 (aR ca 0)) (hb : b ≤ one1 (aC ca 0)) : Tr (f_an_becomePart ca (nI (a - 1)) (nI (b - 1)) (nI (if a = 0 then one1 (aR ca 0) else 1)) (nI (if b = 0 then one1 (aC ca 0) else 1))) (fun c => Tr (mo_index_81 ma (nI a) (nI b)) (fun m => RX tp h c m)) := by
  obtain ⟨r1, r2, r3, r4, r5⟩ := one_le I.1 hn
  have hH : (a - 1) + (if a = 0 then one1 (aR ca 0) else 1) ≤ one1 (aR ca 0) := by split <;> omega
  have hW : (b - 1) + (if b = 0 then one1 (aC ca 0) else 1) ≤ one1 (aC ca 0) := by split <;> omega
  have hH0 : 0 < (if a = 0 then one1 (aR ca 0) else 1) := by split <;> omega
  have hW0 : 0 < (if b = 0 then one1 (aC ca 0) else 1) := by split <;> omega
  have hrow := rows_m I.1 hn
  have hcol := cols_m I.1 hn
  have e81 : mo_index_81 ma (nI a) (nI b) = mo_index_138 ma 0 (nI (a - 1)) (nI (b - 1)) (nI (if a = 0 then one1 (aR ca 0) else 1)) (nI (if b = 0 then one1 (aC ca 0) else 1)) := by
    refine e_bt h22 ?_
    have s2 : ∀ z2 z3 : Int32, mo_index_125 ma (nI b) 0 z2 z3 (nI (if a = 0 then one1 (aR ca 0) else 1)) = mo_index_138 ma 0 z2 z3 (nI (if a = 0 then one1 (aR ca 0) else 1)) (nI (if b = 0 then one1 (aC ca 0) else 1)) := fun z2 z3 => by
      by_cases b0 : b = 0
      · subst b0; exact e_bt rfl (e_c hcol rfl)
      · rw [if_neg b0]
        exact e_bf (fun z => b0 ((nI_eq (a := b) (b := 0) (by omega) (by decide)).mp z)) rfl
    have s1 : ∀ z2 z3 : Int32, mo_index_112 ma (nI a) (nI b) 0 z2 z3 = mo_index_125 ma (nI b) 0 z2 z3 (nI (if a = 0 then one1 (aR ca 0) else 1)) := fun z2 z3 => by
      by_cases a0 : a = 0
      · subst a0; exact e_bt rfl (e_c hrow rfl)
      · rw [if_neg a0]
        exact e_bf (fun z => a0 ((nI_eq (a := a) (b := 0) (by omega) (by decide)).mp z)) rfl
    have s0 : ∀ z2 : Int32, mo_index_101 ma (nI a) (nI b) 0 z2 = mo_index_112 ma (nI a) (nI b) 0 z2 (nI (b - 1)) := fun z2 => by
      by_cases b0 : b = 0
      · subst b0; exact e_bt rfl rfl
      · refine e_bf (fun z => b0 ((nI_eq (a := b) (b := 0) (by omega) (by decide)).mp z)) ?_
        rw [nI_pre (by omega)]
    by_cases a0 : a = 0
    · subst a0; exact e_bt rfl ((s0 _).trans ((s1 _ _).trans (s2 _ _)))
    · refine e_bf (fun z => a0 ((nI_eq (a := a) (b := 0) (by omega) (by decide)).mp z)) ?_
      rw [nI_pre (by omega)]
      exact (s0 _).trans ((s1 _ _).trans (s2 _ _))
  obtain ⟨c, ec, hI, ht⟩ := bpart_c (m := ma) I.1 hn (H := if a = 0 then one1 (aR ca 0) else 1) (W := if b = 0 then one1 (aC ca 0) else 1) (t := a - 1) (l := b - 1) (Nat.le_trans (Nat.mul_le_mul (by omega) (by omega)) r5) (by omega) (by omega) (by omega) (by omega) (Nat.mul_pos hH0 hW0)
  refine ⟨c, ec, ?_⟩
  rw [e81]
  exact Tr_jc (part_0 hs I hn h22 hH0 hW0 hH hW hI ht) (fun m k => Tr_some k)
