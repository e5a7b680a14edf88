theorem nIe {x : Int32} {b : Nat} (h : x.toBitVec.toNat = b) (hb : b < 2 ^ 31) : x = nI b := by
  apply Int32.toInt_inj.mp
  rw [nI_toInt hb, ← Int32.toInt_toBitVec, BitVec.toInt_eq_toNat_cond, h]
  rw [if_pos (by omega)]
theorem bv_sh (x : BitVec 32) (n : Nat) (h : n ≤ 24) : x.sshiftRight n &&& 255#32 = x >>> n &&& 255#32 := by
  apply BitVec.eq_of_getLsbD_eq
  intro i hi
  simp only [BitVec.getLsbD_and, BitVec.getLsbD_sshiftRight, BitVec.getLsbD_ushiftRight]
  by_cases h8 : i < 8
  · rw [if_pos (by omega)]
    simp [show ¬ 32 ≤ i by omega]
  · have e : (255#32).getLsbD i = false := by
      simp only [BitVec.getLsbD_ofNat]
      rw [Nat.testBit_lt_two_pow (Nat.lt_of_lt_of_le (show 255 < 2 ^ 8 by decide) (Nat.pow_le_pow_right (by decide) (by omega)))]
      simp
    rw [e, Bool.and_false, Bool.and_false]
theorem bv_255 (y : BitVec 32) : (y &&& 255#32).toNat = y.toNat % 256 := by
  rw [BitVec.toNat_and]
  exact Nat.and_two_pow_sub_one_eq_mod y.toNat 8
/-- a byte of a word, as the reference and as the class take it -/
theorem byte_eq (x s : Int32) (hs : s = 24 ∨ s = 16 ∨ s = 8 ∨ s = 0) : ∃ b : Nat, b < 256 ∧ (x >>> (s &&& 31)) &&& 255 = nI b ∧ ((((x.toUInt32 >>> (s.toUInt32 &&& Int32.toUInt32 31)).toInt32 &&& 255).toUInt32 % 65536).toInt32) = nI b := by
  have key : ∀ n : Nat, n ≤ 24 → ∀ s : Int32, (s &&& 31).toBitVec.smod 32 = BitVec.ofNat 32 n → (s.toUInt32 &&& Int32.toUInt32 31).toNat % 32 = n → ∃ b : Nat, b < 256 ∧ (x >>> (s &&& 31)) &&& 255 = nI b ∧ ((((x.toUInt32 >>> (s.toUInt32 &&& Int32.toUInt32 31)).toInt32 &&& 255).toUInt32 % 65536).toInt32) = nI b := by
    intro n hn s h1 h2
    refine ⟨(x.toBitVec >>> n).toNat % 256, Nat.mod_lt _ (by decide), nIe ?_ (by omega), ?_⟩
    · rw [Int32.toBitVec_and, Int32.toBitVec_shiftRight, h1]
      show ((x.toBitVec.sshiftRight (BitVec.ofNat 32 n).toNat) &&& 255#32).toNat = _
      rw [BitVec.toNat_ofNat, Nat.mod_eq_of_lt (by omega), bv_sh _ _ hn, bv_255]
    · have e : ((x.toUInt32 >>> (s.toUInt32 &&& Int32.toUInt32 31)).toInt32 &&& 255) = nI ((x.toBitVec >>> n).toNat % 256) := by
        refine nIe ?_ (by omega)
        rw [Int32.toBitVec_and]
        show ((x.toUInt32 >>> (s.toUInt32 &&& Int32.toUInt32 31)).toBitVec &&& 255#32).toNat = _
        rw [bv_255]
        congr 1
        show (x.toUInt32 >>> (s.toUInt32 &&& Int32.toUInt32 31)).toNat = _
        rw [UInt32.toNat_shiftRight, h2, BitVec.toNat_ushiftRight]
        rfl
      rw [e]
      refine nIe ?_ (by omega)
      show ((nI ((x.toBitVec >>> n).toNat % 256)).toUInt32 % 65536).toNat = _
      have e2 : (nI ((x.toBitVec >>> n).toNat % 256)).toUInt32.toNat = (x.toBitVec >>> n).toNat % 256 := by
        show (BitVec.ofNat 32 _).toNat = _
        rw [BitVec.toNat_ofNat]
        omega
      rw [UInt32.toNat_mod, e2]
      show _ % 65536 = _
      omega
  rcases hs with rfl | rfl | rfl | rfl
  · exact key 24 (by decide) 24 (by decide) (by decide)
  · exact key 16 (by decide) 16 (by decide) (by decide)
  · exact key 8 (by decide) 8 (by decide) (by decide)
  · exact key 0 (by decide) 0 (by decide) (by decide)
def TQ (cs0 : CS) (ms0 : GS) (t : Nat) (cs : CS) (ms : GS) : Prop := cs.1 0 1 = nI t ∧ ms.1 0 1 = nI t ∧ (∀ j, j < t → ∃ b : Nat, b < 256 ∧ cs.1 39 j = nI b ∧ ms.1 1 j = nI b) ∧ cs.2 = cs0.2 ∧ (∀ i k, ¬ (i = 0 ∧ k = 1) → i ≠ 39 → cs.1 i k = cs0.1 i k) ∧ ms.2 = ms0.2 ∧ ∀ i k, ¬ (i = 0 ∧ k = 1) → i ≠ 1 → ms.1 i k = ms0.1 i k
theorem lay_step {cs0 cs : CS} {ms0 ms : GS} {t f g : Nat} (x s : Int32) (hs : s = 24 ∨ s = 16 ∨ s = 8 ∨ s = 0) (h : TQ cs0 ms0 t cs ms) (ht : t < 260) : ∃ cs1 ms1, wf_lay_3 (f + 1) cs x s = wf_lay_3 f cs1 x (s + -8) ∧ mo_putFour_3 (g + 1) ms x s = mo_putFour_3 g ms1 x (s + -8) ∧ TQ cs0 ms0 (t + 1) cs1 ms1 := by
  obtain ⟨b, hb, e1, e2⟩ := byte_eq x s hs
  obtain ⟨h1, h2, h3, h4, h5, h6, h7⟩ := h
  have hns : ¬ s < 0 := by rcases hs with rfl | rfl | rfl | rfl <;> decide
  refine ⟨uC (uC cs 39 t (nI b)) 0 1 (nI (t + 1)), uI (uI ms 1 t (nI b)) 0 1 (nI (t + 1)), ?_, ?_, ?_⟩
  · refine e_bf hns (e_bf (by rw [h1]; exact nI_ge (b := 260) ht (by decide)) (e_g (by rw [h1]; exact inb_of ht (by decide)) (e_g ?_ (e_n (e_n ?_)))))
    · rw [e2]
      unfold isC
      rw [nI_toInt (by omega)]
      simp only [Bool.and_eq_true, decide_eq_true_eq]
      omega
    · rw [e2, h1, nI_clamp (by omega)]
      have e3 : (uC cs 39 t (nI b)).1 0 1 = nI t := h1
      rw [e3, nI_1]
      rfl
  · refine e_bf hns (e_g (by rw [h2]; exact inb_of ht (by decide)) (e_n (e_n (e_n ?_))))
    rw [e1, h2, nI_clamp (by omega)]
    have e3 : (uI ms 1 t (nI b)).1 0 1 = nI t := h2
    rw [e3, nI_1]
  · refine ⟨uC_at, uI_at, fun j hj => ?_, h4, fun i k hik hi => ?_, h6, fun i k hik hi => ?_⟩
    · rw [uC_off (show (39 : Nat) ≠ 0 by decide), uI_off1 (show (1 : Nat) ≠ 0 by decide)]
      by_cases hjt : j = t
      · subst hjt
        exact ⟨b, hb, uC_at, uI_at⟩
      · rw [uC_ne hjt, uI_ne hjt]
        exact h3 j (by omega)
    · by_cases hi0 : i = 0
      · subst hi0
        rw [uC_ne (fun e => hik ⟨rfl, e⟩), uC_off hi.symm.symm]
        exact h5 0 k hik hi
      · rw [uC_off hi0, uC_off hi]
        exact h5 i k hik hi
    · by_cases hi0 : i = 0
      · subst hi0
        rw [uI_ne (fun e => hik ⟨rfl, e⟩), uI_off1 hi]
        exact h7 0 k hik hi
      · rw [uI_off1 hi0, uI_off1 hi]
        exact h7 i k hik hi
theorem lay_ok {cs0 cs : CS} {ms0 ms : GS} {t : Nat} (x : Int32) (h : TQ cs0 ms0 t cs ms) (ht : t + 4 ≤ 260) : ∃ cs1 ms1, f_wf_lay cs x = some cs1 ∧ f_mo_putFour ms x = some ms1 ∧ TQ cs0 ms0 (t + 4) cs1 ms1 := by
  obtain ⟨c1, m1, a1, b1, h⟩ := lay_step (f := 19999999) (g := 19999999) x 24 (Or.inl rfl) h (by omega)
  obtain ⟨c2, m2, a2, b2, h⟩ := lay_step (f := 19999998) (g := 19999998) x 16 (Or.inr (Or.inl rfl)) h (by omega)
  obtain ⟨c3, m3, a3, b3, h⟩ := lay_step (f := 19999997) (g := 19999997) x 8 (Or.inr (Or.inr (Or.inl rfl))) h (by omega)
  obtain ⟨c4, m4, a4, b4, h⟩ := lay_step (f := 19999996) (g := 19999996) x 0 (Or.inr (Or.inr (Or.inr rfl))) h (by omega)
  refine ⟨c4, m4, ?_, ?_, h⟩
  · show wf_lay_3 (19999999 + 1) cs x 24 = _
    rw [a1]
    show wf_lay_3 (19999998 + 1) c1 x 16 = _
    rw [a2]
    show wf_lay_3 (19999997 + 1) c2 x 8 = _
    rw [a3]
    show wf_lay_3 (19999996 + 1) c3 x 0 = _
    rw [a4]
    rfl
  · show mo_putFour_3 (19999999 + 1) ms x 24 = _
    rw [b1]
    show mo_putFour_3 (19999998 + 1) m1 x 16 = _
    rw [b2]
    show mo_putFour_3 (19999997 + 1) m2 x 8 = _
    rw [b3]
    show mo_putFour_3 (19999996 + 1) m3 x 0 = _
    rw [b4]
    rfl
/-- what feed leaves alone -/
theorem RS_mv {n u h : Nat} {cs c5 : CS} {ms m5 : GS} (hR : Rcut cs ms ∧ Rhome cs ms ∧ Rargs n u h cs ms ∧ Rans h cs ms) (q4 : c5.2 = cs.2) (e5 : ∀ i, i ≠ 0 → i ≠ 39 → c5.1 i = cs.1 i) (e6 : m5.2 = ms.2) (e7 : ∀ i, i ≠ 0 → i ≠ 1 → m5.1 i = ms.1 i) (e8 : ∀ k, k ≠ 1 → k ≠ 0 → m5.1 0 k = ms.1 0 k) : Rcut c5 m5 ∧ Rhome c5 m5 ∧ Rargs n u h c5 m5 ∧ Rans h c5 m5 := by
  unfold Rcut Rhome Rargs Rans GRr Rtold at hR ⊢
  simp only [q4, e6, e5 1 (by decide) (by decide), e5 8 (by decide) (by decide), e5 2 (by decide) (by decide), e8 2 (by decide) (by decide), e8 3 (by decide) (by decide), e8 7 (by decide) (by decide), e8 8 (by decide) (by decide), e8 18 (by decide) (by decide), e8 19 (by decide) (by decide), e8 32 (by decide) (by decide), e8 33 (by decide) (by decide), e8 49 (by decide) (by decide), e8 50 (by decide) (by decide), e8 36 (by decide) (by decide), e7 2 (by decide) (by decide), e7 3 (by decide) (by decide), e7 4 (by decide) (by decide), e7 5 (by decide) (by decide), e7 6 (by decide) (by decide), e7 7 (by decide) (by decide), e7 8 (by decide) (by decide), e7 9 (by decide) (by decide), e7 10 (by decide) (by decide), e7 11 (by decide) (by decide), e7 17 (by decide) (by decide), e7 19 (by decide) (by decide), e7 20 (by decide) (by decide), e7 21 (by decide) (by decide)]
  obtain ⟨h1, h2, ⟨a1, a2, a3, a4, a5, a6, a7, a8⟩, h4⟩ := hR
  refine ⟨h1, h2, ⟨a1, a2, a3, a4, a5, a6, fun i hi => ?_, a8⟩, h4⟩
  rw [e5 (9 + i) (by omega) (by omega)]
  exact a7 i hi
theorem p_feed {tp n u h : Nat} {cs : CS} {ms : GS} (hR : RS tp n u h cs ms) (p0 p1 p2 p3 p4 : Int32) : ∃ r cs' ms' tp', f_wf_feed cs p0 p1 p2 p3 p4 = some (r, cs') ∧ f_mo_feed ms p0 p1 p2 p3 p4 = some (r, ms') ∧ RS tp' n u h cs' ms' ∧ cs'.2 = cs.2 := by
  obtain ⟨hT, hrest⟩ := id hR
  obtain ⟨h1, h2, h3, h4, h5⟩ := hT
  by_cases hf : tp + 20 ≤ 260
  · have q0 : TQ cs (uI ms 0 0 0) tp cs (uI ms 0 0 0) := ⟨h1, h2, h5, rfl, fun _ _ _ _ => rfl, rfl, fun _ _ _ _ => rfl⟩
    obtain ⟨c1, m1, a1, b1, q⟩ := lay_ok p0 q0 (by omega)
    obtain ⟨c2, m2, a2, b2, q⟩ := lay_ok p1 q (by omega)
    obtain ⟨c3, m3, a3, b3, q⟩ := lay_ok p2 q (by omega)
    obtain ⟨c4, m4, a4, b4, q⟩ := lay_ok p3 q (by omega)
    obtain ⟨c5, m5, a5, b5, q⟩ := lay_ok p4 q (by omega)
    refine ⟨1, c5, m5, tp + 20, ?_, ?_, ?_, q.2.2.2.1⟩
    · exact e_bt (by rw [h1]; exact (show nI tp + nI 20 ≤ nI 260 by rw [nI_add]; exact nI_le hf (by decide))) (e_c a1 (e_c a2 (e_c a3 (e_c a4 (e_c a5 rfl)))))
    · exact e_n (e_bf (fun e => by rw [show (uI ms 0 0 0).1 0 1 = nI tp from h2] at e; have := (nI_eq (a := tp) (b := 260) (by omega) (by decide)).mp e; omega) (e_c b1 (e_c b2 (e_c b3 (e_c b4 (e_c b5 rfl))))))
    · obtain ⟨q1, q2, q3, q4, q5, q6, q7⟩ := q
      have e5 : ∀ i, i ≠ 0 → i ≠ 39 → c5.1 i = cs.1 i := fun i g1 g2 => funext fun k => q5 i k (fun z => g1 z.1) g2
      have e7 : ∀ i, i ≠ 0 → i ≠ 1 → m5.1 i = ms.1 i := fun i g1 g2 => funext fun k => (q7 i k (fun z => g1 z.1) g2).trans (congrFun (uI_off1 g1) k)
      have e8 : ∀ k, k ≠ 1 → k ≠ 0 → m5.1 0 k = ms.1 0 k := fun k g1 g2 => (q7 0 k (fun z => g1 z.2) (by decide)).trans (uI_ne g2)
      have e6 : m5.2 = ms.2 := q6
      refine ⟨⟨q1, q2, by omega, by omega, q3⟩, ?_⟩
      exact RS_mv hrest q4 (fun i g1 g2 => e5 i g1 g2) e6 (fun i g1 g2 => e7 i g1 g2) (fun k g1 g2 => e8 k g1 g2)
  · have ht : tp = 260 := by omega
    refine ⟨0, cs, uI ms 0 0 0, tp, ?_, ?_, hR, rfl⟩
    · exact e_bf (by rw [h1]; exact (show ¬ nI tp + nI 20 ≤ nI 260 by rw [nI_add]; exact nI_ge (by omega) (by omega))) rfl
    · exact e_n (e_bt (h2.trans (by rw [ht]; rfl)) rfl)
