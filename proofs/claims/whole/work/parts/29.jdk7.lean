def jv : Nat → Int32
  | 0 => -1
  | c + 1 => nI c
theorem jv_pred (c : Nat) : jv c = nI c + (-1) := by
  cases c with
  | zero => decide
  | succ d => exact (pk_m1 d).symm
theorem rev0 {n : Nat} (hn : n < 2 ^ 30) : jv (n / 2) = (nI n - 1 - 1) >>> (1 &&& 31) := by
  rcases n with _ | _ | m
  · decide
  · decide
  · rw [nI_pred (m + 1), nI_pred m, pk_shrN (n := m) (by omega) _ 1 (by decide), show (m + 1 + 1) / 2 = m / 2 + 1 by omega]
    rfl
theorem rev_k {n c : Nat} (h : c + 1 ≤ n / 2) : nI (n - 1 - c) = nI n - 1 - nI c := by
  obtain ⟨m, rfl⟩ : ∃ m, n = m + 1 := ⟨n - 1, by omega⟩
  rw [nI_pred m, pk_sub (by omega)]
  rfl
theorem rev_get {t : TT} {i : Nat} (h : i < t.length) : t.reverse.getD i 0 = t.getD (t.length - 1 - i) 0 := by
  rw [List.getD_eq_getElem?_getD, List.getD_eq_getElem?_getD, List.getElem?_reverse h]
def revG (t : TT) (c : Nat) (g : Nat → Int32) : Prop := ∀ i, i < t.length → g i = sb_b (t.getD (if c ≤ i ∧ i < t.length - c then t.length - 1 - i else i) 0)
theorem revG0 {t : TT} {f : Nat → Int32} (hf : ∀ j, j < t.length → f j = sb_b (t.getD j 0)) : revG t (t.length / 2) f := by
  intro i hi
  rw [hf i hi]
  split
  · rename_i h
    rw [show t.length - 1 - i = i by omega]
  · rfl
theorem revGs {t : TT} {c : Nat} {g : Nat → Int32} (h : revG t (c + 1) g) (hc : c + 1 ≤ t.length / 2) (ht : ∀ x ∈ t, x < 256) : revG t c (upd (upd g c (vp_nar .byte (g (t.length - 1 - c)))) (t.length - 1 - c) (vp_nar .byte (g c))) := by
  have e1 : g c = sb_b (t.getD c 0) := by
    rw [h c (by omega), if_neg (by omega)]
  have e2 : g (t.length - 1 - c) = sb_b (t.getD (t.length - 1 - c) 0) := by
    rw [h _ (by omega), if_neg (by omega)]
  rw [e1, e2, nar_b _ (TT_lt ht _), nar_b _ (TT_lt ht _)]
  intro i hi
  by_cases hk : i = t.length - 1 - c
  · subst hk
    rw [pk_us, if_pos (by omega), show t.length - 1 - (t.length - 1 - c) = c by omega]
  · rw [pk_un hk]
    by_cases hic : i = c
    · subst hic
      rw [pk_us, if_pos (by omega)]
    · rw [pk_un hic, h i hi]
      congr 2
      by_cases hz : c ≤ i ∧ i < t.length - c
      · rw [if_pos hz, if_pos (by omega)]
      · rw [if_neg hz, if_neg (by omega)]
theorem nar_fit (x : Int32) : fits .byte (.int (vp_nar .byte x)) = true := by
  rw [vp_nar_byte]
  exact pk_fb x
abbrev b263 : ByteArray := prog_14_method_60_code
theorem d263_0 : decode b263 0 = .ok ((.aload_n 0), 1) := by decide +kernel
theorem d263_1 : decode b263 1 = .ok ((.getfield 15), 3) := by decide +kernel
theorem d263_4 : decode b263 4 = .ok ((.astore_n 1), 1) := by decide +kernel
theorem d263_5 : decode b263 5 = .ok ((.aload_n 0), 1) := by decide +kernel
theorem d263_6 : decode b263 6 = .ok ((.getfield 79), 3) := by decide +kernel
theorem d263_9 : decode b263 9 = .ok ((.istore_n 2), 1) := by decide +kernel
theorem d263_10 : decode b263 10 = .ok ((.iload_n 2), 1) := by decide +kernel
theorem d263_11 : decode b263 11 = .ok ((.iconst 1), 1) := by decide +kernel
theorem d263_12 : decode b263 12 = .ok (.isub, 1) := by decide +kernel
theorem d263_13 : decode b263 13 = .ok ((.istore_n 3), 1) := by decide +kernel
theorem d263_14 : decode b263 14 = .ok ((.aload_n 0), 1) := by decide +kernel
theorem d263_15 : decode b263 15 = .ok ((.invokevirtual 83), 3) := by decide +kernel
theorem d263_18 : decode b263 18 = .ok ((.ifCond .eq 50), 3) := by decide +kernel
theorem d263_21 : decode b263 21 = .ok ((.iload_n 3), 1) := by decide +kernel
theorem d263_22 : decode b263 22 = .ok ((.iconst 1), 1) := by decide +kernel
theorem d263_23 : decode b263 23 = .ok (.isub, 1) := by decide +kernel
theorem d263_24 : decode b263 24 = .ok ((.iconst 1), 1) := by decide +kernel
theorem d263_25 : decode b263 25 = .ok (.ishr, 1) := by decide +kernel
theorem d263_26 : decode b263 26 = .ok ((.istore 4), 2) := by decide +kernel
theorem d263_28 : decode b263 28 = .ok ((.iload 4), 2) := by decide +kernel
theorem d263_30 : decode b263 30 = .ok ((.ifCond .lt 35), 3) := by decide +kernel
theorem d263_33 : decode b263 33 = .ok ((.iload_n 3), 1) := by decide +kernel
theorem d263_34 : decode b263 34 = .ok ((.iload 4), 2) := by decide +kernel
theorem d263_36 : decode b263 36 = .ok (.isub, 1) := by decide +kernel
theorem d263_37 : decode b263 37 = .ok ((.istore 5), 2) := by decide +kernel
theorem d263_39 : decode b263 39 = .ok ((.aload_n 1), 1) := by decide +kernel
theorem d263_40 : decode b263 40 = .ok ((.iload 4), 2) := by decide +kernel
theorem d263_42 : decode b263 42 = .ok (.baload, 1) := by decide +kernel
theorem d263_43 : decode b263 43 = .ok ((.istore 6), 2) := by decide +kernel
theorem d263_45 : decode b263 45 = .ok ((.aload_n 1), 1) := by decide +kernel
theorem d263_46 : decode b263 46 = .ok ((.iload 4), 2) := by decide +kernel
theorem d263_48 : decode b263 48 = .ok ((.aload_n 1), 1) := by decide +kernel
theorem d263_49 : decode b263 49 = .ok ((.iload 5), 2) := by decide +kernel
theorem d263_51 : decode b263 51 = .ok (.baload, 1) := by decide +kernel
theorem d263_52 : decode b263 52 = .ok (.bastore, 1) := by decide +kernel
theorem d263_53 : decode b263 53 = .ok ((.aload_n 1), 1) := by decide +kernel
theorem d263_54 : decode b263 54 = .ok ((.iload 5), 2) := by decide +kernel
theorem d263_56 : decode b263 56 = .ok ((.iload 6), 2) := by decide +kernel
theorem d263_58 : decode b263 58 = .ok (.bastore, 1) := by decide +kernel
theorem d263_59 : decode b263 59 = .ok ((.iinc 4 (-1)), 3) := by decide +kernel
theorem d263_62 : decode b263 62 = .ok ((.goto (-34)), 3) := by decide +kernel
theorem d263_65 : decode b263 65 = .ok ((.goto 8), 3) := by decide +kernel
theorem d263_68 : decode b263 68 = .ok ((.aload_n 1), 1) := by decide +kernel
theorem d263_69 : decode b263 69 = .ok ((.iload_n 2), 1) := by decide +kernel
theorem d263_70 : decode b263 70 = .ok ((.invokestatic 358), 3) := by decide +kernel
theorem d263_73 : decode b263 73 = .ok ((.aload_n 0), 1) := by decide +kernel
theorem d263_74 : decode b263 74 = .ok (.areturn, 1) := by decide +kernel
set_option maxHeartbeats 1000000 in
theorem c_b_rev (l : Launch) (ρ : RH) (H : Heap) (P : Nat → Prop) (a b : Nat) (x : BT) (hC : CC ρ P H) (hPb : ∀ q, P q → q < H.size) (hSB : SB ρ H a b x ∧ P a ∧ P b) : Met l y263 (wsOf y263 b263 7 (some (.object "java/lang/AbstractStringBuilder"))) ({ frames := 1, cells := 0, slots := 0, locals := 20 } : Room) (va_Pc [.ref a] (KP ρ H)) (mQ (fun v H1 => v = some (.ref a) ∧ ∃ b1, (b1 = b ∨ H.size ≤ b1) ∧ b1 < H1.size ∧ SB ρ H1 a b1 (x.1.reverse, x.2)) (fun q => q = a ∨ q = b ∨ H.size ≤ q)) 0 0 (fun q => q = a ∨ q = b ∨ H.size ≤ q) := by
  obtain ⟨⟨z, f, ho, hcell, hf, hfit, hch, hln, hcap, hab, hz01⟩, hPa, hPbb⟩ := hSB
  refine m_ofW (own := "java/lang/AbstractStringBuilder") (plainFor_of_name rfl) rfl (Nat.le_of_ble_eq_true rfl) fun p e s m args below meth c ls hx hb hr hlk hmn X hs0 hl => ?_
  subst hs0
  have hS : va_S (fun q => q = a ∨ q = b ∨ s.heap.size ≤ q) s.heap s.heap [] := va_S.rf
  have hl : lv_has ls 7 [(0, .ref a)] := hl
  have key : ∀ (c0 : Nat) (H : Heap) (g : Nat → Int32) (locs : List Loc) (ls : Array Slot), va_S (fun q => q = a ∨ q = b ∨ s.heap.size ≤ q) s.heap H locs → H[b]? = some (vp_cell (rA ρ 4) (x.2, .inl g)) → t_OB a ((rD ρ).1 10) 4 ((rD ρ).2 10) H (sbF b z (nI x.1.length)) → sb_Fit g → c0 ≤ x.1.length / 2 → revG x.1 c0 g → lv_has ls 7 [(4, .int (jv c0)), (3, .int (nI x.1.length - 1)), (2, .int (nI x.1.length)), (1, .ref b), (0, .ref a)] → W p l e ({ frames := 1, cells := 0, slots := 0, locals := 20 } : Room) s m args below meth c H locs 0 0 (MQ below (mQ (fun v H1 => v = some (.ref a) ∧ ∃ b1, (b1 = b ∨ s.heap.size ≤ b1) ∧ b1 < H1.size ∧ SB ρ H1 a b1 (x.1.reverse, x.2)) (fun q => q = a ∨ q = b ∨ s.heap.size ≤ q)) args s 0 0 (fun q => q = a ∨ q = b ∨ s.heap.size ≤ q)) (F0 m 28 ls []) := by
    intro c0
    induction c0 with
    | zero =>
      intro H g locs ls hS hcell ho hfit hc hg hl
      refine lv_iload (pc := 28) hx hb d263_28 (lv_at hl 0 rfl) ?_
      refine lv_if_lt (pc := 30) (tgt := 65) hx hb d263_30 (by decide) (fun zbr => ?_) (fun zbr => absurd (by decide) zbr)
      refine lv_goto (pc := 65) (tgt := 73) hx hb d263_65 (by decide) ?_
      refine lv_aload_n (pc := 73) hx hb d263_73 rfl (lv_at hl 4 rfl) ?_
      exact m_aret (pc := 74) hx hb hr (Or.inl ⟨_, rfl⟩) hlk hS ⟨rfl, b, Or.inl rfl, hp_lt hcell, z, g, by rw [List.length_reverse]; exact ho, hcell, fun j hj => by rw [List.length_reverse] at hj; rw [hg j hj, if_pos (by omega), rev_get hj], hfit, fun c hc => hch c (List.mem_reverse.mp hc), by rw [List.length_reverse]; exact hln, hcap, hab, hz01⟩ (by first | omega | (dsimp only; omega)) (by first | omega | (dsimp only; omega)) d263_74
    | succ c1 ih =>
      intro H g locs ls hS hcell ho hfit hc hg hl
      have hl : lv_has ls 7 [(4, .int (nI c1)), (3, .int (nI x.1.length - 1)), (2, .int (nI x.1.length)), (1, .ref b), (0, .ref a)] := hl
      refine lv_iload (pc := 28) hx hb d263_28 (lv_at hl 0 rfl) ?_
      refine lv_if_lt (pc := 30) (tgt := 65) hx hb d263_30 (by decide) (fun zbr => absurd zbr (nI_pos (by omega))) (fun zbr => ?_)
      refine lv_iload_n (pc := 33) hx hb d263_33 rfl (lv_at hl 1 rfl) ?_
      refine lv_iload (pc := 34) hx hb d263_34 (lv_at hl 0 rfl) ?_
      refine lv_isub (pc := 36) hx hb d263_36 ?_
      refine nm_i (y := nI (x.1.length - 1 - c1)) (rev_k hc) ?_
      refine lv_istore (pc := 37) (lv' := [(5, .int (nI (x.1.length - 1 - c1))), (4, .int (nI c1)), (3, .int (nI x.1.length - 1)), (2, .int (nI x.1.length)), (1, .ref b), (0, .ref a)]) hx hb d263_37 hl (by decide) rfl (fun ls hl => ?_)
      refine lv_aload_n (pc := 39) hx hb d263_39 rfl (lv_at hl 4 rfl) ?_
      refine lv_iload (pc := 40) hx hb d263_40 (lv_at hl 1 rfl) ?_
      refine o_bld (pc := 42) X hcell (inb_of (show c1 < x.2 by omega) (by omega)) d263_42 ?_
      refine nm_i (y := g c1) (by rw [nI_clamp (show c1 < 2 ^ 31 by omega)]) ?_
      refine lv_istore (pc := 43) (lv' := [(6, .int (g c1)), (5, .int (nI (x.1.length - 1 - c1))), (4, .int (nI c1)), (3, .int (nI x.1.length - 1)), (2, .int (nI x.1.length)), (1, .ref b), (0, .ref a)]) hx hb d263_43 hl (by decide) rfl (fun ls hl => ?_)
      refine lv_aload_n (pc := 45) hx hb d263_45 rfl (lv_at hl 5 rfl) ?_
      refine lv_iload (pc := 46) hx hb d263_46 (lv_at hl 2 rfl) ?_
      refine lv_aload_n (pc := 48) hx hb d263_48 rfl (lv_at hl 5 rfl) ?_
      refine lv_iload (pc := 49) hx hb d263_49 (lv_at hl 1 rfl) ?_
      refine o_bld (pc := 51) X hcell (inb_of (show x.1.length - 1 - c1 < x.2 by omega) (by omega)) d263_51 ?_
      refine nm_i (y := g (x.1.length - 1 - c1)) (by rw [nI_clamp (show x.1.length - 1 - c1 < 2 ^ 31 by omega)]) ?_
      refine o_bst (pc := 52) X hS hcell (Or.inr (Or.inl rfl)) (inb_of (show c1 < x.2 by omega) (by omega)) d263_52 (fun H1 locs1 hcell hS hz hq => ?_)
      have ho := ho.kept (hq a hab)
      rw [nI_clamp (show c1 < 2 ^ 31 by omega)] at hcell
      refine lv_aload_n (pc := 53) hx hb d263_53 rfl (lv_at hl 5 rfl) ?_
      refine lv_iload (pc := 54) hx hb d263_54 (lv_at hl 1 rfl) ?_
      refine lv_iload (pc := 56) hx hb d263_56 (lv_at hl 0 rfl) ?_
      refine o_bst (pc := 58) X hS hcell (Or.inr (Or.inl rfl)) (inb_of (show x.1.length - 1 - c1 < x.2 by omega) (by omega)) d263_58 (fun H1 locs1 hcell hS hz hq => ?_)
      have ho := ho.kept (hq a hab)
      rw [nI_clamp (show x.1.length - 1 - c1 < 2 ^ 31 by omega)] at hcell
      refine lv_iinc (pc := 59) (v := (jv c1)) (lv' := [(4, .int (jv c1)), (6, .int (g c1)), (5, .int (nI (x.1.length - 1 - c1))), (3, .int (nI x.1.length - 1)), (2, .int (nI x.1.length)), (1, .ref b), (0, .ref a)]) hx hb d263_59 hl (k := 2) rfl ((jv_pred c1).symm) (by decide) rfl (fun ls hl => ?_)
      refine lv_goto (pc := 62) (tgt := 28) hx hb d263_62 (by decide) ?_
      exact ih _ _ _ _ hS hcell ho (sb_fitU (sb_fitU hfit (nar_fit _)) (nar_fit _)) (by omega) (revGs hg hc hch) (lv_sub hl [0, 3, 4, 5, 6] rfl)
  have hn20 : x.1.length < 2 ^ 20 := by omega
  refine lv_aload_n (pc := 0) hx hb d263_0 rfl (lv_at hl 0 rfl) ?_
  refine o_getf (pc := 1) X ho 0 rfl rfl rfl tin10 rfl wd300 d263_1 ?_
  refine lv_astore_n (pc := 4) (lv' := [(1, .ref b), (0, .ref a)]) hx hb d263_4 rfl hl (by decide) rfl (fun ls hl => ?_)
  refine lv_aload_n (pc := 5) hx hb d263_5 rfl (lv_at hl 1 rfl) ?_
  refine o_getf (pc := 6) X ho 3 rfl rfl rfl tin10 rfl wd303 d263_6 ?_
  refine lv_istore_n (pc := 9) (lv' := [(2, .int (nI x.1.length)), (1, .ref b), (0, .ref a)]) hx hb d263_9 rfl hl (by decide) rfl (fun ls hl => ?_)
  refine lv_iload_n (pc := 10) hx hb d263_10 rfl (lv_at hl 0 rfl) ?_
  refine lv_iconst (pc := 11) (v := 1) hx hb d263_11 (by decide) ?_
  refine lv_isub (pc := 12) hx hb d263_12 ?_
  refine lv_istore_n (pc := 13) (lv' := [(3, .int ((nI x.1.length) - 1)), (2, .int (nI x.1.length)), (1, .ref b), (0, .ref a)]) hx hb d263_13 rfl hl (by decide) rfl (fun ls hl => ?_)
  refine lv_aload_n (pc := 14) hx hb d263_14 rfl (lv_at hl 3 rfl) ?_
  refine k_callV (pc := 15) (n := 0) X hS (c_b_latin l ρ _ P a b z (nI x.1.length) hC hPb ho) wd359 wd355 wd356 wd358 wd12 (by decide) ⟨rfl, rfl, Nat.le_of_ble_eq_true rfl, Nat.le_of_ble_eq_true rfl⟩ (S_recv X ho (ci := 10) rfl) (As := []) (rest := []) rfl rfl hl.1 (Nat.le_of_ble_eq_true rfl) d263_15 ⟨Nat.le_refl _, Nat.le_refl _⟩ (fun q hq => hq.elim) (fun v H1 locs1 hv hz1 hz2 hS => ?_)
  obtain ⟨rfl, hv2⟩ := hv
  have hv3 := hv2.symm
  clear hv2
  subst hv3
  refine lv_if_eq (pc := 18) (tgt := 68) hx hb d263_18 (by decide) (fun zbr => absurd zbr (by decide)) (fun zbr => ?_)
  refine lv_iload_n (pc := 21) hx hb d263_21 rfl (lv_at hl 0 rfl) ?_
  refine lv_iconst (pc := 22) (v := 1) hx hb d263_22 (by decide) ?_
  refine lv_isub (pc := 23) hx hb d263_23 ?_
  refine lv_iconst (pc := 24) (v := 1) hx hb d263_24 (by decide) ?_
  refine lv_ishr (pc := 25) hx hb d263_25 ?_
  refine nm_i (y := jv (x.1.length / 2)) (rev0 (by omega)) ?_
  refine lv_istore (pc := 26) (lv' := [(4, .int (jv (x.1.length / 2))), (3, .int ((nI x.1.length) - 1)), (2, .int (nI x.1.length)), (1, .ref b), (0, .ref a)]) hx hb d263_26 hl (by decide) rfl (fun ls hl => ?_)
  exact key (x.1.length / 2) _ f _ _ hS hcell ho hfit (Nat.le_refl _) (revG0 hf) (lv_sub hl [0, 1, 2, 3, 4] rfl)
theorem d306_0 : decode b306 0 = .ok ((.aload_n 0), 1) := by decide +kernel
theorem d306_1 : decode b306 1 = .ok ((.invokespecial 127), 3) := by decide +kernel
theorem d306_4 : decode b306 4 = .ok (.pop, 1) := by decide +kernel
theorem d306_5 : decode b306 5 = .ok ((.aload_n 0), 1) := by decide +kernel
theorem d306_6 : decode b306 6 = .ok (.areturn, 1) := by decide +kernel
set_option maxHeartbeats 1000000 in
theorem c_sb_rev (l : Launch) (ρ : RH) (H : Heap) (P : Nat → Prop) (ba bb : Nat) (x : BT) (res : BT) (hC : CC ρ P H) (hPb : ∀ q, P q → q < H.size) (hSB : SB ρ H ba bb x ∧ P ba ∧ P bb) (h : f_sb_rev x = some res) : Met l y306 (wsOf y306 b306 1 (some (.object "java/lang/StringBuilder"))) ({ frames := 12, cells := 0, slots := 0, locals := 600 } : Room) (va_Pc [.ref ba] (KP ρ H)) (mQ (fun v H1 => v = some (.ref ba) ∧ ∃ b1, (b1 = bb ∨ H.size ≤ b1) ∧ b1 < H1.size ∧ SB ρ H1 ba b1 res) (fun q => q = ba ∨ q = bb ∨ H.size ≤ q)) 0 0 (fun q => q = ba ∨ q = bb ∨ H.size ≤ q) := by
  obtain rfl := Option.some.inj h
  refine m_ofW (own := "java/lang/StringBuilder") (plainFor_of_name rfl) rfl (Nat.le_of_ble_eq_true rfl) fun p e s m args below meth c ls hx hb hr hlk hmn X hs0 hl => ?_
  subst hs0
  have hS : va_S (fun q => q = ba ∨ q = bb ∨ s.heap.size ≤ q) s.heap s.heap [] := va_S.rf
  have hl : lv_has ls 1 [(0, .ref ba)] := hl
  refine lv_aload_n (pc := 0) hx hb d306_0 rfl (lv_at hl 0 rfl) ?_
  refine k_callSU (pc := 1) (n := 0) X hS 10 rfl (c_b_rev l ρ _ P ba bb x hC hPb hSB) wd889 wd887 wd888 wd2012 wd312 wd12 (by decide) ⟨rfl, rfl, Nat.le_of_ble_eq_true rfl, Nat.le_of_ble_eq_true rfl⟩ (sb_recv X hSB.1) (As := []) (rest := []) rfl rfl hl.1 (Nat.le_of_ble_eq_true rfl) d306_1 ⟨(Nat.le_refl _), (Nat.le_refl _)⟩ (fun q hq => hq) (fun v H1 locs1 hv hz1 hq1 hS => ?_)
  obtain ⟨rfl, b1, hb1, hlt, hSB1⟩ := hv
  refine lv_pop (pc := 4) hx hb d306_4 rfl ?_
  refine lv_aload_n (pc := 5) hx hb d306_5 rfl (lv_at hl 0 rfl) ?_
  exact m_aret (pc := 6) hx hb hr (Or.inl ⟨_, rfl⟩) hlk hS ⟨rfl, b1, hb1, hlt, hSB1⟩ (Nat.le_refl _) (Nat.le_refl _) d306_6
