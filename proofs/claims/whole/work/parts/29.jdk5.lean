theorem SB_app {ρ : RH} {H : Heap} {a b1 q : Nat} {z : Int32} {g : Nat → Int32} {t u : TT} (ho : t_OB a ((rD ρ).1 10) 4 ((rD ρ).2 10) H (sbF b1 z (nI (t.length + u.length)))) (hcell : H[b1]? = some (vp_cell (rA ρ 4) (q, .inl g))) (hg1 : ∀ j, j < t.length → g j = sb_b (t.getD j 0)) (hg2 : ∀ j, j < u.length → g (t.length + j) = sb_b (u.getD j 0)) (hfit : sb_Fit g) (ht : ∀ c ∈ t, c < 256) (hu : ∀ c ∈ u, c < 256) (hq : t.length + u.length ≤ q) (hq20 : q < 2 ^ 20) (hab : a ≠ b1) (hz : z = 0 ∨ z = 1) : SB ρ H a b1 (t ++ u, q) := by
  refine ⟨z, g, by rw [List.length_append]; exact ho, hcell, fun j hj => ?_, hfit, fun c hc => ?_, by rw [List.length_append]; exact hq, hq20, hab, hz⟩
  · rw [List.length_append] at hj
    rw [app_get]
    split
    · rename_i h; exact hg1 j h
    · rename_i h
      have := hg2 (j - t.length) (by omega)
      rw [show t.length + (j - t.length) = j by omega] at this
      exact this
  · rcases List.mem_append.mp hc with h | h
    · exact ht c h
    · exact hu c h
abbrev b308 : ByteArray := prog_25_method_3_code
theorem d308_0 : decode b308 0 = .ok ((.iload_n 0), 1) := by decide +kernel
theorem d308_1 : decode b308 1 = .ok ((.sipush 255), 3) := by decide +kernel
theorem d308_4 : decode b308 4 = .ok ((.if_icmp .gt 7), 3) := by decide +kernel
theorem d308_7 : decode b308 7 = .ok ((.iconst 1), 1) := by decide +kernel
theorem d308_8 : decode b308 8 = .ok ((.goto 4), 3) := by decide +kernel
theorem d308_11 : decode b308 11 = .ok ((.iconst 0), 1) := by decide +kernel
theorem d308_12 : decode b308 12 = .ok (.ireturn, 1) := by decide +kernel
set_option maxHeartbeats 1000000 in
theorem c_j_canC (l : Launch) (ρ : RH) (H : Heap) (P : Nat → Prop) (c0 : Nat) (hC : CC ρ P H) (hPb : ∀ q, P q → q < H.size) (hc0 : c0 < 256) : Met l y308 (wsOf y308 b308 1 (some .boolean)) ({ frames := 0, cells := 0, slots := 0, locals := 0 } : Room) (va_Pc [.int (nI c0)] (KP ρ H)) (mQ (fun v H1 => v = some (.int 1) ∧ H1 = H) (fun _ => False)) 0 0 (fun _ => False) := by
  refine m_ofW (own := "java/lang/StringLatin1") (plainFor_of_name rfl) rfl (Nat.le_of_ble_eq_true rfl) fun p e s m args below meth c ls hx hb hr hlk hmn X hs0 hl => ?_
  subst hs0
  have hS : va_S (fun _ => False) s.heap s.heap [] := va_S.rf
  have hl : lv_has ls 1 [(0, .int (nI c0))] := hl
  refine lv_iload_n (pc := 0) hx hb d308_0 rfl (lv_at hl 0 rfl) ?_
  refine lv_sipush (pc := 1) (v := 255) hx hb d308_1 (by decide) ?_
  refine lv_icmp_gt (pc := 4) (tgt := 11) hx hb d308_4 (by decide) (fun zbr => absurd zbr (fun z => absurd (nI_le (a := c0) (b := 255) (by omega) (by decide)) (Int32.not_le.mpr z))) (fun zbr => ?_)
  refine lv_iconst (pc := 7) (v := 1) hx hb d308_7 (by decide) ?_
  refine lv_goto (pc := 8) (tgt := 12) hx hb d308_8 (by decide) ?_
  exact m_zret (pc := 12) hx hb hr hlk hS ⟨rfl, rfl⟩ (Nat.le_refl _) (Nat.le_refl _) d308_12 (by decide)
abbrev b251 : ByteArray := prog_14_method_31_code
theorem d251_0 : decode b251 0 = .ok ((.aload_n 0), 1) := by decide +kernel
theorem d251_1 : decode b251 1 = .ok ((.aload_n 0), 1) := by decide +kernel
theorem d251_2 : decode b251 2 = .ok ((.getfield 79), 3) := by decide +kernel
theorem d251_5 : decode b251 5 = .ok ((.iconst 1), 1) := by decide +kernel
theorem d251_6 : decode b251 6 = .ok (.iadd, 1) := by decide +kernel
theorem d251_7 : decode b251 7 = .ok ((.invokevirtual 100), 3) := by decide +kernel
theorem d251_10 : decode b251 10 = .ok ((.aload_n 0), 1) := by decide +kernel
theorem d251_11 : decode b251 11 = .ok ((.invokevirtual 83), 3) := by decide +kernel
theorem d251_14 : decode b251 14 = .ok ((.ifCond .eq 31), 3) := by decide +kernel
theorem d251_17 : decode b251 17 = .ok ((.iload_n 1), 1) := by decide +kernel
theorem d251_18 : decode b251 18 = .ok ((.invokestatic 191), 3) := by decide +kernel
theorem d251_21 : decode b251 21 = .ok ((.ifCond .eq 24), 3) := by decide +kernel
theorem d251_24 : decode b251 24 = .ok ((.aload_n 0), 1) := by decide +kernel
theorem d251_25 : decode b251 25 = .ok ((.getfield 15), 3) := by decide +kernel
theorem d251_28 : decode b251 28 = .ok ((.aload_n 0), 1) := by decide +kernel
theorem d251_29 : decode b251 29 = .ok (.dup, 1) := by decide +kernel
theorem d251_30 : decode b251 30 = .ok ((.getfield 79), 3) := by decide +kernel
theorem d251_33 : decode b251 33 = .ok (.dup_x1, 1) := by decide +kernel
theorem d251_34 : decode b251 34 = .ok ((.iconst 1), 1) := by decide +kernel
theorem d251_35 : decode b251 35 = .ok (.iadd, 1) := by decide +kernel
theorem d251_36 : decode b251 36 = .ok ((.putfield 79), 3) := by decide +kernel
theorem d251_39 : decode b251 39 = .ok ((.iload_n 1), 1) := by decide +kernel
theorem d251_40 : decode b251 40 = .ok (.i2b, 1) := by decide +kernel
theorem d251_41 : decode b251 41 = .ok (.bastore, 1) := by decide +kernel
theorem d251_42 : decode b251 42 = .ok ((.goto 33), 3) := by decide +kernel
theorem d251_45 : decode b251 45 = .ok ((.aload_n 0), 1) := by decide +kernel
theorem d251_46 : decode b251 46 = .ok ((.invokevirtual 83), 3) := by decide +kernel
theorem d251_49 : decode b251 49 = .ok ((.ifCond .eq 7), 3) := by decide +kernel
theorem d251_52 : decode b251 52 = .ok ((.aload_n 0), 1) := by decide +kernel
theorem d251_53 : decode b251 53 = .ok ((.invokevirtual 195), 3) := by decide +kernel
theorem d251_56 : decode b251 56 = .ok ((.aload_n 0), 1) := by decide +kernel
theorem d251_57 : decode b251 57 = .ok ((.getfield 15), 3) := by decide +kernel
theorem d251_60 : decode b251 60 = .ok ((.aload_n 0), 1) := by decide +kernel
theorem d251_61 : decode b251 61 = .ok (.dup, 1) := by decide +kernel
theorem d251_62 : decode b251 62 = .ok ((.getfield 79), 3) := by decide +kernel
theorem d251_65 : decode b251 65 = .ok (.dup_x1, 1) := by decide +kernel
theorem d251_66 : decode b251 66 = .ok ((.iconst 1), 1) := by decide +kernel
theorem d251_67 : decode b251 67 = .ok (.iadd, 1) := by decide +kernel
theorem d251_68 : decode b251 68 = .ok ((.putfield 79), 3) := by decide +kernel
theorem d251_71 : decode b251 71 = .ok ((.iload_n 1), 1) := by decide +kernel
theorem d251_72 : decode b251 72 = .ok ((.invokestatic 197), 3) := by decide +kernel
theorem d251_75 : decode b251 75 = .ok ((.aload_n 0), 1) := by decide +kernel
theorem d251_76 : decode b251 76 = .ok (.areturn, 1) := by decide +kernel
set_option maxHeartbeats 1000000 in
theorem c_b_apC (l : Launch) (ρ : RH) (H : Heap) (P : Nat → Prop) (a b : Nat) (x : BT) (ch : Nat) (hC : CC ρ P H) (hPb : ∀ q, P q → q < H.size) (hSB : SB ρ H a b x ∧ P a ∧ P b) (hch0 : ch < 256) (hl16 : x.1.length + 1 < 2 ^ 16) (hq17 : x.2 < 2 ^ 17) : Met l y251 (wsOf y251 b251 2 (some (.object "java/lang/AbstractStringBuilder"))) ({ frames := 4, cells := gc x.2 (x.1.length + 1), slots := gs x.2 (x.1.length + 1), locals := 104 } : Room) (va_Pc [.ref a, .int (nI ch)] (KP ρ H)) (mQ (fun v H1 => v = some (.ref a) ∧ ∃ b1, (b1 = b ∨ H.size ≤ b1) ∧ b1 < H1.size ∧ SB ρ H1 a b1 (x.1 ++ [ch], gcap x.2 (x.1.length + 1))) (fun q => q = a ∨ q = b ∨ H.size ≤ q)) (gc x.2 (x.1.length + 1)) (gs x.2 (x.1.length + 1)) (fun q => q = a ∨ q = b ∨ H.size ≤ q) := by
  obtain ⟨⟨z, f, ho, hcell, hf, hfit, hch, hln, hcap, hab, hz01⟩, hPa, hPbb⟩ := hSB
  refine m_ofW (own := "java/lang/AbstractStringBuilder") (plainFor_of_name rfl) rfl (Nat.le_of_ble_eq_true rfl) fun p e s m args below meth c ls hx hb hr hlk hmn X hs0 hl => ?_
  subst hs0
  have hS : va_S (fun q => q = a ∨ q = b ∨ s.heap.size ≤ q) s.heap s.heap [] := va_S.rf
  have hl : lv_has ls 2 [(0, .ref a), (1, .int (nI ch))] := hl
  refine lv_aload_n (pc := 0) hx hb d251_0 rfl (lv_at hl 0 rfl) ?_
  refine lv_aload_n (pc := 1) hx hb d251_1 rfl (lv_at hl 0 rfl) ?_
  refine o_getf (pc := 2) X ho 3 rfl rfl rfl tin10 rfl wd303 d251_2 ?_
  refine lv_iconst (pc := 5) (v := 1) hx hb d251_5 (by decide) ?_
  refine lv_iadd (pc := 6) hx hb d251_6 ?_
  refine nm_i (y := nI (x.1.length + 1)) ((nI_1 _).symm) ?_
  refine k_callV (pc := 7) (n := 1) X hS (c_b_ens l ρ _ P a b z (nI x.1.length) x.2 f (x.1.length + 1) hC hPb ho hcell hfit hab (by omega) (by omega)) wd323 wd320 wd322 sx255 wd12 (by decide) ⟨rfl, rfl, Nat.le_of_ble_eq_true rfl, Nat.le_of_ble_eq_true rfl⟩ (S_recv X ho (ci := 10) rfl) (As := [.int (nI (x.1.length + 1))]) (rest := []) rfl rfl hl.1 (Nat.le_of_ble_eq_true rfl) d251_7 ⟨(by first | omega | (dsimp only; omega)), (by first | omega | (dsimp only; omega))⟩ (fun q hq => hq.elim Or.inl (fun g => Or.inr (Or.inr g))) (fun v H1 locs1 hv hz1 hq1 hS => ?_)
  obtain ⟨rfl, b1, f1, hb1, ho, hcell, hk1, hfit, hab⟩ := hv
  have hkP : kp P s.heap H1 := ⟨hz1, fun q hq hn => hq1 q hq (fun z => z.elim (fun e => hn (e ▸ hPa)) (fun g => by omega))⟩
  have hC := hC.keep hkP (fun _ _ z => z)
  have hPb : ∀ q, P q → q < H1.size := fun q z => hkP.lt (hPb q z)
  have hgl := gcap_lt (n := x.1.length + 1) (q := x.2) (by omega) (by omega)
  have hgg := gcap_ge (q := x.2) (n := x.1.length + 1)
  have hAb : b1 = a ∨ b1 = b ∨ s.heap.size ≤ b1 := hb1.elim (fun e => Or.inr (Or.inl e)) (fun g => Or.inr (Or.inr g))
  refine lv_aload_n (pc := 10) hx hb d251_10 rfl (lv_at hl 0 rfl) ?_
  refine k_callV (pc := 11) (n := 0) X hS (c_b_latin l ρ _ P a b1 z (nI x.1.length) hC hPb ho) wd359 wd355 wd356 wd358 wd12 (by decide) ⟨rfl, rfl, Nat.le_of_ble_eq_true rfl, Nat.le_of_ble_eq_true rfl⟩ (S_recv X ho (ci := 10) rfl) (As := []) (rest := []) rfl rfl hl.1 (Nat.le_of_ble_eq_true rfl) d251_11 ⟨(by first | omega | (dsimp only; omega)), (by first | omega | (dsimp only; omega))⟩ (fun q hq => hq.elim) (fun v H1 locs1 hv hz1 hz2 hS => ?_)
  obtain ⟨rfl, hv2⟩ := hv
  have hv3 := hv2.symm
  clear hv2
  subst hv3
  refine lv_if_eq (pc := 14) (tgt := 45) hx hb d251_14 (by decide) (fun zbr => absurd zbr (by decide)) (fun zbr => ?_)
  refine lv_iload_n (pc := 17) hx hb d251_17 rfl (lv_at hl 1 rfl) ?_
  refine k_callS (pc := 18) (n := 1) X hS (c_j_canC l ρ _ P ch hC hPb hch0) wd362 wd360 wd361 wd20 (by decide) ⟨rfl, rfl, Nat.le_of_ble_eq_true rfl, Nat.le_of_ble_eq_true rfl⟩ (As := [.int (nI ch)]) (rest := []) rfl rfl hl.1 (Nat.le_of_ble_eq_true rfl) d251_18 ⟨(by first | omega | (dsimp only; omega)), (by first | omega | (dsimp only; omega))⟩ (fun q hq => hq.elim) (fun v H1 locs1 hv hz1 hz2 hS => ?_)
  obtain ⟨rfl, hv2⟩ := hv
  have hv3 := hv2.symm
  clear hv2
  subst hv3
  refine lv_if_eq (pc := 21) (tgt := 45) hx hb d251_21 (by decide) (fun zbr => absurd zbr (by decide)) (fun zbr => ?_)
  refine lv_aload_n (pc := 24) hx hb d251_24 rfl (lv_at hl 0 rfl) ?_
  refine o_getf (pc := 25) X ho 0 rfl rfl rfl tin10 rfl wd300 d251_25 ?_
  refine lv_aload_n (pc := 28) hx hb d251_28 rfl (lv_at hl 0 rfl) ?_
  refine lv_dup (pc := 29) hx hb d251_29 rfl ?_
  refine o_getf (pc := 30) X ho 3 rfl rfl rfl tin10 rfl wd303 d251_30 ?_
  refine lv_dup_x1 (pc := 33) hx hb d251_33 rfl rfl ?_
  refine lv_iconst (pc := 34) (v := 1) hx hb d251_34 (by decide) ?_
  refine lv_iadd (pc := 35) hx hb d251_35 ?_
  refine nm_i (y := nI (x.1.length + 1)) ((nI_1 _).symm) ?_
  refine o_put (pc := 36) X hS ho 3 (Or.inl rfl) rfl rfl tin10 ty10 tyo10 tnm10 rfl wd303 rfl rfl rfl d251_36 (fun H1 locs1 ho1 hS hz hq => ?_)
  have ho := ho1
  have ho := ho.to sbF_3
  have hcell := (hq b1 hab.symm).trans hcell
  refine lv_iload_n (pc := 39) hx hb d251_39 rfl (lv_at hl 1 rfl) ?_
  refine lv_i2b (pc := 40) hx hb d251_40 rfl ?_
  refine nm_i (y := sb_b ch) (rfl) ?_
  refine o_bst (pc := 41) X hS hcell hAb (inb_of (by omega) (by omega)) d251_41 (fun H1 locs1 hcell hS hz hq => ?_)
  have ho := ho.kept (hq a hab)
  refine lv_goto (pc := 42) (tgt := 75) hx hb d251_42 (by decide) ?_
  refine lv_aload_n (pc := 75) hx hb d251_75 rfl (lv_at hl 0 rfl) ?_
  rw [nI_clamp (show x.1.length < 2 ^ 31 by omega), nar_b ch hch0] at hcell
  have hgA : ∀ j, j < x.1.length → upd f1 x.1.length (sb_b ch) j = sb_b (x.1.getD j 0) := fun j hj => by rw [pk_un (show j ≠ x.1.length by omega), hk1 j (by omega), hf j hj]
  have hgB : ∀ j, j < [ch].length → upd f1 x.1.length (sb_b ch) (x.1.length + j) = sb_b ([ch].getD j 0) := fun j hj => by have h1 : j < 1 := hj; obtain rfl : j = 0 := (by omega); exact pk_us
  exact m_aret (pc := 76) hx hb hr (Or.inl ⟨_, rfl⟩) hlk hS ⟨rfl, b1, hb1, hp_lt hcell, SB_app ho hcell hgA hgB (sb_fitU hfit (sb_fitB ch)) hch (fun c hc => by rw [List.mem_singleton.mp hc]; exact hch0) (show x.1.length + 1 ≤ _ by omega) (by omega) hab hz01⟩ (by first | omega | (dsimp only; omega)) (by first | omega | (dsimp only; omega)) d251_76
theorem d302_0 : decode b302 0 = .ok ((.aload_n 0), 1) := by decide +kernel
theorem d302_1 : decode b302 1 = .ok ((.iload_n 1), 1) := by decide +kernel
theorem d302_2 : decode b302 2 = .ok ((.invokespecial 50), 3) := by decide +kernel
theorem d302_5 : decode b302 5 = .ok (.pop, 1) := by decide +kernel
theorem d302_6 : decode b302 6 = .ok ((.aload_n 0), 1) := by decide +kernel
theorem d302_7 : decode b302 7 = .ok (.areturn, 1) := by decide +kernel
set_option maxHeartbeats 1000000 in
theorem c_sb_appC (l : Launch) (ρ : RH) (H : Heap) (P : Nat → Prop) (ba bb : Nat) (x : BT) (p0 : Int32) (res : BT × Nat × Nat) (hC : CC ρ P H) (hPb : ∀ q, P q → q < H.size) (hSB : SB ρ H ba bb x ∧ P ba ∧ P bb) (h : f_sb_appC x p0 = some res) : Met l y302 (wsOf y302 b302 2 (some (.object "java/lang/StringBuilder"))) ({ frames := 12, cells := res.2.1, slots := res.2.2, locals := 600 } : Room) (va_Pc [.ref ba, .int p0] (KP ρ H)) (mQ (fun v H1 => v = some (.ref ba) ∧ ∃ b1, (b1 = bb ∨ H.size ≤ b1) ∧ b1 < H1.size ∧ SB ρ H1 ba b1 res.1) (fun q => q = ba ∨ q = bb ∨ H.size ≤ q)) res.2.1 res.2.2 (fun q => q = ba ∨ q = bb ∨ H.size ≤ q) := by
  obtain ⟨hg, h⟩ := jg_some h
  obtain ⟨ch, hch0, rfl⟩ := inb_ex hg (by decide)
  rw [nI_clamp (show ch < 2 ^ 31 by omega)] at h
  unfold sbAdd at h
  obtain ⟨hg2, h⟩ := jg_some h
  simp only [Bool.and_eq_true, decide_eq_true_eq] at hg2
  obtain rfl := Option.some.inj h
  refine m_ofW (own := "java/lang/StringBuilder") (plainFor_of_name rfl) rfl (Nat.le_of_ble_eq_true rfl) fun p e s m args below meth c ls hx hb hr hlk hmn X hs0 hl => ?_
  subst hs0
  have hS : va_S (fun q => q = ba ∨ q = bb ∨ s.heap.size ≤ q) s.heap s.heap [] := va_S.rf
  have hl : lv_has ls 2 [(0, .ref ba), (1, .int (nI ch))] := hl
  refine lv_aload_n (pc := 0) hx hb d302_0 rfl (lv_at hl 0 rfl) ?_
  refine lv_iload_n (pc := 1) hx hb d302_1 rfl (lv_at hl 1 rfl) ?_
  refine k_callSU (pc := 2) (n := 1) X hS 10 rfl (c_b_apC l ρ _ P ba bb x ch hC hPb hSB hch0 hg2.1 hg2.2) wd319 wd317 wd318 wd2002 wd312 wd12 (by decide) ⟨rfl, rfl, Nat.le_of_ble_eq_true rfl, Nat.le_of_ble_eq_true rfl⟩ (sb_recv X hSB.1) (As := [.int (nI ch)]) (rest := []) rfl rfl hl.1 (Nat.le_of_ble_eq_true rfl) d302_2 ⟨(Nat.le_of_eq (Nat.zero_add _)), (Nat.le_of_eq (Nat.zero_add _))⟩ (fun q hq => hq) (fun v H1 locs1 hv hz1 hq1 hS => ?_)
  obtain ⟨rfl, b1, hb1, hlt, hSB1⟩ := hv
  refine lv_pop (pc := 5) hx hb d302_5 rfl ?_
  refine lv_aload_n (pc := 6) hx hb d302_6 rfl (lv_at hl 0 rfl) ?_
  exact m_aret (pc := 7) hx hb hr (Or.inl ⟨_, rfl⟩) hlk hS ⟨rfl, b1, hb1, hlt, hSB1⟩ (Nat.le_of_eq (Nat.zero_add _)) (Nat.le_of_eq (Nat.zero_add _)) d302_7
abbrev b258 : ByteArray := prog_14_method_71_code
theorem d258_0 : decode b258 0 = .ok ((.getstatic 18), 3) := by decide +kernel
theorem d258_3 : decode b258 3 = .ok ((.ifCond .eq 18), 3) := by decide +kernel
theorem d258_6 : decode b258 6 = .ok ((.aload_n 0), 1) := by decide +kernel
theorem d258_7 : decode b258 7 = .ok ((.getfield 22), 3) := by decide +kernel
theorem d258_10 : decode b258 10 = .ok ((.aload_n 1), 1) := by decide +kernel
theorem d258_11 : decode b258 11 = .ok ((.invokevirtual 40), 3) := by decide +kernel
theorem d258_14 : decode b258 14 = .ok ((.if_icmp .eq 7), 3) := by decide +kernel
theorem d258_17 : decode b258 17 = .ok ((.aload_n 0), 1) := by decide +kernel
theorem d258_18 : decode b258 18 = .ok ((.invokevirtual 195), 3) := by decide +kernel
theorem d258_21 : decode b258 21 = .ok (.return_, 1) := by decide +kernel
set_option maxHeartbeats 1000000 in
theorem c_b_inf (l : Launch) (ρ : RH) (H : Heap) (P : Nat → Prop) (a b : Nat) (z n0 : Int32) (s0 bs : Nat) (hC : CC ρ P H) (hPb : ∀ q, P q → q < H.size) (ho : t_OB a ((rD ρ).1 10) 4 ((rD ρ).2 10) H (sbF b z n0)) (hR : isR ρ H s0 bs) : Met l y258 (wsOf y258 b258 2 none) ({ frames := 1, cells := 0, slots := 0, locals := 20 } : Room) (va_Pc [.ref a, .ref s0] (KP ρ H)) (mQ (fun v H1 => v = none ∧ H1 = H) (fun _ => False)) 0 0 (fun _ => False) := by
  refine m_ofW (own := "java/lang/AbstractStringBuilder") (plainFor_of_name rfl) rfl (Nat.le_of_ble_eq_true rfl) fun p e s m args below meth c ls hx hb hr hlk hmn X hs0 hl => ?_
  subst hs0
  have hS : va_S (fun _ => False) s.heap s.heap [] := va_S.rf
  have hl : lv_has ls 2 [(0, .ref a), (1, .ref s0)] := hl
  refine c_gets (pc := 0) X 0 (hC.2.1 0 1 rfl) rfl rfl wd291 d258_0 ?_
  refine lv_if_eq (pc := 3) (tgt := 21) hx hb d258_3 (by decide) (fun zbr => absurd zbr (by decide)) (fun zbr => ?_)
  refine lv_aload_n (pc := 6) hx hb d258_6 rfl (lv_at hl 0 rfl) ?_
  refine o_getf (pc := 7) X ho 1 rfl rfl rfl tin10 rfl wd301 d258_7 ?_
  refine lv_aload_n (pc := 10) hx hb d258_10 rfl (lv_at hl 1 rfl) ?_
  refine k_callV (pc := 11) (n := 0) X hS (c_j_coder l ρ _ P s0 bs hC hPb hR) wd542 wd552 wd540 wd541 wd14 (by decide) ⟨rfl, rfl, Nat.le_of_ble_eq_true rfl, Nat.le_of_ble_eq_true rfl⟩ (r_recv X hR) (As := []) (rest := [.int 0]) rfl rfl hl.1 (Nat.le_of_ble_eq_true rfl) d258_11 ⟨(by first | omega | (dsimp only; omega)), (by first | omega | (dsimp only; omega))⟩ (fun q hq => hq.elim) (fun v H1 locs1 hv hz1 hz2 hS => ?_)
  obtain ⟨rfl, hv2⟩ := hv
  have hv3 := hv2.symm
  clear hv2
  subst hv3
  refine lv_icmp_eq (pc := 14) (tgt := 21) hx hb d258_14 (by decide) (fun zbr => ?_) (fun zbr => absurd (rfl) zbr)
  exact m_vret (pc := 21) hx hb hr hlk hS ⟨rfl, rfl⟩ (Nat.le_refl _) (Nat.le_refl _) d258_21
abbrev b294 : ByteArray := prog_23_method_147_code
theorem d294_0 : decode b294 0 = .ok ((.aload_n 0), 1) := by decide +kernel
theorem d294_1 : decode b294 1 = .ok ((.invokevirtual 335), 3) := by decide +kernel
theorem d294_4 : decode b294 4 = .ok ((.iload_n 3), 1) := by decide +kernel
theorem d294_5 : decode b294 5 = .ok ((.if_icmp .ne 23), 3) := by decide +kernel
theorem d294_8 : decode b294 8 = .ok ((.aload_n 0), 1) := by decide +kernel
theorem d294_9 : decode b294 9 = .ok ((.getfield 9), 3) := by decide +kernel
theorem d294_12 : decode b294 12 = .ok ((.iconst 0), 1) := by decide +kernel
theorem d294_13 : decode b294 13 = .ok ((.aload_n 1), 1) := by decide +kernel
theorem d294_14 : decode b294 14 = .ok ((.iload_n 2), 1) := by decide +kernel
theorem d294_15 : decode b294 15 = .ok ((.iload_n 3), 1) := by decide +kernel
theorem d294_16 : decode b294 16 = .ok (.ishl, 1) := by decide +kernel
theorem d294_17 : decode b294 17 = .ok ((.aload_n 0), 1) := by decide +kernel
theorem d294_18 : decode b294 18 = .ok ((.getfield 9), 3) := by decide +kernel
theorem d294_21 : decode b294 21 = .ok (.arraylength, 1) := by decide +kernel
theorem d294_22 : decode b294 22 = .ok ((.invokestatic 212), 3) := by decide +kernel
theorem d294_25 : decode b294 25 = .ok ((.goto 18), 3) := by decide +kernel
theorem d294_28 : decode b294 28 = .ok ((.aload_n 0), 1) := by decide +kernel
theorem d294_29 : decode b294 29 = .ok ((.getfield 9), 3) := by decide +kernel
theorem d294_32 : decode b294 32 = .ok ((.iconst 0), 1) := by decide +kernel
theorem d294_33 : decode b294 33 = .ok ((.aload_n 1), 1) := by decide +kernel
theorem d294_34 : decode b294 34 = .ok ((.iload_n 2), 1) := by decide +kernel
theorem d294_35 : decode b294 35 = .ok ((.aload_n 0), 1) := by decide +kernel
theorem d294_36 : decode b294 36 = .ok ((.getfield 9), 3) := by decide +kernel
theorem d294_39 : decode b294 39 = .ok (.arraylength, 1) := by decide +kernel
theorem d294_40 : decode b294 40 = .ok ((.invokestatic 106), 3) := by decide +kernel
theorem d294_43 : decode b294 43 = .ok (.return_, 1) := by decide +kernel
set_option maxHeartbeats 1000000 in
theorem c_b_gb (l : Launch) (ρ : RH) (H : Heap) (P : Nat → Prop) (s0 bs b q k w : Nat) (f g : Nat → Int32) (hC : CC ρ P H) (hPb : ∀ q, P q → q < H.size) (hR : isR ρ H s0 bs) (hB : bY ρ H bs w g) (hcell : H[b]? = some (vp_cell (rA ρ 4) (q, .inl f))) (hne : bs ≠ b) (hkw : k + w ≤ q) (hq20 : q < 2 ^ 20) : Met l y294 (wsOf y294 b294 4 none) ({ frames := 1, cells := 0, slots := 0, locals := 60 } : Room) (va_Pc [.ref s0, .ref b, .int (nI k), .int 0] (KP ρ H)) (mQ (fun v H1 => v = none ∧ H1[b]? = some (vp_cell (rA ρ 4) (q, .inl (va_cpy g f 0 k w)))) (fun q => q = b)) 0 0 (fun q => q = b) := by
  refine m_ofW (own := "java/lang/String") (plainFor_of_name rfl) rfl (Nat.le_of_ble_eq_true rfl) fun p e s m args below meth c ls hx hb hr hlk hmn X hs0 hl => ?_
  subst hs0
  have hS : va_S (fun q => q = b) s.heap s.heap [] := va_S.rf
  have hl : lv_has ls 4 [(0, .ref s0), (1, .ref b), (2, .int (nI k)), (3, .int 0)] := hl
  refine lv_aload_n (pc := 0) hx hb d294_0 rfl (lv_at hl 0 rfl) ?_
  refine k_callV (pc := 1) (n := 0) X hS (c_j_coder l ρ _ P s0 bs hC hPb hR) wd542 wd539 wd540 wd541 wd14 (by decide) ⟨rfl, rfl, Nat.le_of_ble_eq_true rfl, Nat.le_of_ble_eq_true rfl⟩ (r_recv X hR) (As := []) (rest := []) rfl rfl hl.1 (Nat.le_of_ble_eq_true rfl) d294_1 ⟨(by first | omega | (dsimp only; omega)), (by first | omega | (dsimp only; omega))⟩ (fun q hq => hq.elim) (fun v H1 locs1 hv hz1 hz2 hS => ?_)
  obtain ⟨rfl, hv2⟩ := hv
  have hv3 := hv2.symm
  clear hv2
  subst hv3
  refine lv_iload_n (pc := 4) hx hb d294_4 rfl (lv_at hl 3 rfl) ?_
  refine lv_icmp_ne (pc := 5) (tgt := 28) hx hb d294_5 (by decide) (fun zbr => absurd zbr (by decide)) (fun zbr => ?_)
  refine lv_aload_n (pc := 8) hx hb d294_8 rfl (lv_at hl 0 rfl) ?_
  refine s_val (pc := 9) X hR wd598 d294_9 ?_
  refine lv_iconst (pc := 12) (v := 0) hx hb d294_12 (by decide) ?_
  refine lv_aload_n (pc := 13) hx hb d294_13 rfl (lv_at hl 1 rfl) ?_
  refine lv_iload_n (pc := 14) hx hb d294_14 rfl (lv_at hl 2 rfl) ?_
  refine lv_iload_n (pc := 15) hx hb d294_15 rfl (lv_at hl 3 rfl) ?_
  refine lv_ishl (pc := 16) hx hb d294_16 ?_
  refine nm_i (y := nI k) ((sb_shl0 _).symm) ?_
  refine lv_aload_n (pc := 17) hx hb d294_17 rfl (lv_at hl 0 rfl) ?_
  refine s_val (pc := 18) X hR wd598 d294_18 ?_
  refine b_len (pc := 21) X hB d294_21 ?_
  refine o_copy (pc := 22) (sp := 0) (dp := k) (n := w) X hS hB (fun e => hne e) hcell (rfl) (by omega) (by omega) (by omega) hl.1 rfl rfl wd557 d294_22 (fun H1 locs1 hcell hS => ?_)
  refine lv_goto (pc := 25) (tgt := 43) hx hb d294_25 (by decide) ?_
  exact m_vret (pc := 43) hx hb hr hlk hS ⟨rfl, hcell⟩ (Nat.le_refl _) (Nat.le_refl _) d294_43
abbrev b262 : ByteArray := prog_14_method_73_code
theorem d262_0 : decode b262 0 = .ok ((.aload_n 0), 1) := by decide +kernel
theorem d262_1 : decode b262 1 = .ok ((.aload_n 2), 1) := by decide +kernel
theorem d262_2 : decode b262 2 = .ok ((.invokevirtual 397), 3) := by decide +kernel
theorem d262_5 : decode b262 5 = .ok ((.aload_n 2), 1) := by decide +kernel
theorem d262_6 : decode b262 6 = .ok ((.aload_n 0), 1) := by decide +kernel
theorem d262_7 : decode b262 7 = .ok ((.getfield 15), 3) := by decide +kernel
theorem d262_10 : decode b262 10 = .ok ((.iload_n 1), 1) := by decide +kernel
theorem d262_11 : decode b262 11 = .ok ((.aload_n 0), 1) := by decide +kernel
theorem d262_12 : decode b262 12 = .ok ((.getfield 22), 3) := by decide +kernel
theorem d262_15 : decode b262 15 = .ok ((.invokevirtual 399), 3) := by decide +kernel
theorem d262_18 : decode b262 18 = .ok (.return_, 1) := by decide +kernel
set_option maxHeartbeats 1000000 in
theorem c_b_psa (l : Launch) (ρ : RH) (H : Heap) (P : Nat → Prop) (a b : Nat) (z n0 : Int32) (s0 bs q k w : Nat) (f g : Nat → Int32) (hC : CC ρ P H) (hPb : ∀ q, P q → q < H.size) (ho : t_OB a ((rD ρ).1 10) 4 ((rD ρ).2 10) H (sbF b z n0)) (hR : isR ρ H s0 bs) (hB : bY ρ H bs w g) (hcell : H[b]? = some (vp_cell (rA ρ 4) (q, .inl f))) (hne : bs ≠ b) (hkw : k + w ≤ q) (hq20 : q < 2 ^ 20) : Met l y262 (wsOf y262 b262 3 none) ({ frames := 2, cells := 0, slots := 0, locals := 83 } : Room) (va_Pc [.ref a, .int (nI k), .ref s0] (KP ρ H)) (mQ (fun v H1 => v = none ∧ H1[b]? = some (vp_cell (rA ρ 4) (q, .inl (va_cpy g f 0 k w)))) (fun q => q = b)) 0 0 (fun q => q = b) := by
  refine m_ofW (own := "java/lang/AbstractStringBuilder") (plainFor_of_name rfl) rfl (Nat.le_of_ble_eq_true rfl) fun p e s m args below meth c ls hx hb hr hlk hmn X hs0 hl => ?_
  subst hs0
  have hS : va_S (fun q => q = b) s.heap s.heap [] := va_S.rf
  have hl : lv_has ls 3 [(0, .ref a), (1, .int (nI k)), (2, .ref s0)] := hl
  refine lv_aload_n (pc := 0) hx hb d262_0 rfl (lv_at hl 0 rfl) ?_
  refine lv_aload_n (pc := 1) hx hb d262_1 rfl (lv_at hl 2 rfl) ?_
  refine k_callV (pc := 2) (n := 1) X hS (c_b_inf l ρ _ P a b z n0 s0 bs hC hPb ho hR) wd551 wd548 wd550 sx258 wd12 (by decide) ⟨rfl, rfl, Nat.le_of_ble_eq_true rfl, Nat.le_of_ble_eq_true rfl⟩ (S_recv X ho (ci := 10) rfl) (As := [.ref s0]) (rest := []) rfl rfl hl.1 (Nat.le_of_ble_eq_true rfl) d262_2 ⟨(by first | omega | (dsimp only; omega)), (by first | omega | (dsimp only; omega))⟩ (fun q hq => hq.elim) (fun v H1 locs1 hv hz1 hz2 hS => ?_)
  obtain ⟨rfl, hv2⟩ := hv
  have hv3 := hv2.symm
  clear hv2
  subst hv3
  refine lv_aload_n (pc := 5) hx hb d262_5 rfl (lv_at hl 2 rfl) ?_
  refine lv_aload_n (pc := 6) hx hb d262_6 rfl (lv_at hl 0 rfl) ?_
  refine o_getf (pc := 7) X ho 0 rfl rfl rfl tin10 rfl wd300 d262_7 ?_
  refine lv_iload_n (pc := 10) hx hb d262_10 rfl (lv_at hl 1 rfl) ?_
  refine lv_aload_n (pc := 11) hx hb d262_11 rfl (lv_at hl 0 rfl) ?_
  refine o_getf (pc := 12) X ho 1 rfl rfl rfl tin10 rfl wd301 d262_12 ?_
  refine k_callV (pc := 15) (n := 3) X hS (c_b_gb l ρ _ P s0 bs b q k w f g hC hPb hR hB hcell hne hkw hq20) wd556 wd553 wd554 wd555 wd14 (by decide) ⟨rfl, rfl, Nat.le_of_ble_eq_true rfl, Nat.le_of_ble_eq_true rfl⟩ (r_recv X hR) (As := [.ref b, .int (nI k), .int 0]) (rest := []) rfl rfl hl.1 (Nat.le_of_ble_eq_true rfl) d262_15 ⟨(by first | omega | (dsimp only; omega)), (by first | omega | (dsimp only; omega))⟩ (fun q hq => hq) (fun v H1 locs1 hv hz1 hq1 hS => ?_)
  obtain ⟨rfl, hcell⟩ := hv
  exact m_vret (pc := 18) hx hb hr hlk hS ⟨rfl, hcell⟩ (Nat.le_refl _) (Nat.le_refl _) d262_18
theorem isY_no {ρ : RH} {P : Nat → Prop} {H : Heap} {b : Nat} {t : TT} (h : isY ρ P H b t) : isY ρ no H b t := h.step kp.rf no_hz (fun _ _ z => z.elim)
theorem isY_ne {ρ : RH} {H : Heap} {a b bs : Nat} {t : TT} (h : isY ρ (ab a b) H bs t) : bs ≠ a ∧ bs ≠ b := by
  obtain ⟨ca, g1, g2, g3, g4, g5, g6, g7, g8, g9, g10⟩ := h
  exact ⟨fun e => g10 (Or.inl e), fun e => g10 (Or.inr e)⟩
theorem isS_ne {ρ : RH} {H : Heap} {a b s0 : Nat} {t : TT} (h : isS ρ (ab a b) H s0 t) : s0 ≠ a ∧ s0 ≠ b := by
  obtain ⟨b', cs, h1, h2, h3, h4, h5, h6, h7, h8⟩ := h
  exact ⟨fun e => h8 (Or.inl e), fun e => h8 (Or.inr e)⟩
theorem isR_lt {ρ : RH} {H : Heap} {a b : Nat} (h : isR ρ H a b) : a < H.size := by
  obtain ⟨cs, h1, -⟩ := h
  exact hp_lt h1
theorem isR_keep {ρ : RH} {H H1 : Heap} {a b : Nat} (h : isR ρ H a b) (e : H1[a]? = H[a]?) : isR ρ H1 a b := by
  obtain ⟨cs, h1, h2⟩ := h
  exact ⟨cs, by rw [e]; exact h1, h2⟩
theorem isS_R {ρ : RH} {P : Nat → Prop} {H : Heap} {a b : Nat} {t : TT} (h : isR ρ H a b) (_ : isY ρ P H b t) : isR ρ H a b := h
abbrev b253 : ByteArray := prog_14_method_22_code
theorem d253_0 : decode b253 0 = .ok ((.aload_n 1), 1) := by decide +kernel
theorem d253_1 : decode b253 1 = .ok ((.ifnonnull 8), 3) := by decide +kernel
theorem d253_4 : decode b253 4 = .ok ((.aload_n 0), 1) := by decide +kernel
theorem d253_5 : decode b253 5 = .ok ((.invokevirtual 204), 3) := by decide +kernel
theorem d253_8 : decode b253 8 = .ok (.areturn, 1) := by decide +kernel
theorem d253_9 : decode b253 9 = .ok ((.aload_n 1), 1) := by decide +kernel
theorem d253_10 : decode b253 10 = .ok ((.invokevirtual 32), 3) := by decide +kernel
theorem d253_13 : decode b253 13 = .ok ((.istore_n 2), 1) := by decide +kernel
theorem d253_14 : decode b253 14 = .ok ((.aload_n 0), 1) := by decide +kernel
theorem d253_15 : decode b253 15 = .ok ((.aload_n 0), 1) := by decide +kernel
theorem d253_16 : decode b253 16 = .ok ((.getfield 79), 3) := by decide +kernel
theorem d253_19 : decode b253 19 = .ok ((.iload_n 2), 1) := by decide +kernel
theorem d253_20 : decode b253 20 = .ok (.iadd, 1) := by decide +kernel
theorem d253_21 : decode b253 21 = .ok ((.invokevirtual 100), 3) := by decide +kernel
theorem d253_24 : decode b253 24 = .ok ((.aload_n 0), 1) := by decide +kernel
theorem d253_25 : decode b253 25 = .ok ((.aload_n 0), 1) := by decide +kernel
theorem d253_26 : decode b253 26 = .ok ((.getfield 79), 3) := by decide +kernel
theorem d253_29 : decode b253 29 = .ok ((.aload_n 1), 1) := by decide +kernel
theorem d253_30 : decode b253 30 = .ok ((.invokevirtual 208), 3) := by decide +kernel
theorem d253_33 : decode b253 33 = .ok ((.aload_n 0), 1) := by decide +kernel
theorem d253_34 : decode b253 34 = .ok (.dup, 1) := by decide +kernel
theorem d253_35 : decode b253 35 = .ok ((.getfield 79), 3) := by decide +kernel
theorem d253_38 : decode b253 38 = .ok ((.iload_n 2), 1) := by decide +kernel
theorem d253_39 : decode b253 39 = .ok (.iadd, 1) := by decide +kernel
theorem d253_40 : decode b253 40 = .ok ((.putfield 79), 3) := by decide +kernel
theorem d253_43 : decode b253 43 = .ok ((.aload_n 0), 1) := by decide +kernel
theorem d253_44 : decode b253 44 = .ok (.areturn, 1) := by decide +kernel
set_option maxHeartbeats 1000000 in
theorem c_b_apS (l : Launch) (ρ : RH) (H : Heap) (P : Nat → Prop) (a b : Nat) (x : BT) (s0 bs : Nat) (t0 : TT) (hC : CC ρ P H) (hPb : ∀ q, P q → q < H.size) (hSB : SB ρ H a b x ∧ P a ∧ P b) (hR : isR ρ H s0 bs) (hY : isY ρ (ab a b) H bs t0) (hs0a : s0 ≠ a) (hl16 : x.1.length + t0.length < 2 ^ 16) (hq17 : x.2 < 2 ^ 17) : Met l y253 (wsOf y253 b253 3 (some (.object "java/lang/AbstractStringBuilder"))) ({ frames := 4, cells := gc x.2 (x.1.length + t0.length), slots := gs x.2 (x.1.length + t0.length), locals := 105 } : Room) (va_Pc [.ref a, .ref s0] (KP ρ H)) (mQ (fun v H1 => v = some (.ref a) ∧ ∃ b1, (b1 = b ∨ H.size ≤ b1) ∧ b1 < H1.size ∧ SB ρ H1 a b1 (x.1 ++ t0, gcap x.2 (x.1.length + t0.length))) (fun q => q = a ∨ q = b ∨ H.size ≤ q)) (gc x.2 (x.1.length + t0.length)) (gs x.2 (x.1.length + t0.length)) (fun q => q = a ∨ q = b ∨ H.size ≤ q) := by
  obtain ⟨⟨z, f, ho, hcell, hf, hfit, hch, hln, hcap, hab, hz01⟩, hPa, hPbb⟩ := hSB
  refine m_ofW (own := "java/lang/AbstractStringBuilder") (plainFor_of_name rfl) rfl (Nat.le_of_ble_eq_true rfl) fun p e s m args below meth c ls hx hb hr hlk hmn X hs0 hl => ?_
  subst hs0
  have hS : va_S (fun q => q = a ∨ q = b ∨ s.heap.size ≤ q) s.heap s.heap [] := va_S.rf
  have hl : lv_has ls 3 [(0, .ref a), (1, .ref s0)] := hl
  have hR := isS_R hR hY
  refine lv_aload_n (pc := 0) hx hb d253_0 rfl (lv_at hl 1 rfl) ?_
  refine lv_ifnonnull (pc := 1) (tgt := 9) hx hb d253_1 (by decide) ?_
  refine lv_aload_n (pc := 9) hx hb d253_9 rfl (lv_at hl 1 rfl) ?_
  refine k_callV (pc := 10) (n := 0) X hS (c_j_length l ρ _ no s0 bs t0 (hC.step kp.rf no_hz (fun _ _ z => z.elim)) (fun _ z => z.elim) hR (isY_no hY)) wd538 wd535 wd536 wd537 wd14 (by decide) ⟨rfl, rfl, Nat.le_of_ble_eq_true rfl, Nat.le_of_ble_eq_true rfl⟩ (r_recv X hR) (As := []) (rest := []) rfl rfl hl.1 (Nat.le_of_ble_eq_true rfl) d253_10 ⟨(by first | omega | (dsimp only; omega)), (by first | omega | (dsimp only; omega))⟩ (fun q hq => hq.elim) (fun v H1 locs1 hv hz1 hz2 hS => ?_)
  obtain ⟨rfl, hv2⟩ := hv
  have hv3 := hv2.symm
  clear hv2
  subst hv3
  refine lv_istore_n (pc := 13) (lv' := [(2, .int (nI t0.length)), (0, .ref a), (1, .ref s0)]) hx hb d253_13 rfl hl (by decide) rfl (fun ls hl => ?_)
  refine lv_aload_n (pc := 14) hx hb d253_14 rfl (lv_at hl 1 rfl) ?_
  refine lv_aload_n (pc := 15) hx hb d253_15 rfl (lv_at hl 1 rfl) ?_
  refine o_getf (pc := 16) X ho 3 rfl rfl rfl tin10 rfl wd303 d253_16 ?_
  refine lv_iload_n (pc := 19) hx hb d253_19 rfl (lv_at hl 0 rfl) ?_
  refine lv_iadd (pc := 20) hx hb d253_20 ?_
  refine nm_i (y := nI (x.1.length + t0.length)) ((nI_add _ _).symm) ?_
  have hRl := isR_lt hR
  have hBl := hY.bY.lt
  refine k_callV (pc := 21) (n := 1) X hS (c_b_ens l ρ _ P a b z (nI x.1.length) x.2 f (x.1.length + t0.length) hC hPb ho hcell hfit hab (by omega) (by omega)) wd323 wd320 wd322 sx255 wd12 (by decide) ⟨rfl, rfl, Nat.le_of_ble_eq_true rfl, Nat.le_of_ble_eq_true rfl⟩ (S_recv X ho (ci := 10) rfl) (As := [.int (nI (x.1.length + t0.length))]) (rest := []) rfl rfl hl.1 (Nat.le_of_ble_eq_true rfl) d253_21 ⟨(by first | omega | (dsimp only; omega)), (by first | omega | (dsimp only; omega))⟩ (fun q hq => hq.elim Or.inl (fun g => Or.inr (Or.inr g))) (fun v H1 locs1 hv hz1 hq1 hS => ?_)
  obtain ⟨rfl, b1, f1, hb1, ho, hcell, hk1, hfit, hab⟩ := hv
  have hkP : kp P s.heap H1 := ⟨hz1, fun q hq hn => hq1 q hq (fun z => z.elim (fun e => hn (e ▸ hPa)) (fun g => by omega))⟩
  have hC := hC.keep hkP (fun _ _ z => z)
  have hPb : ∀ q, P q → q < H1.size := fun q z => hkP.lt (hPb q z)
  have hgl := gcap_lt (n := x.1.length + t0.length) (q := x.2) (by omega) (by omega)
  have hgg := gcap_ge (q := x.2) (n := x.1.length + t0.length)
  have hAb : b1 = a ∨ b1 = b ∨ s.heap.size ≤ b1 := hb1.elim (fun e => Or.inr (Or.inl e)) (fun g => Or.inr (Or.inr g))
  have hR : isR ρ H1 s0 bs := isR_keep hR (hq1 s0 hRl (by have := hs0a; omega))
  have hB : bY ρ H1 bs t0.length (fun j => sb_b (t0.getD j 0)) := hY.bY.keep (hq1 bs hBl (by have := isY_ne hY; omega))
  have hne : bs ≠ b1 := by have := isY_ne hY; omega
  refine lv_aload_n (pc := 24) hx hb d253_24 rfl (lv_at hl 1 rfl) ?_
  refine lv_aload_n (pc := 25) hx hb d253_25 rfl (lv_at hl 1 rfl) ?_
  refine o_getf (pc := 26) X ho 3 rfl rfl rfl tin10 rfl wd303 d253_26 ?_
  refine lv_aload_n (pc := 29) hx hb d253_29 rfl (lv_at hl 2 rfl) ?_
  refine k_callV (pc := 30) (n := 2) X hS (c_b_psa l ρ _ P a b1 z (nI x.1.length) s0 bs (gcap x.2 (x.1.length + t0.length)) x.1.length t0.length f1 (fun j => sb_b (t0.getD j 0)) hC hPb ho hR hB hcell hne (by omega) (by omega)) wd547 wd544 wd546 sx262 wd12 (by decide) ⟨rfl, rfl, Nat.le_of_ble_eq_true rfl, Nat.le_of_ble_eq_true rfl⟩ (S_recv X ho (ci := 10) rfl) (As := [.int (nI x.1.length), .ref s0]) (rest := []) rfl rfl hl.1 (Nat.le_of_ble_eq_true rfl) d253_30 ⟨(by first | omega | (dsimp only; omega)), (by first | omega | (dsimp only; omega))⟩ (fun q hq => by rw [hq]; exact hAb) (fun v H2 locs1 hv hz2 hq2 hS => ?_)
  obtain ⟨rfl, hcell⟩ := hv
  have ho := ho.kept (hq2 a (t_lt ho) hab)
  refine lv_aload_n (pc := 33) hx hb d253_33 rfl (lv_at hl 1 rfl) ?_
  refine lv_dup (pc := 34) hx hb d253_34 rfl ?_
  refine o_getf (pc := 35) X ho 3 rfl rfl rfl tin10 rfl wd303 d253_35 ?_
  refine lv_iload_n (pc := 38) hx hb d253_38 rfl (lv_at hl 0 rfl) ?_
  refine lv_iadd (pc := 39) hx hb d253_39 ?_
  refine nm_i (y := nI (x.1.length + t0.length)) ((nI_add _ _).symm) ?_
  refine o_put (pc := 40) X hS ho 3 (Or.inl rfl) rfl rfl tin10 ty10 tyo10 tnm10 rfl wd303 rfl rfl rfl d253_40 (fun H1 locs1 ho1 hS hz hq => ?_)
  have ho := ho1
  have ho := ho.to sbF_3
  have hcell := (hq b1 hab.symm).trans hcell
  refine lv_aload_n (pc := 43) hx hb d253_43 rfl (lv_at hl 1 rfl) ?_
  exact m_aret (pc := 44) hx hb hr (Or.inl ⟨_, rfl⟩) hlk hS ⟨rfl, b1, hb1, hp_lt hcell, SB_app ho hcell (fun j hj => by unfold va_cpy; rw [if_neg (by omega), hk1 j (by omega), hf j hj]) (fun j hj => by unfold va_cpy; rw [if_pos (by omega), Nat.zero_add, Nat.add_sub_cancel_left]) (cpy_fit (N := t0.length) (fun j _ => sb_fitB _) hfit (by omega)) hch hY.ok.1 (by omega) (by omega) hab hz01⟩ (by first | omega | (dsimp only; omega)) (by first | omega | (dsimp only; omega)) d253_44
theorem d304_0 : decode b304 0 = .ok ((.aload_n 0), 1) := by decide +kernel
theorem d304_1 : decode b304 1 = .ok ((.aload_n 1), 1) := by decide +kernel
theorem d304_2 : decode b304 2 = .ok ((.invokespecial 29), 3) := by decide +kernel
theorem d304_5 : decode b304 5 = .ok (.pop, 1) := by decide +kernel
theorem d304_6 : decode b304 6 = .ok ((.aload_n 0), 1) := by decide +kernel
theorem d304_7 : decode b304 7 = .ok (.areturn, 1) := by decide +kernel
set_option maxHeartbeats 1000000 in
theorem c_sb_appS (l : Launch) (ρ : RH) (H : Heap) (P : Nat → Prop) (ba bb : Nat) (x : BT) (ap0 : Nat) (p0 : TT) (res : BT × Nat × Nat) (hC : CC ρ P H) (hPb : ∀ q, P q → q < H.size) (hSB : SB ρ H ba bb x ∧ P ba ∧ P bb) (hp0 : isS ρ (ab ba bb) H ap0 p0) (h : f_sb_appS x p0 = some res) : Met l y304 (wsOf y304 b304 2 (some (.object "java/lang/StringBuilder"))) ({ frames := 12, cells := res.2.1, slots := res.2.2, locals := 600 } : Room) (va_Pc [.ref ba, .ref ap0] (KP ρ H)) (mQ (fun v H1 => v = some (.ref ba) ∧ ∃ b1, (b1 = bb ∨ H.size ≤ b1) ∧ b1 < H1.size ∧ SB ρ H1 ba b1 res.1) (fun q => q = ba ∨ q = bb ∨ H.size ≤ q)) res.2.1 res.2.2 (fun q => q = ba ∨ q = bb ∨ H.size ≤ q) := by
  obtain ⟨bs, hR, hY⟩ := hp0.cut
  unfold f_sb_appS at h
  unfold sbAdd at h
  obtain ⟨hg2, h⟩ := jg_some h
  simp only [Bool.and_eq_true, decide_eq_true_eq] at hg2
  obtain rfl := Option.some.inj h
  refine m_ofW (own := "java/lang/StringBuilder") (plainFor_of_name rfl) rfl (Nat.le_of_ble_eq_true rfl) fun p e s m args below meth c ls hx hb hr hlk hmn X hs0 hl => ?_
  subst hs0
  have hS : va_S (fun q => q = ba ∨ q = bb ∨ s.heap.size ≤ q) s.heap s.heap [] := va_S.rf
  have hl : lv_has ls 2 [(0, .ref ba), (1, .ref ap0)] := hl
  refine lv_aload_n (pc := 0) hx hb d304_0 rfl (lv_at hl 0 rfl) ?_
  refine lv_aload_n (pc := 1) hx hb d304_1 rfl (lv_at hl 1 rfl) ?_
  refine k_callSU (pc := 2) (n := 1) X hS 10 rfl (c_b_apS l ρ _ P ba bb x ap0 bs p0 hC hPb hSB hR hY (isS_ne hp0).1 hg2.1 hg2.2) wd527 wd525 wd526 wd2008 wd312 wd12 (by decide) ⟨rfl, rfl, Nat.le_of_ble_eq_true rfl, Nat.le_of_ble_eq_true rfl⟩ (sb_recv X hSB.1) (As := [.ref ap0]) (rest := []) rfl rfl hl.1 (Nat.le_of_ble_eq_true rfl) d304_2 ⟨(Nat.le_of_eq (Nat.zero_add _)), (Nat.le_of_eq (Nat.zero_add _))⟩ (fun q hq => hq) (fun v H1 locs1 hv hz1 hq1 hS => ?_)
  obtain ⟨rfl, b1, hb1, hlt, hSB1⟩ := hv
  refine lv_pop (pc := 5) hx hb d304_5 rfl ?_
  refine lv_aload_n (pc := 6) hx hb d304_6 rfl (lv_at hl 0 rfl) ?_
  exact m_aret (pc := 7) hx hb hr (Or.inl ⟨_, rfl⟩) hlk hS ⟨rfl, b1, hb1, hlt, hSB1⟩ (Nat.le_of_eq (Nat.zero_add _)) (Nat.le_of_eq (Nat.zero_add _)) d304_7
