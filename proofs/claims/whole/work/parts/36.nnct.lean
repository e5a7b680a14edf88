abbrev b101 : ByteArray := prog_9_method_1_code
theorem d101_0 : decode b101 0 = .ok ((.aload_n 0), 1) := by decide +kernel
theorem d101_1 : decode b101 1 = .ok ((.invokespecial 3), 3) := by decide +kernel
theorem d101_4 : decode b101 4 = .ok ((.aload_n 0), 1) := by decide +kernel
theorem d101_5 : decode b101 5 = .ok ((.sipush 255), 3) := by decide +kernel
theorem d101_8 : decode b101 8 = .ok ((.newarray .int), 2) := by decide +kernel
theorem d101_10 : decode b101 10 = .ok ((.putfield 9), 3) := by decide +kernel
theorem d101_13 : decode b101 13 = .ok ((.aload_n 0), 1) := by decide +kernel
theorem d101_14 : decode b101 14 = .ok ((.sipush 256), 3) := by decide +kernel
theorem d101_17 : decode b101 17 = .ok ((.newarray .boolean), 2) := by decide +kernel
theorem d101_19 : decode b101 19 = .ok ((.putfield 15), 3) := by decide +kernel
theorem d101_22 : decode b101 22 = .ok (.return_, 1) := by decide +kernel
set_option maxHeartbeats 1000000 in
theorem c_n_pattern (l : Launch) (ρ : RH) (H : Heap) (P : Nat → Prop) (o : Nat) (hC : CC ρ P H) (hPb : ∀ q, P q → q < H.size) (hP : va_P (rD ρ) CL [(o, .inr (0, [.null, .int 0, .null]))] H) : Met l y101 (wsOf y101 b101 1 none) ({ frames := 1, cells := 2, slots := 511, locals := 12 } : Room) (va_Pc [.ref o] (KP ρ H)) (mQ (fun v H1 => v = none ∧ ∃ q1 q2 : Nat, va_P (rD ρ) CL [(o, .inr (0, [.ref q1, .int 0, .ref q2])), (q1, .inl (rA ρ 0, 255, .inl (fun _ => 0))), (q2, .inl (rA ρ 1, 256, .inl (fun _ => 0)))] H1 ∧ va_D (va_A [(o, .inr (0, [.null, .int 0, .null]))] H.size) [(o, .inr (0, [.ref q1, .int 0, .ref q2])), (q1, .inl (rA ρ 0, 255, .inl (fun _ => 0))), (q2, .inl (rA ρ 1, 256, .inl (fun _ => 0)))]) (va_A [(o, .inr (0, [.null, .int 0, .null]))] H.size)) 2 511 (va_A [(o, .inr (0, [.null, .int 0, .null]))] H.size) := by
  refine m_ofW (own := "WordFunctions$Pattern") (plainFor_of_name rfl) rfl (Nat.le_of_ble_eq_true rfl) fun p e s m args below meth c ls hx hb hr hlk hmn X hs0 hl => ?_
  subst hs0
  have hS : va_S (va_A [(o, .inr (0, [.null, .int 0, .null]))] s.heap.size) s.heap s.heap [] := va_S.rf
  have hl : lv_has ls 1 [(0, .ref o)] := hl
  have hD : va_D (va_A [(o, .inr (0, [.null, .int 0, .null]))] s.heap.size) [(o, .inr (0, [.null, .int 0, .null]))] := one_D (Or.inl ⟨0, _, rfl⟩)
  refine lv_aload_n (pc := 0) hx hb d101_0 rfl (lv_at hl 0 rfl) ?_
  refine o_oini (pc := 1) X wd44 hl.1 rfl rfl d101_1 ?_
  refine lv_aload_n (pc := 4) hx hb d101_4 rfl (lv_at hl 0 rfl) ?_
  refine lv_sipush (pc := 5) (v := 255) hx hb d101_5 (by decide) ?_
  refine n_newa (pc := 8) (atype := .int) (N' := 255) X hP hD hS (fun q hq => Or.inr hq) 0 rfl rfl wd57 (255, .inl (fun _ => 0)) (fun _ => rfl) (by decide) (by decide) (by decide) (Nat.le_of_ble_eq_true rfl) (Nat.le_of_ble_eq_true rfl) d101_8 (fun q1 H1 hP hD hS => ?_)
  have hP : va_P (rD ρ) CL [(o, .inr (0, [.null, .int 0, .null])), (q1, .inl (rA ρ 0, 255, .inl (fun _ => 0)))] H1 := hP
  have hD : va_D (va_A [(o, .inr (0, [.null, .int 0, .null]))] s.heap.size) [(o, .inr (0, [.null, .int 0, .null])), (q1, .inl (rA ρ 0, 255, .inl (fun _ => 0)))] := hD
  refine n_putF (pc := 10) X hP hD hS 0 rfl rfl 0 rfl tin0 ty0 tyo0 tnm0 rfl wd45 rfl hmn rfl rfl rfl rfl d101_10 (fun H1 locs1 hP hD hS => ?_)
  have hP : va_P (rD ρ) CL [(o, .inr (0, [.ref q1, .int 0, .null])), (q1, .inl (rA ρ 0, 255, .inl (fun _ => 0)))] H1 := hP
  have hD : va_D (va_A [(o, .inr (0, [.null, .int 0, .null]))] s.heap.size) [(o, .inr (0, [.ref q1, .int 0, .null])), (q1, .inl (rA ρ 0, 255, .inl (fun _ => 0)))] := hD
  refine lv_aload_n (pc := 13) hx hb d101_13 rfl (lv_at hl 0 rfl) ?_
  refine lv_sipush (pc := 14) (v := 256) hx hb d101_14 (by decide) ?_
  refine n_newa (pc := 17) (atype := .boolean) (N' := 256) X hP hD hS (fun q hq => Or.inr hq) 1 rfl rfl wd58 (256, .inl (fun _ => 0)) (fun _ => rfl) (by decide) (by decide) (by decide) (Nat.le_of_ble_eq_true rfl) (Nat.le_of_ble_eq_true rfl) d101_17 (fun q2 H1 hP hD hS => ?_)
  have hP : va_P (rD ρ) CL [(o, .inr (0, [.ref q1, .int 0, .null])), (q1, .inl (rA ρ 0, 255, .inl (fun _ => 0))), (q2, .inl (rA ρ 1, 256, .inl (fun _ => 0)))] H1 := hP
  have hD : va_D (va_A [(o, .inr (0, [.null, .int 0, .null]))] s.heap.size) [(o, .inr (0, [.ref q1, .int 0, .null])), (q1, .inl (rA ρ 0, 255, .inl (fun _ => 0))), (q2, .inl (rA ρ 1, 256, .inl (fun _ => 0)))] := hD
  refine n_putF (pc := 19) X hP hD hS 0 rfl rfl 2 rfl tin0 ty0 tyo0 tnm0 rfl wd47 rfl hmn rfl rfl rfl rfl d101_19 (fun H1 locs1 hP hD hS => ?_)
  have hP : va_P (rD ρ) CL [(o, .inr (0, [.ref q1, .int 0, .ref q2])), (q1, .inl (rA ρ 0, 255, .inl (fun _ => 0))), (q2, .inl (rA ρ 1, 256, .inl (fun _ => 0)))] H1 := hP
  have hD : va_D (va_A [(o, .inr (0, [.null, .int 0, .null]))] s.heap.size) [(o, .inr (0, [.ref q1, .int 0, .ref q2])), (q1, .inl (rA ρ 0, 255, .inl (fun _ => 0))), (q2, .inl (rA ρ 1, 256, .inl (fun _ => 0)))] := hD
  exact m_vret (pc := 22) hx hb hr hlk hS ⟨rfl, q1, q2, hP, hD⟩ (Nat.le_of_ble_eq_true rfl) (Nat.le_of_ble_eq_true rfl) d101_22
abbrev b83 : ByteArray := prog_6_method_1_code
theorem d83_0 : decode b83 0 = .ok ((.aload_n 0), 1) := by decide +kernel
theorem d83_1 : decode b83 1 = .ok ((.invokespecial 1), 3) := by decide +kernel
theorem d83_4 : decode b83 4 = .ok (.return_, 1) := by decide +kernel
set_option maxHeartbeats 1000000 in
theorem c_n_grid (l : Launch) (ρ : RH) (H : Heap) (P : Nat → Prop) (o : Nat) (hC : CC ρ P H) (hPb : ∀ q, P q → q < H.size) (hP : va_P (rD ρ) CL [(o, .inr (2, [.int 0, .int 0, .int 0, .int 0, .int 0, .int 0]))] H) : Met l y83 (wsOf y83 b83 1 none) ({ frames := 1, cells := 0, slots := 0, locals := 12 } : Room) (va_Pc [.ref o] (KP ρ H)) (mQ (fun v H1 => v = none ∧ va_P (rD ρ) CL [(o, .inr (2, [.int 0, .int 0, .int 0, .int 0, .int 0, .int 0]))] H1 ∧ va_D (va_A [(o, .inr (2, [.int 0, .int 0, .int 0, .int 0, .int 0, .int 0]))] H.size) [(o, .inr (2, [.int 0, .int 0, .int 0, .int 0, .int 0, .int 0]))]) (va_A [(o, .inr (2, [.int 0, .int 0, .int 0, .int 0, .int 0, .int 0]))] H.size)) 0 0 (va_A [(o, .inr (2, [.int 0, .int 0, .int 0, .int 0, .int 0, .int 0]))] H.size) := by
  refine m_ofW (own := "WordFunctions$Grid") (plainFor_of_name rfl) rfl (Nat.le_of_ble_eq_true rfl) fun p e s m args below meth c ls hx hb hr hlk hmn X hs0 hl => ?_
  subst hs0
  have hS : va_S (va_A [(o, .inr (2, [.int 0, .int 0, .int 0, .int 0, .int 0, .int 0]))] s.heap.size) s.heap s.heap [] := va_S.rf
  have hl : lv_has ls 1 [(0, .ref o)] := hl
  have hD : va_D (va_A [(o, .inr (2, [.int 0, .int 0, .int 0, .int 0, .int 0, .int 0]))] s.heap.size) [(o, .inr (2, [.int 0, .int 0, .int 0, .int 0, .int 0, .int 0]))] := one_D (Or.inl ⟨0, _, rfl⟩)
  refine lv_aload_n (pc := 0) hx hb d83_0 rfl (lv_at hl 0 rfl) ?_
  refine o_oini (pc := 1) X wd103 hl.1 rfl rfl d83_1 ?_
  exact m_vret (pc := 4) hx hb hr hlk hS ⟨rfl, hP, hD⟩ (Nat.le_of_ble_eq_true rfl) (Nat.le_of_ble_eq_true rfl) d83_4
abbrev b106 : ByteArray := prog_10_method_1_code
theorem d106_0 : decode b106 0 = .ok ((.aload_n 0), 1) := by decide +kernel
theorem d106_1 : decode b106 1 = .ok ((.invokespecial 3), 3) := by decide +kernel
theorem d106_4 : decode b106 4 = .ok ((.aload_n 0), 1) := by decide +kernel
theorem d106_5 : decode b106 5 = .ok ((.aload_n 1), 1) := by decide +kernel
theorem d106_6 : decode b106 6 = .ok ((.putfield 9), 3) := by decide +kernel
theorem d106_9 : decode b106 9 = .ok ((.aload_n 0), 1) := by decide +kernel
theorem d106_10 : decode b106 10 = .ok ((.aload_n 2), 1) := by decide +kernel
theorem d106_11 : decode b106 11 = .ok ((.putfield 15), 3) := by decide +kernel
theorem d106_14 : decode b106 14 = .ok (.return_, 1) := by decide +kernel
set_option maxHeartbeats 1000000 in
theorem c_n_texts (l : Launch) (ρ : RH) (H : Heap) (P : Nat → Prop) (o g0 p0 : Nat) (hC : CC ρ P H) (hPb : ∀ q, P q → q < H.size) (hP : va_P (rD ρ) CL [(o, .inr (5, [.null, .null]))] H) : Met l y106 (wsOf y106 b106 3 none) ({ frames := 1, cells := 0, slots := 0, locals := 12 } : Room) (va_Pc [.ref o, .ref g0, .ref p0] (KP ρ H)) (mQ (fun v H1 => v = none ∧ va_P (rD ρ) CL [(o, .inr (5, [.ref g0, .ref p0]))] H1 ∧ va_D (va_A [(o, .inr (5, [.null, .null]))] H.size) [(o, .inr (5, [.ref g0, .ref p0]))]) (va_A [(o, .inr (5, [.null, .null]))] H.size)) 0 0 (va_A [(o, .inr (5, [.null, .null]))] H.size) := by
  refine m_ofW (own := "WordFunctions$Texts") (plainFor_of_name rfl) rfl (Nat.le_of_ble_eq_true rfl) fun p e s m args below meth c ls hx hb hr hlk hmn X hs0 hl => ?_
  subst hs0
  have hS : va_S (va_A [(o, .inr (5, [.null, .null]))] s.heap.size) s.heap s.heap [] := va_S.rf
  have hl : lv_has ls 3 [(0, .ref o), (1, .ref g0), (2, .ref p0)] := hl
  have hD : va_D (va_A [(o, .inr (5, [.null, .null]))] s.heap.size) [(o, .inr (5, [.null, .null]))] := one_D (Or.inl ⟨0, _, rfl⟩)
  refine lv_aload_n (pc := 0) hx hb d106_0 rfl (lv_at hl 0 rfl) ?_
  refine o_oini (pc := 1) X wd195 hl.1 rfl rfl d106_1 ?_
  refine lv_aload_n (pc := 4) hx hb d106_4 rfl (lv_at hl 0 rfl) ?_
  refine lv_aload_n (pc := 5) hx hb d106_5 rfl (lv_at hl 1 rfl) ?_
  refine n_putF (pc := 6) X hP hD hS 0 rfl rfl 0 rfl tin5 ty5 tyo5 tnm5 rfl wd196 rfl hmn rfl rfl rfl rfl d106_6 (fun H1 locs1 hP hD hS => ?_)
  have hP : va_P (rD ρ) CL [(o, .inr (5, [.ref g0, .null]))] H1 := hP
  have hD : va_D (va_A [(o, .inr (5, [.null, .null]))] s.heap.size) [(o, .inr (5, [.ref g0, .null]))] := hD
  refine lv_aload_n (pc := 9) hx hb d106_9 rfl (lv_at hl 0 rfl) ?_
  refine lv_aload_n (pc := 10) hx hb d106_10 rfl (lv_at hl 2 rfl) ?_
  refine n_putF (pc := 11) X hP hD hS 0 rfl rfl 1 rfl tin5 ty5 tyo5 tnm5 rfl wd197 rfl hmn rfl rfl rfl rfl d106_11 (fun H1 locs1 hP hD hS => ?_)
  have hP : va_P (rD ρ) CL [(o, .inr (5, [.ref g0, .ref p0]))] H1 := hP
  have hD : va_D (va_A [(o, .inr (5, [.null, .null]))] s.heap.size) [(o, .inr (5, [.ref g0, .ref p0]))] := hD
  exact m_vret (pc := 14) hx hb hr hlk hS ⟨rfl, hP, hD⟩ (Nat.le_of_ble_eq_true rfl) (Nat.le_of_ble_eq_true rfl) d106_14
abbrev b87 : ByteArray := prog_8_method_1_code
theorem d87_0 : decode b87 0 = .ok ((.aload_n 0), 1) := by decide +kernel
theorem d87_1 : decode b87 1 = .ok ((.invokespecial 3), 3) := by decide +kernel
theorem d87_4 : decode b87 4 = .ok ((.aload_n 0), 1) := by decide +kernel
theorem d87_5 : decode b87 5 = .ok ((.aload_n 1), 1) := by decide +kernel
theorem d87_6 : decode b87 6 = .ok ((.putfield 9), 3) := by decide +kernel
theorem d87_9 : decode b87 9 = .ok ((.aload_n 0), 1) := by decide +kernel
theorem d87_10 : decode b87 10 = .ok ((.aload_n 2), 1) := by decide +kernel
theorem d87_11 : decode b87 11 = .ok ((.putfield 15), 3) := by decide +kernel
theorem d87_14 : decode b87 14 = .ok (.return_, 1) := by decide +kernel
set_option maxHeartbeats 1000000 in
theorem c_n_lookups (l : Launch) (ρ : RH) (H : Heap) (P : Nat → Prop) (o g0 p0 : Nat) (hC : CC ρ P H) (hPb : ∀ q, P q → q < H.size) (hP : va_P (rD ρ) CL [(o, .inr (6, [.null, .null]))] H) : Met l y87 (wsOf y87 b87 3 none) ({ frames := 1, cells := 0, slots := 0, locals := 12 } : Room) (va_Pc [.ref o, .ref g0, .ref p0] (KP ρ H)) (mQ (fun v H1 => v = none ∧ va_P (rD ρ) CL [(o, .inr (6, [.ref g0, .ref p0]))] H1 ∧ va_D (va_A [(o, .inr (6, [.null, .null]))] H.size) [(o, .inr (6, [.ref g0, .ref p0]))]) (va_A [(o, .inr (6, [.null, .null]))] H.size)) 0 0 (va_A [(o, .inr (6, [.null, .null]))] H.size) := by
  refine m_ofW (own := "WordFunctions$LookUps") (plainFor_of_name rfl) rfl (Nat.le_of_ble_eq_true rfl) fun p e s m args below meth c ls hx hb hr hlk hmn X hs0 hl => ?_
  subst hs0
  have hS : va_S (va_A [(o, .inr (6, [.null, .null]))] s.heap.size) s.heap s.heap [] := va_S.rf
  have hl : lv_has ls 3 [(0, .ref o), (1, .ref g0), (2, .ref p0)] := hl
  have hD : va_D (va_A [(o, .inr (6, [.null, .null]))] s.heap.size) [(o, .inr (6, [.null, .null]))] := one_D (Or.inl ⟨0, _, rfl⟩)
  refine lv_aload_n (pc := 0) hx hb d87_0 rfl (lv_at hl 0 rfl) ?_
  refine o_oini (pc := 1) X wd208 hl.1 rfl rfl d87_1 ?_
  refine lv_aload_n (pc := 4) hx hb d87_4 rfl (lv_at hl 0 rfl) ?_
  refine lv_aload_n (pc := 5) hx hb d87_5 rfl (lv_at hl 1 rfl) ?_
  refine n_putF (pc := 6) X hP hD hS 0 rfl rfl 0 rfl tin6 ty6 tyo6 tnm6 rfl wd209 rfl hmn rfl rfl rfl rfl d87_6 (fun H1 locs1 hP hD hS => ?_)
  have hP : va_P (rD ρ) CL [(o, .inr (6, [.ref g0, .null]))] H1 := hP
  have hD : va_D (va_A [(o, .inr (6, [.null, .null]))] s.heap.size) [(o, .inr (6, [.ref g0, .null]))] := hD
  refine lv_aload_n (pc := 9) hx hb d87_9 rfl (lv_at hl 0 rfl) ?_
  refine lv_aload_n (pc := 10) hx hb d87_10 rfl (lv_at hl 2 rfl) ?_
  refine n_putF (pc := 11) X hP hD hS 0 rfl rfl 1 rfl tin6 ty6 tyo6 tnm6 rfl wd210 rfl hmn rfl rfl rfl rfl d87_11 (fun H1 locs1 hP hD hS => ?_)
  have hP : va_P (rD ρ) CL [(o, .inr (6, [.ref g0, .ref p0]))] H1 := hP
  have hD : va_D (va_A [(o, .inr (6, [.null, .null]))] s.heap.size) [(o, .inr (6, [.ref g0, .ref p0]))] := hD
  exact m_vret (pc := 14) hx hb hr hlk hS ⟨rfl, hP, hD⟩ (Nat.le_of_ble_eq_true rfl) (Nat.le_of_ble_eq_true rfl) d87_14
abbrev b62 : ByteArray := prog_5_method_1_code
theorem d62_0 : decode b62 0 = .ok ((.aload_n 0), 1) := by decide +kernel
theorem d62_1 : decode b62 1 = .ok ((.invokespecial 3), 3) := by decide +kernel
theorem d62_4 : decode b62 4 = .ok ((.aload_n 0), 1) := by decide +kernel
theorem d62_5 : decode b62 5 = .ok ((.sipush 512), 3) := by decide +kernel
theorem d62_8 : decode b62 8 = .ok ((.newarray .int), 2) := by decide +kernel
theorem d62_10 : decode b62 10 = .ok ((.putfield 9), 3) := by decide +kernel
theorem d62_13 : decode b62 13 = .ok ((.aload_n 0), 1) := by decide +kernel
theorem d62_14 : decode b62 14 = .ok ((.aload_n 1), 1) := by decide +kernel
theorem d62_15 : decode b62 15 = .ok ((.putfield 15), 3) := by decide +kernel
theorem d62_18 : decode b62 18 = .ok (.return_, 1) := by decide +kernel
set_option maxHeartbeats 1000000 in
theorem c_n_dates (l : Launch) (ρ : RH) (H : Heap) (P : Nat → Prop) (o g0 : Nat) (hC : CC ρ P H) (hPb : ∀ q, P q → q < H.size) (hP : va_P (rD ρ) CL [(o, .inr (7, [.null, .null, .int 0]))] H) : Met l y62 (wsOf y62 b62 2 none) ({ frames := 1, cells := 1, slots := 512, locals := 12 } : Room) (va_Pc [.ref o, .ref g0] (KP ρ H)) (mQ (fun v H1 => v = none ∧ ∃ q1 : Nat, va_P (rD ρ) CL [(o, .inr (7, [.ref g0, .ref q1, .int 0])), (q1, .inl (rA ρ 0, 512, .inl (fun _ => 0)))] H1 ∧ va_D (va_A [(o, .inr (7, [.null, .null, .int 0]))] H.size) [(o, .inr (7, [.ref g0, .ref q1, .int 0])), (q1, .inl (rA ρ 0, 512, .inl (fun _ => 0)))]) (va_A [(o, .inr (7, [.null, .null, .int 0]))] H.size)) 1 512 (va_A [(o, .inr (7, [.null, .null, .int 0]))] H.size) := by
  refine m_ofW (own := "WordFunctions$Dates") (plainFor_of_name rfl) rfl (Nat.le_of_ble_eq_true rfl) fun p e s m args below meth c ls hx hb hr hlk hmn X hs0 hl => ?_
  subst hs0
  have hS : va_S (va_A [(o, .inr (7, [.null, .null, .int 0]))] s.heap.size) s.heap s.heap [] := va_S.rf
  have hl : lv_has ls 2 [(0, .ref o), (1, .ref g0)] := hl
  have hD : va_D (va_A [(o, .inr (7, [.null, .null, .int 0]))] s.heap.size) [(o, .inr (7, [.null, .null, .int 0]))] := one_D (Or.inl ⟨0, _, rfl⟩)
  refine lv_aload_n (pc := 0) hx hb d62_0 rfl (lv_at hl 0 rfl) ?_
  refine o_oini (pc := 1) X wd221 hl.1 rfl rfl d62_1 ?_
  refine lv_aload_n (pc := 4) hx hb d62_4 rfl (lv_at hl 0 rfl) ?_
  refine lv_sipush (pc := 5) (v := 512) hx hb d62_5 (by decide) ?_
  refine n_newa (pc := 8) (atype := .int) (N' := 512) X hP hD hS (fun q hq => Or.inr hq) 0 rfl rfl wd57 (512, .inl (fun _ => 0)) (fun _ => rfl) (by decide) (by decide) (by decide) (Nat.le_of_ble_eq_true rfl) (Nat.le_of_ble_eq_true rfl) d62_8 (fun q1 H1 hP hD hS => ?_)
  have hP : va_P (rD ρ) CL [(o, .inr (7, [.null, .null, .int 0])), (q1, .inl (rA ρ 0, 512, .inl (fun _ => 0)))] H1 := hP
  have hD : va_D (va_A [(o, .inr (7, [.null, .null, .int 0]))] s.heap.size) [(o, .inr (7, [.null, .null, .int 0])), (q1, .inl (rA ρ 0, 512, .inl (fun _ => 0)))] := hD
  refine n_putF (pc := 10) X hP hD hS 0 rfl rfl 1 rfl tin7 ty7 tyo7 tnm7 rfl wd223 rfl hmn rfl rfl rfl rfl d62_10 (fun H1 locs1 hP hD hS => ?_)
  have hP : va_P (rD ρ) CL [(o, .inr (7, [.null, .ref q1, .int 0])), (q1, .inl (rA ρ 0, 512, .inl (fun _ => 0)))] H1 := hP
  have hD : va_D (va_A [(o, .inr (7, [.null, .null, .int 0]))] s.heap.size) [(o, .inr (7, [.null, .ref q1, .int 0])), (q1, .inl (rA ρ 0, 512, .inl (fun _ => 0)))] := hD
  refine lv_aload_n (pc := 13) hx hb d62_13 rfl (lv_at hl 0 rfl) ?_
  refine lv_aload_n (pc := 14) hx hb d62_14 rfl (lv_at hl 1 rfl) ?_
  refine n_putF (pc := 15) X hP hD hS 0 rfl rfl 0 rfl tin7 ty7 tyo7 tnm7 rfl wd222 rfl hmn rfl rfl rfl rfl d62_15 (fun H1 locs1 hP hD hS => ?_)
  have hP : va_P (rD ρ) CL [(o, .inr (7, [.ref g0, .ref q1, .int 0])), (q1, .inl (rA ρ 0, 512, .inl (fun _ => 0)))] H1 := hP
  have hD : va_D (va_A [(o, .inr (7, [.null, .null, .int 0]))] s.heap.size) [(o, .inr (7, [.ref g0, .ref q1, .int 0])), (q1, .inl (rA ρ 0, 512, .inl (fun _ => 0)))] := hD
  exact m_vret (pc := 18) hx hb hr hlk hS ⟨rfl, q1, hP, hD⟩ (Nat.le_of_ble_eq_true rfl) (Nat.le_of_ble_eq_true rfl) d62_18
abbrev b84 : ByteArray := prog_7_method_1_code
theorem d84_0 : decode b84 0 = .ok ((.aload_n 0), 1) := by decide +kernel
theorem d84_1 : decode b84 1 = .ok ((.invokespecial 3), 3) := by decide +kernel
theorem d84_4 : decode b84 4 = .ok ((.aload_n 0), 1) := by decide +kernel
theorem d84_5 : decode b84 5 = .ok ((.aload_n 1), 1) := by decide +kernel
theorem d84_6 : decode b84 6 = .ok ((.putfield 9), 3) := by decide +kernel
theorem d84_9 : decode b84 9 = .ok (.return_, 1) := by decide +kernel
set_option maxHeartbeats 1000000 in
theorem c_n_kinds (l : Launch) (ρ : RH) (H : Heap) (P : Nat → Prop) (o g0 : Nat) (hC : CC ρ P H) (hPb : ∀ q, P q → q < H.size) (hP : va_P (rD ρ) CL [(o, .inr (8, [.null]))] H) : Met l y84 (wsOf y84 b84 2 none) ({ frames := 1, cells := 0, slots := 0, locals := 12 } : Room) (va_Pc [.ref o, .ref g0] (KP ρ H)) (mQ (fun v H1 => v = none ∧ va_P (rD ρ) CL [(o, .inr (8, [.ref g0]))] H1 ∧ va_D (va_A [(o, .inr (8, [.null]))] H.size) [(o, .inr (8, [.ref g0]))]) (va_A [(o, .inr (8, [.null]))] H.size)) 0 0 (va_A [(o, .inr (8, [.null]))] H.size) := by
  refine m_ofW (own := "WordFunctions$Kinds") (plainFor_of_name rfl) rfl (Nat.le_of_ble_eq_true rfl) fun p e s m args below meth c ls hx hb hr hlk hmn X hs0 hl => ?_
  subst hs0
  have hS : va_S (va_A [(o, .inr (8, [.null]))] s.heap.size) s.heap s.heap [] := va_S.rf
  have hl : lv_has ls 2 [(0, .ref o), (1, .ref g0)] := hl
  have hD : va_D (va_A [(o, .inr (8, [.null]))] s.heap.size) [(o, .inr (8, [.null]))] := one_D (Or.inl ⟨0, _, rfl⟩)
  refine lv_aload_n (pc := 0) hx hb d84_0 rfl (lv_at hl 0 rfl) ?_
  refine o_oini (pc := 1) X wd237 hl.1 rfl rfl d84_1 ?_
  refine lv_aload_n (pc := 4) hx hb d84_4 rfl (lv_at hl 0 rfl) ?_
  refine lv_aload_n (pc := 5) hx hb d84_5 rfl (lv_at hl 1 rfl) ?_
  refine n_putF (pc := 6) X hP hD hS 0 rfl rfl 0 rfl tin8 ty8 tyo8 tnm8 rfl wd238 rfl hmn rfl rfl rfl rfl d84_6 (fun H1 locs1 hP hD hS => ?_)
  have hP : va_P (rD ρ) CL [(o, .inr (8, [.ref g0]))] H1 := hP
  have hD : va_D (va_A [(o, .inr (8, [.null]))] s.heap.size) [(o, .inr (8, [.ref g0]))] := hD
  exact m_vret (pc := 9) hx hb hr hlk hS ⟨rfl, hP, hD⟩ (Nat.le_of_ble_eq_true rfl) (Nat.le_of_ble_eq_true rfl) d84_9
