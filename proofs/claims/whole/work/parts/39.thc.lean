set_option maxHeartbeats 1000000 in
theorem c_t_arg1 (l : Launch) (hfl : l.flags = pinnedFlags ++ [noTraceFlag]) (ρ : RH) (H : Heap) (P : Nat → Prop) (o : Nat) (p0 p1 : Int32) (hC : CC ρ P H) (hbad : ¬ (p0 = 0 ∧ p1 = 0) ∧ (p0 < 1 ∨ p1 < 1)) : MetT l y1 (wsOf y1 b1 4 none) ({ frames := 8, cells := 1, slots := 6, locals := 100 } : Room) (va_Pc [.ref o, .int p0, .int p1] (KPT ρ H)) nIAE 1 6 := by
  refine m_ofWT (own := "WordFunctions") (plainFor_of_name rfl) rfl (Nat.le_of_ble_eq_true rfl) fun p e s m args below meth c ls hx hb hr hlk het X hs0 hT hl => ?_
  subst hs0
  have hS : va_S (fun _ => False) s.heap s.heap [] := va_S.rf
  have hl : lv_has ls 4 [(0, .ref o), (1, .int p0), (2, .int p1)] := hl
  refine lv_iload_n (pc := 0) hx hb d1_0 rfl (lv_at hl 1 rfl) ?_
  refine lv_if_ne (pc := 1) (tgt := 12) hx hb d1_1 (by decide) (fun c1 => ?_) (fun c1 => ?_)
  · skip
    refine lv_iconst (pc := 12) (v := 0) hx hb d1_12 (by decide) ?_
    refine lv_istore_n (pc := 13) (lv' := [(3, .int 0), (0, .ref o), (1, .int p0), (2, .int p1)]) hx hb d1_13 rfl hl (by decide) rfl (fun ls hl => ?_)
    refine lv_iload_n (pc := 14) hx hb d1_14 rfl (lv_at hl 0 rfl) ?_
    refine lv_if_ne (pc := 15) (tgt := 38) hx hb d1_15 (by decide) (fun zbr => absurd zbr (by decide)) (fun zbr => ?_)
    refine lv_iload_n (pc := 18) hx hb d1_18 rfl (lv_at hl 2 rfl) ?_
    refine lv_iconst (pc := 19) (v := 1) hx hb d1_19 (by decide) ?_
    refine lv_icmp_lt (pc := 20) (tgt := 28) hx hb d1_20 (by decide) (fun c20 => ?_) (fun c20 => ?_)
    · skip
      refine n_newX (pc := 28) (N := 6) X hS (X.2.1.1 13 _ rfl).2.1 wd704 wd445 wd25 (Nat.le_of_ble_eq_true rfl) (Nat.le_of_ble_eq_true rfl) d1_28 (fun o1 H1 kX hge hkX hcell hS => ?_)
      refine lv_dup (pc := 31) hx hb d1_31 rfl ?_
      refine c_ldcS (pc := 32) (t := TX3) X (CC.keep hC ⟨hS.1, hS.2.1⟩ (fun q _ z => z.elim)) 3 rfl rfl d1_32 (fun _ => ?_)
      exact w_throw (pc := 34) hfl X (own_IAE X hT rfl) (by decide) (by decide) (X.2.1.1 13 _ rfl).2.1 hkX hcell hge rfl hlk het d1_34 d1_37 hl.1 rfl rfl
    · skip
      refine lv_iload_n (pc := 23) hx hb d1_23 rfl (lv_at hl 3 rfl) ?_
      refine lv_iconst (pc := 24) (v := 1) hx hb d1_24 (by decide) ?_
      refine lv_icmp_ge (pc := 25) (tgt := 38) hx hb d1_25 (by decide) (fun zbr => absurd zbr (fun z => hbad.2.elim c20 (fun g => absurd g (Int32.not_lt.mpr z)))) (fun zbr => ?_)
      refine n_newX (pc := 28) (N := 6) X hS (X.2.1.1 13 _ rfl).2.1 wd704 wd445 wd25 (Nat.le_of_ble_eq_true rfl) (Nat.le_of_ble_eq_true rfl) d1_28 (fun o1 H1 kX hge hkX hcell hS => ?_)
      refine lv_dup (pc := 31) hx hb d1_31 rfl ?_
      refine c_ldcS (pc := 32) (t := TX3) X (CC.keep hC ⟨hS.1, hS.2.1⟩ (fun q _ z => z.elim)) 3 rfl rfl d1_32 (fun _ => ?_)
      exact w_throw (pc := 34) hfl X (own_IAE X hT rfl) (by decide) (by decide) (X.2.1.1 13 _ rfl).2.1 hkX hcell hge rfl hlk het d1_34 d1_37 hl.1 rfl rfl
  · skip
    refine lv_iload_n (pc := 4) hx hb d1_4 rfl (lv_at hl 2 rfl) ?_
    refine lv_if_ne (pc := 5) (tgt := 12) hx hb d1_5 (by decide) (fun c5 => ?_) (fun c5 => ?_)
    · skip
      refine lv_iconst (pc := 12) (v := 0) hx hb d1_12 (by decide) ?_
      refine lv_istore_n (pc := 13) (lv' := [(3, .int 0), (0, .ref o), (1, .int p0), (2, .int p1)]) hx hb d1_13 rfl hl (by decide) rfl (fun ls hl => ?_)
      refine lv_iload_n (pc := 14) hx hb d1_14 rfl (lv_at hl 0 rfl) ?_
      refine lv_if_ne (pc := 15) (tgt := 38) hx hb d1_15 (by decide) (fun zbr => absurd zbr (by decide)) (fun zbr => ?_)
      refine lv_iload_n (pc := 18) hx hb d1_18 rfl (lv_at hl 2 rfl) ?_
      refine lv_iconst (pc := 19) (v := 1) hx hb d1_19 (by decide) ?_
      refine lv_icmp_lt (pc := 20) (tgt := 28) hx hb d1_20 (by decide) (fun c20 => ?_) (fun c20 => ?_)
      · skip
        refine n_newX (pc := 28) (N := 6) X hS (X.2.1.1 13 _ rfl).2.1 wd704 wd445 wd25 (Nat.le_of_ble_eq_true rfl) (Nat.le_of_ble_eq_true rfl) d1_28 (fun o1 H1 kX hge hkX hcell hS => ?_)
        refine lv_dup (pc := 31) hx hb d1_31 rfl ?_
        refine c_ldcS (pc := 32) (t := TX3) X (CC.keep hC ⟨hS.1, hS.2.1⟩ (fun q _ z => z.elim)) 3 rfl rfl d1_32 (fun _ => ?_)
        exact w_throw (pc := 34) hfl X (own_IAE X hT rfl) (by decide) (by decide) (X.2.1.1 13 _ rfl).2.1 hkX hcell hge rfl hlk het d1_34 d1_37 hl.1 rfl rfl
      · skip
        refine lv_iload_n (pc := 23) hx hb d1_23 rfl (lv_at hl 3 rfl) ?_
        refine lv_iconst (pc := 24) (v := 1) hx hb d1_24 (by decide) ?_
        refine lv_icmp_ge (pc := 25) (tgt := 38) hx hb d1_25 (by decide) (fun zbr => absurd zbr (fun z => hbad.2.elim c20 (fun g => absurd g (Int32.not_lt.mpr z)))) (fun zbr => ?_)
        refine n_newX (pc := 28) (N := 6) X hS (X.2.1.1 13 _ rfl).2.1 wd704 wd445 wd25 (Nat.le_of_ble_eq_true rfl) (Nat.le_of_ble_eq_true rfl) d1_28 (fun o1 H1 kX hge hkX hcell hS => ?_)
        refine lv_dup (pc := 31) hx hb d1_31 rfl ?_
        refine c_ldcS (pc := 32) (t := TX3) X (CC.keep hC ⟨hS.1, hS.2.1⟩ (fun q _ z => z.elim)) 3 rfl rfl d1_32 (fun _ => ?_)
        exact w_throw (pc := 34) hfl X (own_IAE X hT rfl) (by decide) (by decide) (X.2.1.1 13 _ rfl).2.1 hkX hcell hge rfl hlk het d1_34 d1_37 hl.1 rfl rfl
    · skip
      exact absurd ⟨c1, c5⟩ hbad.1
set_option maxHeartbeats 1000000 in
theorem c_t_arg2 (l : Launch) (hfl : l.flags = pinnedFlags ++ [noTraceFlag]) (ρ : RH) (H : Heap) (P : Nat → Prop) (ad : Nat → Nat) (st : CS) (p0 p1 : Int32) (hW : CW ρ P ad st H) (hok : (p0 = 0 ∧ p1 = 0) ∨ (1 ≤ p0 ∧ 1 ≤ p1)) (hno : f_ar_addF st p0 p1 = some 0) : MetT l y1 (wsOf y1 b1 4 none) ({ frames := 8, cells := 1, slots := 6, locals := 100 } : Room) (va_Pc [.ref (ad 0), .int p0, .int p1] (KPT ρ H)) nISE 1 6 := by
  refine m_ofWT (own := "WordFunctions") (plainFor_of_name rfl) rfl (Nat.le_of_ble_eq_true rfl) fun p e s m args below meth c ls hx hb hr hlk het X hs0 hT hl => ?_
  subst hs0
  have hS : va_S (fun _ => False) s.heap s.heap [] := va_S.rf
  have hl : lv_has ls 4 [(0, .ref (ad 0)), (1, .int p0), (2, .int p1)] := hl
  refine lv_iload_n (pc := 0) hx hb d1_0 rfl (lv_at hl 1 rfl) ?_
  refine lv_if_ne (pc := 1) (tgt := 12) hx hb d1_1 (by decide) (fun c1 => ?_) (fun c1 => ?_)
  · skip
    have hnz : ¬ (p0 = 0 ∧ p1 = 0) := fun z => absurd z.1 c1
    refine lv_iconst (pc := 12) (v := 0) hx hb d1_12 (by decide) ?_
    refine lv_istore_n (pc := 13) (lv' := [(3, .int 0), (0, .ref (ad 0)), (1, .int p0), (2, .int p1)]) hx hb d1_13 rfl hl (by decide) rfl (fun ls hl => ?_)
    refine lv_iload_n (pc := 14) hx hb d1_14 rfl (lv_at hl 0 rfl) ?_
    refine lv_if_ne (pc := 15) (tgt := 38) hx hb d1_15 (by decide) (fun zbr => absurd zbr (by decide)) (fun zbr => ?_)
    refine lv_iload_n (pc := 18) hx hb d1_18 rfl (lv_at hl 2 rfl) ?_
    refine lv_iconst (pc := 19) (v := 1) hx hb d1_19 (by decide) ?_
    refine lv_icmp_lt (pc := 20) (tgt := 28) hx hb d1_20 (by decide) (fun c20 => ?_) (fun c20 => ?_)
    · skip
      exact absurd (hok.resolve_left hnz).1 (Int32.not_le.mpr c20)
    · skip
      refine lv_iload_n (pc := 23) hx hb d1_23 rfl (lv_at hl 3 rfl) ?_
      refine lv_iconst (pc := 24) (v := 1) hx hb d1_24 (by decide) ?_
      refine lv_icmp_ge (pc := 25) (tgt := 38) hx hb d1_25 (by decide) (fun zbr => ?_) (fun zbr => absurd ((hok.resolve_left hnz).2) zbr)
      refine lv_aload_n (pc := 38) hx hb d1_38 rfl (lv_at hl 1 rfl) ?_
      refine c_getK (pc := 39) X hW 0 3 9 1 (C := "WordFunctions") (T := T9) (N := 9) (by decide) rfl rfl rfl rfl tin9 rfl wd245 rfl rfl d1_39 ?_
      refine lv_iload_n (pc := 42) hx hb d1_42 rfl (lv_at hl 2 rfl) ?_
      refine lv_iload_n (pc := 43) hx hb d1_43 rfl (lv_at hl 3 rfl) ?_
      refine k_callV (pc := 44) (n := 2) X hS (c_ar_addF l ρ ad _ P st p0 p1 0 hW hno) wd710 wd707 wd708 wd709 wd3 (by decide) ⟨rfl, rfl, (Nat.le_of_ble_eq_true rfl), (Nat.le_of_ble_eq_true rfl)⟩ (c_recv X hW 1 3 (by decide) rfl rfl) (As := [.int p0, .int p1]) (rest := []) rfl rfl hl.1 (Nat.le_of_ble_eq_true rfl) d1_44 ⟨(Nat.le_of_ble_eq_true rfl), (Nat.le_of_ble_eq_true rfl)⟩ (fun q hq => hq.elim) (fun v H1 locs1 hv hz1 hz2 hS => ?_)
      obtain ⟨rfl, hv2⟩ := hv
      have hv3 := hv2.symm
      clear hv2
      subst hv3
      refine lv_if_ne (pc := 47) (tgt := 60) hx hb d1_47 (by decide) (fun zbr => absurd zbr (by decide)) (fun zbr => ?_)
      refine n_newX (pc := 50) (N := 6) X hS (X.2.1.1 14 _ rfl).2.1 wd711 wd712 wd27 (Nat.le_of_ble_eq_true rfl) (Nat.le_of_ble_eq_true rfl) d1_50 (fun o1 H1 kX hge hkX hcell hS => ?_)
      refine lv_dup (pc := 53) hx hb d1_53 rfl ?_
      refine c_ldcS (pc := 54) (t := TX4) X (CC.keep hW.2.2.1 ⟨hS.1, hS.2.1⟩ (fun q _ z => z.elim)) 4 rfl rfl d1_54 (fun _ => ?_)
      exact w_throw (pc := 56) hfl X (own_ISE X hT rfl) (by decide) (by decide) (X.2.1.1 14 _ rfl).2.1 hkX hcell hge (List.eq_nil_iff_forall_not_mem.mpr (fun q hq => hS.2.2 q hq)) hlk het d1_56 d1_59 hl.1 rfl rfl
  · skip
    refine lv_iload_n (pc := 4) hx hb d1_4 rfl (lv_at hl 2 rfl) ?_
    refine lv_if_ne (pc := 5) (tgt := 12) hx hb d1_5 (by decide) (fun c5 => ?_) (fun c5 => ?_)
    · skip
      have hnz : ¬ (p0 = 0 ∧ p1 = 0) := fun z => absurd z.2 c5
      refine lv_iconst (pc := 12) (v := 0) hx hb d1_12 (by decide) ?_
      refine lv_istore_n (pc := 13) (lv' := [(3, .int 0), (0, .ref (ad 0)), (1, .int p0), (2, .int p1)]) hx hb d1_13 rfl hl (by decide) rfl (fun ls hl => ?_)
      refine lv_iload_n (pc := 14) hx hb d1_14 rfl (lv_at hl 0 rfl) ?_
      refine lv_if_ne (pc := 15) (tgt := 38) hx hb d1_15 (by decide) (fun zbr => absurd zbr (by decide)) (fun zbr => ?_)
      refine lv_iload_n (pc := 18) hx hb d1_18 rfl (lv_at hl 2 rfl) ?_
      refine lv_iconst (pc := 19) (v := 1) hx hb d1_19 (by decide) ?_
      refine lv_icmp_lt (pc := 20) (tgt := 28) hx hb d1_20 (by decide) (fun c20 => ?_) (fun c20 => ?_)
      · skip
        exact absurd (hok.resolve_left hnz).1 (Int32.not_le.mpr c20)
      · skip
        refine lv_iload_n (pc := 23) hx hb d1_23 rfl (lv_at hl 3 rfl) ?_
        refine lv_iconst (pc := 24) (v := 1) hx hb d1_24 (by decide) ?_
        refine lv_icmp_ge (pc := 25) (tgt := 38) hx hb d1_25 (by decide) (fun zbr => ?_) (fun zbr => absurd ((hok.resolve_left hnz).2) zbr)
        refine lv_aload_n (pc := 38) hx hb d1_38 rfl (lv_at hl 1 rfl) ?_
        refine c_getK (pc := 39) X hW 0 3 9 1 (C := "WordFunctions") (T := T9) (N := 9) (by decide) rfl rfl rfl rfl tin9 rfl wd245 rfl rfl d1_39 ?_
        refine lv_iload_n (pc := 42) hx hb d1_42 rfl (lv_at hl 2 rfl) ?_
        refine lv_iload_n (pc := 43) hx hb d1_43 rfl (lv_at hl 3 rfl) ?_
        refine k_callV (pc := 44) (n := 2) X hS (c_ar_addF l ρ ad _ P st p0 p1 0 hW hno) wd710 wd707 wd708 wd709 wd3 (by decide) ⟨rfl, rfl, (Nat.le_of_ble_eq_true rfl), (Nat.le_of_ble_eq_true rfl)⟩ (c_recv X hW 1 3 (by decide) rfl rfl) (As := [.int p0, .int p1]) (rest := []) rfl rfl hl.1 (Nat.le_of_ble_eq_true rfl) d1_44 ⟨(Nat.le_of_ble_eq_true rfl), (Nat.le_of_ble_eq_true rfl)⟩ (fun q hq => hq.elim) (fun v H1 locs1 hv hz1 hz2 hS => ?_)
        obtain ⟨rfl, hv2⟩ := hv
        have hv3 := hv2.symm
        clear hv2
        subst hv3
        refine lv_if_ne (pc := 47) (tgt := 60) hx hb d1_47 (by decide) (fun zbr => absurd zbr (by decide)) (fun zbr => ?_)
        refine n_newX (pc := 50) (N := 6) X hS (X.2.1.1 14 _ rfl).2.1 wd711 wd712 wd27 (Nat.le_of_ble_eq_true rfl) (Nat.le_of_ble_eq_true rfl) d1_50 (fun o1 H1 kX hge hkX hcell hS => ?_)
        refine lv_dup (pc := 53) hx hb d1_53 rfl ?_
        refine c_ldcS (pc := 54) (t := TX4) X (CC.keep hW.2.2.1 ⟨hS.1, hS.2.1⟩ (fun q _ z => z.elim)) 4 rfl rfl d1_54 (fun _ => ?_)
        exact w_throw (pc := 56) hfl X (own_ISE X hT rfl) (by decide) (by decide) (X.2.1.1 14 _ rfl).2.1 hkX hcell hge (List.eq_nil_iff_forall_not_mem.mpr (fun q hq => hS.2.2 q hq)) hlk het d1_56 d1_59 hl.1 rfl rfl
    · skip
      refine lv_iconst (pc := 8) (v := 1) hx hb d1_8 (by decide) ?_
      refine lv_goto (pc := 9) (tgt := 13) hx hb d1_9 (by decide) ?_
      refine lv_istore_n (pc := 13) (lv' := [(3, .int 1), (0, .ref (ad 0)), (1, .int p0), (2, .int p1)]) hx hb d1_13 rfl hl (by decide) rfl (fun ls hl => ?_)
      refine lv_iload_n (pc := 14) hx hb d1_14 rfl (lv_at hl 0 rfl) ?_
      refine lv_if_ne (pc := 15) (tgt := 38) hx hb d1_15 (by decide) (fun zbr => ?_) (fun zbr => absurd zbr (by decide))
      refine lv_aload_n (pc := 38) hx hb d1_38 rfl (lv_at hl 1 rfl) ?_
      refine c_getK (pc := 39) X hW 0 3 9 1 (C := "WordFunctions") (T := T9) (N := 9) (by decide) rfl rfl rfl rfl tin9 rfl wd245 rfl rfl d1_39 ?_
      refine lv_iload_n (pc := 42) hx hb d1_42 rfl (lv_at hl 2 rfl) ?_
      refine lv_iload_n (pc := 43) hx hb d1_43 rfl (lv_at hl 3 rfl) ?_
      refine k_callV (pc := 44) (n := 2) X hS (c_ar_addF l ρ ad _ P st p0 p1 0 hW hno) wd710 wd707 wd708 wd709 wd3 (by decide) ⟨rfl, rfl, (Nat.le_of_ble_eq_true rfl), (Nat.le_of_ble_eq_true rfl)⟩ (c_recv X hW 1 3 (by decide) rfl rfl) (As := [.int p0, .int p1]) (rest := []) rfl rfl hl.1 (Nat.le_of_ble_eq_true rfl) d1_44 ⟨(Nat.le_of_ble_eq_true rfl), (Nat.le_of_ble_eq_true rfl)⟩ (fun q hq => hq.elim) (fun v H1 locs1 hv hz1 hz2 hS => ?_)
      obtain ⟨rfl, hv2⟩ := hv
      have hv3 := hv2.symm
      clear hv2
      subst hv3
      refine lv_if_ne (pc := 47) (tgt := 60) hx hb d1_47 (by decide) (fun zbr => absurd zbr (by decide)) (fun zbr => ?_)
      refine n_newX (pc := 50) (N := 6) X hS (X.2.1.1 14 _ rfl).2.1 wd711 wd712 wd27 (Nat.le_of_ble_eq_true rfl) (Nat.le_of_ble_eq_true rfl) d1_50 (fun o1 H1 kX hge hkX hcell hS => ?_)
      refine lv_dup (pc := 53) hx hb d1_53 rfl ?_
      refine c_ldcS (pc := 54) (t := TX4) X (CC.keep hW.2.2.1 ⟨hS.1, hS.2.1⟩ (fun q _ z => z.elim)) 4 rfl rfl d1_54 (fun _ => ?_)
      exact w_throw (pc := 56) hfl X (own_ISE X hT rfl) (by decide) (by decide) (X.2.1.1 14 _ rfl).2.1 hkX hcell hge (List.eq_nil_iff_forall_not_mem.mpr (fun q hq => hS.2.2 q hq)) hlk het d1_56 d1_59 hl.1 rfl rfl
set_option maxHeartbeats 1000000 in
theorem c_t_call (l : Launch) (hfl : l.flags = pinnedFlags ++ [noTraceFlag]) (ρ : RH) (H : Heap) (P : Nat → Prop) (ad : Nat → Nat) (st : CS) (p0 : Int32) (hW : CW ρ P ad st H) (hno : f_wf_isFor p0 (st.1 1 5) = some 0) : MetT l y2 (wsOf y2 b2 3 (some .int)) ({ frames := 8, cells := 1, slots := 6, locals := 100 } : Room) (va_Pc [.ref (ad 0), .int p0] (KPT ρ H)) nIAE 1 6 := by
  refine m_ofWT (own := "WordFunctions") (plainFor_of_name rfl) rfl (Nat.le_of_ble_eq_true rfl) fun p e s m args below meth c ls hx hb hr hlk het X hs0 hT hl => ?_
  subst hs0
  have hS : va_S (fun _ => False) s.heap s.heap [] := va_S.rf
  have hl : lv_has ls 3 [(0, .ref (ad 0)), (1, .int p0)] := hl
  refine lv_iload_n (pc := 0) hx hb d2_0 rfl (lv_at hl 1 rfl) ?_
  refine lv_aload_n (pc := 1) hx hb d2_1 rfl (lv_at hl 0 rfl) ?_
  refine c_getK (pc := 2) X hW 0 3 9 1 (C := "WordFunctions") (T := T9) (N := 9) (by decide) rfl rfl rfl rfl tin9 rfl wd245 rfl rfl d2_2 ?_
  refine c_getI (pc := 5) X hW 1 5 3 (C := "WordFunctions$Arguments") (T := T3) (N := 9) (by decide) rfl rfl rfl rfl tin3 rfl wd135 rfl d2_5 ?_
  refine k_callS (pc := 8) (n := 2) X hS (c_wf_isFor l ρ _ P p0 (st.1 1 5) 0 hW.2.2.1 hW.2.1 hno) wd736 wd734 wd735 wd1 (by decide) ⟨rfl, rfl, (Nat.le_of_ble_eq_true rfl), (Nat.le_of_ble_eq_true rfl)⟩ (As := [.int p0, .int (st.1 1 5)]) (rest := []) rfl rfl hl.1 (Nat.le_of_ble_eq_true rfl) d2_8 ⟨(Nat.le_of_ble_eq_true rfl), (Nat.le_of_ble_eq_true rfl)⟩ (fun q hq => hq.elim) (fun v H1 locs1 hv hz1 hz2 hS => ?_)
  obtain ⟨rfl, hv2⟩ := hv
  have hv3 := hv2.symm
  clear hv2
  subst hv3
  refine lv_if_ne (pc := 11) (tgt := 24) hx hb d2_11 (by decide) (fun zbr => absurd zbr (by decide)) (fun zbr => ?_)
  refine n_newX (pc := 14) (N := 6) X hS (X.2.1.1 13 _ rfl).2.1 wd704 wd445 wd25 (Nat.le_of_ble_eq_true rfl) (Nat.le_of_ble_eq_true rfl) d2_14 (fun o1 H1 kX hge hkX hcell hS => ?_)
  refine lv_dup (pc := 17) hx hb d2_17 rfl ?_
  refine c_ldcS (pc := 18) (t := TX5) X (CC.keep hW.2.2.1 ⟨hS.1, hS.2.1⟩ (fun q _ z => z.elim)) 5 rfl rfl d2_18 (fun _ => ?_)
  exact w_throw (pc := 20) hfl X (own_IAE X hT rfl) (by decide) (by decide) (X.2.1.1 13 _ rfl).2.1 hkX hcell hge (List.eq_nil_iff_forall_not_mem.mpr (fun q hq => hS.2.2 q hq)) hlk het d2_20 d2_23 hl.1 rfl rfl
