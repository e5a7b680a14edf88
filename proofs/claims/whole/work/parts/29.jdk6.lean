section J6
variable {p : Program} {l : Launch} {e : Env} {R : Room} {s : State} {m : MethodId} {args : Array Value} {below : List Frame} {meth : Method} {c : Code} {H : Heap} {locs : List Loc} {cells slots cells' slots' : Nat} {Q : State → Prop} {g : JFrame}
theorem W.le_ (h : W p l e R s m args below meth c H locs cells' slots' Q g) (hc : cells = cells') (hs : slots = slots') : W p l e R s m args below meth c H locs cells slots Q g := by
  subst hc; subst hs; exact h
end J6
set_option maxHeartbeats 1000000 in
theorem c_j_crc (l : Launch) (ρ : RH) (H : Heap) (P : Nat → Prop) (b N : Nat) (f : Nat → Int32) (hC : CC ρ P H) (hPb : ∀ q, P q → q < H.size) (hcl : H[b]? = some (vp_cell (rA ρ 4) (N, .inl f))) (hfit : sb_Fit f) (hN : N < 2 ^ 20) : Met l y348 (wsOf y348 b348 3 (some (.array .byte))) ({ frames := 1, cells := 1, slots := N, locals := 30 } : Room) (va_Pc [.ref b, .int 0, .int (nI N)] (KP ρ H)) (mQ (fun v H1 => ∃ (q : Nat) (g : Nat → Int32), v = some (.ref q) ∧ H.size ≤ q ∧ H1[q]? = some (vp_cell (rA ρ 4) (N, .inl g)) ∧ (∀ k, k < N → g k = f (0 + k)) ∧ sb_Fit g) (fun q => H.size ≤ q)) 1 N (fun q => H.size ≤ q) := by
  refine m_ofW (own := "java/util/Arrays") (plainFor_of_name rfl) rfl (Nat.le_of_ble_eq_true rfl) fun p e s m args below meth c ls hx hb hr hlk hmn X hs0 hl => ?_
  subst hs0
  have hS : va_S (fun q => s.heap.size ≤ q) s.heap s.heap [] := va_S.rf
  have hl : lv_has ls 3 [(0, .ref b), (1, .int 0), (2, .int (nI N))] := hl
  have hN31 : N < 2 ^ 31 := by omega
  refine lv_iload_n (pc := 0) hx hb d348_0 rfl (lv_at hl 1 rfl) ?_
  refine lv_if_ne (pc := 1) (tgt := 10) hx hb d348_1 (by decide) (fun zbr => absurd zbr (by decide)) (fun zbr => ?_)
  refine lv_iload_n (pc := 4) hx hb d348_4 rfl (lv_at hl 2 rfl) ?_
  refine lv_aload_n (pc := 5) hx hb d348_5 rfl (lv_at hl 0 rfl) ?_
  refine o_blen (pc := 6) X hcl d348_6 ?_
  refine lv_icmp_eq (pc := 7) (tgt := 17) hx hb d348_7 (by decide) (fun zbr => ?_) (fun zbr => absurd (rfl) zbr)
  refine lv_aload_n (pc := 17) hx hb d348_17 rfl (lv_at hl 0 rfl) ?_
  refine o_clone (pc := 18) X hS (fun q hq => hq) hcl hfit hl.1 rfl rfl (by first | omega | (dsimp only; omega)) (by first | omega | (dsimp only; omega)) wd342 d348_18 (fun o H1 hcell ho hS => ?_)
  refine va_castA (pc := 21) hx hb X.1.2.2.2.1 (X.ts wd348) (one_P hcell) 0 rfl (X.2.1.2 4 _ rfl).2 d348_21 ?_
  exact m_aret (pc := 24) hx hb hr (Or.inr ⟨_, rfl⟩) hlk hS ⟨o, f, rfl, ho, hcell, fun k hk => by rw [Nat.zero_add], hfit⟩ (by first | omega | (dsimp only; omega)) (by first | omega | (dsimp only; omega)) d348_24
abbrev b284 : ByteArray := prog_23_method_150_code
theorem d284_0 : decode b284 0 = .ok ((.aload_n 0), 1) := by decide +kernel
theorem d284_1 : decode b284 1 = .ok ((.invokespecial 1), 3) := by decide +kernel
theorem d284_4 : decode b284 4 = .ok ((.aload_n 1), 1) := by decide +kernel
theorem d284_5 : decode b284 5 = .ok ((.invokevirtual 552), 3) := by decide +kernel
theorem d284_8 : decode b284 8 = .ok ((.astore_n 3), 1) := by decide +kernel
theorem d284_9 : decode b284 9 = .ok ((.aload_n 1), 1) := by decide +kernel
theorem d284_10 : decode b284 10 = .ok ((.invokevirtual 549), 3) := by decide +kernel
theorem d284_13 : decode b284 13 = .ok ((.istore 4), 2) := by decide +kernel
theorem d284_15 : decode b284 15 = .ok ((.aload_n 1), 1) := by decide +kernel
theorem d284_16 : decode b284 16 = .ok ((.invokevirtual 1047), 3) := by decide +kernel
theorem d284_19 : decode b284 19 = .ok ((.ifCond .eq 22), 3) := by decide +kernel
theorem d284_22 : decode b284 22 = .ok ((.aload_n 0), 1) := by decide +kernel
theorem d284_23 : decode b284 23 = .ok ((.iconst 0), 1) := by decide +kernel
theorem d284_24 : decode b284 24 = .ok ((.putfield 15), 3) := by decide +kernel
theorem d284_27 : decode b284 27 = .ok ((.aload_n 0), 1) := by decide +kernel
theorem d284_28 : decode b284 28 = .ok ((.aload_n 3), 1) := by decide +kernel
theorem d284_29 : decode b284 29 = .ok ((.iconst 0), 1) := by decide +kernel
theorem d284_30 : decode b284 30 = .ok ((.iload 4), 2) := by decide +kernel
theorem d284_32 : decode b284 32 = .ok ((.invokestatic 54), 3) := by decide +kernel
theorem d284_35 : decode b284 35 = .ok ((.putfield 9), 3) := by decide +kernel
theorem d284_38 : decode b284 38 = .ok ((.goto 59), 3) := by decide +kernel
theorem d284_41 : decode b284 41 = .ok ((.getstatic 38), 3) := by decide +kernel
theorem d284_44 : decode b284 44 = .ok ((.ifCond .eq 35), 3) := by decide +kernel
theorem d284_47 : decode b284 47 = .ok ((.aload_n 1), 1) := by decide +kernel
theorem d284_48 : decode b284 48 = .ok ((.getfield 1048), 3) := by decide +kernel
theorem d284_51 : decode b284 51 = .ok ((.ifCond .eq 28), 3) := by decide +kernel
theorem d284_54 : decode b284 54 = .ok ((.aload_n 0), 1) := by decide +kernel
theorem d284_55 : decode b284 55 = .ok ((.aload_n 3), 1) := by decide +kernel
theorem d284_56 : decode b284 56 = .ok ((.iconst 0), 1) := by decide +kernel
theorem d284_57 : decode b284 57 = .ok ((.iload 4), 2) := by decide +kernel
theorem d284_59 : decode b284 59 = .ok ((.invokestatic 1051), 3) := by decide +kernel
theorem d284_62 : decode b284 62 = .ok ((.putfield 9), 3) := by decide +kernel
theorem d284_65 : decode b284 65 = .ok ((.aload_n 0), 1) := by decide +kernel
theorem d284_66 : decode b284 66 = .ok ((.aload_n 0), 1) := by decide +kernel
theorem d284_67 : decode b284 67 = .ok ((.getfield 9), 3) := by decide +kernel
theorem d284_70 : decode b284 70 = .ok ((.iload 4), 2) := by decide +kernel
theorem d284_72 : decode b284 72 = .ok ((.invokestatic 47), 3) := by decide +kernel
theorem d284_75 : decode b284 75 = .ok ((.putfield 15), 3) := by decide +kernel
theorem d284_78 : decode b284 78 = .ok (.return_, 1) := by decide +kernel
theorem d284_79 : decode b284 79 = .ok ((.aload_n 0), 1) := by decide +kernel
theorem d284_80 : decode b284 80 = .ok ((.iconst 1), 1) := by decide +kernel
theorem d284_81 : decode b284 81 = .ok ((.putfield 15), 3) := by decide +kernel
theorem d284_84 : decode b284 84 = .ok ((.aload_n 0), 1) := by decide +kernel
theorem d284_85 : decode b284 85 = .ok ((.aload_n 3), 1) := by decide +kernel
theorem d284_86 : decode b284 86 = .ok ((.iconst 0), 1) := by decide +kernel
theorem d284_87 : decode b284 87 = .ok ((.iload 4), 2) := by decide +kernel
theorem d284_89 : decode b284 89 = .ok ((.iconst 1), 1) := by decide +kernel
theorem d284_90 : decode b284 90 = .ok (.ishl, 1) := by decide +kernel
theorem d284_91 : decode b284 91 = .ok ((.invokestatic 54), 3) := by decide +kernel
theorem d284_94 : decode b284 94 = .ok ((.putfield 9), 3) := by decide +kernel
theorem d284_97 : decode b284 97 = .ok (.return_, 1) := by decide +kernel
set_option maxHeartbeats 1000000 in
theorem c_s_iasb (l : Launch) (ρ : RH) (H : Heap) (P : Nat → Prop) (o a b : Nat) (x : BT) (V0 : Nat → Value) (hC : CC ρ P H) (hPb : ∀ q, P q → q < H.size) (hso : t_OB o ((rD ρ).1 11) 4 ((rD ρ).2 11) H V0) (hSB : SB ρ H a b x) (hoa : o ≠ a) (hob : o ≠ b) (hPo : P o) : Met l y284 (wsOf y284 b284 5 none) ({ frames := 3, cells := 1, slots := x.1.length, locals := 106 } : Room) (va_Pc [.ref o, .ref a, .null] (KP ρ H)) (mQ (fun v H1 => v = none ∧ ∃ (V : Nat → Value) (y0 : Nat), t_OB o ((rD ρ).1 11) 4 ((rD ρ).2 11) H1 V ∧ V 0 = .ref y0 ∧ V 1 = .int 0 ∧ H.size ≤ y0 ∧ ∃ g, H1[y0]? = some (vp_cell (rA ρ 4) (x.1.length, .inl g)) ∧ ∀ j, j < x.1.length → g j = sb_b (x.1.getD j 0)) (fun q => q = o ∨ H.size ≤ q)) 1 x.1.length (fun q => q = o ∨ H.size ≤ q) := by
  obtain ⟨z, f, ho, hcell, hf, hfit, hch, hln, hcap, hab, hz01⟩ := hSB
  have hso0 := hso
  refine m_ofW (own := "java/lang/String") (plainFor_of_name rfl) rfl (Nat.le_of_ble_eq_true rfl) fun p e s m args below meth c ls hx hb hr hlk hmn X hs0 hl => ?_
  subst hs0
  have hS : va_S (fun q => q = o ∨ s.heap.size ≤ q) s.heap s.heap [] := va_S.rf
  have hl : lv_has ls 5 [(0, .ref o), (1, .ref a), (2, .null)] := hl
  have hr4 := X.2.2.2.2.2.2.2.1
  refine lv_aload_n (pc := 0) hx hb d284_0 rfl (lv_at hl 0 rfl) ?_
  refine o_oini (pc := 1) X wd420 hl.1 rfl rfl d284_1 ?_
  refine lv_aload_n (pc := 4) hx hb d284_4 rfl (lv_at hl 1 rfl) ?_
  refine k_callV (pc := 5) (n := 0) X hS (c_b_getv l ρ _ P a b z (nI x.1.length) hC hPb ho) wd425 wd421 wd422 wd424 wd12 (by decide) ⟨rfl, rfl, Nat.le_of_ble_eq_true rfl, Nat.le_of_ble_eq_true rfl⟩ (S_recv X ho (ci := 10) rfl) (As := []) (rest := []) rfl rfl hl.1 (Nat.le_of_ble_eq_true rfl) d284_5 ⟨(by first | omega | (dsimp only; omega)), (by first | omega | (dsimp only; omega))⟩ (fun q hq => hq.elim) (fun v H1 locs1 hv hz1 hz2 hS => ?_)
  obtain ⟨rfl, hv2⟩ := hv
  have hv3 := hv2.symm
  clear hv2
  subst hv3
  refine lv_astore_n (pc := 8) (lv' := [(3, .ref b), (0, .ref o), (1, .ref a), (2, .null)]) hx hb d284_8 rfl hl (by decide) rfl (fun ls hl => ?_)
  refine lv_aload_n (pc := 9) hx hb d284_9 rfl (lv_at hl 2 rfl) ?_
  refine k_callO (pc := 10) (n := 0) (C := "java/lang/StringBuilder") (x := y260) (owner := "java/lang/AbstractStringBuilder") X hS (c_b_len2 l ρ _ P a b z (nI x.1.length) hC hPb ho) wd431 wd426 wd433 wd428 wd427 wd430 wd429 wd13 (by decide) ⟨rfl, rfl, Nat.le_of_ble_eq_true rfl, Nat.le_of_ble_eq_true rfl⟩ (S_recv X ho (ci := 10) rfl) (As := []) (rest := []) rfl rfl hl.1 (Nat.le_of_ble_eq_true rfl) d284_10 ⟨(by first | omega | (dsimp only; omega)), (by first | omega | (dsimp only; omega))⟩ (fun q hq => hq.elim) (fun v H1 locs1 hv hz1 hz2 hS => ?_)
  obtain ⟨rfl, hv2⟩ := hv
  have hv3 := hv2.symm
  clear hv2
  subst hv3
  refine lv_istore (pc := 13) (lv' := [(4, .int (nI x.1.length)), (3, .ref b), (0, .ref o), (1, .ref a), (2, .null)]) hx hb d284_13 hl (by decide) rfl (fun ls hl => ?_)
  refine lv_aload_n (pc := 15) hx hb d284_15 rfl (lv_at hl 3 rfl) ?_
  refine k_callV (pc := 16) (n := 0) X hS (c_b_latin l ρ _ P a b z (nI x.1.length) hC hPb ho) wd359 wd434 wd356 wd358 wd12 (by decide) ⟨rfl, rfl, Nat.le_of_ble_eq_true rfl, Nat.le_of_ble_eq_true rfl⟩ (S_recv X ho (ci := 10) rfl) (As := []) (rest := []) rfl rfl hl.1 (Nat.le_of_ble_eq_true rfl) d284_16 ⟨(by first | omega | (dsimp only; omega)), (by first | omega | (dsimp only; omega))⟩ (fun q hq => hq.elim) (fun v H1 locs1 hv hz1 hz2 hS => ?_)
  obtain ⟨rfl, hv2⟩ := hv
  have hv3 := hv2.symm
  clear hv2
  subst hv3
  refine lv_if_eq (pc := 19) (tgt := 41) hx hb d284_19 (by decide) (fun zbr => absurd zbr (by decide)) (fun zbr => ?_)
  refine lv_aload_n (pc := 22) hx hb d284_22 rfl (lv_at hl 2 rfl) ?_
  refine lv_iconst (pc := 23) (v := 0) hx hb d284_23 (by decide) ?_
  refine o_putF (pc := 24) X hS hso 1 (Or.inl rfl) rfl rfl tin11 ty11 tyo11 tnm11 rfl wd599 rfl hmn rfl rfl rfl d284_24 (fun H1 locs1 ho1 hS hz hq => ?_)
  have hso := ho1
  have hC := hC.keep (kp_one hz hq) (fun q _ e => e ▸ hPo)
  have hPb : ∀ q, P q → q < H1.size := fun q z => by rw [hz]; exact hPb q z
  have hcell := (hq b (Ne.symm hob)).trans hcell
  refine lv_aload_n (pc := 27) hx hb d284_27 rfl (lv_at hl 2 rfl) ?_
  refine lv_aload_n (pc := 28) hx hb d284_28 rfl (lv_at hl 1 rfl) ?_
  refine lv_iconst (pc := 29) (v := 0) hx hb d284_29 (by decide) ?_
  refine lv_iload (pc := 30) hx hb d284_30 (lv_at hl 0 rfl) ?_
  have hfin : ∀ (H2 : Heap) (locs : List Loc) (y0 : Nat) (g : Nat → Int32), H1.size ≤ H2.size → (∀ q : Nat, q < H1.size → H2[q]? = H1[q]?) → H1.size ≤ y0 → H2[y0]? = some (vp_cell (rA ρ 4) (x.1.length, .inl g)) → (∀ k, k < x.1.length → g k = f k) → va_S (fun q => q = o ∨ s.heap.size ≤ q) s.heap H2 locs → W p l e ({ frames := 3, cells := 1, slots := x.1.length, locals := 106 } : Room) s m args below meth c H2 locs 1 x.1.length (MQ below (mQ (fun v H1 => v = none ∧ ∃ (V : Nat → Value) (y0 : Nat), t_OB o ((rD ρ).1 11) 4 ((rD ρ).2 11) H1 V ∧ V 0 = .ref y0 ∧ V 1 = .int 0 ∧ s.heap.size ≤ y0 ∧ ∃ g, H1[y0]? = some (vp_cell (rA ρ 4) (x.1.length, .inl g)) ∧ ∀ j, j < x.1.length → g j = sb_b (x.1.getD j 0)) (fun q => q = o ∨ s.heap.size ≤ q)) args s 1 x.1.length (fun q => q = o ∨ s.heap.size ≤ q)) (F0 m 35 ls [.ref y0, .ref o]) := by
    intro H2 locs y0 g hz2 hq2 hy0 hcy hgk hS
    have hso := hso.kept (hq2 o (t_lt hso))
    refine o_putF (pc := 35) X hS hso 0 (Or.inl rfl) rfl rfl tin11 ty11 tyo11 tnm11 rfl wd598 rfl hmn rfl rfl rfl d284_35 (fun H1 locs1 ho1 hS hz hq => ?_)
    have hso := ho1
    have hcy := (hq y0 (by have := t_lt hso0; omega)).trans hcy
    refine lv_goto (pc := 38) (tgt := 97) hx hb d284_38 (by decide) ?_
    exact m_vret (pc := 97) hx hb hr hlk hS ⟨rfl, _, y0, hso, rfl, rfl, by omega, g, hcy, fun j hj => by rw [hgk j hj, hf j hj]⟩ (by first | omega | (dsimp only; omega)) (by first | omega | (dsimp only; omega)) d284_97
  by_cases hfull : x.1.length = x.2
  · skip
    refine k_callS (pc := 32) (n := 3) X hS (c_j_crc l ρ _ P b x.1.length f hC hPb (by rw [hfull]; exact hcell) hfit (by omega)) wd437 wd435 wd436 wd18 (by decide) ⟨rfl, rfl, Nat.le_of_ble_eq_true rfl, Nat.le_of_ble_eq_true rfl⟩ (As := [.ref b, .int 0, .int (nI x.1.length)]) (rest := [.ref o]) rfl rfl hl.1 (Nat.le_of_ble_eq_true rfl) d284_32 ⟨(by first | omega | (dsimp only; omega)), (by first | omega | (dsimp only; omega))⟩ (fun q hq => Or.inr (by omega)) (fun v H2 locs1 hv hz2 hq2 hS => ?_)
    obtain ⟨y0, g, rfl, hy0, hcy, hgk, hgf⟩ := hv
    skip
    have hfx := hfin H2 _ y0 g hz2 (fun q hq => hq2 q hq (by omega)) hy0 hcy (fun k hk => by have := hgk k (by omega); rw [Nat.zero_add] at this; exact this) hS
    exact W.le_ hfx (by omega) (by omega)
  · skip
    refine k_callS (pc := 32) (n := 3) X hS (c_j_cr l ρ _ P b x.2 f 0 x.1.length hC hPb (bY_of hr4 hcell hfit (by omega)) (Nat.zero_le _) hln (by omega) (fun z => hfull z.2)) wd437 wd435 wd436 wd18 (by decide) ⟨rfl, rfl, Nat.le_of_ble_eq_true rfl, Nat.le_of_ble_eq_true rfl⟩ (As := [.ref b, .int 0, .int (nI x.1.length)]) (rest := [.ref o]) rfl rfl hl.1 (Nat.le_of_ble_eq_true rfl) d284_32 ⟨(by first | omega | (dsimp only; omega)), (by first | omega | (dsimp only; omega))⟩ (fun q hq => Or.inr (by omega)) (fun v H2 locs1 hv hz2 hq2 hS => ?_)
    obtain ⟨y0, g, rfl, hy0, hcy, hgk, hgf⟩ := hv
    skip
    have hfx := hfin H2 _ y0 g hz2 (fun q hq => hq2 q hq (by omega)) hy0 hcy (fun k hk => by have := hgk k (by omega); rw [Nat.zero_add] at this; exact this) hS
    exact W.le_ hfx (by omega) (by omega)
abbrev b285 : ByteArray := prog_23_method_53_code
theorem d285_0 : decode b285 0 = .ok ((.aload_n 0), 1) := by decide +kernel
theorem d285_1 : decode b285 1 = .ok ((.aload_n 1), 1) := by decide +kernel
theorem d285_2 : decode b285 2 = .ok (.aconst_null, 1) := by decide +kernel
theorem d285_3 : decode b285 3 = .ok ((.invokespecial 489), 3) := by decide +kernel
theorem d285_6 : decode b285 6 = .ok (.return_, 1) := by decide +kernel
set_option maxHeartbeats 1000000 in
theorem c_s_isb (l : Launch) (ρ : RH) (H : Heap) (P : Nat → Prop) (o a b : Nat) (x : BT) (V0 : Nat → Value) (hC : CC ρ P H) (hPb : ∀ q, P q → q < H.size) (hso : t_OB o ((rD ρ).1 11) 4 ((rD ρ).2 11) H V0) (hSB : SB ρ H a b x) (hoa : o ≠ a) (hob : o ≠ b) (hPo : P o) : Met l y285 (wsOf y285 b285 2 none) ({ frames := 4, cells := 1, slots := x.1.length, locals := 130 } : Room) (va_Pc [.ref o, .ref a] (KP ρ H)) (mQ (fun v H1 => v = none ∧ ∃ (V : Nat → Value) (y0 : Nat), t_OB o ((rD ρ).1 11) 4 ((rD ρ).2 11) H1 V ∧ V 0 = .ref y0 ∧ V 1 = .int 0 ∧ H.size ≤ y0 ∧ ∃ g, H1[y0]? = some (vp_cell (rA ρ 4) (x.1.length, .inl g)) ∧ ∀ j, j < x.1.length → g j = sb_b (x.1.getD j 0)) (fun q => q = o ∨ H.size ≤ q)) 1 x.1.length (fun q => q = o ∨ H.size ≤ q) := by
  refine m_ofW (own := "java/lang/String") (plainFor_of_name rfl) rfl (Nat.le_of_ble_eq_true rfl) fun p e s m args below meth c ls hx hb hr hlk hmn X hs0 hl => ?_
  subst hs0
  have hS : va_S (fun q => q = o ∨ s.heap.size ≤ q) s.heap s.heap [] := va_S.rf
  have hl : lv_has ls 2 [(0, .ref o), (1, .ref a)] := hl
  refine lv_aload_n (pc := 0) hx hb d285_0 rfl (lv_at hl 0 rfl) ?_
  refine lv_aload_n (pc := 1) hx hb d285_1 rfl (lv_at hl 1 rfl) ?_
  refine lv_null (pc := 2) hx hb d285_2 ?_
  refine k_callI (pc := 3) (n := 2) X hS (c_s_iasb l ρ _ P o a b x V0 hC hPb hso hSB hoa hob hPo) wd419 wd417 wd418 rfl wd14 (by decide) ⟨rfl, rfl, Nat.le_of_ble_eq_true rfl, Nat.le_of_ble_eq_true rfl⟩ (As := [.ref a, .null]) (rest := []) rfl rfl hl.1 (Nat.le_of_ble_eq_true rfl) d285_3 ⟨(by first | omega | (dsimp only; omega)), (by first | omega | (dsimp only; omega))⟩ (fun q hq => hq) (fun v H1 locs1 hv hz1 hq1 hS => ?_)
  obtain ⟨rfl, hv⟩ := hv
  exact m_vret (pc := 6) hx hb hr hlk hS ⟨rfl, hv⟩ (by first | omega | (dsimp only; omega)) (by first | omega | (dsimp only; omega)) d285_6
theorem d307_0 : decode b307 0 = .ok ((.new 18), 3) := by decide +kernel
theorem d307_3 : decode b307 3 = .ok (.dup, 1) := by decide +kernel
theorem d307_4 : decode b307 4 = .ok ((.aload_n 0), 1) := by decide +kernel
theorem d307_5 : decode b307 5 = .ok ((.invokespecial 137), 3) := by decide +kernel
theorem d307_8 : decode b307 8 = .ok (.areturn, 1) := by decide +kernel
set_option maxHeartbeats 1000000 in
theorem c_sb_toS (l : Launch) (ρ : RH) (H : Heap) (P : Nat → Prop) (ba bb : Nat) (x : BT) (res : TT × Nat × Nat) (hC : CC ρ P H) (hPb : ∀ q, P q → q < H.size) (hSB : SB ρ H ba bb x ∧ P ba ∧ P bb) (h : f_sb_toS x = some res) : Met l y307 (wsOf y307 b307 1 (some (.object "java/lang/String"))) ({ frames := 12, cells := res.2.1, slots := res.2.2, locals := 600 } : Room) (va_Pc [.ref ba] (KP ρ H)) (mQ (fun v H1 => ∃ x : Nat, v = some (.ref x) ∧ isS ρ P H1 x res.1) (fun q => H.size ≤ q)) res.2.1 res.2.2 (fun q => H.size ≤ q) := by
  obtain rfl := Option.some.inj h
  refine m_ofW (own := "java/lang/StringBuilder") (plainFor_of_name rfl) rfl (Nat.le_of_ble_eq_true rfl) fun p e s m args below meth c ls hx hb hr hlk hmn X hs0 hl => ?_
  subst hs0
  have hS : va_S (fun q => s.heap.size ≤ q) s.heap s.heap [] := va_S.rf
  have hl : lv_has ls 1 [(0, .ref ba)] := hl
  refine o_new (pc := 0) X hS 11 rfl tin11 tyo11 wd412 wd413 wd14 (by first | omega | (dsimp only; omega)) (by first | omega | (dsimp only; omega)) d307_0 (fun o H1 ho0 ho hz hq hS => ?_)
  have hkn := kp_new hz hq
  have hlt := hSB.1.lt
  have hSB1 := hSB.1.keep hkn (fun z => z) (fun z => z)
  have hC1 : CC ρ (fun q => P q ∨ q = o) H1 := hC.step hkn no_hz (fun q hq z => z.elim id (fun e => by omega))
  have hPb1 : ∀ q, (P q ∨ q = o) → q < H1.size := fun q z => z.elim (fun g => hkn.lt (hPb q g)) (fun e => by omega)
  refine lv_dup (pc := 3) hx hb d307_3 rfl ?_
  refine lv_aload_n (pc := 4) hx hb d307_4 rfl (lv_at hl 0 rfl) ?_
  refine k_callI (pc := 5) (n := 1) X hS (c_s_isb l ρ _ (fun q => P q ∨ q = o) o ba bb x _ hC1 hPb1 ho hSB1 (by omega) (by omega) (Or.inr rfl)) wd416 wd414 wd415 rfl wd14 (by decide) ⟨rfl, rfl, Nat.le_of_ble_eq_true rfl, Nat.le_of_ble_eq_true rfl⟩ (As := [.ref ba]) (rest := [.ref o]) rfl rfl hl.1 (Nat.le_of_ble_eq_true rfl) d307_5 ⟨(by first | omega | (dsimp only; omega)), (by first | omega | (dsimp only; omega))⟩ (fun q hq => hq.elim (fun e => by omega) (fun g => by omega)) (fun v H2 locs1 hv hz2 hq2 hS => ?_)
  obtain ⟨rfl, V, y0, hso, hv0, hv1, hy0, g, hcy, hg⟩ := hv
  obtain ⟨z, f, -, -, -, -, hch, hln, hcap, -⟩ := hSB.1
  have hYn : isY ρ P H2 y0 x.1 := Y_of X.2.2.2.2.2.2.2.1 hcy hg hch (by omega) (fun z => by have := hPb _ z; omega)
  exact m_aret (pc := 8) hx hb hr (Or.inl ⟨_, rfl⟩) hlk hS ⟨o, rfl, S_of hso hv0 hv1 hYn (fun z => by have := hPb _ z; omega)⟩ (by first | omega | (dsimp only; omega)) (by first | omega | (dsimp only; omega)) d307_8
abbrev b250 : ByteArray := prog_14_method_2_code
theorem d250_0 : decode b250 0 = .ok ((.aload_n 0), 1) := by decide +kernel
theorem d250_1 : decode b250 1 = .ok ((.invokespecial 3), 3) := by decide +kernel
theorem d250_4 : decode b250 4 = .ok ((.getstatic 18), 3) := by decide +kernel
theorem d250_7 : decode b250 7 = .ok ((.ifCond .eq 18), 3) := by decide +kernel
theorem d250_10 : decode b250 10 = .ok ((.aload_n 0), 1) := by decide +kernel
theorem d250_11 : decode b250 11 = .ok ((.iload_n 1), 1) := by decide +kernel
theorem d250_12 : decode b250 12 = .ok ((.newarray .byte), 2) := by decide +kernel
theorem d250_14 : decode b250 14 = .ok ((.putfield 15), 3) := by decide +kernel
theorem d250_17 : decode b250 17 = .ok ((.aload_n 0), 1) := by decide +kernel
theorem d250_18 : decode b250 18 = .ok ((.iconst 0), 1) := by decide +kernel
theorem d250_19 : decode b250 19 = .ok ((.putfield 22), 3) := by decide +kernel
theorem d250_22 : decode b250 22 = .ok ((.goto 16), 3) := by decide +kernel
theorem d250_25 : decode b250 25 = .ok ((.aload_n 0), 1) := by decide +kernel
theorem d250_26 : decode b250 26 = .ok ((.iload_n 1), 1) := by decide +kernel
theorem d250_27 : decode b250 27 = .ok ((.invokestatic 26), 3) := by decide +kernel
theorem d250_30 : decode b250 30 = .ok ((.putfield 15), 3) := by decide +kernel
theorem d250_33 : decode b250 33 = .ok ((.aload_n 0), 1) := by decide +kernel
theorem d250_34 : decode b250 34 = .ok ((.iconst 1), 1) := by decide +kernel
theorem d250_35 : decode b250 35 = .ok ((.putfield 22), 3) := by decide +kernel
theorem d250_38 : decode b250 38 = .ok (.return_, 1) := by decide +kernel
set_option maxHeartbeats 1000000 in
theorem c_b_asbi (l : Launch) (ρ : RH) (H : Heap) (P : Nat → Prop) (o : Nat) (hC : CC ρ P H) (hPb : ∀ q, P q → q < H.size) (ho : t_OB o ((rD ρ).1 10) 4 ((rD ρ).2 10) H (fun k => defaultValue (ty10 k))) : Met l y250 (wsOf y250 b250 2 none) ({ frames := 1, cells := 1, slots := 16, locals := 12 } : Room) (va_Pc [.ref o, .int 16] (KP ρ H)) (mQ (fun v H1 => v = none ∧ ∃ b, H.size ≤ b ∧ b < H1.size ∧ t_OB o ((rD ρ).1 10) 4 ((rD ρ).2 10) H1 (sbF b 0 0) ∧ H1[b]? = some (vp_cell (rA ρ 4) (16, .inl (fun _ => 0)))) (fun q => q = o ∨ H.size ≤ q)) 1 16 (fun q => q = o ∨ H.size ≤ q) := by
  refine m_ofW (own := "java/lang/AbstractStringBuilder") (plainFor_of_name rfl) rfl (Nat.le_of_ble_eq_true rfl) fun p e s m args below meth c ls hx hb hr hlk hmn X hs0 hl => ?_
  subst hs0
  have hS : va_S (fun q => q = o ∨ s.heap.size ≤ q) s.heap s.heap [] := va_S.rf
  have hl : lv_has ls 2 [(0, .ref o), (1, .int 16)] := hl
  refine lv_aload_n (pc := 0) hx hb d250_0 rfl (lv_at hl 0 rfl) ?_
  refine o_oini (pc := 1) X wd290 hl.1 rfl rfl d250_1 ?_
  refine c_gets (pc := 4) X 0 (hC.2.1 0 1 rfl) rfl rfl wd291 d250_4 ?_
  refine lv_if_eq (pc := 7) (tgt := 25) hx hb d250_7 (by decide) (fun zbr => absurd zbr (by decide)) (fun zbr => ?_)
  refine lv_aload_n (pc := 10) hx hb d250_10 rfl (lv_at hl 0 rfl) ?_
  refine lv_iload_n (pc := 11) hx hb d250_11 rfl (lv_at hl 1 rfl) ?_
  have hholt := t_lt ho
  refine o_newB (pc := 12) (n := 16) (N := 16) X hS (by decide) (by decide) (by decide) (by first | omega | (dsimp only; omega)) (by first | omega | (dsimp only; omega)) d250_12 (fun b H1 ho0 hcell hz hq hS => ?_)
  have ho := ho.kept (hq o hholt)
  refine o_put (pc := 14) X hS ho 0 (Or.inl rfl) rfl rfl tin10 ty10 tyo10 tnm10 rfl wd300 rfl rfl rfl d250_14 (fun H1 locs1 ho1 hS hz hq => ?_)
  have ho := ho1
  have hcell := (hq b (by omega)).trans hcell
  refine lv_aload_n (pc := 17) hx hb d250_17 rfl (lv_at hl 0 rfl) ?_
  refine lv_iconst (pc := 18) (v := 0) hx hb d250_18 (by decide) ?_
  refine o_put (pc := 19) X hS ho 1 (Or.inl rfl) rfl rfl tin10 ty10 tyo10 tnm10 rfl wd301 rfl rfl rfl d250_19 (fun H1 locs1 ho1 hS hz hq => ?_)
  have ho := ho1
  have hcell := (hq b (by omega)).trans hcell
  refine lv_goto (pc := 22) (tgt := 38) hx hb d250_22 (by decide) ?_
  exact m_vret (pc := 38) hx hb hr hlk hS ⟨rfl, b, by omega, hp_lt hcell, ho.to (fun j hj => by rcases j with _ | _ | _ | _ | j <;> first | rfl | omega), hcell⟩ (by first | omega | (dsimp only; omega)) (by first | omega | (dsimp only; omega)) d250_38
theorem d301_0 : decode b301 0 = .ok ((.aload_n 0), 1) := by decide +kernel
theorem d301_1 : decode b301 1 = .ok ((.bipush 16), 2) := by decide +kernel
theorem d301_3 : decode b301 3 = .ok ((.invokespecial 1), 3) := by decide +kernel
theorem d301_6 : decode b301 6 = .ok (.return_, 1) := by decide +kernel
set_option maxHeartbeats 1000000 in
theorem c_b_sbi (l : Launch) (ρ : RH) (H : Heap) (P : Nat → Prop) (o : Nat) (hC : CC ρ P H) (hPb : ∀ q, P q → q < H.size) (ho : t_OB o ((rD ρ).1 10) 4 ((rD ρ).2 10) H (fun k => defaultValue (ty10 k))) : Met l y301 (wsOf y301 b301 1 none) ({ frames := 12, cells := 1, slots := 16, locals := 600 } : Room) (va_Pc [.ref o] (KP ρ H)) (mQ (fun v H1 => v = none ∧ ∃ b, H.size ≤ b ∧ b < H1.size ∧ t_OB o ((rD ρ).1 10) 4 ((rD ρ).2 10) H1 (sbF b 0 0) ∧ H1[b]? = some (vp_cell (rA ρ 4) (16, .inl (fun _ => 0)))) (fun q => q = o ∨ H.size ≤ q)) 1 16 (fun q => q = o ∨ H.size ≤ q) := by
  refine m_ofW (own := "java/lang/StringBuilder") (plainFor_of_name rfl) rfl (Nat.le_of_ble_eq_true rfl) fun p e s m args below meth c ls hx hb hr hlk hmn X hs0 hl => ?_
  subst hs0
  have hS : va_S (fun q => q = o ∨ s.heap.size ≤ q) s.heap s.heap [] := va_S.rf
  have hl : lv_has ls 1 [(0, .ref o)] := hl
  refine lv_aload_n (pc := 0) hx hb d301_0 rfl (lv_at hl 0 rfl) ?_
  refine lv_bipush (pc := 1) (v := 16) hx hb d301_1 (by decide) ?_
  refine k_callI (pc := 3) (n := 1) X hS (c_b_asbi l ρ _ P o hC hPb ho) wd289 wd287 wd288 rfl wd12 (by decide) ⟨rfl, rfl, Nat.le_of_ble_eq_true rfl, Nat.le_of_ble_eq_true rfl⟩ (As := [.int 16]) (rest := []) rfl rfl hl.1 (Nat.le_of_ble_eq_true rfl) d301_3 ⟨(by first | omega | (dsimp only; omega)), (by first | omega | (dsimp only; omega))⟩ (fun q hq => hq) (fun v H1 locs1 hv hz1 hq1 hS => ?_)
  obtain ⟨rfl, hv⟩ := hv
  exact m_vret (pc := 6) hx hb hr hlk hS ⟨rfl, hv⟩ (by first | omega | (dsimp only; omega)) (by first | omega | (dsimp only; omega)) d301_6
section R5
variable {p : Program} {l : Launch} {e : Env} {R : Room} {s : State} {m : MethodId} {args : Array Value} {below : List Frame} {meth : Method} {c : Code} {H : Heap} {locs : List Loc} {cells slots : Nat} {Q : State → Prop}
variable {cc : ByteArray} {pc nL : Nat} {ls : Array Slot} {own : String} {ρ : RH} {w0 : Cond} {A : Nat → Prop} {H0 : Heap} {P : Nat → Prop}
theorem k_newSB (X : CX p s m c args own cc nL ρ w0) (hS : va_S A H0 H locs) (hC : CC ρ P H) (hPb : ∀ q, P q → q < H.size) (hAz : ∀ q, H0.size ≤ q → A q) {i1 i2 : Nat} (hl : Cond.classLink own i1 "java/lang/StringBuilder" ∈ TG) (hm : Cond.methodLink own i2 y301 ∈ TG) {rest : List Value} (hsz : ls.size = nL) (hsum : ((Value.ref 0 :: rest).map fun v => v.category).sum ≤ 8) (hfr : Nat.ble 13 R.frames = true) (hlo : Nat.ble 620 R.locals = true) (hc : cells + 2 ≤ R.cells) (hs : slots + 20 ≤ R.slots) (h1 : decode cc pc = .ok (.new i1, 3)) (h2 : decode cc (pc + 3) = .ok (.dup, 1)) (h3 : decode cc (pc + 4) = .ok (.invokespecial i2, 3))
    (kk : ∀ (a b : Nat) (H1 : Heap) (locs1 : List Loc), kp no H H1 → H.size ≤ a → H.size ≤ b → a < H1.size → b < H1.size → SB ρ H1 a b ([], 16) → va_S A H0 H1 locs1 → W p l e R s m args below meth c H1 locs1 (cells + 2) (slots + 20) Q (F0 m (pc + 7) ls (.ref a :: rest))) : W p l e R s m args below meth c H locs cells slots Q (F0 m pc ls rest) := by
  refine o_new X hS 10 rfl tin10 tyo10 hl wd283 wd13 (by omega) (by omega) h1 (fun o H1 ho0 ho hz hq hS1 => ?_)
  have hkn := kp_new hz hq
  refine lv_dup (pc := pc + 3) X.1.1 X.1.2.1 h2 rfl ?_
  refine k_callI (pc := pc + 4) (n := 0) X hS1 (c_b_sbi l ρ _ P o (hC.keep hkn no_hz) (fun q z => hkn.lt (hPb q z)) ho) wd286 hm wd285 rfl wd13 (by decide) ⟨rfl, rfl, Nat.le_of_ble_eq_true hfr, Nat.le_of_ble_eq_true hlo⟩ (As := []) (rest := .ref o :: rest) rfl rfl hsz hsum h3 ⟨by omega, by omega⟩ (fun q hq => hAz q (by have := hS.1; omega)) (fun v H2 locs1 hv hz2 hq2 hS2 => ?_)
  obtain ⟨rfl, b, hb1, hb2, hob, hcell⟩ := hv
  have hkk : kp no H H2 := ⟨by omega, fun q hq1 _ => (hq2 q (by omega) (by omega)).trans (hq q hq1)⟩
  exact kk o b H2 locs1 hkk (by omega) (by omega) (by omega) hb2 ⟨0, fun _ => 0, hob, hcell, fun j hj => absurd hj (Nat.not_lt_zero j), sb_fit0, fun c hc => absurd hc List.not_mem_nil, by decide, by decide, by omega, Or.inl rfl⟩ hS2
end R5
