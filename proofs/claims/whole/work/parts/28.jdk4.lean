section J5
variable {p : Program} {l : Launch} {e : Env} {R : Room} {s : State} {m : MethodId} {args : Array Value} {below : List Frame} {meth : Method} {c : Code} {H : Heap} {locs : List Loc} {cells slots : Nat} {Q : State → Prop}
variable {cc : ByteArray} {pc nL : Nat} {ls : Array Slot} {rest st0 : List Value} {own : String} {ρ : RH} {w0 : Cond} {A A1 : Nat → Prop} {H0 : Heap} {P : Nat → Prop}
variable {y : MethodName} {bytes : ByteArray} {maxL n index mc ms : Nat} {ret : Option FieldType} {rm : Room} {post : Option Value → Heap → Prop} {b : Nat} {As : List Value} {C : String}
theorem j_at (X : CX p s m c args own cc nL ρ w0) (ci : Nat) {q : vw_C} (hc : CL[ci]? = some q) : ClassAt s q.1 ((rD ρ).1 ci) := by
  obtain ⟨-, hfc, kC, hkC, hkind⟩ := X.2.1.1 ci _ hc
  exact ⟨hfc, kC, hkC, hkind⟩
/-- invokespecial of a superclass's method -/
theorem k_callSU (X : CX p s m c args own cc nL ρ w0) (hS : va_S A H0 H locs) (ci : Nat) {q : vw_C} (hc : CL[ci]? = some q) (hM : Met l y (wsOf y bytes maxL ret) rm (va_Pc (.ref b :: As) (KP ρ H)) (mQ post A1) mc ms A1) (hcode : Cond.code y bytes maxL ret ∈ TG) (hl : Cond.methodLink own index y ∈ TG) (hi : Cond.instanceMethod y ∈ TG) (hsame : Cond.sameMethod y.cls y.cls y.name y.desc ∈ TG) (hsup : Cond.superclass own y.cls ∈ TG) (hini : Cond.initialized y.cls ∈ TG) (hd : y.name ≠ "<init>" ∧ (parseMethodDescriptor y.desc).map (fun d => d.parameters.length) = some n) (hrm : KR R rm maxL mc ms) (hrc : Rcv s H b q.1) (hst : st0 = As.reverse ++ .ref b :: rest) (hn : As.length = n) (hsz : ls.size = nL) (hsum : (rest.map fun v => v.category).sum ≤ 8) (hdg : decode cc pc = .ok (.invokespecial index, 3)) (hf : cells + mc ≤ R.cells ∧ slots + ms ≤ R.slots) (hA : ∀ q, A1 q → A q)
    (kk : ∀ (v : Option Value) (H1 : Heap) (locs1 : List Loc), post v H1 → H.size ≤ H1.size → (∀ q : Nat, q < H.size → ¬ A1 q → H1[q]? = H[q]?) → va_S A H0 H1 locs1 → W p l e R s m args below meth c H1 locs1 (cells + mc) (slots + ms) Q (F0 m (pc + 3) ls (v.toList ++ rest))) : W p l e R s m args below meth c H locs cells slots Q (F0 m pc ls st0) := by
  subst hst
  have hG : GoodIn (w0 :: TG) (wsOf y bytes maxL ret) := goodTG hcode
  refine k_go (va_runSU (b := b) (As := As) (rest := rest) (C := q.1) (j_at X ci hc) X.1 hM ⟨⟨hrm.1, hrm.2.1, hrm.2.2.1, hrm.2.2.2, pay_in X.1.2.2.2.2 hG, List.mem_cons_self⟩, X.ts hl, X.ts hsame, X.ts hsup, X.ts hi, X.ts hini, X.ts hcode, hd.1, fun sig h => ?_⟩ ⟨KP.blind, hrc, fun U hU hW => KP.of X.2 hU hW⟩ rfl hn hsz rfl (by simpa [JFrame.monitorRoom] using hsum) hdg hf) hS hA kk
  have h2 := hd.2
  rw [h] at h2
  exact (Option.some.inj h2).symm
/-- invokevirtual: the method that runs is another than the one that is named -/
theorem k_callO (X : CX p s m c args own cc nL ρ w0) (hS : va_S A H0 H locs) {x : MethodName} {owner : String} {b0 : ByteArray} {m0 : Nat} {r0 : Option FieldType} (hM : Met l y (wsOf y bytes maxL ret) rm (va_Pc (.ref b :: As) (KP ρ H)) (mQ post A1) mc ms A1) (hcode : Cond.code y bytes maxL ret ∈ TG) (hl : Cond.methodLink own index x ∈ TG) (h0 : Cond.code ⟨owner, x.name, x.desc⟩ b0 m0 r0 ∈ TG) (hsame : Cond.sameMethod x.cls owner x.name x.desc ∈ TG) (hi0 : Cond.instanceMethod ⟨owner, x.name, x.desc⟩ ∈ TG) (hi : Cond.instanceMethod y ∈ TG) (hsel : Cond.selects C x y ∈ TG) (hini : Cond.initialized y.cls ∈ TG) (hd : owner ≠ "java/lang/invoke/MethodHandle" ∧ owner ≠ "java/lang/invoke/VarHandle" ∧ (parseMethodDescriptor x.desc).map (fun d => d.parameters.length) = some n) (hrm : KR R rm maxL mc ms) (hrc : Rcv s H b C) (hst : st0 = As.reverse ++ .ref b :: rest) (hn : As.length = n) (hsz : ls.size = nL) (hsum : (rest.map fun v => v.category).sum ≤ 8) (hdg : decode cc pc = .ok (.invokevirtual index, 3)) (hf : cells + mc ≤ R.cells ∧ slots + ms ≤ R.slots) (hA : ∀ q, A1 q → A q)
    (kk : ∀ (v : Option Value) (H1 : Heap) (locs1 : List Loc), post v H1 → H.size ≤ H1.size → (∀ q : Nat, q < H.size → ¬ A1 q → H1[q]? = H[q]?) → va_S A H0 H1 locs1 → W p l e R s m args below meth c H1 locs1 (cells + mc) (slots + ms) Q (F0 m (pc + 3) ls (v.toList ++ rest))) : W p l e R s m args below meth c H locs cells slots Q (F0 m pc ls st0) := by
  subst hst
  have hG : GoodIn (w0 :: TG) (wsOf y bytes maxL ret) := goodTG hcode
  refine k_go (va_runU (b := b) (As := As) (rest := rest) (C := C) (x := x) (owner := owner) X.1 hM ⟨⟨hrm.1, hrm.2.1, hrm.2.2.1, hrm.2.2.2, pay_in X.1.2.2.2.2 hG, List.mem_cons_self⟩, X.ts hcode, X.ts hini, ⟨hd.1, hd.2.1⟩, fun sig h => ?_, X.ts hl, X.ts hsame, va_Decl.of (X.ts hi0) (X.ts h0), X.ts hsel, X.ts hi⟩ ⟨KP.blind, hrc, fun U hU hW => KP.of X.2 hU hW⟩ rfl hn hsz rfl (by simpa [JFrame.monitorRoom] using hsum) hdg hf) hS hA kk
  have h2 := hd.2.2
  rw [h] at h2
  exact (Option.some.inj h2).symm
end J5
/-- the room that a text of n letters takes -/
theorem gcap_eq {q n : Nat} (h : ¬ n ≤ q) : q + (if n - q < q + 2 then q + 2 else n - q) = gcap q n := by
  unfold gcap
  rw [if_neg h]
  split <;> omega
theorem gcap_lt {q n : Nat} (h : n < 2 ^ 16) (hq : q < 2 ^ 17) : gcap q n < 2 ^ 19 := by
  unfold gcap
  split <;> omega
theorem gcap_ge {q n : Nat} : n ≤ gcap q n ∧ q ≤ gcap q n := by
  unfold gcap
  split <;> omega
theorem nar_b : ∀ c, c < 256 → vp_nar .byte (sb_b c) = sb_b c := by decide +kernel
theorem sb_d0 {n q : Nat} (hn : n < 2 ^ 30) (hq : q < 2 ^ 30) (h : nI n - nI q ≤ 0) : n ≤ q := by
  have e := pk_sub_toInt (a := n) (b := q) (by omega) (by omega)
  rw [Int32.le_iff_toInt_le, e, Int32.toInt_zero] at h
  omega
theorem sb_d1 {n q : Nat} (hn : n < 2 ^ 30) (hq : q < 2 ^ 30) (h : ¬ nI n - nI q ≤ 0) : ¬ n ≤ q := by
  have e := pk_sub_toInt (a := n) (b := q) (by omega) (by omega)
  rw [Int32.le_iff_toInt_le, e, Int32.toInt_zero] at h
  omega
theorem sbF_0 {b b1 : Nat} {z n : Int32} : ∀ j, j < 4 → updV (sbF b z n) 0 (.ref b1) j = sbF b1 z n j := by
  intro j hj
  rcases j with _ | _ | _ | _ | j <;> first | rfl | omega
theorem sbF_3 {b : Nat} {z n n1 : Int32} : ∀ j, j < 4 → updV (sbF b z n) 3 (.int n1) j = sbF b z n1 j := by
  intro j hj
  rcases j with _ | _ | _ | _ | j <;> first | rfl | omega
theorem app_get {t u : TT} {j : Nat} : (t ++ u).getD j 0 = if j < t.length then t.getD j 0 else u.getD (j - t.length) 0 := by
  rw [List.getD_eq_getElem?_getD, List.getD_eq_getElem?_getD, List.getD_eq_getElem?_getD, List.getElem?_append]
  split <;> rfl
abbrev b259 : ByteArray := prog_14_method_68_code
theorem d259_0 : decode b259 0 = .ok ((.getstatic 18), 3) := by decide +kernel
theorem d259_3 : decode b259 3 = .ok ((.ifCond .eq 14), 3) := by decide +kernel
theorem d259_6 : decode b259 6 = .ok ((.aload_n 0), 1) := by decide +kernel
theorem d259_7 : decode b259 7 = .ok ((.getfield 22), 3) := by decide +kernel
theorem d259_10 : decode b259 10 = .ok ((.ifCond .ne 7), 3) := by decide +kernel
theorem d259_13 : decode b259 13 = .ok ((.iconst 1), 1) := by decide +kernel
theorem d259_14 : decode b259 14 = .ok ((.goto 4), 3) := by decide +kernel
theorem d259_17 : decode b259 17 = .ok ((.iconst 0), 1) := by decide +kernel
theorem d259_18 : decode b259 18 = .ok (.ireturn, 1) := by decide +kernel
set_option maxHeartbeats 1000000 in
theorem c_b_latin (l : Launch) (ρ : RH) (H : Heap) (P : Nat → Prop) (a b : Nat) (z n0 : Int32) (hC : CC ρ P H) (hPb : ∀ q, P q → q < H.size) (ho : t_OB a ((rD ρ).1 10) 4 ((rD ρ).2 10) H (sbF b z n0)) : Met l y259 (wsOf y259 b259 1 (some .boolean)) ({ frames := 0, cells := 0, slots := 0, locals := 0 } : Room) (va_Pc [.ref a] (KP ρ H)) (mQ (fun v H1 => v = some (.int 1) ∧ H1 = H) (fun _ => False)) 0 0 (fun _ => False) := by
  refine m_ofW (own := "java/lang/AbstractStringBuilder") (plainFor_of_name rfl) rfl (Nat.le_of_ble_eq_true rfl) fun p e s m args below meth c ls hx hb hr hlk hmn X hs0 hl => ?_
  subst hs0
  have hS : va_S (fun _ => False) s.heap s.heap [] := va_S.rf
  have hl : lv_has ls 1 [(0, .ref a)] := hl
  refine c_gets (pc := 0) X 0 (hC.2.1 0 1 rfl) rfl rfl wd291 d259_0 ?_
  refine lv_if_eq (pc := 3) (tgt := 17) hx hb d259_3 (by decide) (fun zbr => absurd zbr (by decide)) (fun zbr => ?_)
  refine lv_aload_n (pc := 6) hx hb d259_6 rfl (lv_at hl 0 rfl) ?_
  refine o_getf (pc := 7) X ho 1 rfl rfl rfl tin10 rfl wd301 d259_7 ?_
  refine lv_if_ne (pc := 10) (tgt := 17) hx hb d259_10 (by decide) (fun zbr => absurd zbr (by decide)) (fun zbr => ?_)
  refine lv_iconst (pc := 13) (v := 1) hx hb d259_13 (by decide) ?_
  refine lv_goto (pc := 14) (tgt := 18) hx hb d259_14 (by decide) ?_
  exact m_zret (pc := 18) hx hb hr hlk hS ⟨rfl, rfl⟩ (Nat.le_refl _) (Nat.le_refl _) d259_18 (by decide)
abbrev b256 : ByteArray := prog_14_method_64_code
theorem d256_0 : decode b256 0 = .ok ((.aload_n 0), 1) := by decide +kernel
theorem d256_1 : decode b256 1 = .ok ((.getfield 15), 3) := by decide +kernel
theorem d256_4 : decode b256 4 = .ok (.areturn, 1) := by decide +kernel
set_option maxHeartbeats 1000000 in
theorem c_b_getv (l : Launch) (ρ : RH) (H : Heap) (P : Nat → Prop) (a b : Nat) (z n0 : Int32) (hC : CC ρ P H) (hPb : ∀ q, P q → q < H.size) (ho : t_OB a ((rD ρ).1 10) 4 ((rD ρ).2 10) H (sbF b z n0)) : Met l y256 (wsOf y256 b256 1 (some (.array .byte))) ({ frames := 0, cells := 0, slots := 0, locals := 0 } : Room) (va_Pc [.ref a] (KP ρ H)) (mQ (fun v H1 => v = some (.ref b) ∧ H1 = H) (fun _ => False)) 0 0 (fun _ => False) := by
  refine m_ofW (own := "java/lang/AbstractStringBuilder") (plainFor_of_name rfl) rfl (Nat.le_of_ble_eq_true rfl) fun p e s m args below meth c ls hx hb hr hlk hmn X hs0 hl => ?_
  subst hs0
  have hS : va_S (fun _ => False) s.heap s.heap [] := va_S.rf
  have hl : lv_has ls 1 [(0, .ref a)] := hl
  refine lv_aload_n (pc := 0) hx hb d256_0 rfl (lv_at hl 0 rfl) ?_
  refine o_getf (pc := 1) X ho 0 rfl rfl rfl tin10 rfl wd300 d256_1 ?_
  exact m_aret (pc := 4) hx hb hr (Or.inr ⟨_, rfl⟩) hlk hS ⟨rfl, rfl⟩ (by first | omega | (dsimp only; omega)) (by first | omega | (dsimp only; omega)) d256_4
abbrev b260 : ByteArray := prog_14_method_6_code
theorem d260_0 : decode b260 0 = .ok ((.aload_n 0), 1) := by decide +kernel
theorem d260_1 : decode b260 1 = .ok ((.getfield 79), 3) := by decide +kernel
theorem d260_4 : decode b260 4 = .ok (.ireturn, 1) := by decide +kernel
set_option maxHeartbeats 1000000 in
theorem c_b_len (l : Launch) (ρ : RH) (H : Heap) (P : Nat → Prop) (a b : Nat) (z n0 : Int32) (hC : CC ρ P H) (hPb : ∀ q, P q → q < H.size) (ho : t_OB a ((rD ρ).1 10) 4 ((rD ρ).2 10) H (sbF b z n0)) : Met l y260 (wsOf y260 b260 1 (some .int)) ({ frames := 0, cells := 0, slots := 0, locals := 0 } : Room) (va_Pc [.ref a] (KP ρ H)) (mQ (fun v H1 => v = some (.int n0) ∧ H1 = H) (fun _ => False)) 0 0 (fun _ => False) := by
  refine m_ofW (own := "java/lang/AbstractStringBuilder") (plainFor_of_name rfl) rfl (Nat.le_of_ble_eq_true rfl) fun p e s m args below meth c ls hx hb hr hlk hmn X hs0 hl => ?_
  subst hs0
  have hS : va_S (fun _ => False) s.heap s.heap [] := va_S.rf
  have hl : lv_has ls 1 [(0, .ref a)] := hl
  refine lv_aload_n (pc := 0) hx hb d260_0 rfl (lv_at hl 0 rfl) ?_
  refine o_getf (pc := 1) X ho 3 rfl rfl rfl tin10 rfl wd303 d260_1 ?_
  exact m_iret (pc := 4) hx hb hr hlk hS ⟨rfl, rfl⟩ (Nat.le_refl _) (Nat.le_refl _) d260_4
theorem d305_0 : decode b305 0 = .ok ((.aload_n 0), 1) := by decide +kernel
theorem d305_1 : decode b305 1 = .ok ((.invokespecial 343), 3) := by decide +kernel
theorem d305_4 : decode b305 4 = .ok (.ireturn, 1) := by decide +kernel
set_option maxHeartbeats 1000000 in
theorem c_b_len2 (l : Launch) (ρ : RH) (H : Heap) (P : Nat → Prop) (a b : Nat) (z n0 : Int32) (hC : CC ρ P H) (hPb : ∀ q, P q → q < H.size) (ho : t_OB a ((rD ρ).1 10) 4 ((rD ρ).2 10) H (sbF b z n0)) : Met l y305 (wsOf y305 b305 1 (some .int)) ({ frames := 1, cells := 0, slots := 0, locals := 20 } : Room) (va_Pc [.ref a] (KP ρ H)) (mQ (fun v H1 => v = some (.int n0) ∧ H1 = H) (fun _ => False)) 0 0 (fun _ => False) := by
  refine m_ofW (own := "java/lang/StringBuilder") (plainFor_of_name rfl) rfl (Nat.le_of_ble_eq_true rfl) fun p e s m args below meth c ls hx hb hr hlk hmn X hs0 hl => ?_
  subst hs0
  have hS : va_S (fun _ => False) s.heap s.heap [] := va_S.rf
  have hl : lv_has ls 1 [(0, .ref a)] := hl
  refine lv_aload_n (pc := 0) hx hb d305_0 rfl (lv_at hl 0 rfl) ?_
  refine k_callSU (pc := 1) (n := 0) X hS 10 rfl (c_b_len l ρ _ P a b z n0 hC hPb ho) wd433 wd432 wd427 wd428 wd312 wd12 (by decide) ⟨rfl, rfl, Nat.le_of_ble_eq_true rfl, Nat.le_of_ble_eq_true rfl⟩ (S_recv X ho (ci := 10) rfl) (As := []) (rest := []) rfl rfl hl.1 (Nat.le_of_ble_eq_true rfl) d305_1 ⟨(by first | omega | (dsimp only; omega)), (by first | omega | (dsimp only; omega))⟩ (fun q hq => hq.elim) (fun v H1 locs1 hv hz1 hq1 hS => ?_)
  obtain ⟨rfl, hv2⟩ := hv
  have hv3 := hv2.symm
  clear hv2
  subst hv3
  exact m_iret (pc := 4) hx hb hr hlk hS ⟨rfl, rfl⟩ (Nat.le_refl _) (Nat.le_refl _) d305_4
set_option maxHeartbeats 1000000 in
theorem c_sb_len (l : Launch) (ρ : RH) (H : Heap) (P : Nat → Prop) (ba bb : Nat) (x : BT) (res : Int32) (hC : CC ρ P H) (hPb : ∀ q, P q → q < H.size) (hSB : SB ρ H ba bb x ∧ P ba ∧ P bb) (h : f_sb_len x = some res) : Met l y305 (wsOf y305 b305 1 (some .int)) ({ frames := 12, cells := 0, slots := 0, locals := 600 } : Room) (va_Pc [.ref ba] (KP ρ H)) (mQ (fun v H1 => v = some (.int res) ∧ H1 = H) (fun _ => False)) 0 0 (fun _ => False) := by
  obtain ⟨⟨z, f, ho, hcell, hf, hfit, hch, hln, hcap, hab, hz01⟩, hPa, hPbb⟩ := hSB
  obtain rfl := Option.some.inj h
  refine m_ofW (own := "java/lang/StringBuilder") (plainFor_of_name rfl) rfl (Nat.le_of_ble_eq_true rfl) fun p e s m args below meth c ls hx hb hr hlk hmn X hs0 hl => ?_
  subst hs0
  have hS : va_S (fun _ => False) s.heap s.heap [] := va_S.rf
  have hl : lv_has ls 1 [(0, .ref ba)] := hl
  refine lv_aload_n (pc := 0) hx hb d305_0 rfl (lv_at hl 0 rfl) ?_
  refine k_callSU (pc := 1) (n := 0) X hS 10 rfl (c_b_len l ρ _ P ba bb z (nI x.1.length) hC hPb ho) wd433 wd432 wd427 wd428 wd312 wd12 (by decide) ⟨rfl, rfl, Nat.le_of_ble_eq_true rfl, Nat.le_of_ble_eq_true rfl⟩ (S_recv X ho (ci := 10) rfl) (As := []) (rest := []) rfl rfl hl.1 (Nat.le_of_ble_eq_true rfl) d305_1 ⟨(by first | omega | (dsimp only; omega)), (by first | omega | (dsimp only; omega))⟩ (fun q hq => hq.elim) (fun v H1 locs1 hv hz1 hq1 hS => ?_)
  obtain ⟨rfl, hv2⟩ := hv
  have hv3 := hv2.symm
  clear hv2
  subst hv3
  exact m_iret (pc := 4) hx hb hr hlk hS ⟨rfl, rfl⟩ (Nat.le_refl _) (Nat.le_refl _) d305_4
set_option maxHeartbeats 1000000 in
theorem c_j_max2 (l : Launch) (ρ : RH) (H : Heap) (P : Nat → Prop) (x0 y0 : Int32) (hC : CC ρ P H) (hPb : ∀ q, P q → q < H.size) : Met l y278 (wsOf y278 b278 2 (some .int)) ({ frames := 0, cells := 0, slots := 0, locals := 0 } : Room) (va_Pc [.int x0, .int y0] (KP ρ H)) (mQ (fun v H1 => v = some (.int (if x0 < y0 then y0 else x0)) ∧ H1 = H) (fun _ => False)) 0 0 (fun _ => False) := by
  refine m_ofW (own := "java/lang/Math") (by decide +kernel) rfl (Nat.le_of_ble_eq_true rfl) fun p e s m args below meth c ls hx hb hr hlk hmn X hs0 hl => ?_
  subst hs0
  have hS : va_S (fun _ => False) s.heap s.heap [] := va_S.rf
  have hl : lv_has ls 2 [(0, .int x0), (1, .int y0)] := hl
  refine lv_iload_n (pc := 0) hx hb d278_0 rfl (lv_at hl 0 rfl) ?_
  refine lv_iload_n (pc := 1) hx hb d278_1 rfl (lv_at hl 1 rfl) ?_
  refine lv_icmp_lt (pc := 2) (tgt := 9) hx hb d278_2 (by decide) (fun z2 => ?_) (fun z2 => ?_)
  · skip
    refine lv_iload_n (pc := 9) hx hb d278_9 rfl (lv_at hl 1 rfl) ?_
    exact m_iret (pc := 10) hx hb hr hlk hS ⟨by rw [if_pos z2], rfl⟩ (Nat.le_refl _) (Nat.le_refl _) d278_10
  · skip
    refine lv_iload_n (pc := 5) hx hb d278_5 rfl (lv_at hl 0 rfl) ?_
    refine lv_goto (pc := 6) (tgt := 10) hx hb d278_6 (by decide) ?_
    exact m_iret (pc := 10) hx hb hr hlk hS ⟨by rw [if_neg z2], rfl⟩ (Nat.le_refl _) (Nat.le_refl _) d278_10
set_option maxHeartbeats 1000000 in
theorem c_j_min3 (l : Launch) (ρ : RH) (H : Heap) (P : Nat → Prop) (x0 y0 : Int32) (hC : CC ρ P H) (hPb : ∀ q, P q → q < H.size) (hxy : x0 ≤ y0) : Met l y279 (wsOf y279 b279 2 (some .int)) ({ frames := 0, cells := 0, slots := 0, locals := 0 } : Room) (va_Pc [.int x0, .int y0] (KP ρ H)) (mQ (fun v H1 => v = some (.int x0) ∧ H1 = H) (fun _ => False)) 0 0 (fun _ => False) := by
  refine m_ofW (own := "java/lang/Math") (by decide +kernel) rfl (Nat.le_of_ble_eq_true rfl) fun p e s m args below meth c ls hx hb hr hlk hmn X hs0 hl => ?_
  subst hs0
  have hS : va_S (fun _ => False) s.heap s.heap [] := va_S.rf
  have hl : lv_has ls 2 [(0, .int x0), (1, .int y0)] := hl
  refine lv_iload_n (pc := 0) hx hb d279_0 rfl (lv_at hl 0 rfl) ?_
  refine lv_iload_n (pc := 1) hx hb d279_1 rfl (lv_at hl 1 rfl) ?_
  refine lv_icmp_gt (pc := 2) (tgt := 9) hx hb d279_2 (by decide) (fun zbr => absurd zbr (Int32.not_lt.mpr hxy)) (fun zbr => ?_)
  refine lv_iload_n (pc := 5) hx hb d279_5 rfl (lv_at hl 0 rfl) ?_
  refine lv_goto (pc := 6) (tgt := 10) hx hb d279_6 (by decide) ?_
  exact m_iret (pc := 10) hx hb hr hlk hS ⟨rfl, rfl⟩ (Nat.le_refl _) (Nat.le_refl _) d279_10
abbrev b351 : ByteArray := prog_30_method_27_code
theorem d351_0 : decode b351 0 = .ok ((.iload_n 0), 1) := by decide +kernel
theorem d351_1 : decode b351 1 = .ok ((.iload_n 1), 1) := by decide +kernel
theorem d351_2 : decode b351 2 = .ok ((.iload_n 2), 1) := by decide +kernel
theorem d351_3 : decode b351 3 = .ok ((.invokestatic 194), 3) := by decide +kernel
theorem d351_6 : decode b351 6 = .ok (.iadd, 1) := by decide +kernel
theorem d351_7 : decode b351 7 = .ok ((.istore_n 3), 1) := by decide +kernel
theorem d351_8 : decode b351 8 = .ok ((.iconst 0), 1) := by decide +kernel
theorem d351_9 : decode b351 9 = .ok ((.iload_n 3), 1) := by decide +kernel
theorem d351_10 : decode b351 10 = .ok ((.if_icmp .ge 11), 3) := by decide +kernel
theorem d351_13 : decode b351 13 = .ok ((.iload_n 3), 1) := by decide +kernel
theorem d351_14 : decode b351 14 = .ok ((.ldc 200), 2) := by decide +kernel
theorem d351_16 : decode b351 16 = .ok ((.if_icmp .gt 5), 3) := by decide +kernel
theorem d351_19 : decode b351 19 = .ok ((.iload_n 3), 1) := by decide +kernel
theorem d351_20 : decode b351 20 = .ok (.ireturn, 1) := by decide +kernel
theorem d351_21 : decode b351 21 = .ok ((.iload_n 0), 1) := by decide +kernel
theorem d351_22 : decode b351 22 = .ok ((.iload_n 1), 1) := by decide +kernel
theorem d351_23 : decode b351 23 = .ok ((.invokestatic 201), 3) := by decide +kernel
theorem d351_26 : decode b351 26 = .ok (.ireturn, 1) := by decide +kernel
set_option maxHeartbeats 1000000 in
theorem c_b_newlen (l : Launch) (ρ : RH) (H : Heap) (P : Nat → Prop) (m0 k0 j0 : Nat) (hC : CC ρ P H) (hPb : ∀ q, P q → q < H.size) (hm : m0 < 2 ^ 29) (hk0 : k0 < 2 ^ 29) (hj : j0 < 2 ^ 29) (hj1 : 0 < j0) : Met l y351 (wsOf y351 b351 4 (some .int)) ({ frames := 1, cells := 0, slots := 0, locals := 21 } : Room) (va_Pc [.int (nI m0), .int (nI k0), .int (nI j0)] (KP ρ H)) (mQ (fun v H1 => v = some (.int (nI (m0 + (if k0 < j0 then j0 else k0)))) ∧ H1 = H) (fun _ => False)) 0 0 (fun _ => False) := by
  refine m_ofW (own := "jdk/internal/util/ArraysSupport") (plainFor_of_name rfl) rfl (Nat.le_of_ble_eq_true rfl) fun p e s m args below meth c ls hx hb hr hlk hmn X hs0 hl => ?_
  subst hs0
  have hS : va_S (fun _ => False) s.heap s.heap [] := va_S.rf
  have hl : lv_has ls 4 [(0, .int (nI m0)), (1, .int (nI k0)), (2, .int (nI j0))] := hl
  refine lv_iload_n (pc := 0) hx hb d351_0 rfl (lv_at hl 0 rfl) ?_
  refine lv_iload_n (pc := 1) hx hb d351_1 rfl (lv_at hl 1 rfl) ?_
  refine lv_iload_n (pc := 2) hx hb d351_2 rfl (lv_at hl 2 rfl) ?_
  refine k_callS (pc := 3) (n := 2) X hS (c_j_max2 l ρ _ P (nI k0) (nI j0) hC hPb) wd333 wd331 wd332 wd17 (by decide) ⟨rfl, rfl, Nat.le_of_ble_eq_true rfl, Nat.le_of_ble_eq_true rfl⟩ (As := [.int (nI k0), .int (nI j0)]) (rest := [.int (nI m0)]) rfl rfl hl.1 (Nat.le_of_ble_eq_true rfl) d351_3 ⟨Nat.le_refl _, Nat.le_refl _⟩ (fun q hq => hq.elim) (fun v H1 locs1 hv hz1 hz2 hS => ?_)
  obtain ⟨rfl, hv2⟩ := hv
  have hv3 := hv2.symm
  clear hv2
  subst hv3
  have em : (if nI k0 < nI j0 then nI j0 else nI k0) = nI (if k0 < j0 then j0 else k0) := by by_cases hk : k0 < j0; rw [if_pos hk, if_pos (nI_lt hk (by omega))]; rw [if_neg hk, if_neg (nI_nlt (by omega) (by omega))]
  have hbd : (if k0 < j0 then j0 else k0) < 2 ^ 29 := by split <;> omega
  have hr0 : 0 < (if k0 < j0 then j0 else k0) := by split <;> omega
  generalize (if k0 < j0 then j0 else k0) = r0 at em hbd hr0 ⊢
  refine nm_i (y := nI r0) (em.symm) ?_
  refine lv_iadd (pc := 6) hx hb d351_6 ?_
  refine nm_i (y := nI (m0 + r0)) ((nI_add m0 r0).symm) ?_
  refine lv_istore_n (pc := 7) (lv' := [(3, .int (nI (m0 + r0))), (0, .int (nI m0)), (1, .int (nI k0)), (2, .int (nI j0))]) hx hb d351_7 rfl hl (by decide) rfl (fun ls hl => ?_)
  refine lv_iconst (pc := 8) (v := 0) hx hb d351_8 (by decide) ?_
  refine lv_iload_n (pc := 9) hx hb d351_9 rfl (lv_at hl 0 rfl) ?_
  refine lv_icmp_ge (pc := 10) (tgt := 21) hx hb d351_10 (by decide) (fun zbr => absurd zbr (nI_nle (by omega) (by omega))) (fun zbr => ?_)
  refine lv_iload_n (pc := 13) hx hb d351_13 rfl (lv_at hl 0 rfl) ?_
  refine lv_ldc (pc := 14) hx hb X.1.2.2.2.1 (X.ts wd334) d351_14 ?_
  refine lv_icmp_gt (pc := 16) (tgt := 21) hx hb d351_16 (by decide) (fun zbr => absurd zbr (by first | exact nI_nlt (a := 2147483639) (by omega) (by omega) | exact Int32.not_lt.mpr (nI_le (b := 2147483639) (by omega) (by decide)))) (fun zbr => ?_)
  refine lv_iload_n (pc := 19) hx hb d351_19 rfl (lv_at hl 0 rfl) ?_
  exact m_iret (pc := 20) hx hb hr hlk hS ⟨rfl, rfl⟩ (Nat.le_refl _) (Nat.le_refl _) d351_20
abbrev b261 : ByteArray := prog_14_method_10_code
theorem d261_0 : decode b261 0 = .ok ((.aload_n 0), 1) := by decide +kernel
theorem d261_1 : decode b261 1 = .ok ((.getfield 15), 3) := by decide +kernel
theorem d261_4 : decode b261 4 = .ok (.arraylength, 1) := by decide +kernel
theorem d261_5 : decode b261 5 = .ok ((.istore_n 2), 1) := by decide +kernel
theorem d261_6 : decode b261 6 = .ok ((.iload_n 1), 1) := by decide +kernel
theorem d261_7 : decode b261 7 = .ok ((.aload_n 0), 1) := by decide +kernel
theorem d261_8 : decode b261 8 = .ok ((.getfield 22), 3) := by decide +kernel
theorem d261_11 : decode b261 11 = .ok (.ishl, 1) := by decide +kernel
theorem d261_12 : decode b261 12 = .ok ((.istore_n 3), 1) := by decide +kernel
theorem d261_13 : decode b261 13 = .ok ((.iload_n 3), 1) := by decide +kernel
theorem d261_14 : decode b261 14 = .ok ((.iload_n 2), 1) := by decide +kernel
theorem d261_15 : decode b261 15 = .ok (.isub, 1) := by decide +kernel
theorem d261_16 : decode b261 16 = .ok ((.istore 4), 2) := by decide +kernel
theorem d261_18 : decode b261 18 = .ok ((.iload_n 2), 1) := by decide +kernel
theorem d261_19 : decode b261 19 = .ok ((.iload 4), 2) := by decide +kernel
theorem d261_21 : decode b261 21 = .ok ((.iload_n 2), 1) := by decide +kernel
theorem d261_22 : decode b261 22 = .ok ((.iconst 2), 1) := by decide +kernel
theorem d261_23 : decode b261 23 = .ok ((.aload_n 0), 1) := by decide +kernel
theorem d261_24 : decode b261 24 = .ok ((.getfield 22), 3) := by decide +kernel
theorem d261_27 : decode b261 27 = .ok (.ishl, 1) := by decide +kernel
theorem d261_28 : decode b261 28 = .ok (.iadd, 1) := by decide +kernel
theorem d261_29 : decode b261 29 = .ok ((.invokestatic 114), 3) := by decide +kernel
theorem d261_32 : decode b261 32 = .ok ((.istore 5), 2) := by decide +kernel
theorem d261_34 : decode b261 34 = .ok ((.iload 5), 2) := by decide +kernel
theorem d261_36 : decode b261 36 = .ok ((.ldc 39), 2) := by decide +kernel
theorem d261_38 : decode b261 38 = .ok ((.if_icmp .ne 13), 3) := by decide +kernel
theorem d261_41 : decode b261 41 = .ok ((.new 120), 3) := by decide +kernel
theorem d261_44 : decode b261 44 = .ok (.dup, 1) := by decide +kernel
theorem d261_45 : decode b261 45 = .ok ((.ldc 122), 2) := by decide +kernel
theorem d261_47 : decode b261 47 = .ok ((.invokespecial 124), 3) := by decide +kernel
theorem d261_50 : decode b261 50 = .ok (.athrow, 1) := by decide +kernel
theorem d261_51 : decode b261 51 = .ok ((.iload 5), 2) := by decide +kernel
theorem d261_53 : decode b261 53 = .ok ((.aload_n 0), 1) := by decide +kernel
theorem d261_54 : decode b261 54 = .ok ((.getfield 22), 3) := by decide +kernel
theorem d261_57 : decode b261 57 = .ok (.ishr, 1) := by decide +kernel
theorem d261_58 : decode b261 58 = .ok (.ireturn, 1) := by decide +kernel
set_option maxHeartbeats 1000000 in
theorem c_b_newcap (l : Launch) (ρ : RH) (H : Heap) (P : Nat → Prop) (a b : Nat) (z n0 : Int32) (q : Nat) (f : Nat → Int32) (n : Nat) (hC : CC ρ P H) (hPb : ∀ q, P q → q < H.size) (ho : t_OB a ((rD ρ).1 10) 4 ((rD ρ).2 10) H (sbF b z n0)) (hcell : H[b]? = some (vp_cell (rA ρ 4) (q, .inl f))) (hnq : ¬ n ≤ q) (hn16 : n < 2 ^ 16) (hq17 : q < 2 ^ 17) : Met l y261 (wsOf y261 b261 6 (some .int)) ({ frames := 2, cells := 0, slots := 0, locals := 44 } : Room) (va_Pc [.ref a, .int (nI n)] (KP ρ H)) (mQ (fun v H1 => v = some (.int (nI (gcap q n))) ∧ H1 = H) (fun _ => False)) 0 0 (fun _ => False) := by
  refine m_ofW (own := "java/lang/AbstractStringBuilder") (plainFor_of_name rfl) rfl (Nat.le_of_ble_eq_true rfl) fun p e s m args below meth c ls hx hb hr hlk hmn X hs0 hl => ?_
  subst hs0
  have hS : va_S (fun _ => False) s.heap s.heap [] := va_S.rf
  have hl : lv_has ls 6 [(0, .ref a), (1, .int (nI n))] := hl
  refine lv_aload_n (pc := 0) hx hb d261_0 rfl (lv_at hl 0 rfl) ?_
  refine o_getf (pc := 1) X ho 0 rfl rfl rfl tin10 rfl wd300 d261_1 ?_
  refine o_blen (pc := 4) X hcell d261_4 ?_
  refine lv_istore_n (pc := 5) (lv' := [(2, .int (nI q)), (0, .ref a), (1, .int (nI n))]) hx hb d261_5 rfl hl (by decide) rfl (fun ls hl => ?_)
  refine lv_iload_n (pc := 6) hx hb d261_6 rfl (lv_at hl 2 rfl) ?_
  refine lv_aload_n (pc := 7) hx hb d261_7 rfl (lv_at hl 1 rfl) ?_
  refine o_getf (pc := 8) X ho 1 rfl rfl rfl tin10 rfl wd301 d261_8 ?_
  refine lv_ishl (pc := 11) hx hb d261_11 ?_
  refine nm_i (y := nI n) ((sb_shl0 _).symm) ?_
  refine lv_istore_n (pc := 12) (lv' := [(3, .int (nI n)), (2, .int (nI q)), (0, .ref a), (1, .int (nI n))]) hx hb d261_12 rfl hl (by decide) rfl (fun ls hl => ?_)
  refine lv_iload_n (pc := 13) hx hb d261_13 rfl (lv_at hl 0 rfl) ?_
  refine lv_iload_n (pc := 14) hx hb d261_14 rfl (lv_at hl 1 rfl) ?_
  refine lv_isub (pc := 15) hx hb d261_15 ?_
  refine nm_i (y := nI (n - q)) ((pk_sub (by omega)).symm) ?_
  refine lv_istore (pc := 16) (lv' := [(4, .int (nI (n - q))), (3, .int (nI n)), (2, .int (nI q)), (0, .ref a), (1, .int (nI n))]) hx hb d261_16 hl (by decide) rfl (fun ls hl => ?_)
  refine lv_iload_n (pc := 18) hx hb d261_18 rfl (lv_at hl 2 rfl) ?_
  refine lv_iload (pc := 19) hx hb d261_19 (lv_at hl 0 rfl) ?_
  refine lv_iload_n (pc := 21) hx hb d261_21 rfl (lv_at hl 2 rfl) ?_
  refine lv_iconst (pc := 22) (v := 2) hx hb d261_22 (by decide) ?_
  refine lv_aload_n (pc := 23) hx hb d261_23 rfl (lv_at hl 3 rfl) ?_
  refine o_getf (pc := 24) X ho 1 rfl rfl rfl tin10 rfl wd301 d261_24 ?_
  refine lv_ishl (pc := 27) hx hb d261_27 ?_
  refine nm_i (y := 2) ((sb_shl0 _).symm) ?_
  refine lv_iadd (pc := 28) hx hb d261_28 ?_
  refine nm_i (y := nI (q + 2)) ((nI_add q 2).symm) ?_
  refine k_callS (pc := 29) (n := 3) X hS (c_b_newlen l ρ _ P q (n - q) (q + 2) hC hPb (by omega) (by omega) (by omega) (by omega)) wd330 wd328 wd329 wd16 (by decide) ⟨rfl, rfl, Nat.le_of_ble_eq_true rfl, Nat.le_of_ble_eq_true rfl⟩ (As := [.int (nI q), .int (nI (n - q)), .int (nI (q + 2))]) (rest := []) rfl rfl hl.1 (Nat.le_of_ble_eq_true rfl) d261_29 ⟨Nat.le_refl _, Nat.le_refl _⟩ (fun q hq => hq.elim) (fun v H1 locs1 hv hz1 hz2 hS => ?_)
  obtain ⟨rfl, hv2⟩ := hv
  have hv3 := hv2.symm
  clear hv2
  subst hv3
  refine nm_i (y := nI (gcap q n)) (by rw [gcap_eq hnq]) ?_
  refine lv_istore (pc := 32) (lv' := [(5, .int (nI (gcap q n))), (4, .int (nI (n - q))), (3, .int (nI n)), (2, .int (nI q)), (0, .ref a), (1, .int (nI n))]) hx hb d261_32 hl (by decide) rfl (fun ls hl => ?_)
  refine lv_iload (pc := 34) hx hb d261_34 (lv_at hl 0 rfl) ?_
  refine lv_ldc (pc := 36) hx hb X.1.2.2.2.1 (X.ts wd338) d261_36 ?_
  have hgl := gcap_lt hn16 hq17
  refine lv_icmp_ne (pc := 38) (tgt := 51) hx hb d261_38 (by decide) (fun zbr => ?_) (fun zbr => absurd zbr (fun z => absurd ((nI_eq (b := 2147483647) (by omega) (by decide)).mp z) (by omega)))
  refine lv_iload (pc := 51) hx hb d261_51 (lv_at hl 0 rfl) ?_
  refine lv_aload_n (pc := 53) hx hb d261_53 rfl (lv_at hl 4 rfl) ?_
  refine o_getf (pc := 54) X ho 1 rfl rfl rfl tin10 rfl wd301 d261_54 ?_
  refine lv_ishr (pc := 57) hx hb d261_57 ?_
  refine nm_i (y := nI (gcap q n)) ((sb_shr0 _).symm) ?_
  exact m_iret (pc := 58) hx hb hr hlk hS ⟨rfl, rfl⟩ (Nat.le_refl _) (Nat.le_refl _) d261_58
abbrev b347 : ByteArray := prog_29_method_121_code
theorem d347_0 : decode b347 0 = .ok ((.iload_n 1), 1) := by decide +kernel
theorem d347_1 : decode b347 1 = .ok ((.aload_n 0), 1) := by decide +kernel
theorem d347_2 : decode b347 2 = .ok (.arraylength, 1) := by decide +kernel
theorem d347_3 : decode b347 3 = .ok ((.if_icmp .ne 11), 3) := by decide +kernel
theorem d347_6 : decode b347 6 = .ok ((.aload_n 0), 1) := by decide +kernel
theorem d347_7 : decode b347 7 = .ok ((.invokevirtual 310), 3) := by decide +kernel
theorem d347_10 : decode b347 10 = .ok ((.checkcast 311), 3) := by decide +kernel
theorem d347_13 : decode b347 13 = .ok (.areturn, 1) := by decide +kernel
theorem d347_14 : decode b347 14 = .ok ((.iload_n 1), 1) := by decide +kernel
theorem d347_15 : decode b347 15 = .ok ((.newarray .byte), 2) := by decide +kernel
theorem d347_17 : decode b347 17 = .ok ((.astore_n 2), 1) := by decide +kernel
theorem d347_18 : decode b347 18 = .ok ((.aload_n 0), 1) := by decide +kernel
theorem d347_19 : decode b347 19 = .ok ((.iconst 0), 1) := by decide +kernel
theorem d347_20 : decode b347 20 = .ok ((.aload_n 2), 1) := by decide +kernel
theorem d347_21 : decode b347 21 = .ok ((.iconst 0), 1) := by decide +kernel
theorem d347_22 : decode b347 22 = .ok ((.aload_n 0), 1) := by decide +kernel
theorem d347_23 : decode b347 23 = .ok (.arraylength, 1) := by decide +kernel
theorem d347_24 : decode b347 24 = .ok ((.iload_n 1), 1) := by decide +kernel
theorem d347_25 : decode b347 25 = .ok ((.invokestatic 304), 3) := by decide +kernel
theorem d347_28 : decode b347 28 = .ok ((.invokestatic 150), 3) := by decide +kernel
theorem d347_31 : decode b347 31 = .ok ((.aload_n 2), 1) := by decide +kernel
theorem d347_32 : decode b347 32 = .ok (.areturn, 1) := by decide +kernel
set_option maxHeartbeats 1000000 in
theorem c_b_cof (l : Launch) (ρ : RH) (H : Heap) (P : Nat → Prop) (b q : Nat) (f : Nat → Int32) (n : Nat) (hC : CC ρ P H) (hPb : ∀ q, P q → q < H.size) (hcell : H[b]? = some (vp_cell (rA ρ 4) (q, .inl f))) (hfit : sb_Fit f) (hqn : q < n) (hn20 : n < 2 ^ 20) : Met l y347 (wsOf y347 b347 3 (some (.array .byte))) ({ frames := 1, cells := 1, slots := n, locals := 60 } : Room) (va_Pc [.ref b, .int (nI n)] (KP ρ H)) (mQ (fun v H1 => ∃ (x : Nat) (g : Nat → Int32), v = some (.ref x) ∧ H.size ≤ x ∧ H1[x]? = some (vp_cell (rA ρ 4) (n, .inl g)) ∧ (∀ k, k < q → g k = f k) ∧ sb_Fit g) (fun q => H.size ≤ q)) 1 n (fun q => H.size ≤ q) := by
  refine m_ofW (own := "java/util/Arrays") (plainFor_of_name rfl) rfl (Nat.le_of_ble_eq_true rfl) fun p e s m args below meth c ls hx hb hr hlk hmn X hs0 hl => ?_
  subst hs0
  have hS : va_S (fun q => s.heap.size ≤ q) s.heap s.heap [] := va_S.rf
  have hl : lv_has ls 3 [(0, .ref b), (1, .int (nI n))] := hl
  refine lv_iload_n (pc := 0) hx hb d347_0 rfl (lv_at hl 1 rfl) ?_
  refine lv_aload_n (pc := 1) hx hb d347_1 rfl (lv_at hl 0 rfl) ?_
  refine o_blen (pc := 2) X hcell d347_2 ?_
  refine lv_icmp_ne (pc := 3) (tgt := 14) hx hb d347_3 (by decide) (fun zbr => ?_) (fun zbr => absurd zbr (fun z => absurd ((nI_eq (by omega) (by omega)).mp z) (by omega)))
  refine lv_iload_n (pc := 14) hx hb d347_14 rfl (lv_at hl 1 rfl) ?_
  have hB := bY_of X.2.2.2.2.2.2.2.1 hcell hfit (by omega)
  have hcb := hcell
  have hblt := hp_lt hcell
  refine o_newB (pc := 15) (n := nI (n)) (N := n) X hS (nI_pos (by omega)) (nI_clamp (by omega)) (by omega) (by first | omega | (dsimp only; omega)) (by first | omega | (dsimp only; omega)) d347_15 (fun o H1 ho0 hcell hz hq hS => ?_)
  have hcb := (hq b hblt).trans hcb
  have hkn := kp_new hz hq
  have hC := hC.keep hkn no_hz
  have hPb : ∀ q, P q → q < H1.size := fun q z => hkn.lt (hPb q z)
  refine lv_astore_n (pc := 17) (lv' := [(2, .ref o), (0, .ref b), (1, .int (nI n))]) hx hb d347_17 rfl hl (by decide) rfl (fun ls hl => ?_)
  refine lv_aload_n (pc := 18) hx hb d347_18 rfl (lv_at hl 1 rfl) ?_
  refine lv_iconst (pc := 19) (v := 0) hx hb d347_19 (by decide) ?_
  refine lv_aload_n (pc := 20) hx hb d347_20 rfl (lv_at hl 0 rfl) ?_
  refine lv_iconst (pc := 21) (v := 0) hx hb d347_21 (by decide) ?_
  refine lv_aload_n (pc := 22) hx hb d347_22 rfl (lv_at hl 1 rfl) ?_
  refine o_blen (pc := 23) X hcb d347_23 ?_
  refine lv_iload_n (pc := 24) hx hb d347_24 rfl (lv_at hl 2 rfl) ?_
  refine k_callS (pc := 25) (n := 2) X hS (c_j_min3 l ρ _ P (nI q) (nI n) hC hPb (nI_le (by omega) (by omega))) wd351 wd349 wd350 wd17 (by decide) ⟨rfl, rfl, Nat.le_of_ble_eq_true rfl, Nat.le_of_ble_eq_true rfl⟩ (As := [.int (nI q), .int (nI n)]) (rest := [.int 0, .ref o, .int 0, .ref b]) rfl rfl hl.1 (Nat.le_of_ble_eq_true rfl) d347_25 ⟨(by first | omega | (dsimp only; omega)), (by first | omega | (dsimp only; omega))⟩ (fun q hq => hq.elim) (fun v H1 locs1 hv hz1 hz2 hS => ?_)
  obtain ⟨rfl, hv2⟩ := hv
  have hv3 := hv2.symm
  clear hv2
  subst hv3
  refine o_copy (pc := 28) (sp := 0) (dp := 0) (n := q) X hS hB (by omega) hcell (by omega) (by omega) (by omega) (by omega) hl.1 rfl rfl wd352 d347_28 (fun H1 locs1 hcell hS => ?_)
  refine lv_aload_n (pc := 31) hx hb d347_31 rfl (lv_at hl 0 rfl) ?_
  exact m_aret (pc := 32) hx hb hr (Or.inr ⟨_, rfl⟩) hlk hS ⟨o, _, rfl, by omega, hcell, fun k hk => by rw [cpy_at hk, Nat.zero_add], cpy_fit hB.fit sb_fit0 (by omega)⟩ (by first | omega | (dsimp only; omega)) (by first | omega | (dsimp only; omega)) d347_32
abbrev b255 : ByteArray := prog_14_method_9_code
theorem d255_0 : decode b255 0 = .ok ((.aload_n 0), 1) := by decide +kernel
theorem d255_1 : decode b255 1 = .ok ((.getfield 15), 3) := by decide +kernel
theorem d255_4 : decode b255 4 = .ok (.arraylength, 1) := by decide +kernel
theorem d255_5 : decode b255 5 = .ok ((.aload_n 0), 1) := by decide +kernel
theorem d255_6 : decode b255 6 = .ok ((.getfield 22), 3) := by decide +kernel
theorem d255_9 : decode b255 9 = .ok (.ishr, 1) := by decide +kernel
theorem d255_10 : decode b255 10 = .ok ((.istore_n 2), 1) := by decide +kernel
theorem d255_11 : decode b255 11 = .ok ((.iload_n 1), 1) := by decide +kernel
theorem d255_12 : decode b255 12 = .ok ((.iload_n 2), 1) := by decide +kernel
theorem d255_13 : decode b255 13 = .ok (.isub, 1) := by decide +kernel
theorem d255_14 : decode b255 14 = .ok ((.ifCond .le 24), 3) := by decide +kernel
theorem d255_17 : decode b255 17 = .ok ((.aload_n 0), 1) := by decide +kernel
theorem d255_18 : decode b255 18 = .ok ((.aload_n 0), 1) := by decide +kernel
theorem d255_19 : decode b255 19 = .ok ((.getfield 15), 3) := by decide +kernel
theorem d255_22 : decode b255 22 = .ok ((.aload_n 0), 1) := by decide +kernel
theorem d255_23 : decode b255 23 = .ok ((.iload_n 1), 1) := by decide +kernel
theorem d255_24 : decode b255 24 = .ok ((.invokevirtual 104), 3) := by decide +kernel
theorem d255_27 : decode b255 27 = .ok ((.aload_n 0), 1) := by decide +kernel
theorem d255_28 : decode b255 28 = .ok ((.getfield 22), 3) := by decide +kernel
theorem d255_31 : decode b255 31 = .ok (.ishl, 1) := by decide +kernel
theorem d255_32 : decode b255 32 = .ok ((.invokestatic 108), 3) := by decide +kernel
theorem d255_35 : decode b255 35 = .ok ((.putfield 15), 3) := by decide +kernel
theorem d255_38 : decode b255 38 = .ok (.return_, 1) := by decide +kernel
set_option maxHeartbeats 1000000 in
theorem c_b_ens (l : Launch) (ρ : RH) (H : Heap) (P : Nat → Prop) (a b : Nat) (z n0 : Int32) (q : Nat) (f : Nat → Int32) (n : Nat) (hC : CC ρ P H) (hPb : ∀ q, P q → q < H.size) (ho : t_OB a ((rD ρ).1 10) 4 ((rD ρ).2 10) H (sbF b z n0)) (hcell : H[b]? = some (vp_cell (rA ρ 4) (q, .inl f))) (hfit : sb_Fit f) (hab : a ≠ b) (hn16 : n < 2 ^ 16) (hq17 : q < 2 ^ 17) : Met l y255 (wsOf y255 b255 3 none) ({ frames := 3, cells := gc q n, slots := gs q n, locals := 82 } : Room) (va_Pc [.ref a, .int (nI n)] (KP ρ H)) (mQ (fun v H1 => v = none ∧ ∃ (b1 : Nat) (f1 : Nat → Int32), (b1 = b ∨ H.size ≤ b1) ∧ t_OB a ((rD ρ).1 10) 4 ((rD ρ).2 10) H1 (sbF b1 z n0) ∧ H1[b1]? = some (vp_cell (rA ρ 4) (gcap q n, .inl f1)) ∧ (∀ k, k < q → f1 k = f k) ∧ sb_Fit f1 ∧ a ≠ b1) (fun q => q = a ∨ H.size ≤ q)) (gc q n) (gs q n) (fun q => q = a ∨ H.size ≤ q) := by
  refine m_ofW (own := "java/lang/AbstractStringBuilder") (plainFor_of_name rfl) rfl (Nat.le_of_ble_eq_true rfl) fun p e s m args below meth c ls hx hb hr hlk hmn X hs0 hl => ?_
  subst hs0
  have hS : va_S (fun q => q = a ∨ s.heap.size ≤ q) s.heap s.heap [] := va_S.rf
  have hl : lv_has ls 3 [(0, .ref a), (1, .int (nI n))] := hl
  refine lv_aload_n (pc := 0) hx hb d255_0 rfl (lv_at hl 0 rfl) ?_
  refine o_getf (pc := 1) X ho 0 rfl rfl rfl tin10 rfl wd300 d255_1 ?_
  refine o_blen (pc := 4) X hcell d255_4 ?_
  refine lv_aload_n (pc := 5) hx hb d255_5 rfl (lv_at hl 0 rfl) ?_
  refine o_getf (pc := 6) X ho 1 rfl rfl rfl tin10 rfl wd301 d255_6 ?_
  refine lv_ishr (pc := 9) hx hb d255_9 ?_
  refine nm_i (y := nI q) ((sb_shr0 _).symm) ?_
  refine lv_istore_n (pc := 10) (lv' := [(2, .int (nI q)), (0, .ref a), (1, .int (nI n))]) hx hb d255_10 rfl hl (by decide) rfl (fun ls hl => ?_)
  refine lv_iload_n (pc := 11) hx hb d255_11 rfl (lv_at hl 2 rfl) ?_
  refine lv_iload_n (pc := 12) hx hb d255_12 rfl (lv_at hl 0 rfl) ?_
  refine lv_isub (pc := 13) hx hb d255_13 ?_
  have ho0 := ho
  refine lv_if_le (pc := 14) (tgt := 38) hx hb d255_14 (by decide) (fun z14 => ?_) (fun z14 => ?_)
  · skip
    have hle := sb_d0 (by omega) (by omega) z14
    have eg : gcap q n = q := if_pos hle
    exact m_vret (pc := 38) hx hb hr hlk hS ⟨rfl, b, f, Or.inl rfl, ho, by rw [eg]; exact hcell, fun k _ => rfl, hfit, hab⟩ (Nat.zero_le _) (Nat.zero_le _) d255_38
  · skip
    have hle := sb_d1 (by omega) (by omega) z14
    have hgl := gcap_lt hn16 hq17
    have hgg := (gcap_ge (q := q) (n := n)).1
    have ec : gc q n = 1 := if_neg hle
    have es : gs q n = gcap q n := if_neg hle
    refine lv_aload_n (pc := 17) hx hb d255_17 rfl (lv_at hl 1 rfl) ?_
    refine lv_aload_n (pc := 18) hx hb d255_18 rfl (lv_at hl 1 rfl) ?_
    refine o_getf (pc := 19) X ho 0 rfl rfl rfl tin10 rfl wd300 d255_19 ?_
    refine lv_aload_n (pc := 22) hx hb d255_22 rfl (lv_at hl 1 rfl) ?_
    refine lv_iload_n (pc := 23) hx hb d255_23 rfl (lv_at hl 2 rfl) ?_
    refine k_callV (pc := 24) (n := 1) X hS (c_b_newcap l ρ _ P a b z n0 q f n hC hPb ho hcell hle hn16 hq17) wd327 wd324 wd326 sx261 wd12 (by decide) ⟨rfl, rfl, Nat.le_of_ble_eq_true rfl, Nat.le_of_ble_eq_true rfl⟩ (S_recv X ho (ci := 10) rfl) (As := [.int (nI n)]) (rest := [.ref b, .ref a]) rfl rfl hl.1 (Nat.le_of_ble_eq_true rfl) d255_24 ⟨(by first | omega | (dsimp only; omega)), (by first | omega | (dsimp only; omega))⟩ (fun q hq => hq.elim) (fun v H1 locs1 hv hz1 hz2 hS => ?_)
    obtain ⟨rfl, hv2⟩ := hv
    have hv3 := hv2.symm
    clear hv2
    subst hv3
    refine lv_aload_n (pc := 27) hx hb d255_27 rfl (lv_at hl 1 rfl) ?_
    refine o_getf (pc := 28) X ho 1 rfl rfl rfl tin10 rfl wd301 d255_28 ?_
    refine lv_ishl (pc := 31) hx hb d255_31 ?_
    refine nm_i (y := nI (gcap q n)) ((sb_shl0 _).symm) ?_
    refine k_callS (pc := 32) (n := 2) X hS (c_b_cof l ρ _ P b q f (gcap q n) hC hPb hcell hfit (by omega) (by omega)) wd341 wd339 wd340 wd18 (by decide) ⟨rfl, rfl, Nat.le_of_ble_eq_true rfl, Nat.le_of_ble_eq_true rfl⟩ (As := [.ref b, .int (nI (gcap q n))]) (rest := [.ref a]) rfl rfl hl.1 (Nat.le_of_ble_eq_true rfl) d255_32 ⟨(by first | omega | (dsimp only; omega)), (by first | omega | (dsimp only; omega))⟩ (fun q hq => Or.inr hq) (fun v H1 locs1 hv hz1 hq1 hS => ?_)
    obtain ⟨b1, f1, rfl, hb1, hcell1, hk1, hfit1⟩ := hv
    have ho := ho.kept (hq1 a (t_lt ho) (by have := t_lt ho; omega))
    have halt : a < s.heap.size := by have := t_lt ho0; omega
    refine o_put (pc := 35) X hS ho 0 (Or.inl rfl) rfl rfl tin10 ty10 tyo10 tnm10 rfl wd300 rfl rfl rfl d255_35 (fun H1 locs1 ho1 hS hz hq => ?_)
    have ho := ho1
    have hcell1 := (hq b1 (by omega)).trans hcell1
    exact m_vret (pc := 38) hx hb hr hlk hS ⟨rfl, b1, f1, Or.inr hb1, ho.to sbF_0, hcell1, hk1, hfit1, by omega⟩ (by first | omega | (dsimp only; omega)) (by first | omega | (dsimp only; omega)) d255_38
