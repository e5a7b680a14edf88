/-! ===== rows for the JDK's texts ===== -/
def isR (ρ : RH) (H : Heap) (a b : Nat) : Prop := ∃ cs : Cell, H[a]? = some cs ∧ cs.cls = (rD ρ).1 11 ∧ cs.vm.isStatics = false ∧ cs.vm ≠ .unknown ∧ cs.slots[(rD ρ).2 11 0]? = some (.ref b) ∧ cs.slots[(rD ρ).2 11 1]? = some (.int 0)
theorem isS.cut {ρ : RH} {P : Nat → Prop} {H : Heap} {a : Nat} {t : TT} (h : isS ρ P H a t) : ∃ b, isR ρ H a b ∧ isY ρ P H b t := by
  obtain ⟨b, cs, h1, h2, h3, h4, h5, h6, h7, h8⟩ := h
  exact ⟨b, ⟨cs, h1, h2, h3, h4, h5, h6⟩, h7⟩
theorem isY.ok {ρ : RH} {P : Nat → Prop} {H : Heap} {b : Nat} {t : TT} (h : isY ρ P H b t) : (∀ c ∈ t, c < 256) ∧ t.length < 2 ^ 31 := by
  obtain ⟨ca, g1, g2, g3, g4, g5, g6, g7, g8, g9, g10⟩ := h
  exact ⟨g8, g9⟩
theorem TT_lt {t : TT} (h : ∀ c ∈ t, c < 256) (j : Nat) : t.getD j 0 < 256 := by
  rw [List.getD_eq_getElem?_getD]
  cases e : t[j]? with
  | none => decide
  | some c => exact h c (List.mem_of_getElem? e)
theorem inb_of {n N : Nat} (h : n < N) (hN : N < 2 ^ 31) : inb (nI n) N = true := by
  unfold inb
  rw [nI_toInt (by omega)]
  simp only [Bool.and_eq_true, decide_eq_true_eq]
  omega
theorem inb_ex {x : Int32} {n : Nat} (h : inb x n = true) (hn : n ≤ 2 ^ 31) : ∃ j : Nat, j < n ∧ x = nI j := by
  obtain ⟨h1, h2⟩ := vp_in_iff.mp (inb_in h)
  refine ⟨x.toInt.toNat, by omega, ?_⟩
  apply Int32.toInt_inj.mp
  rw [nI_toInt (by omega)]
  omega
section J1
variable {p : Program} {l : Launch} {e : Env} {R : Room} {s : State} {m : MethodId} {args : Array Value} {below : List Frame} {meth : Method} {c : Code} {H : Heap} {locs : List Loc} {cells slots : Nat} {Q : State → Prop}
variable {cc : ByteArray} {pc nL : Nat} {ls : Array Slot} {rest st0 : List Value} {own : String} {ρ : RH} {w0 : Cond} {A : Nat → Prop} {H0 : Heap} {P : Nat → Prop}
theorem o_getc (X : CX p s m c args own cc nL ρ w0) (ci k : Nat) {N index : Nat} {C ref : String} {T : u_T} {a : Nat} {cell : Cell} {v : Value} (hc : CL[ci]? = some (C, T, N)) (hk : Nat.ble (k + 1) N = true) (hin : ∀ w ∈ u_ws C T N, w ∈ TG) (hsame : (T k).1 = ref) (hl : Cond.fieldLink own index ref (T k).2.1 (T k).2.2.1 ∈ TG) (q1 : H[a]? = some cell) (qu : cell.vm ≠ .unknown) (hv : cell.slots[(rD ρ).2 ci k]? = some v) (hdg : decode cc pc = .ok (.getfield index, 3))
    (kk : W p l e R s m args below meth c H locs cells slots Q (F0 m (pc + 3) ls (v :: rest))) : W p l e R s m args below meth c H locs cells slots Q (F0 m pc ls (.ref a :: rest)) := by
  obtain ⟨hS, hfc, kC, hkC, hkind⟩ := X.2.1.1 ci _ hc
  have hk := Nat.le_of_ble_eq_true hk
  obtain ⟨cf, kf, fi, f, hf, hsl⟩ := hS k hk
  subst hsame
  refine W.getf X.1.1 X.1.2.1 X.1.2.2.2.1 (X.ts hl) hf (u_facts hfc hkC (u_lays (fun w h => X.ts h) hin hk) hf).1 q1 qu (v := v) ?_ rfl rfl hdg kk
  rw [hsl, hv]
theorem s_val (X : CX p s m c args own cc nL ρ w0) {a b : Nat} (h : isR ρ H a b) {index : Nat} (hl : Cond.fieldLink own index "java/lang/String" "value" "[B" ∈ TG) (hdg : decode cc pc = .ok (.getfield index, 3))
    (kk : W p l e R s m args below meth c H locs cells slots Q (F0 m (pc + 3) ls (.ref b :: rest))) : W p l e R s m args below meth c H locs cells slots Q (F0 m pc ls (.ref a :: rest)) := by
  obtain ⟨cs, h1, h2, h3, h4, h5, h6⟩ := h
  exact o_getc X 11 0 rfl rfl tin11 rfl hl h1 h4 h5 hdg kk
theorem s_cod (X : CX p s m c args own cc nL ρ w0) {a b : Nat} (h : isR ρ H a b) {index : Nat} (hl : Cond.fieldLink own index "java/lang/String" "coder" "B" ∈ TG) (hdg : decode cc pc = .ok (.getfield index, 3))
    (kk : W p l e R s m args below meth c H locs cells slots Q (F0 m (pc + 3) ls (.int 0 :: rest))) : W p l e R s m args below meth c H locs cells slots Q (F0 m pc ls (.ref a :: rest)) := by
  obtain ⟨cs, h1, h2, h3, h4, h5, h6⟩ := h
  exact o_getc X 11 1 rfl rfl tin11 rfl hl h1 h4 h6 hdg kk
theorem r_recv (X : CX p s m c args own cc nL ρ w0) {a b : Nat} (h : isR ρ H a b) : Rcv s H a "java/lang/String" := by
  obtain ⟨cs, h1, h2, h3, h4, h5, h6⟩ := h
  obtain ⟨-, hfc, -⟩ := X.2.1.1 11 _ rfl
  exact ⟨cs, h1, h3, by rw [h2]; exact hfc⟩
theorem y_ld (X : CX p s m c args own cc nL ρ w0) {b : Nat} {t : TT} (h : isY ρ P H b t) {j : Int32} (hin : inb j t.length = true) (hdg : decode cc pc = .ok (.baload, 1))
    (kk : W p l e R s m args below meth c H locs cells slots Q (F0 m (pc + 1) ls (.int (sb_b (t.getD j.toNatClampNeg 0)) :: rest))) : W p l e R s m args below meth c H locs cells slots Q (F0 m pc ls (.int j :: .ref b :: rest)) := by
  obtain ⟨ca, h1, h2, h3, h4, h5, h6, h7, h8⟩ := h
  have hn' := inb_in hin
  have hlt : j.toNatClampNeg < t.length := Nat.not_le.mp fun q => hn' (Or.inr q)
  exact W.bald (v := .int (sb_b (t.getD j.toNatClampNeg 0))) X.1.1 X.1.2.1 h1 (arr_of (X.2.2.2.2.2.1 _ h2) h4) h3 (fun q => q.elim (fun z => hn' (Or.inl z)) (fun z => by omega)) (h7 _ hlt) rfl rfl hdg kk
theorem y_len (X : CX p s m c args own cc nL ρ w0) {b : Nat} {t : TT} (h : isY ρ P H b t) (hdg : decode cc pc = .ok (.arraylength, 1))
    (kk : W p l e R s m args below meth c H locs cells slots Q (F0 m (pc + 1) ls (.int (nI t.length) :: rest))) : W p l e R s m args below meth c H locs cells slots Q (F0 m pc ls (.ref b :: rest)) := by
  obtain ⟨ca, h1, h2, h3, h4, h5, h6, h7, h8⟩ := h
  exact W.alen X.1.1 X.1.2.1 h1 (arr_of (X.2.2.2.2.2.1 _ h2) h4) h6 rfl rfl hdg kk
end J1
section J2
variable {p : Program} {l : Launch} {e : Env} {R : Room} {s : State} {m : MethodId} {args : Array Value} {below : List Frame} {meth : Method} {c : Code} {H : Heap} {locs : List Loc} {cells slots : Nat} {Q : State → Prop}
variable {cc : ByteArray} {pc nL : Nat} {ls : Array Slot} {own : String} {ρ : RH} {w0 : Cond} {A : Nat → Prop}
theorem m_bret {post : Option Value → Heap → Prop} {mc ms : Nat} {v : Int32} (hx : p.tables.exec = Jvm.exec) (hb : c.code = cc) (hr : meth.sig.returnType = some .byte) (hlocks : meth.locks = false) (hS : va_S A s.heap H locs) (hp : post (some (.int v)) H) (hc : cells ≤ mc) (hs : slots ≤ ms) (hdg : decode cc pc = .ok (.ireturn, 1)) (hv : narrow .byte (.int v) = .int v) : W p l e R s m args below meth c H locs cells slots (MQ below (mQ post A) args s mc ms A) (F0 m pc ls [.int v]) := by
  refine W.widen hc hs ?_
  exact W.zret (v := v) hx hb hr hv (fun t ht hW => ⟨⟨_, rfl, by rw [ht]; exact hp⟩, hS.F ht⟩) hS.2.2 hdg hlocks
end J2
theorem j_byte {t : TT} (h : ∀ c ∈ t, c < 256) {i : Nat} (hi : i < 2 ^ 31) : nI (t.getD i 0) = sb_b (t.getD (nI i).toNatClampNeg 0) &&& 255 := by
  rw [nI_clamp hi]
  exact ((sb_byte _ (TT_lt h i)).1).symm
theorem j_c16 {t : TT} (h : ∀ c ∈ t, c < 256) (i : Nat) : nI (t.getD i 0) = ((nI (t.getD i 0)).toUInt32 % 65536).toInt32 := ((sb_byte _ (TT_lt h i)).2.1).symm
theorem j_cN {t : TT} (h : ∀ c ∈ t, c < 256) (i : Nat) : narrow .char (.int (nI (t.getD i 0))) = .int (nI (t.getD i 0)) := (pk_charN (by have := TT_lt h i; omega)).1
theorem j_inj {a b : Nat} (ha : a < 256) (hb : b < 256) : sb_b a = sb_b b ↔ a = b := by
  constructor
  · intro h
    have h1 := (sb_byte a ha).1
    have h2 := (sb_byte b hb).1
    rw [h, h2] at h1
    exact ((nI_eq (by omega) (by omega)).mp h1).symm
  · intro h; rw [h]
theorem take_succ_getD {t : TT} {k : Nat} (hk : k < t.length) : t.take (k + 1) = t.take k ++ [t.getD k 0] := by
  rw [List.take_add_one, List.getD_eq_getElem?_getD, List.getElem?_eq_getElem hk]
  rfl
theorem ix_miss {t : TT} {c : Nat} (h : ¬ c ∈ t.take t.length) : ixOf t c = -1 := by
  rw [List.take_length] at h
  exact if_neg h
theorem ix_hit {t : TT} {c k : Nat} (hk : k < t.length) (h : ¬ c ∈ t.take k) (hc : t.getD k 0 = c) : ixOf t c = nI k := by
  have e : t = t.take k ++ (c :: t.drop (k + 1)) := by
    rw [← hc, List.getD_eq_getElem?_getD, List.getElem?_eq_getElem hk]
    simp only [Option.getD_some]
    rw [← List.drop_eq_getElem_cons hk, List.take_append_drop]
  have hm : c ∈ t := by
    rw [e]
    exact List.mem_append_right _ List.mem_cons_self
  unfold ixOf
  rw [if_pos hm]
  congr 1
  rw [e, List.idxOf_append, if_neg h, List.idxOf_cons_self, List.length_take]
  omega
theorem ix_next {t : TT} {c k : Nat} (hk : k < t.length) (h : ¬ c ∈ t.take k) (hc : ¬ t.getD k 0 = c) : ¬ c ∈ t.take (k + 1) := by
  rw [take_succ_getD hk, List.mem_append]
  rintro (z | z)
  · exact h z
  · exact hc (List.mem_singleton.mp z).symm
abbrev b298 : ByteArray := prog_23_method_154_code
theorem d298_0 : decode b298 0 = .ok ((.getstatic 38), 3) := by decide +kernel
theorem d298_3 : decode b298 3 = .ok ((.ifCond .eq 14), 3) := by decide +kernel
theorem d298_6 : decode b298 6 = .ok ((.aload_n 0), 1) := by decide +kernel
theorem d298_7 : decode b298 7 = .ok ((.getfield 15), 3) := by decide +kernel
theorem d298_10 : decode b298 10 = .ok ((.ifCond .ne 7), 3) := by decide +kernel
theorem d298_13 : decode b298 13 = .ok ((.iconst 1), 1) := by decide +kernel
theorem d298_14 : decode b298 14 = .ok ((.goto 4), 3) := by decide +kernel
theorem d298_17 : decode b298 17 = .ok ((.iconst 0), 1) := by decide +kernel
theorem d298_18 : decode b298 18 = .ok (.ireturn, 1) := by decide +kernel
set_option maxHeartbeats 1000000 in
theorem c_j_latin (l : Launch) (ρ : RH) (H : Heap) (P : Nat → Prop) (a b : Nat) (hC : CC ρ P H) (hPb : ∀ q, P q → q < H.size) (hR : isR ρ H a b) : Met l y298 (wsOf y298 b298 1 (some .boolean)) ({ frames := 0, cells := 0, slots := 0, locals := 0 } : Room) (va_Pc [.ref a] (KP ρ H)) (mQ (fun v H1 => v = some (.int 1) ∧ H1 = H) (fun _ => False)) 0 0 (fun _ => False) := by
  refine m_ofW (own := "java/lang/String") (plainFor_of_name rfl) rfl (Nat.le_of_ble_eq_true rfl) fun p e s m args below meth c ls hx hb hr hlk hmn X hs0 hl => ?_
  subst hs0
  have hS : va_S (fun _ => False) s.heap s.heap [] := va_S.rf
  have hl : lv_has ls 1 [(0, .ref a)] := hl
  refine c_gets (pc := 0) X 0 (hC.2.1 0 1 rfl) rfl rfl wd543 d298_0 ?_
  refine lv_if_eq (pc := 3) (tgt := 17) hx hb d298_3 (by decide) (fun zbr => absurd zbr (by decide)) (fun zbr => ?_)
  refine lv_aload_n (pc := 6) hx hb d298_6 rfl (lv_at hl 0 rfl) ?_
  refine s_cod (pc := 7) X hR wd599 d298_7 ?_
  refine lv_if_ne (pc := 10) (tgt := 17) hx hb d298_10 (by decide) (fun zbr => absurd zbr (by decide)) (fun zbr => ?_)
  refine lv_iconst (pc := 13) (v := 1) hx hb d298_13 (by decide) ?_
  refine lv_goto (pc := 14) (tgt := 18) hx hb d298_14 (by decide) ?_
  exact m_zret (pc := 18) hx hb hr hlk hS ⟨rfl, rfl⟩ (Nat.le_refl _) (Nat.le_refl _) d298_18 (by decide)
abbrev b292 : ByteArray := prog_23_method_152_code
theorem d292_0 : decode b292 0 = .ok ((.getstatic 38), 3) := by decide +kernel
theorem d292_3 : decode b292 3 = .ok ((.ifCond .eq 10), 3) := by decide +kernel
theorem d292_6 : decode b292 6 = .ok ((.aload_n 0), 1) := by decide +kernel
theorem d292_7 : decode b292 7 = .ok ((.getfield 15), 3) := by decide +kernel
theorem d292_10 : decode b292 10 = .ok ((.goto 4), 3) := by decide +kernel
theorem d292_13 : decode b292 13 = .ok ((.iconst 1), 1) := by decide +kernel
theorem d292_14 : decode b292 14 = .ok (.ireturn, 1) := by decide +kernel
set_option maxHeartbeats 1000000 in
theorem c_j_coder (l : Launch) (ρ : RH) (H : Heap) (P : Nat → Prop) (a b : Nat) (hC : CC ρ P H) (hPb : ∀ q, P q → q < H.size) (hR : isR ρ H a b) : Met l y292 (wsOf y292 b292 1 (some .byte)) ({ frames := 0, cells := 0, slots := 0, locals := 0 } : Room) (va_Pc [.ref a] (KP ρ H)) (mQ (fun v H1 => v = some (.int 0) ∧ H1 = H) (fun _ => False)) 0 0 (fun _ => False) := by
  refine m_ofW (own := "java/lang/String") (plainFor_of_name rfl) rfl (Nat.le_of_ble_eq_true rfl) fun p e s m args below meth c ls hx hb hr hlk hmn X hs0 hl => ?_
  subst hs0
  have hS : va_S (fun _ => False) s.heap s.heap [] := va_S.rf
  have hl : lv_has ls 1 [(0, .ref a)] := hl
  refine c_gets (pc := 0) X 0 (hC.2.1 0 1 rfl) rfl rfl wd543 d292_0 ?_
  refine lv_if_eq (pc := 3) (tgt := 13) hx hb d292_3 (by decide) (fun zbr => absurd zbr (by decide)) (fun zbr => ?_)
  refine lv_aload_n (pc := 6) hx hb d292_6 rfl (lv_at hl 0 rfl) ?_
  refine s_cod (pc := 7) X hR wd599 d292_7 ?_
  refine lv_goto (pc := 10) (tgt := 14) hx hb d292_10 (by decide) ?_
  exact m_bret (pc := 14) hx hb hr hlk hS ⟨rfl, rfl⟩ (Nat.le_refl _) (Nat.le_refl _) d292_14 (by decide)
theorem d299_0 : decode b299 0 = .ok ((.aload_n 0), 1) := by decide +kernel
theorem d299_1 : decode b299 1 = .ok ((.getfield 9), 3) := by decide +kernel
theorem d299_4 : decode b299 4 = .ok (.arraylength, 1) := by decide +kernel
theorem d299_5 : decode b299 5 = .ok ((.aload_n 0), 1) := by decide +kernel
theorem d299_6 : decode b299 6 = .ok ((.invokevirtual 335), 3) := by decide +kernel
theorem d299_9 : decode b299 9 = .ok (.ishr, 1) := by decide +kernel
theorem d299_10 : decode b299 10 = .ok (.ireturn, 1) := by decide +kernel
set_option maxHeartbeats 1000000 in
theorem c_j_length (l : Launch) (ρ : RH) (H : Heap) (P : Nat → Prop) (a b : Nat) (t : TT) (hC : CC ρ P H) (hPb : ∀ q, P q → q < H.size) (hR : isR ρ H a b) (hY : isY ρ P H b t) : Met l y299 (wsOf y299 b299 1 (some .int)) ({ frames := 1, cells := 0, slots := 0, locals := 20 } : Room) (va_Pc [.ref a] (KP ρ H)) (mQ (fun v H1 => v = some (.int (nI t.length)) ∧ H1 = H) (fun _ => False)) 0 0 (fun _ => False) := by
  refine m_ofW (own := "java/lang/String") (plainFor_of_name rfl) rfl (Nat.le_of_ble_eq_true rfl) fun p e s m args below meth c ls hx hb hr hlk hmn X hs0 hl => ?_
  subst hs0
  have hS : va_S (fun _ => False) s.heap s.heap [] := va_S.rf
  have hl : lv_has ls 1 [(0, .ref a)] := hl
  refine lv_aload_n (pc := 0) hx hb d299_0 rfl (lv_at hl 0 rfl) ?_
  refine s_val (pc := 1) X hR wd598 d299_1 ?_
  refine y_len (pc := 4) X hY d299_4 ?_
  refine lv_aload_n (pc := 5) hx hb d299_5 rfl (lv_at hl 0 rfl) ?_
  refine k_callV (pc := 6) (n := 0) X hS (c_j_coder l ρ _ P a b hC hPb hR) wd542 wd539 wd540 wd541 wd14 (by decide) ⟨rfl, rfl, Nat.le_of_ble_eq_true rfl, Nat.le_of_ble_eq_true rfl⟩ (r_recv X hR) (As := []) (rest := [.int (nI t.length)]) rfl rfl hl.1 (Nat.le_of_ble_eq_true rfl) d299_6 ⟨Nat.le_refl _, Nat.le_refl _⟩ (fun q hq => hq.elim) (fun v H1 locs1 hv hz1 hz2 hS => ?_)
  obtain ⟨rfl, hv2⟩ := hv
  have hv3 := hv2.symm
  clear hv2
  subst hv3
  refine lv_ishr (pc := 9) hx hb d299_9 ?_
  refine nm_i (y := nI t.length) ((sb_shr0 _).symm) ?_
  exact m_iret (pc := 10) hx hb hr hlk hS ⟨rfl, rfl⟩ (Nat.le_refl _) (Nat.le_refl _) d299_10
set_option maxHeartbeats 1000000 in
theorem c_js_length (l : Launch) (ρ : RH) (H : Heap) (P : Nat → Prop) (a : Nat) (t : TT) (res : Int32) (hC : CC ρ P H) (hPb : ∀ q, P q → q < H.size) (hs : isS ρ P H a t) (h : f_js_length t = some res) : Met l y299 (wsOf y299 b299 1 (some .int)) ({ frames := 12, cells := 0, slots := 0, locals := 600 } : Room) (va_Pc [.ref a] (KP ρ H)) (mQ (fun v H1 => v = some (.int res) ∧ H1 = H) (fun _ => False)) 0 0 (fun _ => False) := by
  obtain ⟨b, hR, hY⟩ := hs.cut
  obtain rfl := Option.some.inj h
  refine m_ofW (own := "java/lang/String") (plainFor_of_name rfl) rfl (Nat.le_of_ble_eq_true rfl) fun p e s m args below meth c ls hx hb hr hlk hmn X hs0 hl => ?_
  subst hs0
  have hS : va_S (fun _ => False) s.heap s.heap [] := va_S.rf
  have hl : lv_has ls 1 [(0, .ref a)] := hl
  refine lv_aload_n (pc := 0) hx hb d299_0 rfl (lv_at hl 0 rfl) ?_
  refine s_val (pc := 1) X hR wd598 d299_1 ?_
  refine y_len (pc := 4) X hY d299_4 ?_
  refine lv_aload_n (pc := 5) hx hb d299_5 rfl (lv_at hl 0 rfl) ?_
  refine k_callV (pc := 6) (n := 0) X hS (c_j_coder l ρ _ P a b hC hPb hR) wd542 wd539 wd540 wd541 wd14 (by decide) ⟨rfl, rfl, Nat.le_of_ble_eq_true rfl, Nat.le_of_ble_eq_true rfl⟩ (r_recv X hR) (As := []) (rest := [.int (nI t.length)]) rfl rfl hl.1 (Nat.le_of_ble_eq_true rfl) d299_6 ⟨Nat.le_refl _, Nat.le_refl _⟩ (fun q hq => hq.elim) (fun v H1 locs1 hv hz1 hz2 hS => ?_)
  obtain ⟨rfl, hv2⟩ := hv
  have hv3 := hv2.symm
  clear hv2
  subst hv3
  refine lv_ishr (pc := 9) hx hb d299_9 ?_
  refine nm_i (y := nI t.length) ((sb_shr0 _).symm) ?_
  exact m_iret (pc := 10) hx hb hr hlk hS ⟨rfl, rfl⟩ (Nat.le_refl _) (Nat.le_refl _) d299_10
theorem d297_0 : decode b297 0 = .ok ((.aload_n 0), 1) := by decide +kernel
theorem d297_1 : decode b297 1 = .ok ((.getfield 9), 3) := by decide +kernel
theorem d297_4 : decode b297 4 = .ok (.arraylength, 1) := by decide +kernel
theorem d297_5 : decode b297 5 = .ok ((.ifCond .ne 7), 3) := by decide +kernel
theorem d297_8 : decode b297 8 = .ok ((.iconst 1), 1) := by decide +kernel
theorem d297_9 : decode b297 9 = .ok ((.goto 4), 3) := by decide +kernel
theorem d297_12 : decode b297 12 = .ok ((.iconst 0), 1) := by decide +kernel
theorem d297_13 : decode b297 13 = .ok (.ireturn, 1) := by decide +kernel
set_option maxHeartbeats 1000000 in
theorem c_js_isEmpty (l : Launch) (ρ : RH) (H : Heap) (P : Nat → Prop) (a : Nat) (t : TT) (res : Int32) (hC : CC ρ P H) (hPb : ∀ q, P q → q < H.size) (hs : isS ρ P H a t) (h : f_js_isEmpty t = some res) : Met l y297 (wsOf y297 b297 1 (some .boolean)) ({ frames := 12, cells := 0, slots := 0, locals := 600 } : Room) (va_Pc [.ref a] (KP ρ H)) (mQ (fun v H1 => v = some (.int res) ∧ H1 = H) (fun _ => False)) 0 0 (fun _ => False) := by
  obtain ⟨b, hR, hY⟩ := hs.cut
  obtain rfl := Option.some.inj h
  refine m_ofW (own := "java/lang/String") (plainFor_of_name rfl) rfl (Nat.le_of_ble_eq_true rfl) fun p e s m args below meth c ls hx hb hr hlk hmn X hs0 hl => ?_
  subst hs0
  have hS : va_S (fun _ => False) s.heap s.heap [] := va_S.rf
  have hl : lv_has ls 1 [(0, .ref a)] := hl
  refine lv_aload_n (pc := 0) hx hb d297_0 rfl (lv_at hl 0 rfl) ?_
  refine s_val (pc := 1) X hR wd598 d297_1 ?_
  refine y_len (pc := 4) X hY d297_4 ?_
  refine lv_if_ne (pc := 5) (tgt := 12) hx hb d297_5 (by decide) (fun z5 => ?_) (fun z5 => ?_)
  · skip
    refine lv_iconst (pc := 12) (v := 0) hx hb d297_12 (by decide) ?_
    exact m_zret (pc := 13) hx hb hr hlk hS ⟨by rw [if_neg (fun e => z5 (by rw [e]; rfl))], rfl⟩ (Nat.le_refl _) (Nat.le_refl _) d297_13 (by decide)
  · skip
    refine lv_iconst (pc := 8) (v := 1) hx hb d297_8 (by decide) ?_
    refine lv_goto (pc := 9) (tgt := 13) hx hb d297_9 (by decide) ?_
    exact m_zret (pc := 13) hx hb hr hlk hS ⟨by rw [if_pos ((nI_eq hY.ok.2 (by decide)).mp (z5.trans nI_0.symm))], rfl⟩ (Nat.le_refl _) (Nat.le_refl _) d297_13 (by decide)
abbrev b354 : ByteArray := prog_31_method_11_code
theorem d354_0 : decode b354 0 = .ok ((.iload_n 0), 1) := by decide +kernel
theorem d354_1 : decode b354 1 = .ok ((.ifCond .lt 8), 3) := by decide +kernel
theorem d354_4 : decode b354 4 = .ok ((.iload_n 0), 1) := by decide +kernel
theorem d354_5 : decode b354 5 = .ok ((.iload_n 1), 1) := by decide +kernel
theorem d354_6 : decode b354 6 = .ok ((.if_icmp .lt 10), 3) := by decide +kernel
theorem d354_9 : decode b354 9 = .ok ((.aload_n 2), 1) := by decide +kernel
theorem d354_10 : decode b354 10 = .ok ((.iload_n 0), 1) := by decide +kernel
theorem d354_11 : decode b354 11 = .ok ((.iload_n 1), 1) := by decide +kernel
theorem d354_12 : decode b354 12 = .ok ((.invokestatic 95), 3) := by decide +kernel
theorem d354_15 : decode b354 15 = .ok (.athrow, 1) := by decide +kernel
theorem d354_16 : decode b354 16 = .ok ((.iload_n 0), 1) := by decide +kernel
theorem d354_17 : decode b354 17 = .ok (.ireturn, 1) := by decide +kernel
set_option maxHeartbeats 1000000 in
theorem c_j_chkN (l : Launch) (ρ : RH) (H : Heap) (P : Nat → Prop) (i n r2 : Nat) (hC : CC ρ P H) (hPb : ∀ q, P q → q < H.size) (hi : i < n) (hn : n < 2 ^ 31) : Met l y354 (wsOf y354 b354 3 (some .int)) ({ frames := 0, cells := 0, slots := 0, locals := 0 } : Room) (va_Pc [.int (nI i), .int (nI n), .null] (KP ρ H)) (mQ (fun v H1 => v = some (.int (nI i)) ∧ H1 = H) (fun _ => False)) 0 0 (fun _ => False) := by
  refine m_ofW (own := "jdk/internal/util/Preconditions") (plainFor_of_name rfl) rfl (Nat.le_of_ble_eq_true rfl) fun p e s m args below meth c ls hx hb hr hlk hmn X hs0 hl => ?_
  subst hs0
  have hS : va_S (fun _ => False) s.heap s.heap [] := va_S.rf
  have hl : lv_has ls 3 [(0, .int (nI i)), (1, .int (nI n)), (2, .null)] := hl
  refine lv_iload_n (pc := 0) hx hb d354_0 rfl (lv_at hl 0 rfl) ?_
  refine lv_if_lt (pc := 1) (tgt := 9) hx hb d354_1 (by decide) (fun zbr => absurd zbr (nI_pos (by omega))) (fun zbr => ?_)
  refine lv_iload_n (pc := 4) hx hb d354_4 rfl (lv_at hl 0 rfl) ?_
  refine lv_iload_n (pc := 5) hx hb d354_5 rfl (lv_at hl 1 rfl) ?_
  refine lv_icmp_lt (pc := 6) (tgt := 16) hx hb d354_6 (by decide) (fun zbr => ?_) (fun zbr => absurd (nI_lt hi hn) zbr)
  refine lv_iload_n (pc := 16) hx hb d354_16 rfl (lv_at hl 0 rfl) ?_
  exact m_iret (pc := 17) hx hb hr hlk hS ⟨rfl, rfl⟩ (Nat.le_refl _) (Nat.le_refl _) d354_17
set_option maxHeartbeats 1000000 in
theorem c_j_chkR (l : Launch) (ρ : RH) (H : Heap) (P : Nat → Prop) (i n r2 : Nat) (hC : CC ρ P H) (hPb : ∀ q, P q → q < H.size) (hi : i < n) (hn : n < 2 ^ 31) : Met l y354 (wsOf y354 b354 3 (some .int)) ({ frames := 0, cells := 0, slots := 0, locals := 0 } : Room) (va_Pc [.int (nI i), .int (nI n), .ref r2] (KP ρ H)) (mQ (fun v H1 => v = some (.int (nI i)) ∧ H1 = H) (fun _ => False)) 0 0 (fun _ => False) := by
  refine m_ofW (own := "jdk/internal/util/Preconditions") (plainFor_of_name rfl) rfl (Nat.le_of_ble_eq_true rfl) fun p e s m args below meth c ls hx hb hr hlk hmn X hs0 hl => ?_
  subst hs0
  have hS : va_S (fun _ => False) s.heap s.heap [] := va_S.rf
  have hl : lv_has ls 3 [(0, .int (nI i)), (1, .int (nI n)), (2, .ref r2)] := hl
  refine lv_iload_n (pc := 0) hx hb d354_0 rfl (lv_at hl 0 rfl) ?_
  refine lv_if_lt (pc := 1) (tgt := 9) hx hb d354_1 (by decide) (fun zbr => absurd zbr (nI_pos (by omega))) (fun zbr => ?_)
  refine lv_iload_n (pc := 4) hx hb d354_4 rfl (lv_at hl 0 rfl) ?_
  refine lv_iload_n (pc := 5) hx hb d354_5 rfl (lv_at hl 1 rfl) ?_
  refine lv_icmp_lt (pc := 6) (tgt := 16) hx hb d354_6 (by decide) (fun zbr => ?_) (fun zbr => absurd (nI_lt hi hn) zbr)
  refine lv_iload_n (pc := 16) hx hb d354_16 rfl (lv_at hl 0 rfl) ?_
  exact m_iret (pc := 17) hx hb hr hlk hS ⟨rfl, rfl⟩ (Nat.le_refl _) (Nat.le_refl _) d354_17
abbrev b290 : ByteArray := prog_23_method_155_code
theorem d290_0 : decode b290 0 = .ok ((.iload_n 0), 1) := by decide +kernel
theorem d290_1 : decode b290 1 = .ok ((.iload_n 1), 1) := by decide +kernel
theorem d290_2 : decode b290 2 = .ok ((.getstatic 1053), 3) := by decide +kernel
theorem d290_5 : decode b290 5 = .ok ((.invokestatic 1059), 3) := by decide +kernel
theorem d290_8 : decode b290 8 = .ok (.pop, 1) := by decide +kernel
theorem d290_9 : decode b290 9 = .ok (.return_, 1) := by decide +kernel
set_option maxHeartbeats 1000000 in
theorem c_j_check (l : Launch) (ρ : RH) (H : Heap) (P : Nat → Prop) (i n : Nat) (hC : CC ρ P H) (hPb : ∀ q, P q → q < H.size) (hi : i < n) (hn : n < 2 ^ 31) : Met l y290 (wsOf y290 b290 2 none) ({ frames := 1, cells := 0, slots := 0, locals := 22 } : Room) (va_Pc [.int (nI i), .int (nI n)] (KP ρ H)) (mQ (fun v H1 => v = none ∧ H1 = H) (fun _ => False)) 0 0 (fun _ => False) := by
  refine m_ofW (own := "java/lang/String") (plainFor_of_name rfl) rfl (Nat.le_of_ble_eq_true rfl) fun p e s m args below meth c ls hx hb hr hlk hmn X hs0 hl => ?_
  subst hs0
  have hS : va_S (fun _ => False) s.heap s.heap [] := va_S.rf
  have hl : lv_has ls 2 [(0, .int (nI i)), (1, .int (nI n))] := hl
  refine lv_iload_n (pc := 0) hx hb d290_0 rfl (lv_at hl 0 rfl) ?_
  refine lv_iload_n (pc := 1) hx hb d290_1 rfl (lv_at hl 1 rfl) ?_
  rcases hC.2.2.2 1 rfl with hz | ⟨tz, hz⟩
  · skip
    refine c_gets (pc := 2) X 1 hz rfl rfl wd382 d290_2 ?_
    refine k_callS (pc := 5) (n := 3) X hS (c_j_chkN l ρ _ P i n 0 hC hPb hi hn) wd407 wd405 wd406 wd21 (by decide) ⟨rfl, rfl, Nat.le_of_ble_eq_true rfl, Nat.le_of_ble_eq_true rfl⟩ (As := [.int (nI i), .int (nI n), .null]) (rest := []) rfl rfl hl.1 (Nat.le_of_ble_eq_true rfl) d290_5 ⟨Nat.le_refl _, Nat.le_refl _⟩ (fun q hq => hq.elim) (fun v H1 locs1 hv hz1 hz2 hS => ?_)
    obtain ⟨rfl, hv2⟩ := hv
    have hv3 := hv2.symm
    clear hv2
    subst hv3
    refine lv_pop (pc := 8) hx hb d290_8 rfl ?_
    exact m_vret (pc := 9) hx hb hr hlk hS ⟨rfl, rfl⟩ (Nat.le_refl _) (Nat.le_refl _) d290_9
  · skip
    refine c_gets (pc := 2) X 1 hz rfl rfl wd382 d290_2 ?_
    refine k_callS (pc := 5) (n := 3) X hS (c_j_chkR l ρ _ P i n tz hC hPb hi hn) wd407 wd405 wd406 wd21 (by decide) ⟨rfl, rfl, Nat.le_of_ble_eq_true rfl, Nat.le_of_ble_eq_true rfl⟩ (As := [.int (nI i), .int (nI n), .ref tz]) (rest := []) rfl rfl hl.1 (Nat.le_of_ble_eq_true rfl) d290_5 ⟨Nat.le_refl _, Nat.le_refl _⟩ (fun q hq => hq.elim) (fun v H1 locs1 hv hz1 hz2 hS => ?_)
    obtain ⟨rfl, hv2⟩ := hv
    have hv3 := hv2.symm
    clear hv2
    subst hv3
    refine lv_pop (pc := 8) hx hb d290_8 rfl ?_
    exact m_vret (pc := 9) hx hb hr hlk hS ⟨rfl, rfl⟩ (Nat.le_refl _) (Nat.le_refl _) d290_9
abbrev b310 : ByteArray := prog_25_method_2_code
theorem d310_0 : decode b310 0 = .ok ((.iload_n 1), 1) := by decide +kernel
theorem d310_1 : decode b310 1 = .ok ((.aload_n 0), 1) := by decide +kernel
theorem d310_2 : decode b310 2 = .ok (.arraylength, 1) := by decide +kernel
theorem d310_3 : decode b310 3 = .ok ((.invokestatic 9), 3) := by decide +kernel
theorem d310_6 : decode b310 6 = .ok ((.aload_n 0), 1) := by decide +kernel
theorem d310_7 : decode b310 7 = .ok ((.iload_n 1), 1) := by decide +kernel
theorem d310_8 : decode b310 8 = .ok (.baload, 1) := by decide +kernel
theorem d310_9 : decode b310 9 = .ok ((.sipush 255), 3) := by decide +kernel
theorem d310_12 : decode b310 12 = .ok (.iand, 1) := by decide +kernel
theorem d310_13 : decode b310 13 = .ok (.i2c, 1) := by decide +kernel
theorem d310_14 : decode b310 14 = .ok (.ireturn, 1) := by decide +kernel
set_option maxHeartbeats 1000000 in
theorem c_j_lchar (l : Launch) (ρ : RH) (H : Heap) (P : Nat → Prop) (b : Nat) (t : TT) (i : Nat) (hC : CC ρ P H) (hPb : ∀ q, P q → q < H.size) (hY : isY ρ P H b t) (hi : i < t.length) : Met l y310 (wsOf y310 b310 2 (some .char)) ({ frames := 2, cells := 0, slots := 0, locals := 43 } : Room) (va_Pc [.ref b, .int (nI i)] (KP ρ H)) (mQ (fun v H1 => v = some (.int (nI (t.getD i 0))) ∧ H1 = H) (fun _ => False)) 0 0 (fun _ => False) := by
  refine m_ofW (own := "java/lang/StringLatin1") (plainFor_of_name rfl) rfl (Nat.le_of_ble_eq_true rfl) fun p e s m args below meth c ls hx hb hr hlk hmn X hs0 hl => ?_
  subst hs0
  have hS : va_S (fun _ => False) s.heap s.heap [] := va_S.rf
  have hl : lv_has ls 2 [(0, .ref b), (1, .int (nI i))] := hl
  refine lv_iload_n (pc := 0) hx hb d310_0 rfl (lv_at hl 1 rfl) ?_
  refine lv_aload_n (pc := 1) hx hb d310_1 rfl (lv_at hl 0 rfl) ?_
  refine y_len (pc := 2) X hY d310_2 ?_
  refine k_callS (pc := 3) (n := 2) X hS (c_j_check l ρ _ P i t.length hC hPb hi hY.ok.2) wd404 wd691 wd403 wd14 (by decide) ⟨rfl, rfl, Nat.le_of_ble_eq_true rfl, Nat.le_of_ble_eq_true rfl⟩ (As := [.int (nI i), .int (nI t.length)]) (rest := []) rfl rfl hl.1 (Nat.le_of_ble_eq_true rfl) d310_3 ⟨Nat.le_refl _, Nat.le_refl _⟩ (fun q hq => hq.elim) (fun v H1 locs1 hv hz1 hz2 hS => ?_)
  obtain ⟨rfl, hv2⟩ := hv
  have hv3 := hv2.symm
  clear hv2
  subst hv3
  refine lv_aload_n (pc := 6) hx hb d310_6 rfl (lv_at hl 0 rfl) ?_
  refine lv_iload_n (pc := 7) hx hb d310_7 rfl (lv_at hl 1 rfl) ?_
  refine y_ld (pc := 8) X hY (inb_of hi hY.ok.2) d310_8 ?_
  refine lv_sipush (pc := 9) (v := 255) hx hb d310_9 (by decide) ?_
  refine lv_iand (pc := 12) hx hb d310_12 ?_
  refine nm_i (y := nI (t.getD i 0)) (j_byte hY.ok.1 (by have := hY.ok.2; omega)) ?_
  refine lv_i2c (pc := 13) hx hb d310_13 rfl ?_
  refine nm_i (y := nI (t.getD i 0)) (j_c16 hY.ok.1 i) ?_
  have hnar := j_cN hY.ok.1 i
  exact m_cret (pc := 14) hx hb hr hlk hS ⟨rfl, rfl⟩ (Nat.le_refl _) (Nat.le_refl _) d310_14 hnar
theorem d287_0 : decode b287 0 = .ok ((.aload_n 0), 1) := by decide +kernel
theorem d287_1 : decode b287 1 = .ok ((.invokevirtual 492), 3) := by decide +kernel
theorem d287_4 : decode b287 4 = .ok ((.ifCond .eq 12), 3) := by decide +kernel
theorem d287_7 : decode b287 7 = .ok ((.aload_n 0), 1) := by decide +kernel
theorem d287_8 : decode b287 8 = .ok ((.getfield 9), 3) := by decide +kernel
theorem d287_11 : decode b287 11 = .ok ((.iload_n 1), 1) := by decide +kernel
theorem d287_12 : decode b287 12 = .ok ((.invokestatic 495), 3) := by decide +kernel
theorem d287_15 : decode b287 15 = .ok (.ireturn, 1) := by decide +kernel
theorem d287_16 : decode b287 16 = .ok ((.aload_n 0), 1) := by decide +kernel
theorem d287_17 : decode b287 17 = .ok ((.getfield 9), 3) := by decide +kernel
theorem d287_20 : decode b287 20 = .ok ((.iload_n 1), 1) := by decide +kernel
theorem d287_21 : decode b287 21 = .ok ((.invokestatic 498), 3) := by decide +kernel
theorem d287_24 : decode b287 24 = .ok (.ireturn, 1) := by decide +kernel
set_option maxHeartbeats 1000000 in
theorem c_js_charAt (l : Launch) (ρ : RH) (H : Heap) (P : Nat → Prop) (a : Nat) (t : TT) (p0 : Int32) (res : Int32) (hC : CC ρ P H) (hPb : ∀ q, P q → q < H.size) (hs : isS ρ P H a t) (h : f_js_charAt t p0 = some res) : Met l y287 (wsOf y287 b287 2 (some .char)) ({ frames := 12, cells := 0, slots := 0, locals := 600 } : Room) (va_Pc [.ref a, .int p0] (KP ρ H)) (mQ (fun v H1 => v = some (.int res) ∧ H1 = H) (fun _ => False)) 0 0 (fun _ => False) := by
  obtain ⟨b, hR, hY⟩ := hs.cut
  obtain ⟨hg, h⟩ := jg_some h
  obtain rfl := Option.some.inj h
  obtain ⟨i, hi, rfl⟩ := inb_ex hg (Nat.le_of_lt hY.ok.2)
  refine m_ofW (own := "java/lang/String") (plainFor_of_name rfl) rfl (Nat.le_of_ble_eq_true rfl) fun p e s m args below meth c ls hx hb hr hlk hmn X hs0 hl => ?_
  subst hs0
  have hS : va_S (fun _ => False) s.heap s.heap [] := va_S.rf
  have hl : lv_has ls 2 [(0, .ref a), (1, .int (nI i))] := hl
  refine lv_aload_n (pc := 0) hx hb d287_0 rfl (lv_at hl 0 rfl) ?_
  refine k_callV (pc := 1) (n := 0) X hS (c_j_latin l ρ _ P a b hC hPb hR) wd687 wd684 wd685 wd686 wd14 (by decide) ⟨rfl, rfl, Nat.le_of_ble_eq_true rfl, Nat.le_of_ble_eq_true rfl⟩ (r_recv X hR) (As := []) (rest := []) rfl rfl hl.1 (Nat.le_of_ble_eq_true rfl) d287_1 ⟨Nat.le_refl _, Nat.le_refl _⟩ (fun q hq => hq.elim) (fun v H1 locs1 hv hz1 hz2 hS => ?_)
  obtain ⟨rfl, hv2⟩ := hv
  have hv3 := hv2.symm
  clear hv2
  subst hv3
  refine lv_if_eq (pc := 4) (tgt := 16) hx hb d287_4 (by decide) (fun zbr => absurd zbr (by decide)) (fun zbr => ?_)
  refine lv_aload_n (pc := 7) hx hb d287_7 rfl (lv_at hl 0 rfl) ?_
  refine s_val (pc := 8) X hR wd598 d287_8 ?_
  refine lv_iload_n (pc := 11) hx hb d287_11 rfl (lv_at hl 1 rfl) ?_
  refine k_callS (pc := 12) (n := 2) X hS (c_j_lchar l ρ _ P b t i hC hPb hY hi) wd690 wd688 wd689 wd20 (by decide) ⟨rfl, rfl, Nat.le_of_ble_eq_true rfl, Nat.le_of_ble_eq_true rfl⟩ (As := [.ref b, .int (nI i)]) (rest := []) rfl rfl hl.1 (Nat.le_of_ble_eq_true rfl) d287_12 ⟨Nat.le_refl _, Nat.le_refl _⟩ (fun q hq => hq.elim) (fun v H1 locs1 hv hz1 hz2 hS => ?_)
  obtain ⟨rfl, hv2⟩ := hv
  have hv3 := hv2.symm
  clear hv2
  subst hv3
  have hnar := j_cN hY.ok.1 i
  exact m_cret (pc := 15) hx hb hr hlk hS ⟨by rw [nI_clamp (by have := hY.ok.2; omega)], rfl⟩ (Nat.le_refl _) (Nat.le_refl _) d287_15 hnar
abbrev b309 : ByteArray := prog_25_method_4_code
theorem d309_0 : decode b309 0 = .ok ((.iload_n 0), 1) := by decide +kernel
theorem d309_1 : decode b309 1 = .ok ((.ifCond .lt 14), 3) := by decide +kernel
theorem d309_4 : decode b309 4 = .ok ((.iload_n 0), 1) := by decide +kernel
theorem d309_5 : decode b309 5 = .ok ((.sipush 255), 3) := by decide +kernel
theorem d309_8 : decode b309 8 = .ok ((.if_icmp .gt 7), 3) := by decide +kernel
theorem d309_11 : decode b309 11 = .ok ((.iconst 1), 1) := by decide +kernel
theorem d309_12 : decode b309 12 = .ok ((.goto 4), 3) := by decide +kernel
theorem d309_15 : decode b309 15 = .ok ((.iconst 0), 1) := by decide +kernel
theorem d309_16 : decode b309 16 = .ok (.ireturn, 1) := by decide +kernel
set_option maxHeartbeats 1000000 in
theorem c_j_can (l : Launch) (ρ : RH) (H : Heap) (P : Nat → Prop) (c0 : Nat) (hC : CC ρ P H) (hPb : ∀ q, P q → q < H.size) (hc0 : c0 < 256) : Met l y309 (wsOf y309 b309 1 (some .boolean)) ({ frames := 0, cells := 0, slots := 0, locals := 0 } : Room) (va_Pc [.int (nI c0)] (KP ρ H)) (mQ (fun v H1 => v = some (.int 1) ∧ H1 = H) (fun _ => False)) 0 0 (fun _ => False) := by
  refine m_ofW (own := "java/lang/StringLatin1") (plainFor_of_name rfl) rfl (Nat.le_of_ble_eq_true rfl) fun p e s m args below meth c ls hx hb hr hlk hmn X hs0 hl => ?_
  subst hs0
  have hS : va_S (fun _ => False) s.heap s.heap [] := va_S.rf
  have hl : lv_has ls 1 [(0, .int (nI c0))] := hl
  refine lv_iload_n (pc := 0) hx hb d309_0 rfl (lv_at hl 0 rfl) ?_
  refine lv_if_lt (pc := 1) (tgt := 15) hx hb d309_1 (by decide) (fun zbr => absurd zbr (nI_pos (by omega))) (fun zbr => ?_)
  refine lv_iload_n (pc := 4) hx hb d309_4 rfl (lv_at hl 0 rfl) ?_
  refine lv_sipush (pc := 5) (v := 255) hx hb d309_5 (by decide) ?_
  refine lv_icmp_gt (pc := 8) (tgt := 15) hx hb d309_8 (by decide) (fun zbr => absurd zbr (fun z => absurd (nI_le (a := c0) (b := 255) (by omega) (by decide)) (Int32.not_le.mpr z))) (fun zbr => ?_)
  refine lv_iconst (pc := 11) (v := 1) hx hb d309_11 (by decide) ?_
  refine lv_goto (pc := 12) (tgt := 16) hx hb d309_12 (by decide) ?_
  exact m_zret (pc := 16) hx hb hr hlk hS ⟨rfl, rfl⟩ (Nat.le_refl _) (Nat.le_refl _) d309_16 (by decide)
abbrev b278 : ByteArray := prog_21_method_65_code
theorem d278_0 : decode b278 0 = .ok ((.iload_n 0), 1) := by decide +kernel
theorem d278_1 : decode b278 1 = .ok ((.iload_n 1), 1) := by decide +kernel
theorem d278_2 : decode b278 2 = .ok ((.if_icmp .lt 7), 3) := by decide +kernel
theorem d278_5 : decode b278 5 = .ok ((.iload_n 0), 1) := by decide +kernel
theorem d278_6 : decode b278 6 = .ok ((.goto 4), 3) := by decide +kernel
theorem d278_9 : decode b278 9 = .ok ((.iload_n 1), 1) := by decide +kernel
theorem d278_10 : decode b278 10 = .ok (.ireturn, 1) := by decide +kernel
set_option maxHeartbeats 1000000 in
theorem c_j_max (l : Launch) (ρ : RH) (H : Heap) (P : Nat → Prop) (x0 : Int32) (hC : CC ρ P H) (hPb : ∀ q, P q → q < H.size) : Met l y278 (wsOf y278 b278 2 (some .int)) ({ frames := 0, cells := 0, slots := 0, locals := 0 } : Room) (va_Pc [.int x0, .int x0] (KP ρ H)) (mQ (fun v H1 => v = some (.int x0) ∧ H1 = H) (fun _ => False)) 0 0 (fun _ => False) := by
  refine m_ofW (own := "java/lang/Math") (by decide +kernel) rfl (Nat.le_of_ble_eq_true rfl) fun p e s m args below meth c ls hx hb hr hlk hmn X hs0 hl => ?_
  subst hs0
  have hS : va_S (fun _ => False) s.heap s.heap [] := va_S.rf
  have hl : lv_has ls 2 [(0, .int x0), (1, .int x0)] := hl
  refine lv_iload_n (pc := 0) hx hb d278_0 rfl (lv_at hl 0 rfl) ?_
  refine lv_iload_n (pc := 1) hx hb d278_1 rfl (lv_at hl 1 rfl) ?_
  refine lv_icmp_lt (pc := 2) (tgt := 9) hx hb d278_2 (by decide) (fun zbr => absurd zbr (Int32.lt_irrefl)) (fun zbr => ?_)
  refine lv_iload_n (pc := 5) hx hb d278_5 rfl (lv_at hl 0 rfl) ?_
  refine lv_goto (pc := 6) (tgt := 10) hx hb d278_6 (by decide) ?_
  exact m_iret (pc := 10) hx hb hr hlk hS ⟨rfl, rfl⟩ (Nat.le_refl _) (Nat.le_refl _) d278_10
abbrev b279 : ByteArray := prog_21_method_69_code
theorem d279_0 : decode b279 0 = .ok ((.iload_n 0), 1) := by decide +kernel
theorem d279_1 : decode b279 1 = .ok ((.iload_n 1), 1) := by decide +kernel
theorem d279_2 : decode b279 2 = .ok ((.if_icmp .gt 7), 3) := by decide +kernel
theorem d279_5 : decode b279 5 = .ok ((.iload_n 0), 1) := by decide +kernel
theorem d279_6 : decode b279 6 = .ok ((.goto 4), 3) := by decide +kernel
theorem d279_9 : decode b279 9 = .ok ((.iload_n 1), 1) := by decide +kernel
theorem d279_10 : decode b279 10 = .ok (.ireturn, 1) := by decide +kernel
set_option maxHeartbeats 1000000 in
theorem c_j_min (l : Launch) (ρ : RH) (H : Heap) (P : Nat → Prop) (x0 : Int32) (hC : CC ρ P H) (hPb : ∀ q, P q → q < H.size) : Met l y279 (wsOf y279 b279 2 (some .int)) ({ frames := 0, cells := 0, slots := 0, locals := 0 } : Room) (va_Pc [.int x0, .int x0] (KP ρ H)) (mQ (fun v H1 => v = some (.int x0) ∧ H1 = H) (fun _ => False)) 0 0 (fun _ => False) := by
  refine m_ofW (own := "java/lang/Math") (by decide +kernel) rfl (Nat.le_of_ble_eq_true rfl) fun p e s m args below meth c ls hx hb hr hlk hmn X hs0 hl => ?_
  subst hs0
  have hS : va_S (fun _ => False) s.heap s.heap [] := va_S.rf
  have hl : lv_has ls 2 [(0, .int x0), (1, .int x0)] := hl
  refine lv_iload_n (pc := 0) hx hb d279_0 rfl (lv_at hl 0 rfl) ?_
  refine lv_iload_n (pc := 1) hx hb d279_1 rfl (lv_at hl 1 rfl) ?_
  refine lv_icmp_gt (pc := 2) (tgt := 9) hx hb d279_2 (by decide) (fun zbr => absurd zbr (Int32.lt_irrefl)) (fun zbr => ?_)
  refine lv_iload_n (pc := 5) hx hb d279_5 rfl (lv_at hl 0 rfl) ?_
  refine lv_goto (pc := 6) (tgt := 10) hx hb d279_6 (by decide) ?_
  exact m_iret (pc := 10) hx hb hr hlk hS ⟨rfl, rfl⟩ (Nat.le_refl _) (Nat.le_refl _) d279_10
abbrev b313 : ByteArray := prog_25_method_23_code
theorem d313_0 : decode b313 0 = .ok ((.iload_n 1), 1) := by decide +kernel
theorem d313_1 : decode b313 1 = .ok (.i2b, 1) := by decide +kernel
theorem d313_2 : decode b313 2 = .ok ((.istore 4), 2) := by decide +kernel
theorem d313_4 : decode b313 4 = .ok ((.iload_n 2), 1) := by decide +kernel
theorem d313_5 : decode b313 5 = .ok ((.istore 5), 2) := by decide +kernel
theorem d313_7 : decode b313 7 = .ok ((.iload 5), 2) := by decide +kernel
theorem d313_9 : decode b313 9 = .ok ((.iload_n 3), 1) := by decide +kernel
theorem d313_10 : decode b313 10 = .ok ((.if_icmp .ge 21), 3) := by decide +kernel
theorem d313_13 : decode b313 13 = .ok ((.aload_n 0), 1) := by decide +kernel
theorem d313_14 : decode b313 14 = .ok ((.iload 5), 2) := by decide +kernel
theorem d313_16 : decode b313 16 = .ok (.baload, 1) := by decide +kernel
theorem d313_17 : decode b313 17 = .ok ((.iload 4), 2) := by decide +kernel
theorem d313_19 : decode b313 19 = .ok ((.if_icmp .ne 6), 3) := by decide +kernel
theorem d313_22 : decode b313 22 = .ok ((.iload 5), 2) := by decide +kernel
theorem d313_24 : decode b313 24 = .ok (.ireturn, 1) := by decide +kernel
theorem d313_25 : decode b313 25 = .ok ((.iinc 5 1), 3) := by decide +kernel
theorem d313_28 : decode b313 28 = .ok ((.goto (-21)), 3) := by decide +kernel
theorem d313_31 : decode b313 31 = .ok ((.iconst (-1)), 1) := by decide +kernel
theorem d313_32 : decode b313 32 = .ok (.ireturn, 1) := by decide +kernel
set_option maxHeartbeats 1000000 in
theorem c_j_ioc (l : Launch) (ρ : RH) (H : Heap) (P : Nat → Prop) (b : Nat) (t : TT) (c0 : Nat) (hC : CC ρ P H) (hPb : ∀ q, P q → q < H.size) (hY : isY ρ P H b t) (hc0 : c0 < 256) : Met l y313 (wsOf y313 b313 6 (some .int)) ({ frames := 0, cells := 0, slots := 0, locals := 0 } : Room) (va_Pc [.ref b, .int (nI c0), .int 0, .int (nI t.length)] (KP ρ H)) (mQ (fun v H1 => v = some (.int (ixOf t c0)) ∧ H1 = H) (fun _ => False)) 0 0 (fun _ => False) := by
  refine m_ofW (own := "java/lang/StringLatin1") (plainFor_of_name rfl) rfl (Nat.le_of_ble_eq_true rfl) fun p e s m args below meth c ls hx hb hr hlk hmn X hs0 hl => ?_
  subst hs0
  have hS : va_S (fun _ => False) s.heap s.heap [] := va_S.rf
  have hl : lv_has ls 6 [(0, .ref b), (1, .int (nI c0)), (2, .int 0), (3, .int (nI t.length))] := hl
  have key : ∀ (n k : Nat) (locs : List Loc) (ls : Array Slot), va_S (fun _ => False) s.heap s.heap locs → t.length - k = n → k ≤ t.length → ¬ c0 ∈ t.take k → lv_has ls 6 [(5, .int (nI k)), (4, .int (sb_b c0)), (0, .ref b), (1, .int (nI c0)), (2, .int 0), (3, .int (nI t.length))] → W p l e ({ frames := 0, cells := 0, slots := 0, locals := 0 } : Room) s m args below meth c s.heap locs 0 0 (MQ below (mQ (fun v H1 => v = some (.int (ixOf t c0)) ∧ H1 = s.heap) (fun _ => False)) args s 0 0 (fun _ => False)) (F0 m 7 ls []) := by
    intro n
    induction n with
    | zero =>
      intro k locs ls hS hn hk hc hl
      obtain rfl : k = t.length := by omega
      refine lv_iload (pc := 7) hx hb d313_7 (lv_at hl 0 rfl) ?_
      refine lv_iload_n (pc := 9) hx hb d313_9 rfl (lv_at hl 5 rfl) ?_
      refine lv_icmp_ge (pc := 10) (tgt := 31) hx hb d313_10 (by decide) (fun zbr => ?_) (fun zbr => absurd (Int32.le_refl _) zbr)
      refine lv_iconst (pc := 31) (v := (-1)) hx hb d313_31 (by decide) ?_
      exact m_iret (pc := 32) hx hb hr hlk hS ⟨by rw [ix_miss hc], rfl⟩ (Nat.le_refl _) (Nat.le_refl _) d313_32
    | succ n ih =>
      intro k locs ls hS hn hk hc hl
      have hk1 : k < t.length := by omega
      have hb31 := hY.ok.2
      refine lv_iload (pc := 7) hx hb d313_7 (lv_at hl 0 rfl) ?_
      refine lv_iload_n (pc := 9) hx hb d313_9 rfl (lv_at hl 5 rfl) ?_
      refine lv_icmp_ge (pc := 10) (tgt := 31) hx hb d313_10 (by decide) (fun zbr => absurd zbr (fun z => absurd (nI_lt hk1 hb31) (Int32.not_lt.mpr z))) (fun zbr => ?_)
      refine lv_aload_n (pc := 13) hx hb d313_13 rfl (lv_at hl 2 rfl) ?_
      refine lv_iload (pc := 14) hx hb d313_14 (lv_at hl 0 rfl) ?_
      refine y_ld (pc := 16) X hY (inb_of hk1 hb31) d313_16 ?_
      refine nm_i (y := sb_b (t.getD k 0)) (by rw [nI_clamp (by omega)]) ?_
      refine lv_iload (pc := 17) hx hb d313_17 (lv_at hl 1 rfl) ?_
      refine lv_icmp_ne (pc := 19) (tgt := 25) hx hb d313_19 (by decide) (fun z19 => ?_) (fun z19 => ?_)
      · skip
        refine lv_iinc (pc := 25) (v := nI (k + 1)) (lv' := [(5, .int (nI (k + 1))), (4, .int (sb_b c0)), (0, .ref b), (1, .int (nI c0)), (2, .int 0), (3, .int (nI t.length))]) hx hb d313_25 hl (k := 0) rfl ((nI_succ k).symm) (by decide) rfl (fun ls hl => ?_)
        refine lv_goto (pc := 28) (tgt := 7) hx hb d313_28 (by decide) ?_
        exact ih (k + 1) _ _ hS (by omega) hk1 (ix_next hk1 hc (fun z => z19 ((j_inj (TT_lt hY.ok.1 k) hc0).mpr z))) (lv_sub hl [0, 1, 2, 3, 4, 5] rfl)
      · skip
        refine lv_iload (pc := 22) hx hb d313_22 (lv_at hl 0 rfl) ?_
        exact m_iret (pc := 24) hx hb hr hlk hS ⟨by rw [ix_hit hk1 hc ((j_inj (TT_lt hY.ok.1 k) hc0).mp z19)], rfl⟩ (Nat.le_refl _) (Nat.le_refl _) d313_24
  refine lv_iload_n (pc := 0) hx hb d313_0 rfl (lv_at hl 1 rfl) ?_
  refine lv_i2b (pc := 1) hx hb d313_1 rfl ?_
  refine lv_istore (pc := 2) (lv' := [(4, .int ((nI c0).toInt8.toInt32)), (0, .ref b), (1, .int (nI c0)), (2, .int 0), (3, .int (nI t.length))]) hx hb d313_2 hl (by decide) rfl (fun ls hl => ?_)
  refine lv_iload_n (pc := 4) hx hb d313_4 rfl (lv_at hl 3 rfl) ?_
  refine lv_istore (pc := 5) (lv' := [(5, .int 0), (4, .int ((nI c0).toInt8.toInt32)), (0, .ref b), (1, .int (nI c0)), (2, .int 0), (3, .int (nI t.length))]) hx hb d313_5 hl (by decide) rfl (fun ls hl => ?_)
  exact key t.length 0 _ _ hS rfl (Nat.zero_le _) (by simp) (lv_sub hl [0, 1, 2, 3, 4, 5] rfl)
abbrev b312 : ByteArray := prog_25_method_22_code
theorem d312_0 : decode b312 0 = .ok ((.iload_n 1), 1) := by decide +kernel
theorem d312_1 : decode b312 1 = .ok ((.invokestatic 88), 3) := by decide +kernel
theorem d312_4 : decode b312 4 = .ok ((.ifCond .ne 5), 3) := by decide +kernel
theorem d312_7 : decode b312 7 = .ok ((.iconst (-1)), 1) := by decide +kernel
theorem d312_8 : decode b312 8 = .ok (.ireturn, 1) := by decide +kernel
theorem d312_9 : decode b312 9 = .ok ((.iload_n 2), 1) := by decide +kernel
theorem d312_10 : decode b312 10 = .ok ((.iconst 0), 1) := by decide +kernel
theorem d312_11 : decode b312 11 = .ok ((.invokestatic 92), 3) := by decide +kernel
theorem d312_14 : decode b312 14 = .ok ((.istore_n 2), 1) := by decide +kernel
theorem d312_15 : decode b312 15 = .ok ((.iload_n 3), 1) := by decide +kernel
theorem d312_16 : decode b312 16 = .ok ((.aload_n 0), 1) := by decide +kernel
theorem d312_17 : decode b312 17 = .ok (.arraylength, 1) := by decide +kernel
theorem d312_18 : decode b312 18 = .ok ((.invokestatic 38), 3) := by decide +kernel
theorem d312_21 : decode b312 21 = .ok ((.istore_n 3), 1) := by decide +kernel
theorem d312_22 : decode b312 22 = .ok ((.iload_n 2), 1) := by decide +kernel
theorem d312_23 : decode b312 23 = .ok ((.iload_n 3), 1) := by decide +kernel
theorem d312_24 : decode b312 24 = .ok ((.if_icmp .lt 5), 3) := by decide +kernel
theorem d312_27 : decode b312 27 = .ok ((.iconst (-1)), 1) := by decide +kernel
theorem d312_28 : decode b312 28 = .ok (.ireturn, 1) := by decide +kernel
theorem d312_29 : decode b312 29 = .ok ((.aload_n 0), 1) := by decide +kernel
theorem d312_30 : decode b312 30 = .ok ((.iload_n 1), 1) := by decide +kernel
theorem d312_31 : decode b312 31 = .ok ((.iload_n 2), 1) := by decide +kernel
theorem d312_32 : decode b312 32 = .ok ((.iload_n 3), 1) := by decide +kernel
theorem d312_33 : decode b312 33 = .ok ((.invokestatic 95), 3) := by decide +kernel
theorem d312_36 : decode b312 36 = .ok (.ireturn, 1) := by decide +kernel
set_option maxHeartbeats 1000000 in
theorem c_j_io1 (l : Launch) (ρ : RH) (H : Heap) (P : Nat → Prop) (b : Nat) (t : TT) (c0 : Nat) (hC : CC ρ P H) (hPb : ∀ q, P q → q < H.size) (hY : isY ρ P H b t) (hc0 : c0 < 256) : Met l y312 (wsOf y312 b312 4 (some .int)) ({ frames := 1, cells := 0, slots := 0, locals := 25 } : Room) (va_Pc [.ref b, .int (nI c0), .int 0, .int (nI t.length)] (KP ρ H)) (mQ (fun v H1 => v = some (.int (ixOf t c0)) ∧ H1 = H) (fun _ => False)) 0 0 (fun _ => False) := by
  refine m_ofW (own := "java/lang/StringLatin1") (plainFor_of_name rfl) rfl (Nat.le_of_ble_eq_true rfl) fun p e s m args below meth c ls hx hb hr hlk hmn X hs0 hl => ?_
  subst hs0
  have hS : va_S (fun _ => False) s.heap s.heap [] := va_S.rf
  have hl : lv_has ls 4 [(0, .ref b), (1, .int (nI c0)), (2, .int 0), (3, .int (nI t.length))] := hl
  refine lv_iload_n (pc := 0) hx hb d312_0 rfl (lv_at hl 1 rfl) ?_
  refine k_callS (pc := 1) (n := 1) X hS (c_j_can l ρ _ P c0 hC hPb hc0) wd798 wd796 wd797 wd20 (by decide) ⟨rfl, rfl, Nat.le_of_ble_eq_true rfl, Nat.le_of_ble_eq_true rfl⟩ (As := [.int (nI c0)]) (rest := []) rfl rfl hl.1 (Nat.le_of_ble_eq_true rfl) d312_1 ⟨Nat.le_refl _, Nat.le_refl _⟩ (fun q hq => hq.elim) (fun v H1 locs1 hv hz1 hz2 hS => ?_)
  obtain ⟨rfl, hv2⟩ := hv
  have hv3 := hv2.symm
  clear hv2
  subst hv3
  refine lv_if_ne (pc := 4) (tgt := 9) hx hb d312_4 (by decide) (fun zbr => ?_) (fun zbr => absurd zbr (by decide))
  refine lv_iload_n (pc := 9) hx hb d312_9 rfl (lv_at hl 2 rfl) ?_
  refine lv_iconst (pc := 10) (v := 0) hx hb d312_10 (by decide) ?_
  refine k_callS (pc := 11) (n := 2) X hS (c_j_max l ρ _ P 0 hC hPb) wd333 wd799 wd332 wd17 (by decide) ⟨rfl, rfl, Nat.le_of_ble_eq_true rfl, Nat.le_of_ble_eq_true rfl⟩ (As := [.int 0, .int 0]) (rest := []) rfl rfl hl.1 (Nat.le_of_ble_eq_true rfl) d312_11 ⟨Nat.le_refl _, Nat.le_refl _⟩ (fun q hq => hq.elim) (fun v H1 locs1 hv hz1 hz2 hS => ?_)
  obtain ⟨rfl, hv2⟩ := hv
  have hv3 := hv2.symm
  clear hv2
  subst hv3
  refine lv_istore_n (pc := 14) (lv' := [(2, .int 0), (0, .ref b), (1, .int (nI c0)), (3, .int (nI t.length))]) hx hb d312_14 rfl hl (by decide) rfl (fun ls hl => ?_)
  refine lv_iload_n (pc := 15) hx hb d312_15 rfl (lv_at hl 3 rfl) ?_
  refine lv_aload_n (pc := 16) hx hb d312_16 rfl (lv_at hl 1 rfl) ?_
  refine y_len (pc := 17) X hY d312_17 ?_
  refine k_callS (pc := 18) (n := 2) X hS (c_j_min l ρ _ P (nI t.length) hC hPb) wd351 wd800 wd350 wd17 (by decide) ⟨rfl, rfl, Nat.le_of_ble_eq_true rfl, Nat.le_of_ble_eq_true rfl⟩ (As := [.int (nI t.length), .int (nI t.length)]) (rest := []) rfl rfl hl.1 (Nat.le_of_ble_eq_true rfl) d312_18 ⟨Nat.le_refl _, Nat.le_refl _⟩ (fun q hq => hq.elim) (fun v H1 locs1 hv hz1 hz2 hS => ?_)
  obtain ⟨rfl, hv2⟩ := hv
  have hv3 := hv2.symm
  clear hv2
  subst hv3
  refine lv_istore_n (pc := 21) (lv' := [(3, .int (nI t.length)), (2, .int 0), (0, .ref b), (1, .int (nI c0))]) hx hb d312_21 rfl hl (by decide) rfl (fun ls hl => ?_)
  refine lv_iload_n (pc := 22) hx hb d312_22 rfl (lv_at hl 1 rfl) ?_
  refine lv_iload_n (pc := 23) hx hb d312_23 rfl (lv_at hl 0 rfl) ?_
  refine lv_icmp_lt (pc := 24) (tgt := 29) hx hb d312_24 (by decide) (fun z24 => ?_) (fun z24 => ?_)
  · skip
    refine lv_aload_n (pc := 29) hx hb d312_29 rfl (lv_at hl 2 rfl) ?_
    refine lv_iload_n (pc := 30) hx hb d312_30 rfl (lv_at hl 3 rfl) ?_
    refine lv_iload_n (pc := 31) hx hb d312_31 rfl (lv_at hl 1 rfl) ?_
    refine lv_iload_n (pc := 32) hx hb d312_32 rfl (lv_at hl 0 rfl) ?_
    refine k_callS (pc := 33) (n := 4) X hS (c_j_ioc l ρ _ P b t c0 hC hPb hY hc0) wd803 wd801 wd802 wd20 (by decide) ⟨rfl, rfl, Nat.le_of_ble_eq_true rfl, Nat.le_of_ble_eq_true rfl⟩ (As := [.ref b, .int (nI c0), .int 0, .int (nI t.length)]) (rest := []) rfl rfl hl.1 (Nat.le_of_ble_eq_true rfl) d312_33 ⟨Nat.le_refl _, Nat.le_refl _⟩ (fun q hq => hq.elim) (fun v H1 locs1 hv hz1 hz2 hS => ?_)
    obtain ⟨rfl, hv2⟩ := hv
    have hv3 := hv2.symm
    clear hv2
    subst hv3
    exact m_iret (pc := 36) hx hb hr hlk hS ⟨rfl, rfl⟩ (Nat.le_refl _) (Nat.le_refl _) d312_36
  · skip
    refine lv_iconst (pc := 27) (v := (-1)) hx hb d312_27 (by decide) ?_
    exact m_iret (pc := 28) hx hb hr hlk hS ⟨by rw [ix_miss (t := t) (c := c0) (by rw [show t = [] from List.length_eq_zero_iff.mp (Nat.eq_zero_of_not_pos (fun q => z24 (nI_lt (a := 0) q hY.ok.2)))]; exact List.not_mem_nil)], rfl⟩ (Nat.le_refl _) (Nat.le_refl _) d312_28
abbrev b296 : ByteArray := prog_23_method_80_code
theorem d296_0 : decode b296 0 = .ok ((.aload_n 0), 1) := by decide +kernel
theorem d296_1 : decode b296 1 = .ok ((.invokevirtual 492), 3) := by decide +kernel
theorem d296_4 : decode b296 4 = .ok ((.ifCond .eq 19), 3) := by decide +kernel
theorem d296_7 : decode b296 7 = .ok ((.aload_n 0), 1) := by decide +kernel
theorem d296_8 : decode b296 8 = .ok ((.getfield 9), 3) := by decide +kernel
theorem d296_11 : decode b296 11 = .ok ((.iload_n 1), 1) := by decide +kernel
theorem d296_12 : decode b296 12 = .ok ((.iload_n 2), 1) := by decide +kernel
theorem d296_13 : decode b296 13 = .ok ((.aload_n 0), 1) := by decide +kernel
theorem d296_14 : decode b296 14 = .ok ((.invokevirtual 505), 3) := by decide +kernel
theorem d296_17 : decode b296 17 = .ok ((.invokestatic 637), 3) := by decide +kernel
theorem d296_20 : decode b296 20 = .ok ((.goto 16), 3) := by decide +kernel
theorem d296_23 : decode b296 23 = .ok ((.aload_n 0), 1) := by decide +kernel
theorem d296_24 : decode b296 24 = .ok ((.getfield 9), 3) := by decide +kernel
theorem d296_27 : decode b296 27 = .ok ((.iload_n 1), 1) := by decide +kernel
theorem d296_28 : decode b296 28 = .ok ((.iload_n 2), 1) := by decide +kernel
theorem d296_29 : decode b296 29 = .ok ((.aload_n 0), 1) := by decide +kernel
theorem d296_30 : decode b296 30 = .ok ((.invokevirtual 505), 3) := by decide +kernel
theorem d296_33 : decode b296 33 = .ok ((.invokestatic 640), 3) := by decide +kernel
theorem d296_36 : decode b296 36 = .ok (.ireturn, 1) := by decide +kernel
set_option maxHeartbeats 1000000 in
theorem c_j_io2 (l : Launch) (ρ : RH) (H : Heap) (P : Nat → Prop) (a b : Nat) (t : TT) (c0 : Nat) (hC : CC ρ P H) (hPb : ∀ q, P q → q < H.size) (hR : isR ρ H a b) (hY : isY ρ P H b t) (hc0 : c0 < 256) : Met l y296 (wsOf y296 b296 3 (some .int)) ({ frames := 2, cells := 0, slots := 0, locals := 48 } : Room) (va_Pc [.ref a, .int (nI c0), .int 0] (KP ρ H)) (mQ (fun v H1 => v = some (.int (ixOf t c0)) ∧ H1 = H) (fun _ => False)) 0 0 (fun _ => False) := by
  refine m_ofW (own := "java/lang/String") (plainFor_of_name rfl) rfl (Nat.le_of_ble_eq_true rfl) fun p e s m args below meth c ls hx hb hr hlk hmn X hs0 hl => ?_
  subst hs0
  have hS : va_S (fun _ => False) s.heap s.heap [] := va_S.rf
  have hl : lv_has ls 3 [(0, .ref a), (1, .int (nI c0)), (2, .int 0)] := hl
  refine lv_aload_n (pc := 0) hx hb d296_0 rfl (lv_at hl 0 rfl) ?_
  refine k_callV (pc := 1) (n := 0) X hS (c_j_latin l ρ _ P a b hC hPb hR) wd687 wd684 wd685 wd686 wd14 (by decide) ⟨rfl, rfl, Nat.le_of_ble_eq_true rfl, Nat.le_of_ble_eq_true rfl⟩ (r_recv X hR) (As := []) (rest := []) rfl rfl hl.1 (Nat.le_of_ble_eq_true rfl) d296_1 ⟨Nat.le_refl _, Nat.le_refl _⟩ (fun q hq => hq.elim) (fun v H1 locs1 hv hz1 hz2 hS => ?_)
  obtain ⟨rfl, hv2⟩ := hv
  have hv3 := hv2.symm
  clear hv2
  subst hv3
  refine lv_if_eq (pc := 4) (tgt := 23) hx hb d296_4 (by decide) (fun zbr => absurd zbr (by decide)) (fun zbr => ?_)
  refine lv_aload_n (pc := 7) hx hb d296_7 rfl (lv_at hl 0 rfl) ?_
  refine s_val (pc := 8) X hR wd598 d296_8 ?_
  refine lv_iload_n (pc := 11) hx hb d296_11 rfl (lv_at hl 1 rfl) ?_
  refine lv_iload_n (pc := 12) hx hb d296_12 rfl (lv_at hl 2 rfl) ?_
  refine lv_aload_n (pc := 13) hx hb d296_13 rfl (lv_at hl 0 rfl) ?_
  refine k_callV (pc := 14) (n := 0) X hS (c_j_length l ρ _ P a b t hC hPb hR hY) wd538 wd792 wd536 wd537 wd14 (by decide) ⟨rfl, rfl, Nat.le_of_ble_eq_true rfl, Nat.le_of_ble_eq_true rfl⟩ (r_recv X hR) (As := []) (rest := [.int 0, .int (nI c0), .ref b]) rfl rfl hl.1 (Nat.le_of_ble_eq_true rfl) d296_14 ⟨Nat.le_refl _, Nat.le_refl _⟩ (fun q hq => hq.elim) (fun v H1 locs1 hv hz1 hz2 hS => ?_)
  obtain ⟨rfl, hv2⟩ := hv
  have hv3 := hv2.symm
  clear hv2
  subst hv3
  refine k_callS (pc := 17) (n := 4) X hS (c_j_io1 l ρ _ P b t c0 hC hPb hY hc0) wd795 wd793 wd794 wd20 (by decide) ⟨rfl, rfl, Nat.le_of_ble_eq_true rfl, Nat.le_of_ble_eq_true rfl⟩ (As := [.ref b, .int (nI c0), .int 0, .int (nI t.length)]) (rest := []) rfl rfl hl.1 (Nat.le_of_ble_eq_true rfl) d296_17 ⟨Nat.le_refl _, Nat.le_refl _⟩ (fun q hq => hq.elim) (fun v H1 locs1 hv hz1 hz2 hS => ?_)
  obtain ⟨rfl, hv2⟩ := hv
  have hv3 := hv2.symm
  clear hv2
  subst hv3
  refine lv_goto (pc := 20) (tgt := 36) hx hb d296_20 (by decide) ?_
  exact m_iret (pc := 36) hx hb hr hlk hS ⟨rfl, rfl⟩ (Nat.le_refl _) (Nat.le_refl _) d296_36
theorem d295_0 : decode b295 0 = .ok ((.aload_n 0), 1) := by decide +kernel
theorem d295_1 : decode b295 1 = .ok ((.iload_n 1), 1) := by decide +kernel
theorem d295_2 : decode b295 2 = .ok ((.iconst 0), 1) := by decide +kernel
theorem d295_3 : decode b295 3 = .ok ((.invokevirtual 633), 3) := by decide +kernel
theorem d295_6 : decode b295 6 = .ok (.ireturn, 1) := by decide +kernel
set_option maxHeartbeats 1000000 in
theorem c_js_indexOf (l : Launch) (ρ : RH) (H : Heap) (P : Nat → Prop) (a : Nat) (t : TT) (p0 : Int32) (res : Int32) (hC : CC ρ P H) (hPb : ∀ q, P q → q < H.size) (hs : isS ρ P H a t) (h : f_js_indexOf t p0 = some res) : Met l y295 (wsOf y295 b295 2 (some .int)) ({ frames := 12, cells := 0, slots := 0, locals := 600 } : Room) (va_Pc [.ref a, .int p0] (KP ρ H)) (mQ (fun v H1 => v = some (.int res) ∧ H1 = H) (fun _ => False)) 0 0 (fun _ => False) := by
  obtain ⟨b, hR, hY⟩ := hs.cut
  obtain ⟨hg, h⟩ := jg_some h
  obtain rfl := Option.some.inj h
  obtain ⟨c0, hc0, rfl⟩ := inb_ex hg (by decide)
  refine m_ofW (own := "java/lang/String") (plainFor_of_name rfl) rfl (Nat.le_of_ble_eq_true rfl) fun p e s m args below meth c ls hx hb hr hlk hmn X hs0 hl => ?_
  subst hs0
  have hS : va_S (fun _ => False) s.heap s.heap [] := va_S.rf
  have hl : lv_has ls 2 [(0, .ref a), (1, .int (nI c0))] := hl
  refine lv_aload_n (pc := 0) hx hb d295_0 rfl (lv_at hl 0 rfl) ?_
  refine lv_iload_n (pc := 1) hx hb d295_1 rfl (lv_at hl 1 rfl) ?_
  refine lv_iconst (pc := 2) (v := 0) hx hb d295_2 (by decide) ?_
  refine k_callV (pc := 3) (n := 2) X hS (c_j_io2 l ρ _ P a b t c0 hC hPb hR hY hc0) wd791 wd788 wd789 wd790 wd14 (by decide) ⟨rfl, rfl, Nat.le_of_ble_eq_true rfl, Nat.le_of_ble_eq_true rfl⟩ (r_recv X hR) (As := [.int (nI c0), .int 0]) (rest := []) rfl rfl hl.1 (Nat.le_of_ble_eq_true rfl) d295_3 ⟨Nat.le_refl _, Nat.le_refl _⟩ (fun q hq => hq.elim) (fun v H1 locs1 hv hz1 hz2 hS => ?_)
  obtain ⟨rfl, hv2⟩ := hv
  have hv3 := hv2.symm
  clear hv2
  subst hv3
  exact m_iret (pc := 6) hx hb hr hlk hS ⟨by rw [nI_clamp (by omega)], rfl⟩ (Nat.le_refl _) (Nat.le_refl _) d295_6
