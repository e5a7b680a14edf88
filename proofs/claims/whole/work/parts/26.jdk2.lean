section J3
variable {p : Program} {l : Launch} {e : Env} {R : Room} {s : State} {m : MethodId} {args : Array Value} {below : List Frame} {meth : Method} {c : Code} {H : Heap} {locs : List Loc} {cells slots : Nat} {Q : State → Prop}
variable {cc : ByteArray} {pc nL : Nat} {ls : Array Slot} {rest st0 : List Value} {own : String} {ρ : RH} {w0 : Cond} {A : Nat → Prop} {H0 : Heap} {P : Nat → Prop}
theorem va_S.grow {H1 : Heap} (hS : va_S A H0 H locs) (z : H.size ≤ H1.size) (oq : ∀ q, q < H.size → H1[q]? = H[q]?) : va_S A H0 H1 locs :=
  ⟨Nat.le_trans hS.1 z, fun q h1 h2 => (oq q (Nat.lt_of_lt_of_le h1 hS.1)).trans (hS.2.1 q h1 h2), hS.2.2⟩
theorem o_oini (X : CX p s m c args own cc nL ρ w0) {idx a : Nat} (hl : Cond.methodLink own idx y280 ∈ TG) (hsz : ls.size = nL) (hfr : Nat.ble 1 R.frames = true) (hlo : Nat.ble ((rest.map fun v => v.category).sum + 12) R.locals = true) (hdg : decode cc pc = .ok (.invokespecial idx, 3))
    (kk : W p l e R s m args below meth c H locs cells slots Q (F0 m (pc + 3) ls rest)) : W p l e R s m args below meth c H locs cells slots Q (F0 m pc ls (.ref a :: rest)) :=
  W.objInit X.1.1 X.1.2.1 X.1.2.2.2.1 (X.ts hl) (X.ts wd36) (X.ts wd37) rfl (hsz.trans X.1.2.2.1.symm) rfl hdg (Nat.le_of_ble_eq_true hfr) (by have := Nat.le_of_ble_eq_true hlo; simpa [JFrame.monitorRoom] using this) kk
theorem o_new (X : CX p s m c args own cc nL ρ w0) (hS : va_S A H0 H locs) (ci : Nat) {N index : Nat} {C : String} {T : u_T} {ty : Nat → FieldType} (hc : CL[ci]? = some (C, T, N)) (hin : ∀ w ∈ u_ws C T N, w ∈ TG) (hty : ∀ k, k < N → parseFieldDescriptor (T k).2.2.1 = some (ty k)) (hl : Cond.classLink own index C ∈ TG) (hins : Cond.instantiable C N ∈ TG) (hini : Cond.initialized C ∈ TG) (hcells : cells + 1 ≤ R.cells) (hslots : slots + N ≤ R.slots) (hdg : decode cc pc = .ok (.new index, 3))
    (kk : ∀ (o : Nat) (H1 : Heap), o = H.size → t_OB o ((rD ρ).1 ci) N ((rD ρ).2 ci) H1 (fun k => defaultValue (ty k)) → H1.size = H.size + 1 → (∀ q, q < H.size → H1[q]? = H[q]?) → va_S A H0 H1 locs → W p l e R s m args below meth c H1 locs (cells + 1) (slots + N) Q (F0 m (pc + 3) ls (.ref o :: rest))) : W p l e R s m args below meth c H locs cells slots Q (F0 m pc ls rest) := by
  have hK := X.2.1.1 ci _ hc
  refine W.newcK X.1.1 X.1.2.1 X.1.2.2.2.1 (X.ts hl) (X.ts hins) (X.ts hini) rfl hdg hcells hslots hK.2.1 rfl fun H1 kC hkC hcell z oq => ?_
  exact kk H.size H1 rfl (u_born ty (fun w h => X.ts h) hin hK hkC hcell hty) z oq (hS.grow (by omega) oq)
theorem o_put (X : CX p s m c args own cc nL ρ w0) (hS0 : va_S A H0 H locs) {o ci : Nat} {N index : Nat} {C ref : String} {T : u_T} {V : Nat → Value} (ho : t_OB o ((rD ρ).1 ci) N ((rD ρ).2 ci) H V) (k : Nat) (hA : A o) (hc : CL[ci]? = some (C, T, N)) (hk : Nat.ble (k + 1) N = true) (hin : ∀ w ∈ u_ws C T N, w ∈ TG) (ty0 : Nat → FieldType) (hty : ∀ k, k < N → parseFieldDescriptor (T k).2.2.1 = some (ty0 k)) (hnm : ∀ a, a < N → ∀ b, b < N → a ≠ b → (T a).2.1 ≠ (T b).2.1) (hsame : (T k).1 = ref) (hl : Cond.fieldLink own index ref (T k).2.1 (T k).2.2.1 ∈ TG) (hfin : (T k).2.2.2 = false) {v : Value} (hnr : narrow (ty0 k) v = v) (hfit : fits (ty0 k) v = true) (hdg : decode cc pc = .ok (.putfield index, 3))
    (kk : ∀ (H1 : Heap) (locs1 : List Loc), t_OB o ((rD ρ).1 ci) N ((rD ρ).2 ci) H1 (updV V k v) → va_S A H0 H1 locs1 → H1.size = H.size → (∀ q, q ≠ o → H1[q]? = H[q]?) → W p l e R s m args below meth c H1 locs1 cells slots Q (F0 m (pc + 3) ls rest)) : W p l e R s m args below meth c H locs cells slots Q (F0 m pc ls (v :: .ref o :: rest)) := by
  have hap := g_apart X hc hin ty0 hty hnm
  obtain ⟨cell, q1, q2, q3, q4⟩ := ho
  have hk := Nat.le_of_ble_eq_true hk
  obtain ⟨hS, hfc, kC, hkC, hkind⟩ := X.2.1.1 ci _ hc
  obtain ⟨cf, kf, fi, f, hf, hsl⟩ := hS k hk
  subst hsame
  have hlay := X.ts (hin _ (u_in_lay hk))
  unfold u_lay at hlay
  rw [if_neg (by rw [hfin]; decide)] at hlay
  have hst := (u_facts hfc hkC (u_lays (fun w h => X.ts h) hin hk) hf).1
  have h6 := u_store hfc hkC hkind hlay hf (hty k hk) hnr hfit
  refine W.putK X.1.1 X.1.2.1 (f := f) ⟨X.1.2.2.2.1, X.ts hl, ⟨_, _, _, hf⟩, hst⟩ (by rw [q2]; exact h6) q1 q3 (by rw [hsl]; exact k2_hasslot (q4 k hk)) rfl rfl hdg fun H' e1 e2 e3 => ?_
  rw [hsl] at e1 ⊢
  exact kk H' _ ⟨_, e1, q2, q3, t_set q4 hap hk v⟩ (hS0.put e2 e3 hA) e2 e3
theorem o_putF (X : CX p s m c args own cc nL ρ w0) (hS0 : va_S A H0 H locs) {o ci : Nat} {N index : Nat} {C ref : String} {T : u_T} {V : Nat → Value} (ho : t_OB o ((rD ρ).1 ci) N ((rD ρ).2 ci) H V) (k : Nat) (hA : A o) (hc : CL[ci]? = some (C, T, N)) (hk : Nat.ble (k + 1) N = true) (hin : ∀ w ∈ u_ws C T N, w ∈ TG) (ty0 : Nat → FieldType) (hty : ∀ k, k < N → parseFieldDescriptor (T k).2.2.1 = some (ty0 k)) (hnm : ∀ a, a < N → ∀ b, b < N → a ≠ b → (T a).2.1 ≠ (T b).2.1) (hsame : (T k).1 = ref) (hl : Cond.fieldLink own index ref (T k).2.1 (T k).2.2.1 ∈ TG) (hfin : (T k).2.2.2 = true) (hin2 : meth.name = "<init>") (hdecl : (T k).1 = own) {v : Value} (hnr : narrow (ty0 k) v = v) (hfit : fits (ty0 k) v = true) (hdg : decode cc pc = .ok (.putfield index, 3))
    (kk : ∀ (H1 : Heap) (locs1 : List Loc), t_OB o ((rD ρ).1 ci) N ((rD ρ).2 ci) H1 (updV V k v) → va_S A H0 H1 locs1 → H1.size = H.size → (∀ q, q ≠ o → H1[q]? = H[q]?) → W p l e R s m args below meth c H1 locs1 cells slots Q (F0 m (pc + 3) ls rest)) : W p l e R s m args below meth c H locs cells slots Q (F0 m pc ls (v :: .ref o :: rest)) := by
  have hap := g_apart X hc hin ty0 hty hnm
  obtain ⟨cell, q1, q2, q3, q4⟩ := ho
  have hk := Nat.le_of_ble_eq_true hk
  obtain ⟨hS, hfc, kC, hkC, hkind⟩ := X.2.1.1 ci _ hc
  obtain ⟨cf, kf, fi, f, hf, hsl⟩ := hS k hk
  subst hsame
  have hlay := X.ts (hin _ (u_in_lay hk))
  unfold u_lay at hlay
  rw [if_pos hfin] at hlay
  have hst := (u_facts hfc hkC (u_lays (fun w h => X.ts h) hin hk) hf).1
  have hcf : m.cls = cf := by
    obtain ⟨_, _, c', _, _, _, -, -, hf', -, -, -, hown2, -⟩ := Cond.laysFinal_spec hlay
    have e1 : c' = cf := by have := hf.symm.trans hf'; simp at this; exact this.1.symm
    rw [hdecl] at hown2
    rw [← e1]; exact Option.some.inj (X.1.2.2.2.1.symm.trans hown2)
  have h6 := u_fits hfc hkC hkind (Or.inr hlay) hf (hty k hk) hnr hfit
  refine W.putFinK X.1.1 X.1.2.1 X.1.2.2.2.1 (X.ts hl) hf hst hcf hin2 (by rw [q2]; exact h6) q1 q3 (by rw [hsl]; exact k2_hasslot (q4 k hk)) rfl rfl hdg fun H' e1 e2 e3 => ?_
  rw [hsl] at e1 ⊢
  exact kk H' _ ⟨_, e1, q2, q3, t_set q4 hap hk v⟩ (hS0.put e2 e3 hA) e2 e3
theorem o_newB (X : CX p s m c args own cc nL ρ w0) (hS : va_S A H0 H locs) {n : Int32} {N : Nat} (hn : ¬ n < 0) (hN : n.toNatClampNeg = N) (hbytes : N ≤ 536870912) (hcells : cells + 1 ≤ R.cells) (hslots : slots + N ≤ R.slots) (hdg : decode cc pc = .ok (.newarray .byte, 2))
    (kk : ∀ (o : Nat) (H1 : Heap), o = H.size → H1[o]? = some (vp_cell (rA ρ 4) (N, .inl (fun _ => 0))) → H1.size = H.size + 1 → (∀ q, q < H.size → H1[q]? = H[q]?) → va_S A H0 H1 locs → W p l e R s m args below meth c H1 locs (cells + 1) (slots + N) Q (F0 m (pc + 2) ls (.ref o :: rest))) : W p l e R s m args below meth c H locs cells slots Q (F0 m pc ls (.int n :: rest)) := by
  refine va_newaK (atype := .byte) X.1.1 X.1.2.1 (X.ts wd56) rfl hdg rfl hn hN (by show N * 1 ≤ _; omega) hcells hslots rfl fun H1 cA e1 z1 o1 hAr hNm => ?_
  have hcA : cA = rA ρ 4 := Option.some.inj (hNm.symm.trans (X.2.1.2 4 _ rfl).2)
  subst hcA
  exact kk H.size H1 rfl e1 z1 o1 (hS.grow (by omega) o1)
theorem o_bst (X : CX p s m c args own cc nL ρ w0) (hS : va_S A H0 H locs) {b N : Nat} {f : Nat → Int32} (hb : H[b]? = some (vp_cell (rA ρ 4) (N, .inl f))) (hA : A b) {j x : Int32} (hin : inb j N = true) (hdg : decode cc pc = .ok (.bastore, 1))
    (kk : ∀ (H1 : Heap) (locs1 : List Loc), H1[b]? = some (vp_cell (rA ρ 4) (N, .inl (upd f j.toNatClampNeg (vp_nar .byte x)))) → va_S A H0 H1 locs1 → H1.size = H.size → (∀ q, q ≠ b → H1[q]? = H[q]?) → W p l e R s m args below meth c H1 locs1 cells slots Q (F0 m (pc + 1) ls rest)) : W p l e R s m args below meth c H locs cells slots Q (F0 m pc ls (.int x :: .int j :: .ref b :: rest)) := by
  refine W.bast X.1.1 X.1.2.1 hb ((X.2.1.2 4 _ rfl).1 N (fun j => .int (f j))) (fun q => by cases q) (by show ¬ (j < 0 ∨ (arrV _ _ _).slots.size ≤ _); rw [arrV_size]; exact inb_in hin) rfl rfl hdg fun H1 e z oq => ?_
  refine kk H1 _ ?_ (hS.put z oq hA) z oq
  rw [e]
  rw [vp_cell_i, vp_cell_i, arrV_store]
  congr 2
  funext q
  by_cases hq : q = j.toNatClampNeg
  · subst hq
    simp [updV, upd, vp_nar]
    try rfl
  · simp [updV, upd, hq]
theorem o_bld (X : CX p s m c args own cc nL ρ w0) {b N : Nat} {f : Nat → Int32} (hb : H[b]? = some (vp_cell (rA ρ 4) (N, .inl f))) {j : Int32} (hin : inb j N = true) (hdg : decode cc pc = .ok (.baload, 1))
    (kk : W p l e R s m args below meth c H locs cells slots Q (F0 m (pc + 1) ls (.int (f j.toNatClampNeg) :: rest))) : W p l e R s m args below meth c H locs cells slots Q (F0 m pc ls (.int j :: .ref b :: rest)) := by
  have hlt : j.toNatClampNeg < N := Nat.not_le.mp fun q => inb_in hin (Or.inr q)
  exact W.bald (v := .int (f j.toNatClampNeg)) X.1.1 X.1.2.1 hb ((X.2.1.2 4 _ rfl).1 N (fun j => .int (f j))) (fun q => by cases q) (by show ¬ (j < 0 ∨ (arrV _ _ _).slots.size ≤ _); rw [arrV_size]; exact inb_in hin) (by show (arrV _ _ _).slots[_]? = _; rw [arrV_read _ _ hlt]) rfl rfl hdg kk
theorem o_blen (X : CX p s m c args own cc nL ρ w0) {b N : Nat} {f : Nat → Int32} (hb : H[b]? = some (vp_cell (rA ρ 4) (N, .inl f))) (hdg : decode cc pc = .ok (.arraylength, 1))
    (kk : W p l e R s m args below meth c H locs cells slots Q (F0 m (pc + 1) ls (.int (nI N) :: rest))) : W p l e R s m args below meth c H locs cells slots Q (F0 m pc ls (.ref b :: rest)) :=
  W.alen X.1.1 X.1.2.1 hb ((X.2.1.2 4 _ rfl).1 N (fun j => .int (f j))) (by show (arrV _ _ _).slots.size.toInt32 = _; rw [arrV_size]; rfl) rfl rfl hdg kk
theorem o_getf (X : CX p s m c args own cc nL ρ w0) {o ci N index : Nat} {C ref : String} {T : u_T} {V : Nat → Value} (ho : t_OB o ((rD ρ).1 ci) N ((rD ρ).2 ci) H V) (k : Nat) {v : Value} (hv : V k = v) (hc : CL[ci]? = some (C, T, N)) (hk : Nat.ble (k + 1) N = true) (hin : ∀ w ∈ u_ws C T N, w ∈ TG) (hsame : (T k).1 = ref) (hl : Cond.fieldLink own index ref (T k).2.1 (T k).2.2.1 ∈ TG) (hdg : decode cc pc = .ok (.getfield index, 3))
    (kk : W p l e R s m args below meth c H locs cells slots Q (F0 m (pc + 3) ls (v :: rest))) : W p l e R s m args below meth c H locs cells slots Q (F0 m pc ls (.ref o :: rest)) := by
  obtain ⟨cell, q1, q2, q3, q4⟩ := ho
  exact o_getc X ci k hc hk hin hsame hl q1 (by rw [q3]; exact fun h => by cases h) (by rw [q4 k (Nat.le_of_ble_eq_true hk), hv]) hdg kk
theorem Y_of (hr : rB ρ (rA ρ 4) = 1) {b : Nat} {t : TT} {f : Nat → Int32} (hb : H[b]? = some (vp_cell (rA ρ 4) (t.length, .inl f))) (hf : ∀ j, j < t.length → f j = sb_b (t.getD j 0)) (ht : ∀ c ∈ t, c < 256) (hl : t.length < 2 ^ 31) (hP : ¬ P b) : isY ρ P H b t :=
  ⟨_, hb, hr, (fun q => by cases q), (fun k q => by cases q), by show _ ≤ (arrV _ _ _).slots.size; rw [arrV_size]; exact Nat.le_refl _, by show (arrV _ _ _).slots.size.toInt32 = _; rw [arrV_size]; rfl, fun j hj => by show (arrV _ _ _).slots[_]? = _; rw [arrV_read _ _ hj, hf j hj], ht, hl, hP⟩
theorem S_of {a b : Nat} {t : TT} {V : Nat → Value} (ho : t_OB a ((rD ρ).1 11) 4 ((rD ρ).2 11) H V) (h0 : V 0 = .ref b) (h1 : V 1 = .int 0) (hY : isY ρ P H b t) (hP : ¬ P a) : isS ρ P H a t := by
  obtain ⟨cell, q1, q2, q3, q4⟩ := ho
  exact ⟨b, cell, q1, q2, by rw [q3]; rfl, (by rw [q3]; exact fun h => by cases h), by rw [q4 0 (by decide), h0], by rw [q4 1 (by decide), h1], hY, hP⟩
theorem S_recv (X : CX p s m c args own cc nL ρ w0) {a ci : Nat} {q : vw_C} {V : Nat → Value} {N : Nat} (ho : t_OB a ((rD ρ).1 ci) N ((rD ρ).2 ci) H V) (hc : CL[ci]? = some q) : Rcv s H a q.1 := by
  obtain ⟨cell, q1, q2, q3, q4⟩ := ho
  obtain ⟨-, hfc, -⟩ := X.2.1.1 ci _ hc
  exact ⟨cell, q1, by rw [q3]; rfl, by rw [q2]; exact hfc⟩
end J3
theorem kp_new {H H1 : Heap} {n : Nat} (z : H1.size = H.size + n) (oq : ∀ q, q < H.size → H1[q]? = H[q]?) : kp no H H1 := ⟨by omega, fun q hq _ => oq q hq⟩
theorem sb_eq_next {t u : TT} {k : Nat} (hk : k < t.length) (hk2 : k < u.length) (h : t.take k = u.take k) (hc : t.getD k 0 = u.getD k 0) : t.take (k + 1) = u.take (k + 1) := by
  rw [take_succ_getD hk, take_succ_getD hk2, h, hc]
theorem sb_eq_no {t u : TT} {k : Nat} (hc : ¬ t.getD k 0 = u.getD k 0) : ¬ t = u := fun e => hc (by rw [e])
theorem sb_eq_all {t u : TT} (hl : t.length = u.length) (h : t.take t.length = u.take t.length) : t = u := by
  rw [List.take_length] at h
  rw [h, hl, List.take_length]
abbrev b311 : ByteArray := prog_25_method_13_code
theorem d311_0 : decode b311 0 = .ok ((.aload_n 0), 1) := by decide +kernel
theorem d311_1 : decode b311 1 = .ok (.arraylength, 1) := by decide +kernel
theorem d311_2 : decode b311 2 = .ok ((.aload_n 1), 1) := by decide +kernel
theorem d311_3 : decode b311 3 = .ok (.arraylength, 1) := by decide +kernel
theorem d311_4 : decode b311 4 = .ok ((.if_icmp .ne 30), 3) := by decide +kernel
theorem d311_7 : decode b311 7 = .ok ((.iconst 0), 1) := by decide +kernel
theorem d311_8 : decode b311 8 = .ok ((.istore_n 2), 1) := by decide +kernel
theorem d311_9 : decode b311 9 = .ok ((.iload_n 2), 1) := by decide +kernel
theorem d311_10 : decode b311 10 = .ok ((.aload_n 0), 1) := by decide +kernel
theorem d311_11 : decode b311 11 = .ok (.arraylength, 1) := by decide +kernel
theorem d311_12 : decode b311 12 = .ok ((.if_icmp .ge 20), 3) := by decide +kernel
theorem d311_15 : decode b311 15 = .ok ((.aload_n 0), 1) := by decide +kernel
theorem d311_16 : decode b311 16 = .ok ((.iload_n 2), 1) := by decide +kernel
theorem d311_17 : decode b311 17 = .ok (.baload, 1) := by decide +kernel
theorem d311_18 : decode b311 18 = .ok ((.aload_n 1), 1) := by decide +kernel
theorem d311_19 : decode b311 19 = .ok ((.iload_n 2), 1) := by decide +kernel
theorem d311_20 : decode b311 20 = .ok (.baload, 1) := by decide +kernel
theorem d311_21 : decode b311 21 = .ok ((.if_icmp .eq 5), 3) := by decide +kernel
theorem d311_24 : decode b311 24 = .ok ((.iconst 0), 1) := by decide +kernel
theorem d311_25 : decode b311 25 = .ok (.ireturn, 1) := by decide +kernel
theorem d311_26 : decode b311 26 = .ok ((.iinc 2 1), 3) := by decide +kernel
theorem d311_29 : decode b311 29 = .ok ((.goto (-20)), 3) := by decide +kernel
theorem d311_32 : decode b311 32 = .ok ((.iconst 1), 1) := by decide +kernel
theorem d311_33 : decode b311 33 = .ok (.ireturn, 1) := by decide +kernel
theorem d311_34 : decode b311 34 = .ok ((.iconst 0), 1) := by decide +kernel
theorem d311_35 : decode b311 35 = .ok (.ireturn, 1) := by decide +kernel
set_option maxHeartbeats 1000000 in
theorem c_j_leq (l : Launch) (ρ : RH) (H : Heap) (P : Nat → Prop) (b b2 : Nat) (t u : TT) (hC : CC ρ P H) (hPb : ∀ q, P q → q < H.size) (hY : isY ρ P H b t) (hU : isY ρ P H b2 u) : Met l y311 (wsOf y311 b311 3 (some .boolean)) ({ frames := 0, cells := 0, slots := 0, locals := 0 } : Room) (va_Pc [.ref b, .ref b2] (KP ρ H)) (mQ (fun v H1 => v = some (.int (if t = u then 1 else 0)) ∧ H1 = H) (fun _ => False)) 0 0 (fun _ => False) := by
  refine m_ofW (own := "java/lang/StringLatin1") (plainFor_of_name rfl) rfl (Nat.le_of_ble_eq_true rfl) fun p e s m args below meth c ls hx hb hr hlk hmn X hs0 hl => ?_
  subst hs0
  have hS : va_S (fun _ => False) s.heap s.heap [] := va_S.rf
  have hl : lv_has ls 3 [(0, .ref b), (1, .ref b2)] := hl
  refine lv_aload_n (pc := 0) hx hb d311_0 rfl (lv_at hl 0 rfl) ?_
  refine y_len (pc := 1) X hY d311_1 ?_
  refine lv_aload_n (pc := 2) hx hb d311_2 rfl (lv_at hl 1 rfl) ?_
  refine y_len (pc := 3) X hU d311_3 ?_
  have hb31 := hY.ok.2
  have hu31 := hU.ok.2
  refine lv_icmp_ne (pc := 4) (tgt := 34) hx hb d311_4 (by decide) (fun z4 => ?_) (fun z4 => ?_)
  · skip
    refine lv_iconst (pc := 34) (v := 0) hx hb d311_34 (by decide) ?_
    exact m_zret (pc := 35) hx hb hr hlk hS ⟨by rw [if_neg (fun e => z4 (by rw [e]))], rfl⟩ (Nat.le_refl _) (Nat.le_refl _) d311_35 (by decide)
  · skip
    have hlen : t.length = u.length := (nI_eq hb31 hu31).mp z4
    refine lv_iconst (pc := 7) (v := 0) hx hb d311_7 (by decide) ?_
    refine lv_istore_n (pc := 8) (lv' := [(2, .int 0), (0, .ref b), (1, .ref b2)]) hx hb d311_8 rfl hl (by decide) rfl (fun ls hl => ?_)
    have key : ∀ (n k : Nat) (locs : List Loc) (ls : Array Slot), va_S (fun _ => False) s.heap s.heap locs → t.length - k = n → k ≤ t.length → t.take k = u.take k → lv_has ls 3 [(2, .int (nI k)), (0, .ref b), (1, .ref b2)] → W p l e ({ frames := 0, cells := 0, slots := 0, locals := 0 } : Room) s m args below meth c s.heap locs 0 0 (MQ below (mQ (fun v H1 => v = some (.int (if t = u then 1 else 0)) ∧ H1 = s.heap) (fun _ => False)) args s 0 0 (fun _ => False)) (F0 m 9 ls []) := by
      intro n
      induction n with
      | zero =>
        intro k locs ls hS hn hk hc hl
        obtain rfl : k = t.length := by omega
        refine lv_iload_n (pc := 9) hx hb d311_9 rfl (lv_at hl 0 rfl) ?_
        refine lv_aload_n (pc := 10) hx hb d311_10 rfl (lv_at hl 1 rfl) ?_
        refine y_len (pc := 11) X hY d311_11 ?_
        refine lv_icmp_ge (pc := 12) (tgt := 32) hx hb d311_12 (by decide) (fun zbr => ?_) (fun zbr => absurd (Int32.le_refl _) zbr)
        refine lv_iconst (pc := 32) (v := 1) hx hb d311_32 (by decide) ?_
        exact m_zret (pc := 33) hx hb hr hlk hS ⟨by rw [if_pos (sb_eq_all hlen hc)], rfl⟩ (Nat.le_refl _) (Nat.le_refl _) d311_33 (by decide)
      | succ n ih =>
        intro k locs ls hS hn hk hc hl
        have hk1 : k < t.length := by omega
        have hk2 : k < u.length := by omega
        refine lv_iload_n (pc := 9) hx hb d311_9 rfl (lv_at hl 0 rfl) ?_
        refine lv_aload_n (pc := 10) hx hb d311_10 rfl (lv_at hl 1 rfl) ?_
        refine y_len (pc := 11) X hY d311_11 ?_
        refine lv_icmp_ge (pc := 12) (tgt := 32) hx hb d311_12 (by decide) (fun zbr => absurd zbr (fun z => absurd (nI_lt hk1 hb31) (Int32.not_lt.mpr z))) (fun zbr => ?_)
        refine lv_aload_n (pc := 15) hx hb d311_15 rfl (lv_at hl 1 rfl) ?_
        refine lv_iload_n (pc := 16) hx hb d311_16 rfl (lv_at hl 0 rfl) ?_
        refine y_ld (pc := 17) X hY (inb_of hk1 hb31) d311_17 ?_
        refine nm_i (y := sb_b (t.getD k 0)) (by rw [nI_clamp (by omega)]) ?_
        refine lv_aload_n (pc := 18) hx hb d311_18 rfl (lv_at hl 2 rfl) ?_
        refine lv_iload_n (pc := 19) hx hb d311_19 rfl (lv_at hl 0 rfl) ?_
        refine y_ld (pc := 20) X hU (inb_of hk2 hu31) d311_20 ?_
        refine nm_i (y := sb_b (u.getD k 0)) (by rw [nI_clamp (by omega)]) ?_
        refine lv_icmp_eq (pc := 21) (tgt := 26) hx hb d311_21 (by decide) (fun z21 => ?_) (fun z21 => ?_)
        · skip
          refine lv_iinc (pc := 26) (v := nI (k + 1)) (lv' := [(2, .int (nI (k + 1))), (0, .ref b), (1, .ref b2)]) hx hb d311_26 hl (k := 0) rfl ((nI_succ k).symm) (by decide) rfl (fun ls hl => ?_)
          refine lv_goto (pc := 29) (tgt := 9) hx hb d311_29 (by decide) ?_
          exact ih (k + 1) _ _ hS (by omega) hk1 (sb_eq_next hk1 hk2 hc ((j_inj (TT_lt hY.ok.1 k) (TT_lt hU.ok.1 k)).mp z21)) (lv_sub hl [0, 1, 2] rfl)
        · skip
          refine lv_iconst (pc := 24) (v := 0) hx hb d311_24 (by decide) ?_
          exact m_zret (pc := 25) hx hb hr hlk hS ⟨by rw [if_neg (sb_eq_no (fun z => z21 ((j_inj (TT_lt hY.ok.1 k) (TT_lt hU.ok.1 k)).mpr z)))], rfl⟩ (Nat.le_refl _) (Nat.le_refl _) d311_25 (by decide)
    exact key t.length 0 _ _ hS rfl (Nat.zero_le _) (by simp) (lv_sub hl [0, 1, 2] rfl)
theorem isY_same {ρ : RH} {P : Nat → Prop} {H : Heap} {b : Nat} {t u : TT} (h1 : isY ρ P H b t) (h2 : isY ρ P H b u) : t = u := by
  obtain ⟨ca, g1, g2, g3, g4, g5, g6, g7, g8, g9, g10⟩ := h1
  obtain ⟨cb, k1, k2, k3, k4, k5, k6, k7, k8, k9, k10⟩ := h2
  obtain rfl := Option.some.inj (g1.symm.trans k1)
  have hl : t.length = u.length := (nI_eq g9 k9).mp (g6.symm.trans k6)
  refine List.ext_getElem? fun j => ?_
  by_cases hj : j < t.length
  · have e1 := (g7 j hj).symm.trans (k7 j (by omega))
    have e2 := (j_inj (TT_lt g8 j) (TT_lt k8 j)).mp (by injection (Option.some.inj e1))
    rw [List.getD_eq_getElem?_getD, List.getD_eq_getElem?_getD, List.getElem?_eq_getElem hj, List.getElem?_eq_getElem (by omega)] at e2
    rw [List.getElem?_eq_getElem hj, List.getElem?_eq_getElem (by omega)]
    exact congrArg some e2
  · rw [List.getElem?_eq_none (by omega), List.getElem?_eq_none (by omega)]
theorem isR_same {ρ : RH} {P : Nat → Prop} {H : Heap} {a b b2 : Nat} {t u : TT} (h1 : isR ρ H a b) (h2 : isR ρ H a b2) (hY : isY ρ P H b t) (hU : isY ρ P H b2 u) : t = u := by
  obtain ⟨cs, g1, -, -, -, g5, -⟩ := h1
  obtain ⟨cs2, k1, -, -, -, k5, -⟩ := h2
  obtain rfl := Option.some.inj (g1.symm.trans k1)
  have e := Option.some.inj (g5.symm.trans k5)
  injection e with e
  subst e
  exact isY_same hY hU
theorem d293_0 : decode b293 0 = .ok ((.aload_n 0), 1) := by decide +kernel
theorem d293_1 : decode b293 1 = .ok ((.aload_n 1), 1) := by decide +kernel
theorem d293_2 : decode b293 2 = .ok ((.if_acmp .ne 5), 3) := by decide +kernel
theorem d293_5 : decode b293 5 = .ok ((.iconst 1), 1) := by decide +kernel
theorem d293_6 : decode b293 6 = .ok (.ireturn, 1) := by decide +kernel
theorem d293_7 : decode b293 7 = .ok ((.aload_n 1), 1) := by decide +kernel
theorem d293_8 : decode b293 8 = .ok ((.instanceof 10), 3) := by decide +kernel
theorem d293_11 : decode b293 11 = .ok ((.ifCond .eq 43), 3) := by decide +kernel
theorem d293_14 : decode b293 14 = .ok ((.aload_n 1), 1) := by decide +kernel
theorem d293_15 : decode b293 15 = .ok ((.checkcast 10), 3) := by decide +kernel
theorem d293_18 : decode b293 18 = .ok ((.astore_n 2), 1) := by decide +kernel
theorem d293_19 : decode b293 19 = .ok ((.getstatic 38), 3) := by decide +kernel
theorem d293_22 : decode b293 22 = .ok ((.ifCond .eq 14), 3) := by decide +kernel
theorem d293_25 : decode b293 25 = .ok ((.aload_n 0), 1) := by decide +kernel
theorem d293_26 : decode b293 26 = .ok ((.getfield 15), 3) := by decide +kernel
theorem d293_29 : decode b293 29 = .ok ((.aload_n 2), 1) := by decide +kernel
theorem d293_30 : decode b293 30 = .ok ((.getfield 15), 3) := by decide +kernel
theorem d293_33 : decode b293 33 = .ok ((.if_icmp .ne 21), 3) := by decide +kernel
theorem d293_36 : decode b293 36 = .ok ((.aload_n 0), 1) := by decide +kernel
theorem d293_37 : decode b293 37 = .ok ((.getfield 9), 3) := by decide +kernel
theorem d293_40 : decode b293 40 = .ok ((.aload_n 2), 1) := by decide +kernel
theorem d293_41 : decode b293 41 = .ok ((.getfield 9), 3) := by decide +kernel
theorem d293_44 : decode b293 44 = .ok ((.invokestatic 541), 3) := by decide +kernel
theorem d293_47 : decode b293 47 = .ok ((.ifCond .eq 7), 3) := by decide +kernel
theorem d293_50 : decode b293 50 = .ok ((.iconst 1), 1) := by decide +kernel
theorem d293_51 : decode b293 51 = .ok ((.goto 4), 3) := by decide +kernel
theorem d293_54 : decode b293 54 = .ok ((.iconst 0), 1) := by decide +kernel
theorem d293_55 : decode b293 55 = .ok (.ireturn, 1) := by decide +kernel
set_option maxHeartbeats 1000000 in
theorem c_js_equals (l : Launch) (ρ : RH) (H : Heap) (P : Nat → Prop) (a : Nat) (t : TT) (ap0 : Nat) (p0 : TT) (res : Int32) (hC : CC ρ P H) (hPb : ∀ q, P q → q < H.size) (hs : isS ρ P H a t) (hp0 : isS ρ P H ap0 p0) (h : f_js_equals t p0 = some res) : Met l y293 (wsOf y293 b293 3 (some .boolean)) ({ frames := 12, cells := 0, slots := 0, locals := 600 } : Room) (va_Pc [.ref a, .ref ap0] (KP ρ H)) (mQ (fun v H1 => v = some (.int res) ∧ H1 = H) (fun _ => False)) 0 0 (fun _ => False) := by
  obtain ⟨b, hR, hY⟩ := hs.cut
  obtain ⟨b2, hR2, hU⟩ := hp0.cut
  obtain rfl := Option.some.inj h
  refine m_ofW (own := "java/lang/String") (plainFor_of_name rfl) rfl (Nat.le_of_ble_eq_true rfl) fun p e s m args below meth c ls hx hb hr hlk hmn X hs0 hl => ?_
  subst hs0
  have hS : va_S (fun _ => False) s.heap s.heap [] := va_S.rf
  have hl : lv_has ls 3 [(0, .ref a), (1, .ref ap0)] := hl
  refine lv_aload_n (pc := 0) hx hb d293_0 rfl (lv_at hl 0 rfl) ?_
  refine lv_aload_n (pc := 1) hx hb d293_1 rfl (lv_at hl 1 rfl) ?_
  refine lv_acmp_ne (pc := 2) (tgt := 7) (rx := some a) (ry := some ap0) hx hb d293_2 (by decide) (fun z2 => ?_) (fun z2 => ?_)
  · skip
    refine lv_aload_n (pc := 7) hx hb d293_7 rfl (lv_at hl 1 rfl) ?_
    refine va_instE (pc := 8) hx hb X.1.2.2.2.1 (X.ts wd1069) (r_recv X hR2) d293_8 ?_
    refine lv_if_eq (pc := 11) (tgt := 54) hx hb d293_11 (by decide) (fun zbr => absurd zbr (by decide)) (fun zbr => ?_)
    refine lv_aload_n (pc := 14) hx hb d293_14 rfl (lv_at hl 1 rfl) ?_
    refine va_castE (pc := 15) hx hb X.1.2.2.2.1 (X.ts wd1069) (r_recv X hR2) d293_15 ?_
    refine lv_astore_n (pc := 18) (lv' := [(2, .ref ap0), (0, .ref a), (1, .ref ap0)]) hx hb d293_18 rfl hl (by decide) rfl (fun ls hl => ?_)
    refine c_gets (pc := 19) X 0 (hC.2.1 0 1 rfl) rfl rfl wd543 d293_19 ?_
    refine lv_if_eq (pc := 22) (tgt := 36) hx hb d293_22 (by decide) (fun zbr => absurd zbr (by decide)) (fun zbr => ?_)
    refine lv_aload_n (pc := 25) hx hb d293_25 rfl (lv_at hl 1 rfl) ?_
    refine s_cod (pc := 26) X hR wd599 d293_26 ?_
    refine lv_aload_n (pc := 29) hx hb d293_29 rfl (lv_at hl 0 rfl) ?_
    refine s_cod (pc := 30) X hR2 wd599 d293_30 ?_
    refine lv_icmp_ne (pc := 33) (tgt := 54) hx hb d293_33 (by decide) (fun zbr => absurd zbr (by decide)) (fun zbr => ?_)
    refine lv_aload_n (pc := 36) hx hb d293_36 rfl (lv_at hl 1 rfl) ?_
    refine s_val (pc := 37) X hR wd598 d293_37 ?_
    refine lv_aload_n (pc := 40) hx hb d293_40 rfl (lv_at hl 0 rfl) ?_
    refine s_val (pc := 41) X hR2 wd598 d293_41 ?_
    refine k_callS (pc := 44) (n := 2) X hS (c_j_leq l ρ _ P b b2 t p0 hC hPb hY hU) wd1072 wd1070 wd1071 wd20 (by decide) ⟨rfl, rfl, Nat.le_of_ble_eq_true rfl, Nat.le_of_ble_eq_true rfl⟩ (As := [.ref b, .ref b2]) (rest := []) rfl rfl hl.1 (Nat.le_of_ble_eq_true rfl) d293_44 ⟨Nat.le_refl _, Nat.le_refl _⟩ (fun q hq => hq.elim) (fun v H1 locs1 hv hz1 hz2 hS => ?_)
    obtain ⟨rfl, hv2⟩ := hv
    have hv3 := hv2.symm
    clear hv2
    subst hv3
    refine lv_if_eq (pc := 47) (tgt := 54) hx hb d293_47 (by decide) (fun z47 => ?_) (fun z47 => ?_)
    · skip
      refine lv_iconst (pc := 54) (v := 0) hx hb d293_54 (by decide) ?_
      exact m_zret (pc := 55) hx hb hr hlk hS ⟨by rw [if_neg (fun e => absurd z47 (by rw [if_pos e]; decide))], rfl⟩ (Nat.le_refl _) (Nat.le_refl _) d293_55 (by decide)
    · skip
      refine lv_iconst (pc := 50) (v := 1) hx hb d293_50 (by decide) ?_
      refine lv_goto (pc := 51) (tgt := 55) hx hb d293_51 (by decide) ?_
      exact m_zret (pc := 55) hx hb hr hlk hS ⟨by rw [if_pos (Decidable.byContradiction fun e => z47 (by rw [if_neg e]))], rfl⟩ (Nat.le_refl _) (Nat.le_refl _) d293_55 (by decide)
  · obtain rfl := Option.some.inj z2
    have hte : t = p0 := isR_same hR hR2 hY hU
    refine lv_iconst (pc := 5) (v := 1) hx hb d293_5 (by decide) ?_
    exact m_zret (pc := 6) hx hb hr hlk hS ⟨by rw [if_pos hte], rfl⟩ (Nat.le_refl _) (Nat.le_refl _) d293_6 (by decide)
abbrev b129 : ByteArray := prog_11_method_1_code
theorem d129_0 : decode b129 0 = .ok ((.aload_n 0), 1) := by decide +kernel
theorem d129_1 : decode b129 1 = .ok ((.invokespecial 3), 3) := by decide +kernel
theorem d129_4 : decode b129 4 = .ok ((.aload_n 0), 1) := by decide +kernel
theorem d129_5 : decode b129 5 = .ok ((.iload_n 1), 1) := by decide +kernel
theorem d129_6 : decode b129 6 = .ok ((.putfield 9), 3) := by decide +kernel
theorem d129_9 : decode b129 9 = .ok ((.aload_n 0), 1) := by decide +kernel
theorem d129_10 : decode b129 10 = .ok ((.dload_n 2), 1) := by decide +kernel
theorem d129_11 : decode b129 11 = .ok ((.putfield 15), 3) := by decide +kernel
theorem d129_14 : decode b129 14 = .ok ((.aload_n 0), 1) := by decide +kernel
theorem d129_15 : decode b129 15 = .ok ((.aload 4), 2) := by decide +kernel
theorem d129_17 : decode b129 17 = .ok ((.putfield 19), 3) := by decide +kernel
theorem d129_20 : decode b129 20 = .ok (.return_, 1) := by decide +kernel
set_option maxHeartbeats 1000000 in
theorem c_v_init (l : Launch) (ρ : RH) (H : Heap) (P : Nat → Prop) (o : Nat) (V0 : Nat → Value) (k : Int32) (d : UInt64) (t : TT) (x : Nat) (hC : CC ρ P H) (hPb : ∀ q, P q → q < H.size) (ho : t_OB o ((rD ρ).1 1) 3 ((rD ρ).2 1) H V0) : Met l y129 (wsOf y129 b129 5 none) ({ frames := 1, cells := 0, slots := 0, locals := 12 } : Room) (va_Pc [.ref o, .int k, .double d, .ref x] (KP ρ H)) (mQ (fun v H1 => v = none ∧ t_OB o ((rD ρ).1 1) 3 ((rD ρ).2 1) H1 (vF (k, d, t) x)) (fun q => q = o)) 0 0 (fun q => q = o) := by
  refine m_ofW (own := "WordFunctions$Value") (plainFor_of_name rfl) rfl (Nat.le_of_ble_eq_true rfl) fun p e s m args below meth c ls hx hb hr hlk hmn X hs0 hl => ?_
  subst hs0
  have hS : va_S (fun q => q = o) s.heap s.heap [] := va_S.rf
  have hl : lv_has ls 5 [(0, .ref o), (1, .int k), (2, .double d), (4, .ref x)] := hl
  refine lv_aload_n (pc := 0) hx hb d129_0 rfl (lv_at hl 0 rfl) ?_
  refine o_oini (pc := 1) X wd74 hl.1 rfl rfl d129_1 ?_
  refine lv_aload_n (pc := 4) hx hb d129_4 rfl (lv_at hl 0 rfl) ?_
  refine lv_iload_n (pc := 5) hx hb d129_5 rfl (lv_at hl 1 rfl) ?_
  refine o_putF (pc := 6) X hS ho 0 rfl rfl rfl tin1 ty1 tyo1 tnm1 rfl wd75 rfl hmn rfl rfl rfl d129_6 (fun H1 locs1 ho1 hS hz hq => ?_)
  have ho := ho1
  refine lv_aload_n (pc := 9) hx hb d129_9 rfl (lv_at hl 0 rfl) ?_
  refine lv_dload_n (pc := 10) hx hb d129_10 rfl (lv_at hl 2 rfl) ?_
  refine o_putF (pc := 11) X hS ho 1 rfl rfl rfl tin1 ty1 tyo1 tnm1 rfl wd81 rfl hmn rfl rfl rfl d129_11 (fun H1 locs1 ho1 hS hz hq => ?_)
  have ho := ho1
  refine lv_aload_n (pc := 14) hx hb d129_14 rfl (lv_at hl 0 rfl) ?_
  refine lv_aload (pc := 15) hx hb d129_15 (lv_at hl 3 rfl) ?_
  refine o_putF (pc := 17) X hS ho 2 rfl rfl rfl tin1 ty1 tyo1 tnm1 rfl wd87 rfl hmn rfl rfl rfl d129_17 (fun H1 locs1 ho1 hS hz hq => ?_)
  have ho := ho1
  exact m_vret (pc := 20) hx hb hr hlk hS ⟨rfl, ho.to (fun j hj => by rcases j with _ | _ | _ | j <;> first | rfl | omega)⟩ (Nat.le_refl _) (Nat.le_refl _) d129_20
theorem isS_new2 {ρ : RH} {P : Nat → Prop} {H H1 H2 : Heap} {x o : Nat} {t : TT} (h1 : kp no H H1) (h2 : kp (fun q => q = o) H1 H2) (ho : o = H.size) (h : isS ρ P H x t) : isS ρ P H2 x t :=
  h.keep ((h1.wk (Z' := fun q => q = o) (fun _ _ z => z.elim)).tr h2) (fun q hq e => by omega)
theorem d130_0 : decode b130 0 = .ok ((.new 10), 3) := by decide +kernel
theorem d130_3 : decode b130 3 = .ok (.dup, 1) := by decide +kernel
theorem d130_4 : decode b130 4 = .ok ((.iconst 0), 1) := by decide +kernel
theorem d130_5 : decode b130 5 = .ok ((.dconst 0), 1) := by decide +kernel
theorem d130_6 : decode b130 6 = .ok ((.ldc 23), 2) := by decide +kernel
theorem d130_8 : decode b130 8 = .ok ((.invokespecial 25), 3) := by decide +kernel
theorem d130_11 : decode b130 11 = .ok (.areturn, 1) := by decide +kernel
set_option maxHeartbeats 1000000 in
theorem c_vl_ofEmpty (l : Launch) (ρ : RH) (H : Heap) (P : Nat → Prop) (res : VV × Nat × Nat) (hC : CC ρ P H) (hPb : ∀ q, P q → q < H.size) (h : f_vl_ofEmpty = some res) : Met l y130 (wsOf y130 b130 0 (some (.object "WordFunctions$Value"))) ({ frames := 12, cells := res.2.1, slots := res.2.2, locals := 600 } : Room) (va_Pc [] (KP ρ H)) (mQ (fun v H1 => ∃ x : Nat, v = some (.ref x) ∧ isV ρ P H1 x res.1) (fun q => H.size ≤ q)) res.2.1 res.2.2 (fun q => H.size ≤ q) := by
  obtain rfl := Option.some.inj h
  refine m_ofW (own := "WordFunctions$Value") (plainFor_of_name rfl) rfl (Nat.le_of_ble_eq_true rfl) fun p e s m args below meth c ls hx hb hr hlk hmn X hs0 hl => ?_
  subst hs0
  have hS : va_S (fun q => s.heap.size ≤ q) s.heap s.heap [] := va_S.rf
  have hl : lv_has ls 0 [] := hl
  refine o_new (pc := 0) X hS 1 rfl tin1 tyo1 wd68 wd69 wd4 (Nat.le_of_ble_eq_true rfl) (Nat.le_of_ble_eq_true rfl) d130_0 (fun o H1 ho0 ho hz hq hS => ?_)
  have hkn := kp_new hz hq
  have hPo : ¬ P o := fun z => by have := hPb _ z; omega
  have hC1 := hC.keep hkn no_hz
  have hPb1 : ∀ q, P q → q < H1.size := fun q z => hkn.lt (hPb q z)
  refine lv_dup (pc := 3) hx hb d130_3 rfl ?_
  refine lv_iconst (pc := 4) (v := 0) hx hb d130_4 (by decide) ?_
  have hS0 : s.heap.size ≤ s.heap.size := Nat.le_refl _
  refine lv_dconst0 (pc := 5) hx hb d130_5 ?_
  refine c_ldcS (pc := 6) (t := []) X hC1 1 rfl rfl d130_6 (fun hp1 => ?_)
  refine k_callI (pc := 8) (n := 3) X hS (c_v_init l ρ _ P o _ 0 FP.dconst0 [] (rS ρ 1) hC1 hPb1 ho) wd73 wd71 wd72 rfl wd4 (by decide) ⟨rfl, rfl, Nat.le_of_ble_eq_true rfl, Nat.le_of_ble_eq_true rfl⟩ (As := [.int 0, .double FP.dconst0, .ref (rS ρ 1)]) (rest := [.ref o]) rfl rfl hl.1 (Nat.le_of_ble_eq_true rfl) d130_8 ⟨Nat.le_of_ble_eq_true rfl, Nat.le_of_ble_eq_true rfl⟩ (fun q hq => by rw [hq, ho0]; exact hS0) (fun v H2 locs1 hv hz2 hq2 hS => ?_)
  obtain ⟨rfl, ho⟩ := hv
  have hk2 : kp (fun q => q = o) H1 H2 := ⟨hz2, hq2⟩
  have hp2 := isS_new2 hkn hk2 ho0 (hC.1 1 [] rfl)
  exact m_aret (pc := 11) hx hb hr (Or.inl ⟨_, rfl⟩) hlk hS ⟨o, rfl, (rS ρ 1), ho, hp2, hPo⟩ (Nat.le_of_ble_eq_true rfl) (Nat.le_of_ble_eq_true rfl) d130_11
theorem d132_0 : decode b132 0 = .ok ((.new 10), 3) := by decide +kernel
theorem d132_3 : decode b132 3 = .ok (.dup, 1) := by decide +kernel
theorem d132_4 : decode b132 4 = .ok ((.iconst 1), 1) := by decide +kernel
theorem d132_5 : decode b132 5 = .ok ((.dload_n 0), 1) := by decide +kernel
theorem d132_6 : decode b132 6 = .ok ((.ldc 23), 2) := by decide +kernel
theorem d132_8 : decode b132 8 = .ok ((.invokespecial 25), 3) := by decide +kernel
theorem d132_11 : decode b132 11 = .ok (.areturn, 1) := by decide +kernel
set_option maxHeartbeats 1000000 in
theorem c_vl_ofNumber (l : Launch) (ρ : RH) (H : Heap) (P : Nat → Prop) (p0 : UInt64) (res : VV × Nat × Nat) (hC : CC ρ P H) (hPb : ∀ q, P q → q < H.size) (h : f_vl_ofNumber p0 = some res) : Met l y132 (wsOf y132 b132 2 (some (.object "WordFunctions$Value"))) ({ frames := 12, cells := res.2.1, slots := res.2.2, locals := 600 } : Room) (va_Pc [.double p0] (KP ρ H)) (mQ (fun v H1 => ∃ x : Nat, v = some (.ref x) ∧ isV ρ P H1 x res.1) (fun q => H.size ≤ q)) res.2.1 res.2.2 (fun q => H.size ≤ q) := by
  obtain rfl := Option.some.inj h
  refine m_ofW (own := "WordFunctions$Value") (plainFor_of_name rfl) rfl (Nat.le_of_ble_eq_true rfl) fun p e s m args below meth c ls hx hb hr hlk hmn X hs0 hl => ?_
  subst hs0
  have hS : va_S (fun q => s.heap.size ≤ q) s.heap s.heap [] := va_S.rf
  have hl : lv_has ls 2 [(0, .double p0)] := hl
  refine o_new (pc := 0) X hS 1 rfl tin1 tyo1 wd68 wd69 wd4 (Nat.le_of_ble_eq_true rfl) (Nat.le_of_ble_eq_true rfl) d132_0 (fun o H1 ho0 ho hz hq hS => ?_)
  have hkn := kp_new hz hq
  have hPo : ¬ P o := fun z => by have := hPb _ z; omega
  have hC1 := hC.keep hkn no_hz
  have hPb1 : ∀ q, P q → q < H1.size := fun q z => hkn.lt (hPb q z)
  refine lv_dup (pc := 3) hx hb d132_3 rfl ?_
  refine lv_iconst (pc := 4) (v := 1) hx hb d132_4 (by decide) ?_
  refine lv_dload_n (pc := 5) hx hb d132_5 rfl (lv_at hl 0 rfl) ?_
  have hS0 : s.heap.size ≤ s.heap.size := Nat.le_refl _
  refine c_ldcS (pc := 6) (t := []) X hC1 1 rfl rfl d132_6 (fun hp1 => ?_)
  refine k_callI (pc := 8) (n := 3) X hS (c_v_init l ρ _ P o _ 1 p0 [] (rS ρ 1) hC1 hPb1 ho) wd73 wd71 wd72 rfl wd4 (by decide) ⟨rfl, rfl, Nat.le_of_ble_eq_true rfl, Nat.le_of_ble_eq_true rfl⟩ (As := [.int 1, .double p0, .ref (rS ρ 1)]) (rest := [.ref o]) rfl rfl hl.1 (Nat.le_of_ble_eq_true rfl) d132_8 ⟨Nat.le_of_ble_eq_true rfl, Nat.le_of_ble_eq_true rfl⟩ (fun q hq => by rw [hq, ho0]; exact hS0) (fun v H2 locs1 hv hz2 hq2 hS => ?_)
  obtain ⟨rfl, ho⟩ := hv
  have hk2 : kp (fun q => q = o) H1 H2 := ⟨hz2, hq2⟩
  have hp2 := isS_new2 hkn hk2 ho0 (hC.1 1 [] rfl)
  exact m_aret (pc := 11) hx hb hr (Or.inl ⟨_, rfl⟩) hlk hS ⟨o, rfl, (rS ρ 1), ho, hp2, hPo⟩ (Nat.le_of_ble_eq_true rfl) (Nat.le_of_ble_eq_true rfl) d132_11
theorem d133_0 : decode b133 0 = .ok ((.new 10), 3) := by decide +kernel
theorem d133_3 : decode b133 3 = .ok (.dup, 1) := by decide +kernel
theorem d133_4 : decode b133 4 = .ok ((.iconst 2), 1) := by decide +kernel
theorem d133_5 : decode b133 5 = .ok ((.dconst 0), 1) := by decide +kernel
theorem d133_6 : decode b133 6 = .ok ((.aload_n 0), 1) := by decide +kernel
theorem d133_7 : decode b133 7 = .ok ((.invokespecial 25), 3) := by decide +kernel
theorem d133_10 : decode b133 10 = .ok (.areturn, 1) := by decide +kernel
set_option maxHeartbeats 1000000 in
theorem c_vl_ofText (l : Launch) (ρ : RH) (H : Heap) (P : Nat → Prop) (ap0 : Nat) (p0 : TT) (res : VV × Nat × Nat) (hC : CC ρ P H) (hPb : ∀ q, P q → q < H.size) (hp0 : isS ρ P H ap0 p0) (h : f_vl_ofText p0 = some res) : Met l y133 (wsOf y133 b133 1 (some (.object "WordFunctions$Value"))) ({ frames := 12, cells := res.2.1, slots := res.2.2, locals := 600 } : Room) (va_Pc [.ref ap0] (KP ρ H)) (mQ (fun v H1 => ∃ x : Nat, v = some (.ref x) ∧ isV ρ P H1 x res.1) (fun q => H.size ≤ q)) res.2.1 res.2.2 (fun q => H.size ≤ q) := by
  obtain rfl := Option.some.inj h
  refine m_ofW (own := "WordFunctions$Value") (plainFor_of_name rfl) rfl (Nat.le_of_ble_eq_true rfl) fun p e s m args below meth c ls hx hb hr hlk hmn X hs0 hl => ?_
  subst hs0
  have hS : va_S (fun q => s.heap.size ≤ q) s.heap s.heap [] := va_S.rf
  have hl : lv_has ls 1 [(0, .ref ap0)] := hl
  refine o_new (pc := 0) X hS 1 rfl tin1 tyo1 wd68 wd69 wd4 (Nat.le_of_ble_eq_true rfl) (Nat.le_of_ble_eq_true rfl) d133_0 (fun o H1 ho0 ho hz hq hS => ?_)
  have hkn := kp_new hz hq
  have hPo : ¬ P o := fun z => by have := hPb _ z; omega
  have hC1 := hC.keep hkn no_hz
  have hPb1 : ∀ q, P q → q < H1.size := fun q z => hkn.lt (hPb q z)
  have hp1 := hp0.keep hkn no_hz
  refine lv_dup (pc := 3) hx hb d133_3 rfl ?_
  refine lv_iconst (pc := 4) (v := 2) hx hb d133_4 (by decide) ?_
  have hS0 : s.heap.size ≤ s.heap.size := Nat.le_refl _
  refine lv_dconst0 (pc := 5) hx hb d133_5 ?_
  refine lv_aload_n (pc := 6) hx hb d133_6 rfl (lv_at hl 0 rfl) ?_
  refine k_callI (pc := 7) (n := 3) X hS (c_v_init l ρ _ P o _ 2 FP.dconst0 p0 ap0 hC1 hPb1 ho) wd73 wd71 wd72 rfl wd4 (by decide) ⟨rfl, rfl, Nat.le_of_ble_eq_true rfl, Nat.le_of_ble_eq_true rfl⟩ (As := [.int 2, .double FP.dconst0, .ref ap0]) (rest := [.ref o]) rfl rfl hl.1 (Nat.le_of_ble_eq_true rfl) d133_7 ⟨Nat.le_of_ble_eq_true rfl, Nat.le_of_ble_eq_true rfl⟩ (fun q hq => by rw [hq, ho0]; exact hS0) (fun v H2 locs1 hv hz2 hq2 hS => ?_)
  obtain ⟨rfl, ho⟩ := hv
  have hk2 : kp (fun q => q = o) H1 H2 := ⟨hz2, hq2⟩
  have hp2 := isS_new2 hkn hk2 ho0 hp0
  exact m_aret (pc := 10) hx hb hr (Or.inl ⟨_, rfl⟩) hlk hS ⟨o, rfl, ap0, ho, hp2, hPo⟩ (Nat.le_of_ble_eq_true rfl) (Nat.le_of_ble_eq_true rfl) d133_10
theorem d134_0 : decode b134 0 = .ok ((.new 10), 3) := by decide +kernel
theorem d134_3 : decode b134 3 = .ok (.dup, 1) := by decide +kernel
theorem d134_4 : decode b134 4 = .ok ((.iconst 3), 1) := by decide +kernel
theorem d134_5 : decode b134 5 = .ok ((.iload_n 0), 1) := by decide +kernel
theorem d134_6 : decode b134 6 = .ok ((.ifCond .eq 7), 3) := by decide +kernel
theorem d134_9 : decode b134 9 = .ok ((.dconst 1), 1) := by decide +kernel
theorem d134_10 : decode b134 10 = .ok ((.goto 4), 3) := by decide +kernel
theorem d134_13 : decode b134 13 = .ok ((.dconst 0), 1) := by decide +kernel
theorem d134_14 : decode b134 14 = .ok ((.ldc 23), 2) := by decide +kernel
theorem d134_16 : decode b134 16 = .ok ((.invokespecial 25), 3) := by decide +kernel
theorem d134_19 : decode b134 19 = .ok (.areturn, 1) := by decide +kernel
set_option maxHeartbeats 1000000 in
theorem c_vl_ofTruth (l : Launch) (ρ : RH) (H : Heap) (P : Nat → Prop) (p0 : Int32) (res : VV × Nat × Nat) (hC : CC ρ P H) (hPb : ∀ q, P q → q < H.size) (h : f_vl_ofTruth p0 = some res) : Met l y134 (wsOf y134 b134 1 (some (.object "WordFunctions$Value"))) ({ frames := 12, cells := res.2.1, slots := res.2.2, locals := 600 } : Room) (va_Pc [.int p0] (KP ρ H)) (mQ (fun v H1 => ∃ x : Nat, v = some (.ref x) ∧ isV ρ P H1 x res.1) (fun q => H.size ≤ q)) res.2.1 res.2.2 (fun q => H.size ≤ q) := by
  obtain rfl := Option.some.inj h
  refine m_ofW (own := "WordFunctions$Value") (plainFor_of_name rfl) rfl (Nat.le_of_ble_eq_true rfl) fun p e s m args below meth c ls hx hb hr hlk hmn X hs0 hl => ?_
  subst hs0
  have hS : va_S (fun q => s.heap.size ≤ q) s.heap s.heap [] := va_S.rf
  have hl : lv_has ls 1 [(0, .int p0)] := hl
  refine o_new (pc := 0) X hS 1 rfl tin1 tyo1 wd68 wd69 wd4 (Nat.le_of_ble_eq_true rfl) (Nat.le_of_ble_eq_true rfl) d134_0 (fun o H1 ho0 ho hz hq hS => ?_)
  have hkn := kp_new hz hq
  have hPo : ¬ P o := fun z => by have := hPb _ z; omega
  have hC1 := hC.keep hkn no_hz
  have hPb1 : ∀ q, P q → q < H1.size := fun q z => hkn.lt (hPb q z)
  refine lv_dup (pc := 3) hx hb d134_3 rfl ?_
  refine lv_iconst (pc := 4) (v := 3) hx hb d134_4 (by decide) ?_
  refine lv_iload_n (pc := 5) hx hb d134_5 rfl (lv_at hl 0 rfl) ?_
  have hS0 : s.heap.size ≤ s.heap.size := Nat.le_refl _
  refine lv_if_eq (pc := 6) (tgt := 13) hx hb d134_6 (by decide) (fun z6 => ?_) (fun z6 => ?_)
  · skip
    refine lv_dconst0 (pc := 13) hx hb d134_13 ?_
    refine c_ldcS (pc := 14) (t := []) X hC1 1 rfl rfl d134_14 (fun hp1 => ?_)
    refine k_callI (pc := 16) (n := 3) X hS (c_v_init l ρ _ P o _ 3 FP.dconst0 [] (rS ρ 1) hC1 hPb1 ho) wd73 wd71 wd72 rfl wd4 (by decide) ⟨rfl, rfl, Nat.le_of_ble_eq_true rfl, Nat.le_of_ble_eq_true rfl⟩ (As := [.int 3, .double FP.dconst0, .ref (rS ρ 1)]) (rest := [.ref o]) rfl rfl hl.1 (Nat.le_of_ble_eq_true rfl) d134_16 ⟨Nat.le_of_ble_eq_true rfl, Nat.le_of_ble_eq_true rfl⟩ (fun q hq => by rw [hq, ho0]; exact hS0) (fun v H2 locs1 hv hz2 hq2 hS => ?_)
    obtain ⟨rfl, ho⟩ := hv
    have hk2 : kp (fun q => q = o) H1 H2 := ⟨hz2, hq2⟩
    have hp2 := isS_new2 hkn hk2 ho0 (hC.1 1 [] rfl)
    have ho : t_OB o ((rD ρ).1 1) 3 ((rD ρ).2 1) H2 (vF (3, (if p0 = 0 then 0 else 4607182418800017408), []) (rS ρ 1)) := by rw [if_pos z6]; exact ho
    exact m_aret (pc := 19) hx hb hr (Or.inl ⟨_, rfl⟩) hlk hS ⟨o, rfl, (rS ρ 1), ho, hp2, hPo⟩ (Nat.le_of_ble_eq_true rfl) (Nat.le_of_ble_eq_true rfl) d134_19
  · skip
    refine lv_dconst1 (pc := 9) hx hb d134_9 ?_
    refine lv_goto (pc := 10) (tgt := 14) hx hb d134_10 (by decide) ?_
    refine c_ldcS (pc := 14) (t := []) X hC1 1 rfl rfl d134_14 (fun hp1 => ?_)
    refine k_callI (pc := 16) (n := 3) X hS (c_v_init l ρ _ P o _ 3 FP.dconst1 [] (rS ρ 1) hC1 hPb1 ho) wd73 wd71 wd72 rfl wd4 (by decide) ⟨rfl, rfl, Nat.le_of_ble_eq_true rfl, Nat.le_of_ble_eq_true rfl⟩ (As := [.int 3, .double FP.dconst1, .ref (rS ρ 1)]) (rest := [.ref o]) rfl rfl hl.1 (Nat.le_of_ble_eq_true rfl) d134_16 ⟨Nat.le_of_ble_eq_true rfl, Nat.le_of_ble_eq_true rfl⟩ (fun q hq => by rw [hq, ho0]; exact hS0) (fun v H2 locs1 hv hz2 hq2 hS => ?_)
    obtain ⟨rfl, ho⟩ := hv
    have hk2 : kp (fun q => q = o) H1 H2 := ⟨hz2, hq2⟩
    have hp2 := isS_new2 hkn hk2 ho0 (hC.1 1 [] rfl)
    have ho : t_OB o ((rD ρ).1 1) 3 ((rD ρ).2 1) H2 (vF (3, (if p0 = 0 then 0 else 4607182418800017408), []) (rS ρ 1)) := by rw [if_neg z6]; exact ho
    exact m_aret (pc := 19) hx hb hr (Or.inl ⟨_, rfl⟩) hlk hS ⟨o, rfl, (rS ρ 1), ho, hp2, hPo⟩ (Nat.le_of_ble_eq_true rfl) (Nat.le_of_ble_eq_true rfl) d134_19
theorem d131_0 : decode b131 0 = .ok ((.new 10), 3) := by decide +kernel
theorem d131_3 : decode b131 3 = .ok (.dup, 1) := by decide +kernel
theorem d131_4 : decode b131 4 = .ok ((.iconst 4), 1) := by decide +kernel
theorem d131_5 : decode b131 5 = .ok ((.iload_n 0), 1) := by decide +kernel
theorem d131_6 : decode b131 6 = .ok (.i2d, 1) := by decide +kernel
theorem d131_7 : decode b131 7 = .ok ((.ldc 23), 2) := by decide +kernel
theorem d131_9 : decode b131 9 = .ok ((.invokespecial 25), 3) := by decide +kernel
theorem d131_12 : decode b131 12 = .ok (.areturn, 1) := by decide +kernel
set_option maxHeartbeats 1000000 in
theorem c_vl_ofError (l : Launch) (ρ : RH) (H : Heap) (P : Nat → Prop) (p0 : Int32) (res : VV × Nat × Nat) (hC : CC ρ P H) (hPb : ∀ q, P q → q < H.size) (h : f_vl_ofError p0 = some res) : Met l y131 (wsOf y131 b131 1 (some (.object "WordFunctions$Value"))) ({ frames := 12, cells := res.2.1, slots := res.2.2, locals := 600 } : Room) (va_Pc [.int p0] (KP ρ H)) (mQ (fun v H1 => ∃ x : Nat, v = some (.ref x) ∧ isV ρ P H1 x res.1) (fun q => H.size ≤ q)) res.2.1 res.2.2 (fun q => H.size ≤ q) := by
  obtain rfl := Option.some.inj h
  refine m_ofW (own := "WordFunctions$Value") (plainFor_of_name rfl) rfl (Nat.le_of_ble_eq_true rfl) fun p e s m args below meth c ls hx hb hr hlk hmn X hs0 hl => ?_
  subst hs0
  have hS : va_S (fun q => s.heap.size ≤ q) s.heap s.heap [] := va_S.rf
  have hl : lv_has ls 1 [(0, .int p0)] := hl
  refine o_new (pc := 0) X hS 1 rfl tin1 tyo1 wd68 wd69 wd4 (Nat.le_of_ble_eq_true rfl) (Nat.le_of_ble_eq_true rfl) d131_0 (fun o H1 ho0 ho hz hq hS => ?_)
  have hkn := kp_new hz hq
  have hPo : ¬ P o := fun z => by have := hPb _ z; omega
  have hC1 := hC.keep hkn no_hz
  have hPb1 : ∀ q, P q → q < H1.size := fun q z => hkn.lt (hPb q z)
  refine lv_dup (pc := 3) hx hb d131_3 rfl ?_
  refine lv_iconst (pc := 4) (v := 4) hx hb d131_4 (by decide) ?_
  refine lv_iload_n (pc := 5) hx hb d131_5 rfl (lv_at hl 0 rfl) ?_
  have hS0 : s.heap.size ≤ s.heap.size := Nat.le_refl _
  refine lv_i2d (pc := 6) hx hb d131_6 ?_
  refine c_ldcS (pc := 7) (t := []) X hC1 1 rfl rfl d131_7 (fun hp1 => ?_)
  refine k_callI (pc := 9) (n := 3) X hS (c_v_init l ρ _ P o _ 4 (FP.i2d p0) [] (rS ρ 1) hC1 hPb1 ho) wd73 wd71 wd72 rfl wd4 (by decide) ⟨rfl, rfl, Nat.le_of_ble_eq_true rfl, Nat.le_of_ble_eq_true rfl⟩ (As := [.int 4, .double (FP.i2d p0), .ref (rS ρ 1)]) (rest := [.ref o]) rfl rfl hl.1 (Nat.le_of_ble_eq_true rfl) d131_9 ⟨Nat.le_of_ble_eq_true rfl, Nat.le_of_ble_eq_true rfl⟩ (fun q hq => by rw [hq, ho0]; exact hS0) (fun v H2 locs1 hv hz2 hq2 hS => ?_)
  obtain ⟨rfl, ho⟩ := hv
  have hk2 : kp (fun q => q = o) H1 H2 := ⟨hz2, hq2⟩
  have hp2 := isS_new2 hkn hk2 ho0 (hC.1 1 [] rfl)
  exact m_aret (pc := 12) hx hb hr (Or.inl ⟨_, rfl⟩) hlk hS ⟨o, rfl, (rS ρ 1), ho, hp2, hPo⟩ (Nat.le_of_ble_eq_true rfl) (Nat.le_of_ble_eq_true rfl) d131_12
