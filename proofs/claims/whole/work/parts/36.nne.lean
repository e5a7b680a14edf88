/-! ===== worlds that grow ===== -/
def inW (ws : va_W) (q : Nat) : Prop := ∃ (k : Nat) (e : va_E), ws[k]? = some (q, e)
theorem inW.lt {D : va_G} {cl : List vw_C} {ws : va_W} {H : Heap} (hP : va_P D cl ws H) {q : Nat} (h : inW ws q) : q < H.size := by
  obtain ⟨k, e, hk⟩ := h
  exact (hP k _ hk).lt
theorem inW.app {w1 w2 : va_W} {q : Nat} (h : inW (w1 ++ w2) q) : inW w1 q ∨ inW w2 q := by
  obtain ⟨k, e, hk⟩ := h
  by_cases hl : k < w1.length
  · rw [List.getElem?_append_left hl] at hk; exact Or.inl ⟨k, e, hk⟩
  · rw [List.getElem?_append_right (by omega)] at hk; exact Or.inr ⟨_, e, hk⟩
theorem inW.one {a q : Nat} {e : va_E} (h : inW [(a, e)] q) : q = a := by
  obtain ⟨k, e', hk⟩ := h
  have h1 : k < 1 := (List.getElem?_eq_some_iff.mp hk).1
  obtain rfl : k = 0 := by omega
  cases hk
  rfl
theorem inW.of_get {ws : va_W} {k a : Nat} {e : va_E} (h : ws[k]? = some (a, e)) : inW ws a := ⟨k, e, h⟩
theorem inW.set {ws : va_W} {k a q : Nat} {e0 e : va_E} (hk : ws[k]? = some (a, e0)) (h : inW (ws.set k (a, e)) q) : inW ws q := by
  obtain ⟨j, e', hj⟩ := h
  by_cases hjk : k = j
  · subst hjk
    rw [List.getElem?_set_self ((List.getElem?_eq_some_iff.mp hk).1)] at hj
    cases hj
    exact ⟨k, e0, hk⟩
  · rw [List.getElem?_set_ne hjk] at hj
    exact ⟨j, e', hj⟩
def Pw (P : Nat → Prop) (ws : va_W) : Nat → Prop := fun q => P q ∨ inW ws q
def SW (ws : va_W) (H : Heap) (ws1 : va_W) (H1 : Heap) : Prop := kp (inW ws) H H1 ∧ ∀ q, q < H.size → inW ws1 q → inW ws q
theorem SW.tr {w0 w1 w2 : va_W} {H0 H1 H2 : Heap} (a : SW w0 H0 w1 H1) (b : SW w1 H1 w2 H2) : SW w0 H0 w2 H2 :=
  ⟨⟨Nat.le_trans a.1.1 b.1.1, fun q hq hn => (b.1.2 q (a.1.lt hq) (fun z => hn (a.2 q hq z))).trans (a.1.2 q hq hn)⟩, fun q hq z => a.2 q hq (b.2 q (a.1.lt hq) z)⟩
theorem CC.sw {ρ : RH} {P : Nat → Prop} {ws ws1 : va_W} {H H1 : Heap} (h : CC ρ (Pw P ws) H) (hs : SW ws H ws1 H1) : CC ρ (Pw P ws1) H1 :=
  h.step hs.1 (fun q _ z => Or.inr z) (fun q hq z => z.elim Or.inl (fun g => Or.inr (hs.2 q hq g)))
theorem isV.sw {ρ : RH} {P : Nat → Prop} {ws ws1 : va_W} {H H1 : Heap} {x : Nat} {v : VV} (h : isV ρ (Pw P ws) H x v) (hs : SW ws H ws1 H1) : isV ρ (Pw P ws1) H1 x v :=
  h.step hs.1 (fun q _ z => Or.inr z) (fun q hq z => z.elim Or.inl (fun g => Or.inr (hs.2 q hq g)))
theorem isS.sw {ρ : RH} {P : Nat → Prop} {ws ws1 : va_W} {H H1 : Heap} {x : Nat} {t : TT} (h : isS ρ (Pw P ws) H x t) (hs : SW ws H ws1 H1) : isS ρ (Pw P ws1) H1 x t :=
  h.step hs.1 (fun q _ z => Or.inr z) (fun q hq z => z.elim Or.inl (fun g => Or.inr (hs.2 q hq g)))
theorem SW.push {ws : va_W} {H H1 : Heap} {a : Nat} {e : va_E} (ha : H.size ≤ a) (z : H.size ≤ H1.size) (oq : ∀ q, q < H.size → H1[q]? = H[q]?) : SW ws H (ws ++ [(a, e)]) H1 :=
  ⟨⟨z, fun q hq _ => oq q hq⟩, fun q hq g => g.app.elim id (fun g => absurd g.one (by omega))⟩
theorem SW.put {ws : va_W} {H H1 : Heap} {k a : Nat} {e0 e : va_E} (hk : ws[k]? = some (a, e0)) (z : H1.size = H.size) (oq : ∀ q, q ≠ a → H1[q]? = H[q]?) : SW ws H (ws.set k (a, e)) H1 :=
  ⟨⟨Nat.le_of_eq z.symm, fun q hq hn => oq q (fun h => hn (by rw [h]; exact .of_get hk))⟩, fun q _ g => g.set hk⟩
theorem Pw_lt {D : va_G} {cl : List vw_C} {P : Nat → Prop} {ws : va_W} {H H0 : Heap} (hb : ∀ q, P q → q < H0.size) (hz : H0.size ≤ H.size) (hP : va_P D cl ws H) : ∀ q, Pw P ws q → q < H.size := fun q z => z.elim (fun g => Nat.lt_of_lt_of_le (hb q g) hz) (fun g => g.lt hP)
theorem inW.map {gl : List Nat} {e : va_E} {q : Nat} (h : inW (gl.map (fun a => (a, e))) q) : q ∈ gl := by
  obtain ⟨k, e', hk⟩ := h
  rw [List.getElem?_map] at hk
  cases hg : gl[k]? with
  | none => rw [hg] at hk; cases hk
  | some a => rw [hg] at hk; cases hk; exact List.mem_of_getElem? hg
section N3
variable {p : Program} {l : Launch} {e : Env} {R : Room} {s : State} {m : MethodId} {args : Array Value} {below : List Frame} {meth : Method} {c : Code} {H : Heap} {locs : List Loc} {cells slots : Nat} {Q : State → Prop}
variable {cc : ByteArray} {pc nL : Nat} {ls : Array Slot} {rest : List Value} {own : String} {ρ : RH} {w0 : Cond} {A : Nat → Prop} {H0 : Heap} {ws : va_W} {a : Nat} {P : Nat → Prop}
theorem n_new (X : CX p s m c args own cc nL ρ w0) (hP : va_P (rD ρ) CL ws H) (hD : va_D A ws) (hS : va_S A H0 H locs) (hA : ∀ q, H0.size ≤ q → A q) (ci : Nat) {N index : Nat} {C : String} {T : u_T} {ty : Nat → FieldType} (hc : CL[ci]? = some (C, T, N)) (hin : ∀ w ∈ u_ws C T N, w ∈ TG) (hty : ∀ k, k < N → parseFieldDescriptor (T k).2.2.1 = some (ty k)) (fs : List Value) (hfs : ∀ j, j < N → defaultValue (ty j) = vp_V fs j) (hl : Cond.classLink own index C ∈ TG) (hins : Cond.instantiable C N ∈ TG) (hini : Cond.initialized C ∈ TG) (hcells : cells + 1 ≤ R.cells) (hslots : slots + N ≤ R.slots) (hdg : decode cc pc = .ok (.new index, 3))
    (kk : ∀ (o : Nat) (H1 : Heap), va_P (rD ρ) CL (ws ++ [(o, .inr (ci, fs))]) H1 → va_D A (ws ++ [(o, .inr (ci, fs))]) → va_S A H0 H1 locs → o = H.size → H1.size = H.size + 1 → (∀ q, q < H.size → H1[q]? = H[q]?) → W p l e R s m args below meth c H1 locs (cells + 1) (slots + N) Q (F0 m (pc + 3) ls (.ref o :: rest))) : W p l e R s m args below meth c H locs cells slots Q (F0 m pc ls rest) := by
  refine o_new X hS ci hc hin hty hl hins hini hcells hslots hdg fun o H1 e1 ho z oq hS1 => ?_
  refine kk o H1 ((hP.kept (fun k x hx => oq x.1 ((hP k x hx).lt))).app (fun k x hx => ?_)) (hD.push hP e1 (hA _ (by rw [e1]; exact hS.1))) hS1 e1 z oq
  have hz : k < 1 := (List.getElem?_eq_some_iff.mp hx).1
  obtain rfl : k = 0 := by omega
  cases hx
  exact ⟨_, hc, ho.to hfs⟩
theorem n_obj (hP : va_P (rD ρ) CL ws H) {k ci N : Nat} {C : String} {T : u_T} {fs : List Value} (he : ws[k]? = some (a, .inr (ci, fs))) (hc : CL[ci]? = some (C, T, N)) : t_OB a ((rD ρ).1 ci) N ((rD ρ).2 ci) H (vp_V fs) := by
  obtain ⟨r, h1, h2⟩ := hP k _ he
  obtain rfl : r = (C, T, N) := Option.some.inj (h1.symm.trans hc)
  exact h2
theorem n_astG (X : CX p s m c args own cc nL ρ w0) (hP : va_P (rD ρ) CL ws H) (hD : va_D A ws) (hS : va_S A H0 H locs) (q0 : Nat) {n x : Nat} {f : Nat → Option Nat} {V : Nat → Value} {N : Nat} (ha : ws[q0]? = some (a, .inl (rA ρ 7, n, .inr (.inr (.inr (.inr f)))))) (hx : t_OB x ((rD ρ).1 2) N ((rD ρ).2 2) H V) {i : Int32} (hin : inb i n = true) (hdg : decode cc pc = .ok (.aastore, 1))
    (kk : ∀ (H1 : Heap) (locs1 : List Loc), va_P (rD ρ) CL (ws.set q0 (a, .inl (rA ρ 7, n, .inr (.inr (.inr (.inr (va_up f i.toNatClampNeg (some x)))))))) H1 → va_D A (ws.set q0 (a, .inl (rA ρ 7, n, .inr (.inr (.inr (.inr (va_up f i.toNatClampNeg (some x)))))))) → va_S A H0 H1 locs1 → W p l e R s m args below meth c H1 locs1 cells slots Q (F0 m (pc + 1) ls rest)) : W p l e R s m args below meth c H locs cells slots Q (F0 m pc ls (.ref x :: .int i :: .ref a :: rest)) := by
  obtain ⟨cell, g1, g2, g3, -⟩ := hx
  obtain ⟨-, hfc, kC, hkC, hkind⟩ := X.2.1.1 2 _ rfl
  refine va_astqM (tys := TYS ρ) (E := "WordFunctions$Grid") X.1.1 X.1.2.1 X.2.1 hP hD hS q0 7 ha rfl ⟨cell, g1, by rw [g3]; rfl, ⟨kC, by rw [g2]; exact hkC⟩, fun comp hcomp => ?_⟩ (inb_in hin) hdg kk
  have e1 : (rD ρ).1 2 = comp := Option.some.inj (hfc.symm.trans hcomp)
  rw [g2, e1]
  exact va_asg _ _
end N3
/-- a frame that begins later -/
theorem va_S.back {A A' : Nat → Prop} {H0 H2 H : Heap} {locs locs' : List Loc} (h : va_S A' H2 H locs) (hA : ∀ q, A' q → A q) (h0 : va_S A H0 H2 locs') : va_S A H0 H locs :=
  ⟨Nat.le_trans h0.1 h.1, fun q h1 h2 => (h.2.1 q (Nat.lt_of_lt_of_le h1 h0.1) (fun z => h2 (hA q z))).trans (h0.2.1 q h1 h2), fun q hq => hA _ (h.2.2 q hq)⟩
theorem va_A_one {o q sz : Nat} {e : va_E} (h : q = o) : va_A [(o, e)] sz q := by
  subst h
  exact Or.inl ⟨0, _, rfl⟩
theorem va_S_nil {A : Nat → Prop} {H0 H : Heap} (h1 : H0.size ≤ H.size) (h2 : ∀ q, q < H0.size → ¬ A q → H[q]? = H0[q]?) : va_S A H0 H [] := ⟨h1, h2, fun q hq => by cases hq⟩
theorem get_g30 {b4 : va_W} {gl : List Nat} {q i n : Nat} {e : va_E} (h4 : b4.length = n) (hgl : gl.length = i) : (b4 ++ (gl ++ [q]).map (fun a => (a, e)))[n + i]? = some (q, e) := by
  rw [List.getElem?_append_right (by omega), h4, Nat.add_sub_cancel_left, List.getElem?_map, List.getElem?_append_right (by omega), hgl, Nat.sub_self]
  rfl
set_option maxHeartbeats 1000000 in
theorem c_n_grid0 (l : Launch) (ρ : RH) (H : Heap) (P : Nat → Prop) (o : Nat) (hC : CC ρ P H) (hPb : ∀ q, P q → q < H.size) : Met l y83 (wsOf y83 b83 1 none) ({ frames := 1, cells := 0, slots := 0, locals := 12 } : Room) (va_Pc [.ref o] (KP ρ H)) (mQ (fun v H1 => v = none ∧ H1 = H) (fun _ => False)) 0 0 (fun _ => False) := by
  refine m_ofW (own := "WordFunctions$Grid") (plainFor_of_name rfl) rfl (Nat.le_of_ble_eq_true rfl) fun p e s m args below meth c ls hx hb hr hlk hmn X hs0 hl => ?_
  subst hs0
  have hS : va_S (fun _ => False) s.heap s.heap [] := va_S.rf
  have hl : lv_has ls 1 [(0, .ref o)] := hl
  refine lv_aload_n (pc := 0) hx hb d83_0 rfl (lv_at hl 0 rfl) ?_
  refine o_oini (pc := 1) X wd103 hl.1 rfl rfl d83_1 ?_
  exact m_vret (pc := 4) hx hb hr hlk hS ⟨rfl, rfl⟩ (Nat.le_refl _) (Nat.le_refl _) d83_4
theorem GRD : ∀ j, j < 6 → defaultValue (ty2 j) = vp_V [.int 0, .int 0, .int 0, .int 0, .int 0, .int 0] j := by
  intro j hj
  match j, hj with
  | 0, _ => rfl
  | 1, _ => rfl
  | 2, _ => rfl
  | 3, _ => rfl
  | 4, _ => rfl
  | 5, _ => rfl
  | j + 6, h => exact absurd h (by omega)
abbrev b28 : ByteArray := prog_3_method_1_code
theorem d28_0 : decode b28 0 = .ok ((.aload_n 0), 1) := by decide +kernel
theorem d28_1 : decode b28 1 = .ok ((.invokespecial 3), 3) := by decide +kernel
theorem d28_4 : decode b28 4 = .ok ((.aload_n 0), 1) := by decide +kernel
theorem d28_5 : decode b28 5 = .ok ((.invokestatic 9), 3) := by decide +kernel
theorem d28_8 : decode b28 8 = .ok ((.putfield 15), 3) := by decide +kernel
theorem d28_11 : decode b28 11 = .ok ((.aload_n 0), 1) := by decide +kernel
theorem d28_12 : decode b28 12 = .ok ((.new 21), 3) := by decide +kernel
theorem d28_15 : decode b28 15 = .ok (.dup, 1) := by decide +kernel
theorem d28_16 : decode b28 16 = .ok ((.invokespecial 23), 3) := by decide +kernel
theorem d28_19 : decode b28 19 = .ok ((.putfield 24), 3) := by decide +kernel
theorem d28_22 : decode b28 22 = .ok ((.aload_n 0), 1) := by decide +kernel
theorem d28_23 : decode b28 23 = .ok ((.sipush 512), 3) := by decide +kernel
theorem d28_26 : decode b28 26 = .ok ((.anewarray 10), 3) := by decide +kernel
theorem d28_29 : decode b28 29 = .ok ((.putfield 28), 3) := by decide +kernel
theorem d28_32 : decode b28 32 = .ok ((.aload_n 0), 1) := by decide +kernel
theorem d28_33 : decode b28 33 = .ok ((.bipush 30), 2) := by decide +kernel
theorem d28_35 : decode b28 35 = .ok ((.anewarray 21), 3) := by decide +kernel
theorem d28_38 : decode b28 38 = .ok ((.putfield 32), 3) := by decide +kernel
theorem d28_41 : decode b28 41 = .ok ((.aload_n 0), 1) := by decide +kernel
theorem d28_42 : decode b28 42 = .ok ((.iconst 1), 1) := by decide +kernel
theorem d28_43 : decode b28 43 = .ok ((.putfield 36), 3) := by decide +kernel
theorem d28_46 : decode b28 46 = .ok ((.aload_n 0), 1) := by decide +kernel
theorem d28_47 : decode b28 47 = .ok ((.iconst 1), 1) := by decide +kernel
theorem d28_48 : decode b28 48 = .ok ((.putfield 40), 3) := by decide +kernel
theorem d28_51 : decode b28 51 = .ok ((.iconst 0), 1) := by decide +kernel
theorem d28_52 : decode b28 52 = .ok ((.istore_n 1), 1) := by decide +kernel
theorem d28_53 : decode b28 53 = .ok ((.iload_n 1), 1) := by decide +kernel
theorem d28_54 : decode b28 54 = .ok ((.aload_n 0), 1) := by decide +kernel
theorem d28_55 : decode b28 55 = .ok ((.getfield 28), 3) := by decide +kernel
theorem d28_58 : decode b28 58 = .ok (.arraylength, 1) := by decide +kernel
theorem d28_59 : decode b28 59 = .ok ((.if_icmp .ge 19), 3) := by decide +kernel
theorem d28_62 : decode b28 62 = .ok ((.aload_n 0), 1) := by decide +kernel
theorem d28_63 : decode b28 63 = .ok ((.getfield 28), 3) := by decide +kernel
theorem d28_66 : decode b28 66 = .ok ((.iload_n 1), 1) := by decide +kernel
theorem d28_67 : decode b28 67 = .ok ((.aload_n 0), 1) := by decide +kernel
theorem d28_68 : decode b28 68 = .ok ((.getfield 15), 3) := by decide +kernel
theorem d28_71 : decode b28 71 = .ok (.aastore, 1) := by decide +kernel
theorem d28_72 : decode b28 72 = .ok ((.iinc 1 1), 3) := by decide +kernel
theorem d28_75 : decode b28 75 = .ok ((.goto (-22)), 3) := by decide +kernel
theorem d28_78 : decode b28 78 = .ok ((.iconst 0), 1) := by decide +kernel
theorem d28_79 : decode b28 79 = .ok ((.istore_n 1), 1) := by decide +kernel
theorem d28_80 : decode b28 80 = .ok ((.iload_n 1), 1) := by decide +kernel
theorem d28_81 : decode b28 81 = .ok ((.aload_n 0), 1) := by decide +kernel
theorem d28_82 : decode b28 82 = .ok ((.getfield 32), 3) := by decide +kernel
theorem d28_85 : decode b28 85 = .ok (.arraylength, 1) := by decide +kernel
theorem d28_86 : decode b28 86 = .ok ((.if_icmp .ge 22), 3) := by decide +kernel
theorem d28_89 : decode b28 89 = .ok ((.aload_n 0), 1) := by decide +kernel
theorem d28_90 : decode b28 90 = .ok ((.getfield 32), 3) := by decide +kernel
theorem d28_93 : decode b28 93 = .ok ((.iload_n 1), 1) := by decide +kernel
theorem d28_94 : decode b28 94 = .ok ((.new 21), 3) := by decide +kernel
theorem d28_97 : decode b28 97 = .ok (.dup, 1) := by decide +kernel
theorem d28_98 : decode b28 98 = .ok ((.invokespecial 23), 3) := by decide +kernel
theorem d28_101 : decode b28 101 = .ok (.aastore, 1) := by decide +kernel
theorem d28_102 : decode b28 102 = .ok ((.iinc 1 1), 3) := by decide +kernel
theorem d28_105 : decode b28 105 = .ok ((.goto (-25)), 3) := by decide +kernel
theorem d28_108 : decode b28 108 = .ok (.return_, 1) := by decide +kernel
set_option maxHeartbeats 1000000 in
theorem c_n_arguments (l : Launch) (ρ : RH) (H : Heap) (P : Nat → Prop) (o : Nat) (hC : CC ρ P H) (hPb : ∀ q, P q → q < H.size) (hP : va_P (rD ρ) CL [(o, .inr (3, [.null, .null, .null, .null, .int 0, .int 0, .int 0, .int 0, .int 0]))] H) (hPo : P o) : Met l y28 (wsOf y28 b28 2 none) ({ frames := 13, cells := 34, slots := 731, locals := 619 } : Room) (va_Pc [.ref o] (KP ρ H)) (mQ (fun v H1 => v = none ∧ ∃ (q1 q2 q3 x : Nat) (f g : Nat → Option Nat) (gl : List Nat), (∀ j, j < 512 → f j = some x) ∧ gl.length = 30 ∧ (∀ j, j < 30 → g j = gl[j]?) ∧ va_P (rD ρ) CL ([(o, .inr (3, [.ref x, .ref q1, .ref q2, .ref q3, .int 0, .int 0, .int 0, .int 1, .int 1])), (q1, .inr (2, [.int 0, .int 0, .int 0, .int 0, .int 0, .int 0])), (q2, .inl (rA ρ 6, 512, .inr (.inr (.inr (.inr (f)))))), (q3, .inl (rA ρ 7, 30, .inr (.inr (.inr (.inr (g))))))] ++ gl.map (fun a => (a, (.inr (2, [.int 0, .int 0, .int 0, .int 0, .int 0, .int 0]) : va_E)))) H1 ∧ va_D (va_A [(o, .inr (3, [.null, .null, .null, .null, .int 0, .int 0, .int 0, .int 0, .int 0]))] H.size) ([(o, .inr (3, [.ref x, .ref q1, .ref q2, .ref q3, .int 0, .int 0, .int 0, .int 1, .int 1])), (q1, .inr (2, [.int 0, .int 0, .int 0, .int 0, .int 0, .int 0])), (q2, .inl (rA ρ 6, 512, .inr (.inr (.inr (.inr (f)))))), (q3, .inl (rA ρ 7, 30, .inr (.inr (.inr (.inr (g))))))] ++ gl.map (fun a => (a, (.inr (2, [.int 0, .int 0, .int 0, .int 0, .int 0, .int 0]) : va_E)))) ∧ isV ρ (Pw P ([(o, .inr (3, [.ref x, .ref q1, .ref q2, .ref q3, .int 0, .int 0, .int 0, .int 1, .int 1])), (q1, .inr (2, [.int 0, .int 0, .int 0, .int 0, .int 0, .int 0])), (q2, .inl (rA ρ 6, 512, .inr (.inr (.inr (.inr (f)))))), (q3, .inl (rA ρ 7, 30, .inr (.inr (.inr (.inr (g))))))] ++ gl.map (fun a => (a, (.inr (2, [.int 0, .int 0, .int 0, .int 0, .int 0, .int 0]) : va_E))))) H1 x (0, 0, [])) (va_A [(o, .inr (3, [.null, .null, .null, .null, .int 0, .int 0, .int 0, .int 0, .int 0]))] H.size)) 34 731 (va_A [(o, .inr (3, [.null, .null, .null, .null, .int 0, .int 0, .int 0, .int 0, .int 0]))] H.size) := by
  refine m_ofW (own := "WordFunctions$Arguments") (plainFor_of_name rfl) rfl (Nat.le_of_ble_eq_true rfl) fun p e s m args below meth c ls hx hb hr hlk hmn X hs0 hl => ?_
  subst hs0
  have hS : va_S (va_A [(o, .inr (3, [.null, .null, .null, .null, .int 0, .int 0, .int 0, .int 0, .int 0]))] s.heap.size) s.heap s.heap [] := va_S.rf
  have hl : lv_has ls 2 [(0, .ref o)] := hl
  refine lv_aload_n (pc := 0) hx hb d28_0 rfl (lv_at hl 0 rfl) ?_
  refine o_oini (pc := 1) X wd64 hl.1 rfl rfl d28_1 ?_
  refine lv_aload_n (pc := 4) hx hb d28_4 rfl (lv_at hl 0 rfl) ?_
  have hS : va_S (fun q => s.heap.size ≤ q) s.heap s.heap [] := va_S.rf
  refine k_callS (pc := 5) (n := 0) X hS (c_vl_ofEmpty l ρ _ P _ hC hPb rfl) wd67 wd65 wd66 wd4 (by decide) ⟨rfl, rfl, Nat.le_of_ble_eq_true rfl, Nat.le_of_ble_eq_true rfl⟩ (As := []) (rest := [.ref o]) rfl rfl hl.1 (Nat.le_of_ble_eq_true rfl) d28_5 ⟨(Nat.le_of_ble_eq_true rfl), (Nat.le_of_ble_eq_true rfl)⟩ (fun q hq => hq) (fun v H2 locs1 hv hz1 hq1 hS2 => ?_)
  have hzA := hz1
  have hqA := hq1
  obtain ⟨x, rfl, hxv0⟩ := hv
  refine va_forget hS2.2.2 ?_
  have hP0 := hP
  have hP := hP.kept (H1 := H2) (fun k q hk => hq1 q.1 ((hP k q hk).lt) (by have := (hP k q hk).lt; omega))
  have ho0 : o < s.heap.size := (hP0 0 _ rfl).lt
  have hS : va_S (fun q => q = o ∨ H2.size ≤ q) H2 H2 [] := va_S.rf
  have hD : va_D (fun q => q = o ∨ H2.size ≤ q) ([(o, .inr (3, [.null, .null, .null, .null, .int 0, .int 0, .int 0, .int 0, .int 0]))]) := one_D (Or.inl rfl)
  have hxk : ∀ {H : Heap} {locs : List Loc}, va_S (fun q => q = o ∨ H2.size ≤ q) H2 H locs → isV ρ P H x (0, 0, []) := fun h => hxv0.keep ⟨h.1, fun q h1 h2 => h.2.1 q h1 h2⟩ (fun q hq z => z.elim (fun e => by rw [e]; exact hPo) (fun g => absurd hq (by omega)))
  have hPf : ∀ {H : Heap} {locs : List Loc}, va_S (fun q => q = o ∨ H2.size ≤ q) H2 H locs → isV ρ (fun q => P q ∨ H2.size ≤ q) H x (0, 0, []) := fun h => hxv0.step ⟨h.1, fun q h1 h2 => h.2.1 q h1 h2⟩ (fun q hq z => z.elim (fun e => by rw [e]; exact hPo) (fun g => absurd hq (by omega))) (fun q hq z => z.elim id (fun g => absurd hq (by omega)))
  refine n_putF (pc := 8) (v := .ref x) X hP hD hS 0 rfl rfl 0 rfl tin3 ty3 tyo3 tnm3 rfl wd129 rfl hmn rfl rfl rfl rfl d28_8 (fun H1 locs1 hP hD hS => ?_)
  have hP : va_P (rD ρ) CL ([(o, .inr (3, [.ref x, .null, .null, .null, .int 0, .int 0, .int 0, .int 0, .int 0]))]) H1 := hP
  have hD : va_D (fun q => q = o ∨ H2.size ≤ q) ([(o, .inr (3, [.ref x, .null, .null, .null, .int 0, .int 0, .int 0, .int 0, .int 0]))]) := hD
  refine lv_aload_n (pc := 11) hx hb d28_11 rfl (lv_at hl 0 rfl) ?_
  have hCf : ∀ {H : Heap} {locs : List Loc}, va_S (fun q => q = o ∨ H2.size ≤ q) H2 H locs → CC ρ (fun _ => False) H := fun h => hC.step (Z := fun q => q = o ∨ s.heap.size ≤ q) ⟨Nat.le_trans hz1 h.1, fun q h1 h2 => (h.2.1 q (Nat.lt_of_lt_of_le h1 hz1) (fun z => h2 (z.elim Or.inl (fun g => Or.inr (Nat.le_trans hz1 g))))).trans (hq1 q h1 (by omega))⟩ (fun q hq z => z.elim (fun e => by rw [e]; exact hPo) (fun g => absurd hq (by omega))) (fun q hq z => z.elim)
  refine n_new (pc := 12) X hP hD hS (fun q hq => Or.inr hq) 2 rfl tin2 tyo2 [.int 0, .int 0, .int 0, .int 0, .int 0, .int 0] GRD wd98 wd99 wd5 (Nat.le_of_ble_eq_true rfl) (Nat.le_of_ble_eq_true rfl) d28_12 (fun q1 H1 hP hD hS ho1 hz1 hq1 => ?_)
  have hP : va_P (rD ρ) CL ([(o, .inr (3, [.ref x, .null, .null, .null, .int 0, .int 0, .int 0, .int 0, .int 0])), (q1, .inr (2, [.int 0, .int 0, .int 0, .int 0, .int 0, .int 0]))]) H1 := hP
  have hD : va_D (fun q => q = o ∨ H2.size ≤ q) ([(o, .inr (3, [.ref x, .null, .null, .null, .int 0, .int 0, .int 0, .int 0, .int 0])), (q1, .inr (2, [.int 0, .int 0, .int 0, .int 0, .int 0, .int 0]))]) := hD
  refine lv_dup (pc := 15) hx hb d28_15 rfl ?_
  refine k_callIN (pc := 16) (n := 0) X hS (c_n_grid0 l ρ _ (fun _ => False) _ (hCf hS) (fun q hq => hq.elim)) wd102 1 rfl wd101 rfl wd5 (by decide) ⟨rfl, rfl, Nat.le_of_ble_eq_true rfl, Nat.le_of_ble_eq_true rfl⟩ (As := []) (rest := [.ref q1, .ref o]) rfl rfl hl.1 (Nat.le_of_ble_eq_true rfl) d28_16 ⟨(Nat.le_of_ble_eq_true rfl), (Nat.le_of_ble_eq_true rfl)⟩ (fun q hq => hq.elim) (fun v H3 locs3 hv hz3 hq3 hS => ?_)
  obtain ⟨rfl, hv2⟩ := hv
  have hv3 := hv2.symm
  clear hv2
  subst hv3
  refine n_putF (pc := 19) (v := .ref q1) X hP hD hS 0 rfl rfl 1 rfl tin3 ty3 tyo3 tnm3 rfl wd130 rfl hmn rfl rfl rfl rfl d28_19 (fun H1 locs1 hP hD hS => ?_)
  have hP : va_P (rD ρ) CL ([(o, .inr (3, [.ref x, .ref q1, .null, .null, .int 0, .int 0, .int 0, .int 0, .int 0])), (q1, .inr (2, [.int 0, .int 0, .int 0, .int 0, .int 0, .int 0]))]) H1 := hP
  have hD : va_D (fun q => q = o ∨ H2.size ≤ q) ([(o, .inr (3, [.ref x, .ref q1, .null, .null, .int 0, .int 0, .int 0, .int 0, .int 0])), (q1, .inr (2, [.int 0, .int 0, .int 0, .int 0, .int 0, .int 0]))]) := hD
  refine lv_aload_n (pc := 22) hx hb d28_22 rfl (lv_at hl 0 rfl) ?_
  refine lv_sipush (pc := 23) (v := 512) hx hb d28_23 (by decide) ?_
  refine n_newq (pc := 26) (N' := 512) X hP hD hS (fun q hq => Or.inr hq) 6 rfl X.2.2.2.2.2.2.2.2.2.2.1 wd126 (by decide) (by decide) (by decide) (Nat.le_of_ble_eq_true rfl) (Nat.le_of_ble_eq_true rfl) d28_26 (fun q2 H1 hP hD hS => ?_)
  have hP : va_P (rD ρ) CL ([(o, .inr (3, [.ref x, .ref q1, .null, .null, .int 0, .int 0, .int 0, .int 0, .int 0])), (q1, .inr (2, [.int 0, .int 0, .int 0, .int 0, .int 0, .int 0])), (q2, .inl (rA ρ 6, 512, .inr (.inr (.inr (.inr (fun _ => none))))))]) H1 := hP
  have hD : va_D (fun q => q = o ∨ H2.size ≤ q) ([(o, .inr (3, [.ref x, .ref q1, .null, .null, .int 0, .int 0, .int 0, .int 0, .int 0])), (q1, .inr (2, [.int 0, .int 0, .int 0, .int 0, .int 0, .int 0])), (q2, .inl (rA ρ 6, 512, .inr (.inr (.inr (.inr (fun _ => none))))))]) := hD
  refine n_putF (pc := 29) (v := .ref q2) X hP hD hS 0 rfl rfl 2 rfl tin3 ty3 tyo3 tnm3 rfl wd131 rfl hmn rfl rfl rfl rfl d28_29 (fun H1 locs1 hP hD hS => ?_)
  have hP : va_P (rD ρ) CL ([(o, .inr (3, [.ref x, .ref q1, .ref q2, .null, .int 0, .int 0, .int 0, .int 0, .int 0])), (q1, .inr (2, [.int 0, .int 0, .int 0, .int 0, .int 0, .int 0])), (q2, .inl (rA ρ 6, 512, .inr (.inr (.inr (.inr (fun _ => none))))))]) H1 := hP
  have hD : va_D (fun q => q = o ∨ H2.size ≤ q) ([(o, .inr (3, [.ref x, .ref q1, .ref q2, .null, .int 0, .int 0, .int 0, .int 0, .int 0])), (q1, .inr (2, [.int 0, .int 0, .int 0, .int 0, .int 0, .int 0])), (q2, .inl (rA ρ 6, 512, .inr (.inr (.inr (.inr (fun _ => none))))))]) := hD
  refine lv_aload_n (pc := 32) hx hb d28_32 rfl (lv_at hl 0 rfl) ?_
  refine lv_bipush (pc := 33) (v := 30) hx hb d28_33 (by decide) ?_
  refine n_newq (pc := 35) (N' := 30) X hP hD hS (fun q hq => Or.inr hq) 7 rfl X.2.2.2.2.2.2.2.2.2.2.2 wd98 (by decide) (by decide) (by decide) (Nat.le_of_ble_eq_true rfl) (Nat.le_of_ble_eq_true rfl) d28_35 (fun q3 H1 hP hD hS => ?_)
  have hP : va_P (rD ρ) CL ([(o, .inr (3, [.ref x, .ref q1, .ref q2, .null, .int 0, .int 0, .int 0, .int 0, .int 0])), (q1, .inr (2, [.int 0, .int 0, .int 0, .int 0, .int 0, .int 0])), (q2, .inl (rA ρ 6, 512, .inr (.inr (.inr (.inr (fun _ => none)))))), (q3, .inl (rA ρ 7, 30, .inr (.inr (.inr (.inr (fun _ => none))))))]) H1 := hP
  have hD : va_D (fun q => q = o ∨ H2.size ≤ q) ([(o, .inr (3, [.ref x, .ref q1, .ref q2, .null, .int 0, .int 0, .int 0, .int 0, .int 0])), (q1, .inr (2, [.int 0, .int 0, .int 0, .int 0, .int 0, .int 0])), (q2, .inl (rA ρ 6, 512, .inr (.inr (.inr (.inr (fun _ => none)))))), (q3, .inl (rA ρ 7, 30, .inr (.inr (.inr (.inr (fun _ => none))))))]) := hD
  refine n_putF (pc := 38) (v := .ref q3) X hP hD hS 0 rfl rfl 3 rfl tin3 ty3 tyo3 tnm3 rfl wd132 rfl hmn rfl rfl rfl rfl d28_38 (fun H1 locs1 hP hD hS => ?_)
  have hP : va_P (rD ρ) CL ([(o, .inr (3, [.ref x, .ref q1, .ref q2, .ref q3, .int 0, .int 0, .int 0, .int 0, .int 0])), (q1, .inr (2, [.int 0, .int 0, .int 0, .int 0, .int 0, .int 0])), (q2, .inl (rA ρ 6, 512, .inr (.inr (.inr (.inr (fun _ => none)))))), (q3, .inl (rA ρ 7, 30, .inr (.inr (.inr (.inr (fun _ => none))))))]) H1 := hP
  have hD : va_D (fun q => q = o ∨ H2.size ≤ q) ([(o, .inr (3, [.ref x, .ref q1, .ref q2, .ref q3, .int 0, .int 0, .int 0, .int 0, .int 0])), (q1, .inr (2, [.int 0, .int 0, .int 0, .int 0, .int 0, .int 0])), (q2, .inl (rA ρ 6, 512, .inr (.inr (.inr (.inr (fun _ => none)))))), (q3, .inl (rA ρ 7, 30, .inr (.inr (.inr (.inr (fun _ => none))))))]) := hD
  refine lv_aload_n (pc := 41) hx hb d28_41 rfl (lv_at hl 0 rfl) ?_
  refine lv_iconst (pc := 42) (v := 1) hx hb d28_42 (by decide) ?_
  refine n_put (pc := 43) (v := .int 1) X hP hD hS 0 rfl rfl 7 rfl tin3 ty3 tyo3 tnm3 rfl wd141 rfl rfl rfl rfl d28_43 (fun H1 locs1 hP hD hS => ?_)
  have hP : va_P (rD ρ) CL ([(o, .inr (3, [.ref x, .ref q1, .ref q2, .ref q3, .int 0, .int 0, .int 0, .int 1, .int 0])), (q1, .inr (2, [.int 0, .int 0, .int 0, .int 0, .int 0, .int 0])), (q2, .inl (rA ρ 6, 512, .inr (.inr (.inr (.inr (fun _ => none)))))), (q3, .inl (rA ρ 7, 30, .inr (.inr (.inr (.inr (fun _ => none))))))]) H1 := hP
  have hD : va_D (fun q => q = o ∨ H2.size ≤ q) ([(o, .inr (3, [.ref x, .ref q1, .ref q2, .ref q3, .int 0, .int 0, .int 0, .int 1, .int 0])), (q1, .inr (2, [.int 0, .int 0, .int 0, .int 0, .int 0, .int 0])), (q2, .inl (rA ρ 6, 512, .inr (.inr (.inr (.inr (fun _ => none)))))), (q3, .inl (rA ρ 7, 30, .inr (.inr (.inr (.inr (fun _ => none))))))]) := hD
  refine lv_aload_n (pc := 46) hx hb d28_46 rfl (lv_at hl 0 rfl) ?_
  refine lv_iconst (pc := 47) (v := 1) hx hb d28_47 (by decide) ?_
  refine n_put (pc := 48) (v := .int 1) X hP hD hS 0 rfl rfl 8 rfl tin3 ty3 tyo3 tnm3 rfl wd144 rfl rfl rfl rfl d28_48 (fun H1 locs1 hP hD hS => ?_)
  have hP : va_P (rD ρ) CL ([(o, .inr (3, [.ref x, .ref q1, .ref q2, .ref q3, .int 0, .int 0, .int 0, .int 1, .int 1])), (q1, .inr (2, [.int 0, .int 0, .int 0, .int 0, .int 0, .int 0])), (q2, .inl (rA ρ 6, 512, .inr (.inr (.inr (.inr (fun _ => none)))))), (q3, .inl (rA ρ 7, 30, .inr (.inr (.inr (.inr (fun _ => none))))))]) H1 := hP
  have hD : va_D (fun q => q = o ∨ H2.size ≤ q) ([(o, .inr (3, [.ref x, .ref q1, .ref q2, .ref q3, .int 0, .int 0, .int 0, .int 1, .int 1])), (q1, .inr (2, [.int 0, .int 0, .int 0, .int 0, .int 0, .int 0])), (q2, .inl (rA ρ 6, 512, .inr (.inr (.inr (.inr (fun _ => none)))))), (q3, .inl (rA ρ 7, 30, .inr (.inr (.inr (.inr (fun _ => none))))))]) := hD
  refine lv_iconst (pc := 51) (v := 0) hx hb d28_51 (by decide) ?_
  refine lv_istore_n (pc := 52) (lv' := [(1, .int 0), (0, .ref o)]) hx hb d28_52 rfl hl (by decide) rfl (fun ls hl => ?_)
  have key2 : ∀ (n i : Nat) (H : Heap) (f g : Nat → Option Nat) (gl : List Nat) (locs : List Loc) (ls : Array Slot), 30 - i = n → i ≤ 30 → (∀ j, j < 512 → f j = some x) → gl.length = i → (∀ j, j < i → g j = gl[j]?) → va_P (rD ρ) CL ([(o, .inr (3, [.ref x, .ref q1, .ref q2, .ref q3, .int 0, .int 0, .int 0, .int 1, .int 1])), (q1, .inr (2, [.int 0, .int 0, .int 0, .int 0, .int 0, .int 0])), (q2, .inl (rA ρ 6, 512, .inr (.inr (.inr (.inr (f)))))), (q3, .inl (rA ρ 7, 30, .inr (.inr (.inr (.inr (g))))))] ++ gl.map (fun a => (a, (.inr (2, [.int 0, .int 0, .int 0, .int 0, .int 0, .int 0]) : va_E)))) H → va_D (fun q => q = o ∨ H2.size ≤ q) ([(o, .inr (3, [.ref x, .ref q1, .ref q2, .ref q3, .int 0, .int 0, .int 0, .int 1, .int 1])), (q1, .inr (2, [.int 0, .int 0, .int 0, .int 0, .int 0, .int 0])), (q2, .inl (rA ρ 6, 512, .inr (.inr (.inr (.inr (f)))))), (q3, .inl (rA ρ 7, 30, .inr (.inr (.inr (.inr (g))))))] ++ gl.map (fun a => (a, (.inr (2, [.int 0, .int 0, .int 0, .int 0, .int 0, .int 0]) : va_E)))) → va_S (fun q => q = o ∨ H2.size ≤ q) H2 H locs → lv_has ls 2 [(1, .int (nI i)), (0, .ref o)] → W p l e ({ frames := 13, cells := 34, slots := 731, locals := 619 } : Room) s m args below meth c H locs (4 + i) (551 + 6 * i) (MQ below (mQ (fun v H1 => v = none ∧ ∃ (q1 q2 q3 x : Nat) (f g : Nat → Option Nat) (gl : List Nat), (∀ j, j < 512 → f j = some x) ∧ gl.length = 30 ∧ (∀ j, j < 30 → g j = gl[j]?) ∧ va_P (rD ρ) CL ([(o, .inr (3, [.ref x, .ref q1, .ref q2, .ref q3, .int 0, .int 0, .int 0, .int 1, .int 1])), (q1, .inr (2, [.int 0, .int 0, .int 0, .int 0, .int 0, .int 0])), (q2, .inl (rA ρ 6, 512, .inr (.inr (.inr (.inr (f)))))), (q3, .inl (rA ρ 7, 30, .inr (.inr (.inr (.inr (g))))))] ++ gl.map (fun a => (a, (.inr (2, [.int 0, .int 0, .int 0, .int 0, .int 0, .int 0]) : va_E)))) H1 ∧ va_D (va_A [(o, .inr (3, [.null, .null, .null, .null, .int 0, .int 0, .int 0, .int 0, .int 0]))] s.heap.size) ([(o, .inr (3, [.ref x, .ref q1, .ref q2, .ref q3, .int 0, .int 0, .int 0, .int 1, .int 1])), (q1, .inr (2, [.int 0, .int 0, .int 0, .int 0, .int 0, .int 0])), (q2, .inl (rA ρ 6, 512, .inr (.inr (.inr (.inr (f)))))), (q3, .inl (rA ρ 7, 30, .inr (.inr (.inr (.inr (g))))))] ++ gl.map (fun a => (a, (.inr (2, [.int 0, .int 0, .int 0, .int 0, .int 0, .int 0]) : va_E)))) ∧ isV ρ (Pw P ([(o, .inr (3, [.ref x, .ref q1, .ref q2, .ref q3, .int 0, .int 0, .int 0, .int 1, .int 1])), (q1, .inr (2, [.int 0, .int 0, .int 0, .int 0, .int 0, .int 0])), (q2, .inl (rA ρ 6, 512, .inr (.inr (.inr (.inr (f)))))), (q3, .inl (rA ρ 7, 30, .inr (.inr (.inr (.inr (g))))))] ++ gl.map (fun a => (a, (.inr (2, [.int 0, .int 0, .int 0, .int 0, .int 0, .int 0]) : va_E))))) H1 x (0, 0, [])) (va_A [(o, .inr (3, [.null, .null, .null, .null, .int 0, .int 0, .int 0, .int 0, .int 0]))] s.heap.size)) args s 34 731 (va_A [(o, .inr (3, [.null, .null, .null, .null, .int 0, .int 0, .int 0, .int 0, .int 0]))] s.heap.size)) (F0 m 80 ls []) := by
    intro n
    induction n with
    | zero =>
      intro i H f g gl locs ls hn hi hf hgl hg hP hD hS hl
      refine lv_iload_n (pc := 80) hx hb d28_80 rfl (lv_at hl 0 rfl) ?_
      refine lv_aload_n (pc := 81) hx hb d28_81 rfl (lv_at hl 1 rfl) ?_
      refine n_get (pc := 82) X hP 0 rfl rfl 3 rfl rfl tin3 rfl wd132 d28_82 ?_
      refine n_qlen (pc := 85) X hP 3 7 rfl rfl d28_85 ?_
      refine lv_icmp_ge (pc := 86) (tgt := 108) hx hb d28_86 (by decide) (fun zbr => ?_) (fun zbr => absurd (nI_le (a := 30) (b := i) (by omega) (by omega)) zbr)
      obtain rfl : i = 30 := by omega
      refine m_vret (pc := 108) hx hb hr hlk (hS.back (A := va_A [(o, .inr (3, [.null, .null, .null, .null, .int 0, .int 0, .int 0, .int 0, .int 0]))] s.heap.size) (fun q z => z.elim va_A_one (fun g => Or.inr (Nat.le_trans hzA g))) (va_S_nil hzA (fun q h1 h2 => hqA q h1 (by omega)))) ⟨rfl, q1, q2, q3, x, f, g, gl, hf, hgl, hg, hP, hD.weaken (fun k q _ z => z.elim va_A_one (fun g => Or.inr (Nat.le_trans hzA g))), (hPf hS).step kp.rf no_hz (fun q hq z => z.elim Or.inl (fun z => ?_))⟩ (Nat.le_of_ble_eq_true rfl) (Nat.le_of_ble_eq_true rfl) d28_108
      obtain ⟨k, e, hk⟩ := z
      rcases hD.2 k _ hk with e | e
      · exact Or.inl (by rw [show q = o from e]; exact hPo)
      · exact Or.inr e
    | succ n ih =>
      intro i H f g gl locs ls hn hi hf hgl hg hP hD hS hl
      refine lv_iload_n (pc := 80) hx hb d28_80 rfl (lv_at hl 0 rfl) ?_
      refine lv_aload_n (pc := 81) hx hb d28_81 rfl (lv_at hl 1 rfl) ?_
      refine n_get (pc := 82) X hP 0 rfl rfl 3 rfl rfl tin3 rfl wd132 d28_82 ?_
      refine n_qlen (pc := 85) X hP 3 7 rfl rfl d28_85 ?_
      refine lv_icmp_ge (pc := 86) (tgt := 108) hx hb d28_86 (by decide) (fun zbr => absurd zbr (fun z => absurd (nI_lt (show i < 30 by omega) (by decide)) (Int32.not_lt.mpr z))) (fun zbr => ?_)
      refine lv_aload_n (pc := 89) hx hb d28_89 rfl (lv_at hl 1 rfl) ?_
      refine n_get (pc := 90) X hP 0 rfl rfl 3 rfl rfl tin3 rfl wd132 d28_90 ?_
      refine lv_iload_n (pc := 93) hx hb d28_93 rfl (lv_at hl 0 rfl) ?_
      refine n_new (pc := 94) X hP hD hS (fun q hq => Or.inr hq) 2 rfl tin2 tyo2 [.int 0, .int 0, .int 0, .int 0, .int 0, .int 0] GRD wd98 wd99 wd5 (by show 4 + i + 1 ≤ 34; omega) (by show 551 + 6 * i + 6 ≤ 731; omega) d28_94 (fun q H1 hP hD hS ho1 hz1 hq1 => ?_)
      refine lv_dup (pc := 97) hx hb d28_97 rfl ?_
      refine k_callIN (pc := 98) (n := 0) X hS (c_n_grid0 l ρ _ (fun _ => False) _ (hCf hS) (fun q hq => hq.elim)) wd102 1 rfl wd101 rfl wd5 (by decide) ⟨rfl, rfl, Nat.le_of_ble_eq_true rfl, Nat.le_of_ble_eq_true rfl⟩ (As := []) (rest := [.ref q, .int (nI i), .ref q3]) rfl rfl hl.1 (Nat.le_of_ble_eq_true rfl) d28_98 ⟨(by show 4 + i + 1 + 0 ≤ 34; omega), (by show 551 + 6 * i + 6 + 0 ≤ 731; omega)⟩ (fun q hq => hq.elim) (fun v H3 locs3 hv hz3 hq3 hS => ?_)
      obtain ⟨rfl, hv2⟩ := hv
      have hv3 := hv2.symm
      clear hv2
      subst hv3
      rw [show (([(o, .inr (3, [.ref x, .ref q1, .ref q2, .ref q3, .int 0, .int 0, .int 0, .int 1, .int 1])), (q1, .inr (2, [.int 0, .int 0, .int 0, .int 0, .int 0, .int 0])), (q2, .inl (rA ρ 6, 512, .inr (.inr (.inr (.inr (f)))))), (q3, .inl (rA ρ 7, 30, .inr (.inr (.inr (.inr (g))))))] ++ gl.map (fun a => (a, (.inr (2, [.int 0, .int 0, .int 0, .int 0, .int 0, .int 0]) : va_E)))) ++ [(q, .inr (2, [.int 0, .int 0, .int 0, .int 0, .int 0, .int 0]))] : va_W) = [(o, .inr (3, [.ref x, .ref q1, .ref q2, .ref q3, .int 0, .int 0, .int 0, .int 1, .int 1])), (q1, .inr (2, [.int 0, .int 0, .int 0, .int 0, .int 0, .int 0])), (q2, .inl (rA ρ 6, 512, .inr (.inr (.inr (.inr (f)))))), (q3, .inl (rA ρ 7, 30, .inr (.inr (.inr (.inr (g))))))] ++ (gl ++ [q]).map (fun a => (a, (.inr (2, [.int 0, .int 0, .int 0, .int 0, .int 0, .int 0]) : va_E))) by rw [List.append_assoc, List.map_append]; rfl] at hP hD
      have hob := n_obj hP (k := 4 + i) (a := q) (ci := 2) (fs := [.int 0, .int 0, .int 0, .int 0, .int 0, .int 0]) (get_g30 rfl hgl) rfl
      refine n_astG (pc := 101) X hP hD hS 3 rfl hob (inb_of (show i < 30 by omega) (by decide)) d28_101 (fun H4 locs4 hP hD hS => ?_)
      rw [nI_clamp (show i < 2 ^ 31 by omega)] at hP hD
      refine lv_iinc (pc := 102) (v := (nI (i + 1))) (lv' := [(1, .int (nI (i + 1))), (0, .ref o)]) hx hb d28_102 hl (k := 0) rfl ((nI_succ i).symm) (by decide) rfl (fun ls hl => ?_)
      refine lv_goto (pc := 105) (tgt := 80) hx hb d28_105 (by decide) ?_
      rw [show 4 + i + 1 + 0 = 4 + (i + 1) by omega, show 551 + 6 * i + 6 + 0 = 551 + 6 * (i + 1) by omega]
      exact ih (i + 1) _ f _ (gl ++ [q]) _ _ (by omega) (by omega) hf (by rw [List.length_append, hgl]; rfl) (fun j hj => by by_cases e : j = i; rw [e, va_up_self, List.getElem?_append_right (by omega), hgl, Nat.sub_self]; rfl; rw [va_up_ne _ _ e, List.getElem?_append_left (by omega)]; exact hg j (by omega)) hP hD hS (lv_sub hl [0, 1] rfl)
  have key : ∀ (n i : Nat) (H : Heap) (f : Nat → Option Nat) (locs : List Loc) (ls : Array Slot), 512 - i = n → i ≤ 512 → (∀ j, j < i → f j = some x) → va_P (rD ρ) CL ([(o, .inr (3, [.ref x, .ref q1, .ref q2, .ref q3, .int 0, .int 0, .int 0, .int 1, .int 1])), (q1, .inr (2, [.int 0, .int 0, .int 0, .int 0, .int 0, .int 0])), (q2, .inl (rA ρ 6, 512, .inr (.inr (.inr (.inr (f)))))), (q3, .inl (rA ρ 7, 30, .inr (.inr (.inr (.inr (fun _ => none))))))]) H → va_D (fun q => q = o ∨ H2.size ≤ q) ([(o, .inr (3, [.ref x, .ref q1, .ref q2, .ref q3, .int 0, .int 0, .int 0, .int 1, .int 1])), (q1, .inr (2, [.int 0, .int 0, .int 0, .int 0, .int 0, .int 0])), (q2, .inl (rA ρ 6, 512, .inr (.inr (.inr (.inr (f)))))), (q3, .inl (rA ρ 7, 30, .inr (.inr (.inr (.inr (fun _ => none))))))]) → va_S (fun q => q = o ∨ H2.size ≤ q) H2 H locs → lv_has ls 2 [(1, .int (nI i)), (0, .ref o)] → W p l e ({ frames := 13, cells := 34, slots := 731, locals := 619 } : Room) s m args below meth c H locs 4 551 (MQ below (mQ (fun v H1 => v = none ∧ ∃ (q1 q2 q3 x : Nat) (f g : Nat → Option Nat) (gl : List Nat), (∀ j, j < 512 → f j = some x) ∧ gl.length = 30 ∧ (∀ j, j < 30 → g j = gl[j]?) ∧ va_P (rD ρ) CL ([(o, .inr (3, [.ref x, .ref q1, .ref q2, .ref q3, .int 0, .int 0, .int 0, .int 1, .int 1])), (q1, .inr (2, [.int 0, .int 0, .int 0, .int 0, .int 0, .int 0])), (q2, .inl (rA ρ 6, 512, .inr (.inr (.inr (.inr (f)))))), (q3, .inl (rA ρ 7, 30, .inr (.inr (.inr (.inr (g))))))] ++ gl.map (fun a => (a, (.inr (2, [.int 0, .int 0, .int 0, .int 0, .int 0, .int 0]) : va_E)))) H1 ∧ va_D (va_A [(o, .inr (3, [.null, .null, .null, .null, .int 0, .int 0, .int 0, .int 0, .int 0]))] s.heap.size) ([(o, .inr (3, [.ref x, .ref q1, .ref q2, .ref q3, .int 0, .int 0, .int 0, .int 1, .int 1])), (q1, .inr (2, [.int 0, .int 0, .int 0, .int 0, .int 0, .int 0])), (q2, .inl (rA ρ 6, 512, .inr (.inr (.inr (.inr (f)))))), (q3, .inl (rA ρ 7, 30, .inr (.inr (.inr (.inr (g))))))] ++ gl.map (fun a => (a, (.inr (2, [.int 0, .int 0, .int 0, .int 0, .int 0, .int 0]) : va_E)))) ∧ isV ρ (Pw P ([(o, .inr (3, [.ref x, .ref q1, .ref q2, .ref q3, .int 0, .int 0, .int 0, .int 1, .int 1])), (q1, .inr (2, [.int 0, .int 0, .int 0, .int 0, .int 0, .int 0])), (q2, .inl (rA ρ 6, 512, .inr (.inr (.inr (.inr (f)))))), (q3, .inl (rA ρ 7, 30, .inr (.inr (.inr (.inr (g))))))] ++ gl.map (fun a => (a, (.inr (2, [.int 0, .int 0, .int 0, .int 0, .int 0, .int 0]) : va_E))))) H1 x (0, 0, [])) (va_A [(o, .inr (3, [.null, .null, .null, .null, .int 0, .int 0, .int 0, .int 0, .int 0]))] s.heap.size)) args s 34 731 (va_A [(o, .inr (3, [.null, .null, .null, .null, .int 0, .int 0, .int 0, .int 0, .int 0]))] s.heap.size)) (F0 m 53 ls []) := by
    intro n
    induction n with
    | zero =>
      intro i H f locs ls hn hi hf hP hD hS hl
      refine lv_iload_n (pc := 53) hx hb d28_53 rfl (lv_at hl 0 rfl) ?_
      refine lv_aload_n (pc := 54) hx hb d28_54 rfl (lv_at hl 1 rfl) ?_
      refine n_get (pc := 55) X hP 0 rfl rfl 2 rfl rfl tin3 rfl wd131 d28_55 ?_
      refine n_qlen (pc := 58) X hP 2 6 rfl rfl d28_58 ?_
      refine lv_icmp_ge (pc := 59) (tgt := 78) hx hb d28_59 (by decide) (fun zbr => ?_) (fun zbr => absurd (nI_le (a := 512) (b := i) (by omega) (by omega)) zbr)
      refine lv_iconst (pc := 78) (v := 0) hx hb d28_78 (by decide) ?_
      refine lv_istore_n (pc := 79) (lv' := [(1, .int 0), (0, .ref o)]) hx hb d28_79 rfl hl (by decide) rfl (fun ls hl => ?_)
      exact key2 30 0 _ f _ [] _ _ rfl (by decide) (fun j hj => hf j (by omega)) rfl (fun j hj => absurd hj (Nat.not_lt_zero j)) hP hD hS (lv_sub hl [0, 1] rfl)
    | succ n ih =>
      intro i H f locs ls hn hi hf hP hD hS hl
      refine lv_iload_n (pc := 53) hx hb d28_53 rfl (lv_at hl 0 rfl) ?_
      refine lv_aload_n (pc := 54) hx hb d28_54 rfl (lv_at hl 1 rfl) ?_
      refine n_get (pc := 55) X hP 0 rfl rfl 2 rfl rfl tin3 rfl wd131 d28_55 ?_
      refine n_qlen (pc := 58) X hP 2 6 rfl rfl d28_58 ?_
      refine lv_icmp_ge (pc := 59) (tgt := 78) hx hb d28_59 (by decide) (fun zbr => absurd zbr (fun z => absurd (nI_lt (show i < 512 by omega) (by decide)) (Int32.not_lt.mpr z))) (fun zbr => ?_)
      refine lv_aload_n (pc := 62) hx hb d28_62 rfl (lv_at hl 1 rfl) ?_
      refine n_get (pc := 63) X hP 0 rfl rfl 2 rfl rfl tin3 rfl wd131 d28_63 ?_
      refine lv_iload_n (pc := 66) hx hb d28_66 rfl (lv_at hl 0 rfl) ?_
      refine lv_aload_n (pc := 67) hx hb d28_67 rfl (lv_at hl 1 rfl) ?_
      refine n_get (pc := 68) X hP 0 rfl rfl 0 rfl rfl tin3 rfl wd129 d28_68 ?_
      refine n_astV (pc := 71) X hP hD hS 2 rfl (hxk hS) (inb_of (show i < 512 by omega) (by decide)) d28_71 (fun H4 locs1 hP hD hS => ?_)
      rw [nI_clamp (show i < 2 ^ 31 by omega)] at hP hD
      refine lv_iinc (pc := 72) (v := (nI (i + 1))) (lv' := [(1, .int (nI (i + 1))), (0, .ref o)]) hx hb d28_72 hl (k := 0) rfl ((nI_succ i).symm) (by decide) rfl (fun ls hl => ?_)
      refine lv_goto (pc := 75) (tgt := 53) hx hb d28_75 (by decide) ?_
      exact ih (i + 1) _ _ _ _ (by omega) (by omega) (fun j hj => by by_cases e : j = i; rw [e]; exact va_up_self _ _ _; rw [va_up_ne _ _ e]; exact hf j (by omega)) hP hD hS (lv_sub hl [0, 1] rfl)
  exact key 512 0 _ _ _ _ rfl (by decide) (fun j hj => absurd hj (Nat.not_lt_zero j)) hP hD hS (lv_sub hl [0, 1] rfl)
