theorem arrV_ext {cI : ClassId} {N : Nat} {f g : Nat → Value} (h : ∀ j, j < N → f j = g j) : arrV cI N f = arrV cI N g := by
  unfold arrV
  congr 2
  funext j
  exact h j.val j.isLt
theorem at_in {ws w : va_W} {is : List Nat} (hs : is.map (fun i => ws[i]?) = w.map some) {q : Nat} (h : inW w q) : inW ws q := by
  obtain ⟨k, e, hk⟩ := h
  have h1 : (is.map (fun i => ws[i]?))[k]? = some (some (q, e)) := by rw [hs, List.getElem?_map, hk]; rfl
  rw [List.getElem?_map] at h1
  cases hi : is[k]? with
  | none => rw [hi] at h1; cases h1
  | some i => rw [hi] at h1; exact ⟨i, e, Option.some.inj h1⟩
theorem SW.join {D : va_G} {cl : List vw_C} {ws wc wr w1 : va_W} {H H1 : Heap} {isC isR : List Nat} (hC : isC.map (fun i => ws[i]?) = wc.map some) (hR : isR.map (fun i => ws[i]?) = wr.map some) (hP : va_P D cl ws H) (hz : H.size ≤ H1.size) (hk : ∀ q : Nat, q < H.size → ¬ va_A wc H.size q → H1[q]? = H[q]?) (hD1 : va_D (va_A wc H.size) w1) : SW ws H (wr ++ w1) H1 := by
  refine ⟨⟨hz, fun q hq hn => hk q hq (fun z => ?_)⟩, fun q hq z => ?_⟩
  · rcases z with ⟨k, e, g⟩ | g
    · exact hn (at_in hC ⟨k, e, g⟩)
    · omega
  · rcases z.app with g | ⟨k, e, g⟩
    · exact at_in hR g
    · rcases hD1.2 k _ g with ⟨k2, e2, g2⟩ | g2
      · exact at_in hC ⟨k2, e2, g2⟩
      · exact absurd g2 (Nat.not_le.mpr hq)
theorem isV.join {ρ : RH} {P Pn : Nat → Prop} {ws wr w1 : va_W} {H1 : Heap} {x : Nat} {v : VV} {isR : List Nat} (h : isV ρ Pn H1 x v) (hR : isR.map (fun i => ws[i]?) = wr.map some) (h1 : ∀ q, Pw P ws q → Pn q) (h2 : ∀ q, inW w1 q → Pn q) : isV ρ (Pw P (wr ++ w1)) H1 x v :=
  h.step (kp.rf (Z := fun _ => False)) (fun q _ z => z.elim) (fun q _ z => z.elim (fun g => h1 q (Or.inl g)) (fun g => g.app.elim (fun g => h1 q (Or.inr (at_in hR g))) (h2 q)))
theorem CC.far {ρ : RH} {P A : Nat → Prop} {ws : va_W} {H0 H : Heap} {locs : List Loc} (h : CC ρ P H0) (hS : va_S A H0 H locs) (hD : va_D A ws) (hA : ∀ q, q < H0.size → A q → P q) : CC ρ (Pw P ws) H :=
  h.step (Z := A) ⟨hS.1, hS.2.1⟩ hA (fun q hq z => z.elim id (fun ⟨k, e, g⟩ => hA q hq (hD.2 k _ g)))
section N4
variable {p : Program} {l : Launch} {e : Env} {R : Room} {s : State} {m : MethodId} {args : Array Value} {below : List Frame} {meth : Method} {c : Code} {H : Heap} {locs : List Loc} {cells slots : Nat} {Q : State → Prop}
variable {cc : ByteArray} {pc nL : Nat} {ls : Array Slot} {rest : List Value} {own : String} {ρ : RH} {w0 : Cond} {A : Nat → Prop} {H0 : Heap} {ws : va_W} {a : Nat} {P : Nat → Prop}
theorem n_putFo (X : CX p s m c args own cc nL ρ w0) (hP : va_P (rD ρ) CL ws H) (hD : va_D A ws) (hS : va_S A H0 H locs) (q0 : Nat) {ci N index : Nat} {C ref : String} {T : u_T} {fs : List Value} (he : ws[q0]? = some (a, .inr (ci, fs))) (hc : CL[ci]? = some (C, T, N)) (k : Nat) (hk : Nat.ble (k + 1) N = true) (hin : ∀ w ∈ u_ws C T N, w ∈ TG) (ty0 : Nat → FieldType) (hty : ∀ k, k < N → parseFieldDescriptor (T k).2.2.1 = some (ty0 k)) (hnm : ∀ a, a < N → ∀ b, b < N → a ≠ b → (T a).2.1 ≠ (T b).2.1) (hsame : (T k).1 = ref) (hl : Cond.fieldLink own index ref (T k).2.1 (T k).2.2.1 ∈ TG) (hfin : (T k).2.2.2 = true) (hin2 : meth.name = "<init>") (hdecl : (T k).1 = own) {v : Value} (hn : narrow (ty0 k) v = v) (hfit : fits (ty0 k) v = true) (hlen : Nat.ble (k + 1) fs.length = true) (hdg : decode cc pc = .ok (.putfield index, 3))
    (kk : ∀ (H1 : Heap) (locs1 : List Loc), va_P (rD ρ) CL (ws.set q0 (a, .inr (ci, fs.set k v))) H1 → va_D A (ws.set q0 (a, .inr (ci, fs.set k v))) → va_S A H0 H1 locs1 → H1.size = H.size → (∀ q, q ≠ a → H1[q]? = H[q]?) → W p l e R s m args below meth c H1 locs1 cells slots Q (F0 m (pc + 3) ls rest)) : W p l e R s m args below meth c H locs cells slots Q (F0 m pc ls (v :: .ref a :: rest)) := by
  obtain ⟨r, h1, h2⟩ := hP q0 _ he
  obtain rfl : r = (C, T, N) := Option.some.inj (h1.symm.trans hc)
  refine o_putF X hS h2 k (hD.2 q0 _ he) hc hk hin ty0 hty hnm hsame hl hfin hin2 hdecl hn hfit hdg fun H1 locs1 ho hS1 hz hq => ?_
  exact kk H1 locs1 (hP.set hD he ⟨_, hc, ho.to (fun j _ => vp_updV_set (Nat.le_of_ble_eq_true hlen) v j)⟩ hq) (hD.set he) hS1 hz hq
end N4
theorem gC_obj {ρ : RH} {ct : Nat → Nat → Nat} {ad : Nat → Nat} {st : GS} {i a ci N : Nat} {H : Heap} {fs : List Value} (ha : ad i = a) (hn : nf ci = N) (ho : t_OB a ((rD ρ).1 ci) N ((rD ρ).2 ci) H (vp_V fs)) (hv : ∀ k, k < N → vp_V fs k = gV ct ad st i ci k) : gC ρ ct ad st i (0, ci) H := by
  unfold gC
  rw [if_pos rfl]
  subst ha
  subst hn
  exact ho.to hv
theorem gC_grid {ρ : RH} {ct : Nat → Nat → Nat} {ad : Nat → Nat} {st : GS} {i a : Nat} {H : Heap} (ha : ad i = a) (hz : ∀ k, st.1 i k = 0) (ho : t_OB a ((rD ρ).1 2) 6 ((rD ρ).2 2) H (vp_V [.int 0, .int 0, .int 0, .int 0, .int 0, .int 0])) : gC ρ ct ad st i (0, 2) H := by
  refine gC_obj (N := 6) ha rfl ho (fun k hk => ?_)
  match k, hk with
  | 0, _ => show Value.int 0 = .int (st.1 i 0); rw [hz]
  | 1, _ => show Value.int 0 = .int (st.1 i 1); rw [hz]
  | 2, _ => show Value.int 0 = .int (st.1 i 2); rw [hz]
  | 3, _ => show Value.int 0 = .int (st.1 i 3); rw [hz]
  | 4, _ => show Value.int 0 = .int (st.1 i 4); rw [hz]
  | 5, _ => show Value.int 0 = .int (st.1 i 5); rw [hz]
  | k + 6, h => exact absurd h (by omega)
theorem gC_cell {ρ : RH} {ct : Nat → Nat → Nat} {ad : Nat → Nat} {st : GS} {i a cd n : Nat} {H : Heap} {x : ClassId × vp_A} (ha : ad i = a) (hc : ¬ cd = 0) (hx : gA ρ ct ad st i (cd, n) = x) (h : H[a]? = some (vp_cell x.1 x.2)) : gC ρ ct ad st i (cd, n) H := by
  unfold gC
  rw [if_neg hc, ha, hx]
  exact h
theorem gC_vals {ρ : RH} {ct : Nat → Nat → Nat} {ad : Nat → Nat} {st : GS} {i a n x : Nat} {H : Heap} {f : Nat → Option Nat} (ha : ad i = a) (hx : ∀ j, st.2.2 i j = x) (hf : ∀ j, j < n → f j = some x) (h : H[a]? = some (vp_cell (rA ρ 6) (n, .inr (.inr (.inr (.inr f)))))) : gC ρ ct ad st i (5, n) H := by
  unfold gC
  rw [if_neg (show ¬ (5 : Nat) = 0 by decide), ha, h, show gA ρ ct ad st i (5, n) = (rA ρ 6, n, .inr (.inr (.inr (.inr (fun j => some (st.2.2 i j)))))) from rfl]
  refine congrArg some ?_
  rw [vp_cell_q]
  refine Eq.trans ?_ (vp_cell_q _ _ _).symm
  exact arrV_ext (fun j hj => by rw [hf j hj, hx j])
theorem gC_grids {ρ : RH} {ct : Nat → Nat → Nat} {ad : Nat → Nat} {st : GS} {i a n : Nat} {H : Heap} {f : Nat → Option Nat} (ha : ad i = a) (hx : ∀ j, ct i j = 9 + j) (hf : ∀ j, j < n → f j = some (ad (9 + j))) (h : H[a]? = some (vp_cell (rA ρ 7) (n, .inr (.inr (.inr (.inr f)))))) : gC ρ ct ad st i (6, n) H := by
  unfold gC
  rw [if_neg (show ¬ (6 : Nat) = 0 by decide), ha, h, show gA ρ ct ad st i (6, n) = (rA ρ 7, n, .inr (.inr (.inr (.inr (fun j => some (ad (ct i j))))))) from rfl]
  refine congrArg some ?_
  rw [vp_cell_q]
  refine Eq.trans ?_ (vp_cell_q _ _ _).symm
  exact arrV_ext (fun j hj => by rw [hf j hj, hx j])
theorem CW.congrP {ρ : RH} {P P' : Nat → Prop} {ad : Nat → Nat} {st : CS} {H : Heap} (h : CW ρ P ad st H) (e : ∀ q, P' q ↔ P q) : CW ρ P' ad st H := by
  have e1 : P' = P := funext fun q => propext (e q)
  subst e1
  exact h
theorem len_succ {l : List Nat} {n : Nat} (h : l.length = n + 1) : ∃ a t, l = a :: t ∧ t.length = n := by
  match l, h with
  | a :: t, h => exact ⟨a, t, rfl, Nat.succ.inj h⟩
/-- the class's first state -/
def CI0 : Nat → Nat → Int32 := fun i k => if (i = 1 ∧ (k = 7 ∨ k = 8)) ∨ (i = 2 ∧ (k = 1 ∨ k = 2)) then 1 else 0
def cs0 : CS := (CI0, fun _ _ => (0, 0, []))
def RF0 (c x1 x2 : Nat) : Nat → Nat → Nat := fun i _ => if i = 0 then c else if i = 1 ∨ i = 40 then x1 else x2
theorem DF0 : ∀ j, j < 3 → defaultValue (ty0 j) = vp_V [.null, .int 0, .null] j := by
  intro j hj
  match j, hj with
  | 0, _ => rfl
  | 1, _ => rfl
  | 2, _ => rfl
  | j + 3, h => exact absurd h (by omega)
theorem DF3 : ∀ j, j < 9 → defaultValue (ty3 j) = vp_V [.null, .null, .null, .null, .int 0, .int 0, .int 0, .int 0, .int 0] j := by
  intro j hj
  match j, hj with
  | 0, _ => rfl
  | 1, _ => rfl
  | 2, _ => rfl
  | 3, _ => rfl
  | 4, _ => rfl
  | 5, _ => rfl
  | 6, _ => rfl
  | 7, _ => rfl
  | 8, _ => rfl
  | j + 9, h => exact absurd h (by omega)
theorem DF4 : ∀ j, j < 4 → defaultValue (ty4 j) = vp_V [.null, .int 0, .int 0, .null] j := by
  intro j hj
  match j, hj with
  | 0, _ => rfl
  | 1, _ => rfl
  | 2, _ => rfl
  | 3, _ => rfl
  | j + 4, h => exact absurd h (by omega)
theorem DF5 : ∀ j, j < 2 → defaultValue (ty5 j) = vp_V [.null, .null] j := by
  intro j hj
  match j, hj with
  | 0, _ => rfl
  | 1, _ => rfl
  | j + 2, h => exact absurd h (by omega)
theorem DF6 : ∀ j, j < 2 → defaultValue (ty6 j) = vp_V [.null, .null] j := by
  intro j hj
  match j, hj with
  | 0, _ => rfl
  | 1, _ => rfl
  | j + 2, h => exact absurd h (by omega)
theorem DF7 : ∀ j, j < 3 → defaultValue (ty7 j) = vp_V [.null, .null, .int 0] j := by
  intro j hj
  match j, hj with
  | 0, _ => rfl
  | 1, _ => rfl
  | 2, _ => rfl
  | j + 3, h => exact absurd h (by omega)
theorem DF8 : ∀ j, j < 1 → defaultValue (ty8 j) = vp_V [.null] j := by
  intro j hj
  match j, hj with
  | 0, _ => rfl
  | j + 1, h => exact absurd h (by omega)
theorem G30_at {o g an tx lk da ki p ab g0 g1 g2 g3 g4 g5 g6 g7 g8 g9 g10 g11 g12 g13 g14 g15 g16 g17 g18 g19 g20 g21 g22 g23 g24 g25 g26 g27 g28 g29 qt qv qg qa pq1 pq2 fr : Nat} : ∀ j, j < 30 → [g0, g1, g2, g3, g4, g5, g6, g7, g8, g9, g10, g11, g12, g13, g14, g15, g16, g17, g18, g19, g20, g21, g22, g23, g24, g25, g26, g27, g28, g29][j]? = some (adL [o, g, an, tx, lk, da, ki, p, ab, g0, g1, g2, g3, g4, g5, g6, g7, g8, g9, g10, g11, g12, g13, g14, g15, g16, g17, g18, g19, g20, g21, g22, g23, g24, g25, g26, g27, g28, g29, qt, qv, qg, qa, pq1, pq2, fr] (9 + j)) := by
  intro j hj
  match j, hj with
  | 0, _ => rfl
  | 1, _ => rfl
  | 2, _ => rfl
  | 3, _ => rfl
  | 4, _ => rfl
  | 5, _ => rfl
  | 6, _ => rfl
  | 7, _ => rfl
  | 8, _ => rfl
  | 9, _ => rfl
  | 10, _ => rfl
  | 11, _ => rfl
  | 12, _ => rfl
  | 13, _ => rfl
  | 14, _ => rfl
  | 15, _ => rfl
  | 16, _ => rfl
  | 17, _ => rfl
  | 18, _ => rfl
  | 19, _ => rfl
  | 20, _ => rfl
  | 21, _ => rfl
  | 22, _ => rfl
  | 23, _ => rfl
  | 24, _ => rfl
  | 25, _ => rfl
  | 26, _ => rfl
  | 27, _ => rfl
  | 28, _ => rfl
  | 29, _ => rfl
  | j + 30, h => exact absurd h (by omega)
set_option maxRecDepth 100000 in
set_option maxHeartbeats 4000000 in
theorem GW_C0 {ρ : RH} {H : Heap} {A : Nat → Prop} {o g an tx lk da ki p ab g0 g1 g2 g3 g4 g5 g6 g7 g8 g9 g10 g11 g12 g13 g14 g15 g16 g17 g18 g19 g20 g21 g22 g23 g24 g25 g26 g27 g28 g29 qt qv qg qa pq1 pq2 fr x1 x2 : Nat} {f1 fg f2 : Nat → Option Nat} (hP : va_P (rD ρ) CL [(o, .inr (9, [.ref qt, .int 0, .ref (rS ρ 0), .ref g, .ref an, .ref tx, .ref lk, .ref da, .ref ki])), (g, .inr (3, [.ref x1, .ref ab, .ref qv, .ref qg, .int 0, .int 0, .int 0, .int 1, .int 1])), (an, .inr (4, [.ref qa, .int 1, .int 1, .ref x2])), (tx, .inr (5, [.ref g, .ref p])), (lk, .inr (6, [.ref g, .ref p])), (da, .inr (7, [.ref g, .ref fr, .int 0])), (ki, .inr (8, [.ref g])), (p, .inr (0, [.ref pq1, .int 0, .ref pq2])), (ab, .inr (2, [.int 0, .int 0, .int 0, .int 0, .int 0, .int 0])), (g0, .inr (2, [.int 0, .int 0, .int 0, .int 0, .int 0, .int 0])), (g1, .inr (2, [.int 0, .int 0, .int 0, .int 0, .int 0, .int 0])), (g2, .inr (2, [.int 0, .int 0, .int 0, .int 0, .int 0, .int 0])), (g3, .inr (2, [.int 0, .int 0, .int 0, .int 0, .int 0, .int 0])), (g4, .inr (2, [.int 0, .int 0, .int 0, .int 0, .int 0, .int 0])), (g5, .inr (2, [.int 0, .int 0, .int 0, .int 0, .int 0, .int 0])), (g6, .inr (2, [.int 0, .int 0, .int 0, .int 0, .int 0, .int 0])), (g7, .inr (2, [.int 0, .int 0, .int 0, .int 0, .int 0, .int 0])), (g8, .inr (2, [.int 0, .int 0, .int 0, .int 0, .int 0, .int 0])), (g9, .inr (2, [.int 0, .int 0, .int 0, .int 0, .int 0, .int 0])), (g10, .inr (2, [.int 0, .int 0, .int 0, .int 0, .int 0, .int 0])), (g11, .inr (2, [.int 0, .int 0, .int 0, .int 0, .int 0, .int 0])), (g12, .inr (2, [.int 0, .int 0, .int 0, .int 0, .int 0, .int 0])), (g13, .inr (2, [.int 0, .int 0, .int 0, .int 0, .int 0, .int 0])), (g14, .inr (2, [.int 0, .int 0, .int 0, .int 0, .int 0, .int 0])), (g15, .inr (2, [.int 0, .int 0, .int 0, .int 0, .int 0, .int 0])), (g16, .inr (2, [.int 0, .int 0, .int 0, .int 0, .int 0, .int 0])), (g17, .inr (2, [.int 0, .int 0, .int 0, .int 0, .int 0, .int 0])), (g18, .inr (2, [.int 0, .int 0, .int 0, .int 0, .int 0, .int 0])), (g19, .inr (2, [.int 0, .int 0, .int 0, .int 0, .int 0, .int 0])), (g20, .inr (2, [.int 0, .int 0, .int 0, .int 0, .int 0, .int 0])), (g21, .inr (2, [.int 0, .int 0, .int 0, .int 0, .int 0, .int 0])), (g22, .inr (2, [.int 0, .int 0, .int 0, .int 0, .int 0, .int 0])), (g23, .inr (2, [.int 0, .int 0, .int 0, .int 0, .int 0, .int 0])), (g24, .inr (2, [.int 0, .int 0, .int 0, .int 0, .int 0, .int 0])), (g25, .inr (2, [.int 0, .int 0, .int 0, .int 0, .int 0, .int 0])), (g26, .inr (2, [.int 0, .int 0, .int 0, .int 0, .int 0, .int 0])), (g27, .inr (2, [.int 0, .int 0, .int 0, .int 0, .int 0, .int 0])), (g28, .inr (2, [.int 0, .int 0, .int 0, .int 0, .int 0, .int 0])), (g29, .inr (2, [.int 0, .int 0, .int 0, .int 0, .int 0, .int 0])), (qt, .inl (rA ρ 2, 260, .inl (fun _ => 0))), (qv, .inl (rA ρ 6, 512, .inr (.inr (.inr (.inr f1))))), (qg, .inl (rA ρ 7, 30, .inr (.inr (.inr (.inr fg))))), (qa, .inl (rA ρ 6, 512, .inr (.inr (.inr (.inr f2))))), (pq1, .inl (rA ρ 0, 255, .inl (fun _ => 0))), (pq2, .inl (rA ρ 1, 256, .inl (fun _ => 0))), (fr, .inl (rA ρ 0, 512, .inl (fun _ => 0)))] H) (hD : va_D A [(o, .inr (9, [.ref qt, .int 0, .ref (rS ρ 0), .ref g, .ref an, .ref tx, .ref lk, .ref da, .ref ki])), (g, .inr (3, [.ref x1, .ref ab, .ref qv, .ref qg, .int 0, .int 0, .int 0, .int 1, .int 1])), (an, .inr (4, [.ref qa, .int 1, .int 1, .ref x2])), (tx, .inr (5, [.ref g, .ref p])), (lk, .inr (6, [.ref g, .ref p])), (da, .inr (7, [.ref g, .ref fr, .int 0])), (ki, .inr (8, [.ref g])), (p, .inr (0, [.ref pq1, .int 0, .ref pq2])), (ab, .inr (2, [.int 0, .int 0, .int 0, .int 0, .int 0, .int 0])), (g0, .inr (2, [.int 0, .int 0, .int 0, .int 0, .int 0, .int 0])), (g1, .inr (2, [.int 0, .int 0, .int 0, .int 0, .int 0, .int 0])), (g2, .inr (2, [.int 0, .int 0, .int 0, .int 0, .int 0, .int 0])), (g3, .inr (2, [.int 0, .int 0, .int 0, .int 0, .int 0, .int 0])), (g4, .inr (2, [.int 0, .int 0, .int 0, .int 0, .int 0, .int 0])), (g5, .inr (2, [.int 0, .int 0, .int 0, .int 0, .int 0, .int 0])), (g6, .inr (2, [.int 0, .int 0, .int 0, .int 0, .int 0, .int 0])), (g7, .inr (2, [.int 0, .int 0, .int 0, .int 0, .int 0, .int 0])), (g8, .inr (2, [.int 0, .int 0, .int 0, .int 0, .int 0, .int 0])), (g9, .inr (2, [.int 0, .int 0, .int 0, .int 0, .int 0, .int 0])), (g10, .inr (2, [.int 0, .int 0, .int 0, .int 0, .int 0, .int 0])), (g11, .inr (2, [.int 0, .int 0, .int 0, .int 0, .int 0, .int 0])), (g12, .inr (2, [.int 0, .int 0, .int 0, .int 0, .int 0, .int 0])), (g13, .inr (2, [.int 0, .int 0, .int 0, .int 0, .int 0, .int 0])), (g14, .inr (2, [.int 0, .int 0, .int 0, .int 0, .int 0, .int 0])), (g15, .inr (2, [.int 0, .int 0, .int 0, .int 0, .int 0, .int 0])), (g16, .inr (2, [.int 0, .int 0, .int 0, .int 0, .int 0, .int 0])), (g17, .inr (2, [.int 0, .int 0, .int 0, .int 0, .int 0, .int 0])), (g18, .inr (2, [.int 0, .int 0, .int 0, .int 0, .int 0, .int 0])), (g19, .inr (2, [.int 0, .int 0, .int 0, .int 0, .int 0, .int 0])), (g20, .inr (2, [.int 0, .int 0, .int 0, .int 0, .int 0, .int 0])), (g21, .inr (2, [.int 0, .int 0, .int 0, .int 0, .int 0, .int 0])), (g22, .inr (2, [.int 0, .int 0, .int 0, .int 0, .int 0, .int 0])), (g23, .inr (2, [.int 0, .int 0, .int 0, .int 0, .int 0, .int 0])), (g24, .inr (2, [.int 0, .int 0, .int 0, .int 0, .int 0, .int 0])), (g25, .inr (2, [.int 0, .int 0, .int 0, .int 0, .int 0, .int 0])), (g26, .inr (2, [.int 0, .int 0, .int 0, .int 0, .int 0, .int 0])), (g27, .inr (2, [.int 0, .int 0, .int 0, .int 0, .int 0, .int 0])), (g28, .inr (2, [.int 0, .int 0, .int 0, .int 0, .int 0, .int 0])), (g29, .inr (2, [.int 0, .int 0, .int 0, .int 0, .int 0, .int 0])), (qt, .inl (rA ρ 2, 260, .inl (fun _ => 0))), (qv, .inl (rA ρ 6, 512, .inr (.inr (.inr (.inr f1))))), (qg, .inl (rA ρ 7, 30, .inr (.inr (.inr (.inr fg))))), (qa, .inl (rA ρ 6, 512, .inr (.inr (.inr (.inr f2))))), (pq1, .inl (rA ρ 0, 255, .inl (fun _ => 0))), (pq2, .inl (rA ρ 1, 256, .inl (fun _ => 0))), (fr, .inl (rA ρ 0, 512, .inl (fun _ => 0)))]) (hf1 : ∀ j, j < 512 → f1 j = some x1) (hfg : ∀ j, j < 30 → fg j = [g0, g1, g2, g3, g4, g5, g6, g7, g8, g9, g10, g11, g12, g13, g14, g15, g16, g17, g18, g19, g20, g21, g22, g23, g24, g25, g26, g27, g28, g29][j]?) (hf2 : ∀ j, j < 512 → f2 j = some x2) : GW ρ wC (adL [o, g, an, tx, lk, da, ki, p, ab, g0, g1, g2, g3, g4, g5, g6, g7, g8, g9, g10, g11, g12, g13, g14, g15, g16, g17, g18, g19, g20, g21, g22, g23, g24, g25, g26, g27, g28, g29, qt, qv, qg, qa, pq1, pq2, fr]) (CG cs0 (RF0 (rS ρ 0) x1 x2)) H := by
  refine ⟨fun i hi => ?_, fun i j hi hj e => adL_inj hD hi hj e⟩
  match i, hi with
  | 0, _ => exact gC_obj (a := o) (N := 9) rfl rfl (n_obj hP (k := 0) rfl rfl) (fun k hk => by match k, hk with | 0, _ => rfl | 1, _ => rfl | 2, _ => rfl | 3, _ => rfl | 4, _ => rfl | 5, _ => rfl | 6, _ => rfl | 7, _ => rfl | 8, _ => rfl | k + 9, h => exact absurd h (by omega))
  | 1, _ => exact gC_obj (a := g) (N := 9) rfl rfl (n_obj hP (k := 1) rfl rfl) (fun k hk => by match k, hk with | 0, _ => rfl | 1, _ => rfl | 2, _ => rfl | 3, _ => rfl | 4, _ => rfl | 5, _ => rfl | 6, _ => rfl | 7, _ => rfl | 8, _ => rfl | k + 9, h => exact absurd h (by omega))
  | 2, _ => exact gC_obj (a := an) (N := 4) rfl rfl (n_obj hP (k := 2) rfl rfl) (fun k hk => by match k, hk with | 0, _ => rfl | 1, _ => rfl | 2, _ => rfl | 3, _ => rfl | k + 4, h => exact absurd h (by omega))
  | 3, _ => exact gC_obj (a := tx) (N := 2) rfl rfl (n_obj hP (k := 3) rfl rfl) (fun k hk => by match k, hk with | 0, _ => rfl | 1, _ => rfl | k + 2, h => exact absurd h (by omega))
  | 4, _ => exact gC_obj (a := lk) (N := 2) rfl rfl (n_obj hP (k := 4) rfl rfl) (fun k hk => by match k, hk with | 0, _ => rfl | 1, _ => rfl | k + 2, h => exact absurd h (by omega))
  | 5, _ => exact gC_obj (a := da) (N := 3) rfl rfl (n_obj hP (k := 5) rfl rfl) (fun k hk => by match k, hk with | 0, _ => rfl | 1, _ => rfl | 2, _ => rfl | k + 3, h => exact absurd h (by omega))
  | 6, _ => exact gC_obj (a := ki) (N := 1) rfl rfl (n_obj hP (k := 6) rfl rfl) (fun k hk => by match k, hk with | 0, _ => rfl | k + 1, h => exact absurd h (by omega))
  | 7, _ => exact gC_obj (a := p) (N := 3) rfl rfl (n_obj hP (k := 7) rfl rfl) (fun k hk => by match k, hk with | 0, _ => rfl | 1, _ => rfl | 2, _ => rfl | k + 3, h => exact absurd h (by omega))
  | 8, _ => exact gC_obj (a := ab) (N := 6) rfl rfl (n_obj hP (k := 8) rfl rfl) (fun k hk => by match k, hk with | 0, _ => rfl | 1, _ => rfl | 2, _ => rfl | 3, _ => rfl | 4, _ => rfl | 5, _ => rfl | k + 6, h => exact absurd h (by omega))
  | 9, _ => exact gC_grid (a := g0) rfl (fun k => rfl) (n_obj hP (k := 9) rfl rfl)
  | 10, _ => exact gC_grid (a := g1) rfl (fun k => rfl) (n_obj hP (k := 10) rfl rfl)
  | 11, _ => exact gC_grid (a := g2) rfl (fun k => rfl) (n_obj hP (k := 11) rfl rfl)
  | 12, _ => exact gC_grid (a := g3) rfl (fun k => rfl) (n_obj hP (k := 12) rfl rfl)
  | 13, _ => exact gC_grid (a := g4) rfl (fun k => rfl) (n_obj hP (k := 13) rfl rfl)
  | 14, _ => exact gC_grid (a := g5) rfl (fun k => rfl) (n_obj hP (k := 14) rfl rfl)
  | 15, _ => exact gC_grid (a := g6) rfl (fun k => rfl) (n_obj hP (k := 15) rfl rfl)
  | 16, _ => exact gC_grid (a := g7) rfl (fun k => rfl) (n_obj hP (k := 16) rfl rfl)
  | 17, _ => exact gC_grid (a := g8) rfl (fun k => rfl) (n_obj hP (k := 17) rfl rfl)
  | 18, _ => exact gC_grid (a := g9) rfl (fun k => rfl) (n_obj hP (k := 18) rfl rfl)
  | 19, _ => exact gC_grid (a := g10) rfl (fun k => rfl) (n_obj hP (k := 19) rfl rfl)
  | 20, _ => exact gC_grid (a := g11) rfl (fun k => rfl) (n_obj hP (k := 20) rfl rfl)
  | 21, _ => exact gC_grid (a := g12) rfl (fun k => rfl) (n_obj hP (k := 21) rfl rfl)
  | 22, _ => exact gC_grid (a := g13) rfl (fun k => rfl) (n_obj hP (k := 22) rfl rfl)
  | 23, _ => exact gC_grid (a := g14) rfl (fun k => rfl) (n_obj hP (k := 23) rfl rfl)
  | 24, _ => exact gC_grid (a := g15) rfl (fun k => rfl) (n_obj hP (k := 24) rfl rfl)
  | 25, _ => exact gC_grid (a := g16) rfl (fun k => rfl) (n_obj hP (k := 25) rfl rfl)
  | 26, _ => exact gC_grid (a := g17) rfl (fun k => rfl) (n_obj hP (k := 26) rfl rfl)
  | 27, _ => exact gC_grid (a := g18) rfl (fun k => rfl) (n_obj hP (k := 27) rfl rfl)
  | 28, _ => exact gC_grid (a := g19) rfl (fun k => rfl) (n_obj hP (k := 28) rfl rfl)
  | 29, _ => exact gC_grid (a := g20) rfl (fun k => rfl) (n_obj hP (k := 29) rfl rfl)
  | 30, _ => exact gC_grid (a := g21) rfl (fun k => rfl) (n_obj hP (k := 30) rfl rfl)
  | 31, _ => exact gC_grid (a := g22) rfl (fun k => rfl) (n_obj hP (k := 31) rfl rfl)
  | 32, _ => exact gC_grid (a := g23) rfl (fun k => rfl) (n_obj hP (k := 32) rfl rfl)
  | 33, _ => exact gC_grid (a := g24) rfl (fun k => rfl) (n_obj hP (k := 33) rfl rfl)
  | 34, _ => exact gC_grid (a := g25) rfl (fun k => rfl) (n_obj hP (k := 34) rfl rfl)
  | 35, _ => exact gC_grid (a := g26) rfl (fun k => rfl) (n_obj hP (k := 35) rfl rfl)
  | 36, _ => exact gC_grid (a := g27) rfl (fun k => rfl) (n_obj hP (k := 36) rfl rfl)
  | 37, _ => exact gC_grid (a := g28) rfl (fun k => rfl) (n_obj hP (k := 37) rfl rfl)
  | 38, _ => exact gC_grid (a := g29) rfl (fun k => rfl) (n_obj hP (k := 38) rfl rfl)
  | 39, _ => exact gC_cell (a := qt) rfl (by decide) rfl (hP 39 _ rfl)
  | 40, _ => exact gC_vals (a := qv) (x := x1) rfl (fun j => rfl) hf1 (hP 40 _ rfl)
  | 41, _ => exact gC_grids (a := qg) rfl (fun j => rfl) (fun j hj => (hfg j hj).trans (G30_at j hj)) (hP 41 _ rfl)
  | 42, _ => exact gC_vals (a := qa) (x := x2) rfl (fun j => rfl) hf2 (hP 42 _ rfl)
  | 43, _ => exact gC_cell (a := pq1) rfl (by decide) rfl (hP 43 _ rfl)
  | 44, _ => exact gC_cell (a := pq2) rfl (by decide) rfl (hP 44 _ rfl)
  | 45, _ => exact gC_cell (a := fr) rfl (by decide) rfl (hP 45 _ rfl)
  | i + 46, h => exact absurd h (by show ¬ i + 46 < 46; omega)
theorem inW_adL {ws : va_W} {q : Nat} (h : inW ws q) : ∃ i, i < ws.length ∧ q = adL (ws.map (fun x => x.1)) i := by
  obtain ⟨k, e, hk⟩ := h
  refine ⟨k, (List.getElem?_eq_some_iff.mp hk).1, ?_⟩
  unfold adL
  rw [List.getD_eq_getElem?_getD, List.getElem?_map, hk]
  rfl
theorem adL_inW {ws : va_W} {i : Nat} (h : i < ws.length) : inW ws (adL (ws.map (fun x => x.1)) i) := by
  refine ⟨i, (ws[i]).2, ?_⟩
  unfold adL
  rw [List.getD_eq_getElem?_getD, List.getElem?_map, List.getElem?_eq_getElem h]
  rfl
theorem CW_mk {ρ : RH} {H : Heap} {P : Nat → Prop} {W : va_W} {L : List Nat} {x1 x2 : Nat} (hL : W.map (fun x => x.1) = L) (hl : W.length = 46) (hb : ∀ q, Pw P W q → q < H.size) (hC : CC ρ (Pw P W) H) (hx1 : isV ρ (Pw P W) H x1 (0, 0, [])) (hx2 : isV ρ (Pw P W) H x2 (0, 0, [])) (hG : GW ρ wC (adL L) (CG cs0 (RF0 (rS ρ 0) x1 x2)) H) : CW ρ (fun q => P q ∨ ∃ i, i < 46 ∧ q = adL L i) (adL L) cs0 H := by
  subst hL
  have h1 : ∀ i, i < 46 → inW W (adL (W.map (fun x => x.1)) i) := fun i hi => adL_inW (by omega)
  refine CW.congrP (P := Pw P W) ⟨fun i hi => Or.inr (h1 i hi), hb, hC, RF0 (rS ρ 0) x1 x2, hG, hC.1 0 _ rfl, hx1, hx2, fun j _ => hx1, fun j _ => hx2⟩ (fun q => ⟨fun z => z.elim Or.inl (fun ⟨i, hi, e⟩ => Or.inr (by rw [e]; exact h1 i hi)), fun z => z.elim Or.inl (fun g => Or.inr ?_)⟩)
  obtain ⟨i, hi, e⟩ := inW_adL g
  exact ⟨i, by omega, e⟩
