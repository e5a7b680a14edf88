/-! ===== the pure language ===== -/
def jb {α : Type} (c : Prop) [Decidable c] (x y : Option α) : Option α := if c then x else y
def jg {α : Type} (b : Bool) (x : Option α) : Option α := if b = true then x else none
def jn {α β : Type} (e : α) (k : α → Option β) : Option β := k e
def jc {α β : Type} (o : Option α) (k : α → Option β) : Option β := match o with | none => none | some a => k a
theorem jb_t {α : Type} {c : Prop} [Decidable c] {x y : Option α} {r : Option α} (hc : c) (h : jb c x y = r) : x = r := by rw [← h]; exact (if_pos hc).symm
theorem jb_f {α : Type} {c : Prop} [Decidable c] {x y : Option α} {r : Option α} (hc : ¬ c) (h : jb c x y = r) : y = r := by rw [← h]; exact (if_neg hc).symm
theorem jg_some {α : Type} {b : Bool} {x : Option α} {r : α} (h : jg b x = some r) : b = true ∧ x = some r := by
  unfold jg at h
  split at h
  · rename_i e; exact ⟨e, h⟩
  · cases h
theorem jn_ex {α β : Type} {e : α} {k : α → Option β} {r : Option β} (h : jn e k = r) : ∃ x, x = e ∧ k x = r := ⟨e, rfl, h⟩
theorem jc_some {α β : Type} {o : Option α} {k : α → Option β} {r : β} (h : jc o k = some r) : ∃ a, o = some a ∧ k a = some r := by
  cases o with
  | none => cases h
  | some a => exact ⟨a, rfl, h⟩
def inb (i : Int32) (n : Nat) : Bool := decide (0 ≤ i.toInt) && decide (i.toInt < n)
def nz (x : Int32) : Bool := decide (¬ x = 0)
def nzl (x : Int64) : Bool := decide (¬ x = 0)
def nn (r : UInt64) : Bool := decide (r &&& 0x7fffffffffffffff ≤ 0x7ff0000000000000)
def isB (x : Int32) : Bool := decide (x = 0) || decide (x = 1)
def isC (x : Int32) : Bool := decide (0 ≤ x.toInt) && decide (x.toInt < 65536)
theorem inb_in {i : Int32} {n : Nat} (h : inb i n = true) : vp_in i n := by
  unfold inb at h
  simp only [Bool.and_eq_true, decide_eq_true_eq] at h
  exact vp_in_iff.mpr h
theorem nz_ne {x : Int32} (h : nz x = true) : ¬ x = 0 := of_decide_eq_true h
theorem nzl_ne {x : Int64} (h : nzl x = true) : ¬ x = 0 := of_decide_eq_true h
theorem nn_ok {r : UInt64} (h : nn r = true) : vf_n64 r := by unfold vf_n64; exact of_decide_eq_true h
theorem isB_or {x : Int32} (h : isB x = true) : x = 0 ∨ x = 1 := by
  unfold isB at h
  simpa using h
theorem isB_nar {x : Int32} (h : isB x = true) : narrow .boolean (.int x) = .int x := by
  rcases isB_or h with rfl | rfl <;> decide
theorem isB_fit {x : Int32} (h : isB x = true) : fits .boolean (.int x) = true := by
  rcases isB_or h with rfl | rfl <;> decide
def FU : Nat := 20000000
/-- a switch's way out -/
theorem sw_out {x : Int32} {lo hi : Int} (n : Nat) (hn : hi - lo + 1 = n) (h : ∀ i, i < n → ¬ x.toInt = lo + i) : x.toInt < lo ∨ hi < x.toInt := by
  by_cases h1 : x.toInt < lo
  · exact Or.inl h1
  · by_cases h2 : hi < x.toInt
    · exact Or.inr h2
    · exact absurd (show x.toInt = lo + ((x.toInt - lo).toNat : Int) by omega) (h (x.toInt - lo).toNat (by omega))
section R2
variable {p : Program} {l : Launch} {e : Env} {R : Room} {s : State} {m : MethodId} {args : Array Value} {below : List Frame} {meth : Method} {c : Code} {H : Heap} {locs : List Loc} {cells slots : Nat} {Q : State → Prop}
variable {cc : ByteArray} {pc nL : Nat} {ls : Array Slot} {rest st0 : List Value} {ρ : RH} {w0 : Cond} {A A1 : Nat → Prop} {H0 : Heap} {ad : Nat → Nat} {st : GS}
theorem nm_i {x y : Int32} (ex : y = x) (k : W p l e R s m args below meth c H locs cells slots Q (F0 m pc ls (.int y :: rest))) : W p l e R s m args below meth c H locs cells slots Q (F0 m pc ls (.int x :: rest)) := by subst ex; exact k
theorem nm_l {x y : Int64} (ex : y = x) (k : W p l e R s m args below meth c H locs cells slots Q (F0 m pc ls (.long y :: rest))) : W p l e R s m args below meth c H locs cells slots Q (F0 m pc ls (.long x :: rest)) := by subst ex; exact k
theorem nm_d {x y : UInt64} (ex : y = x) (k : W p l e R s m args below meth c H locs cells slots Q (F0 m pc ls (.double y :: rest))) : W p l e R s m args below meth c H locs cells slots Q (F0 m pc ls (.double x :: rest)) := by subst ex; exact k
/-- the reference's fields -/
theorem m_get (X : CX p s m c args "WordFunctionsModel" cc nL ρ w0) (hW : GW ρ wM ad st H) (k : Nat) {index : Nat} {v : Value} (hl : Cond.fieldLink "WordFunctionsModel" index (T12 k).1 (T12 k).2.1 (T12 k).2.2.1 ∈ TG) (hk : Nat.ble (k + 1) 55 = true) (hv : gV ctM ad st 0 12 k = v) (hdg : decode cc pc = .ok (.getfield index, 3))
    (kk : W p l e R s m args below meth c H locs cells slots Q (F0 m (pc + 3) ls (v :: rest))) : W p l e R s m args below meth c H locs cells slots Q (F0 m pc ls (.ref (ad 0) :: rest)) :=
  r_get X hW 0 k 12 (C := "WordFunctionsModel") (T := T12) (N := 55) (by decide) rfl rfl rfl (Nat.le_of_ble_eq_true hk) tin12 rfl hl hv hdg kk
theorem gV_putI {ct : Nat → Nat → Nat} {st st' : GS} {i c k : Nat} {x : Int32} (hst : st' = uI st i k x) (hf : fk c k = 0) (j : Nat) : updV (gV ct ad st i c) k (.int x) j = gV ct ad st' i c j := by
  subst hst
  unfold updV gV uI
  dsimp only
  rw [if_pos rfl]
  by_cases hj : j = k
  · subst hj; rw [if_pos rfl, hf]; simp [upd]
  · rw [if_neg hj]; simp [upd, hj]
theorem gV_putD {ct : Nat → Nat → Nat} {st st' : GS} {i c k : Nat} {x : UInt64} (hst : st' = uD st i k x) (hf : fk c k = 1) (j : Nat) : updV (gV ct ad st i c) k (.double x) j = gV ct ad st' i c j := by
  subst hst
  unfold updV gV uD
  dsimp only
  rw [if_pos rfl]
  by_cases hj : j = k
  · subst hj; rw [if_pos rfl, hf]; simp [vf_upd]
  · rw [if_neg hj]; simp [vf_upd, hj]
theorem uI_off {st st' : GS} {i k : Nat} {x : Int32} (hst : st' = uI st i k x) : ∀ j, j ≠ i → st'.1 j = st.1 j ∧ st'.2.1 j = st.2.1 j ∧ st'.2.2 j = st.2.2 j := by
  subst hst
  exact fun j hj => ⟨if_neg hj, rfl, rfl⟩
theorem uD_off {st st' : GS} {i k : Nat} {x : UInt64} (hst : st' = uD st i k x) : ∀ j, j ≠ i → st'.1 j = st.1 j ∧ st'.2.1 j = st.2.1 j ∧ st'.2.2 j = st.2.2 j := by
  subst hst
  exact fun j hj => ⟨rfl, if_neg hj, rfl⟩
theorem m_putI (X : CX p s m c args "WordFunctionsModel" cc nL ρ w0) (hW : GW ρ wM ad st H) (hS : va_S (MA wM ad s.heap.size) H0 H locs) (k : Nat) {index : Nat} {x : Int32} {st' : GS} (hst : st' = uI st 0 k x) (hl : Cond.fieldLink "WordFunctionsModel" index (T12 k).1 (T12 k).2.1 (T12 k).2.2.1 ∈ TG) (hk : Nat.ble (k + 1) 55 = true) (hf : fk 12 k = 0) (hfin : (T12 k).2.2.2 = false) (hnr : narrow (ty12 k) (.int x) = .int x) (hfit : fits (ty12 k) (.int x) = true) (hdg : decode cc pc = .ok (.putfield index, 3))
    (kk : ∀ (H1 : Heap) (locs1 : List Loc), GW ρ wM ad st' H1 → va_S (MA wM ad s.heap.size) H0 H1 locs1 → W p l e R s m args below meth c H1 locs1 cells slots Q (F0 m (pc + 3) ls rest)) : W p l e R s m args below meth c H locs cells slots Q (F0 m pc ls (.int x :: .ref (ad 0) :: rest)) :=
  r_put X hW hS 0 k 12 (C := "WordFunctionsModel") (T := T12) (N := 55) (MA.in (by decide)) (by decide) rfl rfl rfl (Nat.le_of_ble_eq_true hk) tin12 ty12 tyo12 tnm12 rfl hl hfin hnr hfit (fun j _ => gV_putI hst hf j) (uI_off hst) hdg (fun H1 locs1 a b _ _ => kk H1 locs1 a b)
theorem m_putD (X : CX p s m c args "WordFunctionsModel" cc nL ρ w0) (hW : GW ρ wM ad st H) (hS : va_S (MA wM ad s.heap.size) H0 H locs) (k : Nat) {index : Nat} {x : UInt64} {st' : GS} (hst : st' = uD st 0 k x) (hl : Cond.fieldLink "WordFunctionsModel" index (T12 k).1 (T12 k).2.1 (T12 k).2.2.1 ∈ TG) (hk : Nat.ble (k + 1) 55 = true) (hf : fk 12 k = 1) (hfin : (T12 k).2.2.2 = false) (hnr : narrow (ty12 k) (.double x) = .double x) (hfit : fits (ty12 k) (.double x) = true) (hdg : decode cc pc = .ok (.putfield index, 3))
    (kk : ∀ (H1 : Heap) (locs1 : List Loc), GW ρ wM ad st' H1 → va_S (MA wM ad s.heap.size) H0 H1 locs1 → W p l e R s m args below meth c H1 locs1 cells slots Q (F0 m (pc + 3) ls rest)) : W p l e R s m args below meth c H locs cells slots Q (F0 m pc ls (.double x :: .ref (ad 0) :: rest)) :=
  r_put X hW hS 0 k 12 (C := "WordFunctionsModel") (T := T12) (N := 55) (MA.in (by decide)) (by decide) rfl rfl rfl (Nat.le_of_ble_eq_true hk) tin12 ty12 tyo12 tnm12 rfl hl hfin hnr hfit (fun j _ => gV_putD hst hf j) (uD_off hst) hdg (fun H1 locs1 a b _ _ => kk H1 locs1 a b)
theorem m_iast (X : CX p s m c args "WordFunctionsModel" cc nL ρ w0) (hW : GW ρ wM ad st H) (hS : va_S (MA wM ad s.heap.size) H0 H locs) (i : Nat) {len : Nat} {st' : GS} {j x : Int32} (hi : i < 23) (hd : tabM i = (1, len)) (hin : inb j len = true) (hst : st' = uI st i j.toNatClampNeg x) (hdg : decode cc pc = .ok (.iastore, 1))
    (kk : ∀ (H1 : Heap) (locs1 : List Loc), GW ρ wM ad st' H1 → va_S (MA wM ad s.heap.size) H0 H1 locs1 → W p l e R s m args below meth c H1 locs1 cells slots Q (F0 m (pc + 1) ls rest)) : W p l e R s m args below meth c H locs cells slots Q (F0 m pc ls (.int x :: .int j :: .ref (ad i) :: rest)) := by
  subst hst
  exact r_iast X hW hS i (MA.in hi) hi hd (inb_in hin) hdg (fun H1 locs1 a b _ _ => kk H1 locs1 a b)
theorem m_zast (X : CX p s m c args "WordFunctionsModel" cc nL ρ w0) (hW : GW ρ wM ad st H) (hS : va_S (MA wM ad s.heap.size) H0 H locs) (i : Nat) {len : Nat} {st' : GS} {j x : Int32} (hi : i < 23) (hd : tabM i = (2, len)) (hx : isB x = true) (hin : inb j len = true) (hst : st' = uI st i j.toNatClampNeg x) (hdg : decode cc pc = .ok (.bastore, 1))
    (kk : ∀ (H1 : Heap) (locs1 : List Loc), GW ρ wM ad st' H1 → va_S (MA wM ad s.heap.size) H0 H1 locs1 → W p l e R s m args below meth c H1 locs1 cells slots Q (F0 m (pc + 1) ls rest)) : W p l e R s m args below meth c H locs cells slots Q (F0 m pc ls (.int x :: .int j :: .ref (ad i) :: rest)) := by
  subst hst
  exact r_zast X hW hS i (MA.in hi) hi hd (isB_or hx) (inb_in hin) hdg (fun H1 locs1 a b _ _ => kk H1 locs1 a b)
theorem m_dast (X : CX p s m c args "WordFunctionsModel" cc nL ρ w0) (hW : GW ρ wM ad st H) (hS : va_S (MA wM ad s.heap.size) H0 H locs) (i : Nat) {len : Nat} {st' : GS} {j : Int32} {x : UInt64} (hi : i < 23) (hd : tabM i = (4, len)) (hin : inb j len = true) (hst : st' = uD st i j.toNatClampNeg x) (hdg : decode cc pc = .ok (.dastore, 1))
    (kk : ∀ (H1 : Heap) (locs1 : List Loc), GW ρ wM ad st' H1 → va_S (MA wM ad s.heap.size) H0 H1 locs1 → W p l e R s m args below meth c H1 locs1 cells slots Q (F0 m (pc + 1) ls rest)) : W p l e R s m args below meth c H locs cells slots Q (F0 m pc ls (.double x :: .int j :: .ref (ad i) :: rest)) := by
  subst hst
  exact r_dast X hW hS i (MA.in hi) hi hd (inb_in hin) hdg (fun H1 locs1 a b _ _ => kk H1 locs1 a b)
theorem m_recv {own : String} (X : CX p s m c args own cc nL ρ w0) (hW : GW ρ wM ad st H) : Rcv s H (ad 0) "WordFunctionsModel" := g_recv X hW 0 12 (q := ("WordFunctionsModel", T12, 55)) (by decide) rfl rfl
theorem f_F {q : Nat} (h : (fun _ : Nat => False) q) {A : Nat → Prop} : A q := absurd h (fun z => z)
theorem fr_eq {H H1 : Heap} (h : H1 = H) : H1 = H := h
end R2
