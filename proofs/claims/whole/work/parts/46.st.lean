/-! ===== the start: what the Statement's words give ===== -/
theorem cA {a b : Cond} {A : Array Value} {s : State} (h : (Cond.and a b).before A s = true) : a.before A s = true := by
  rw [Cond.before_and, Bool.and_eq_true] at h
  exact h.1
theorem cB {a b : Cond} {A : Array Value} {s : State} (h : (Cond.and a b).before A s = true) : b.before A s = true := by
  rw [Cond.before_and, Bool.and_eq_true] at h
  exact h.2
theorem ex_fun {α : Type} (d0 : α) {n : Nat} {Pr : Nat → α → Prop} (h : ∀ k, k < n → ∃ a, Pr k a) : ∃ f : Nat → α, ∀ k, k < n → Pr k (f k) := by
  refine ⟨fun k => if hk : k < n then (h k hk).choose else d0, fun k hk => ?_⟩
  simp only [dif_pos hk]
  exact (h k hk).choose_spec
theorem st_prim {A : Array Value} {s : State} {ty : FieldType} (h : (Cond.arrayClass ty).before A s = true) (hr : ∀ c : ClassId, s.vm.findClass ("[" ++ ty.toString) = some c → va_RA s c ty) : ∃ cA : ClassId, ArrOfT s cA ty ∧ va_RA s cA ty := by
  obtain ⟨c, k, comp, h1, h2, h3⟩ := Cond.arrayClass_spec h
  exact ⟨c, fun n z => ⟨fun k h => (by cases h), k, h2, comp, h3⟩, hr c h1⟩
theorem st_obj {A : Array Value} {s : State} {C : String} (h : (Cond.arrayOver (.object C)).before A s = true) : ∃ cA : ClassId, ArrOfT s cA (.object C) ∧ va_RA s cA (.object C) := by
  obtain ⟨comp, c, k, h1, -, h2, h3, h4⟩ := Cond.arrayOver_spec h
  exact ⟨c, fun n z => ⟨fun k h => (by cases h), k, h2, comp, h3⟩, k, comp, h2, h3, h1, h4⟩
theorem arrT_of {s : State} {ca : Cell} {ty : FieldType} (h : s.isArrayOf ca ty) : ArrOfT s ca.cls ty := by
  obtain ⟨-, k, hk, comp, h2⟩ := h
  exact fun n z => ⟨fun k h => (by cases h), k, hk, comp, h2⟩
theorem arr_ne {s : State} {c : ClassId} {t t' : FieldType} (h : ArrOfT s c t) (h' : ArrOfT s c t') : t = t' := by
  obtain ⟨-, k, hk, comp, h2⟩ := h 0 (fun _ => .null)
  obtain ⟨-, k', hk', comp', h2'⟩ := h' 0 (fun _ => .null)
  obtain rfl : k = k' := Option.some.inj (hk.symm.trans hk')
  rw [h2] at h2'
  cases h2'
  rfl
def RBf (s : State) (f : Nat → Nat) : Prop := ∀ c : Nat, (ArrOfT s c .byte → f c = 1) ∧ (ArrOfT s c .int → f c = 2) ∧ (f c = 1 → ArrOfT s c .byte) ∧ (f c = 2 → ArrOfT s c .int)
theorem RBf_ex (s : State) : ∃ f, RBf s f := by
  refine Classical.axiomOfChoice (r := fun (c : Nat) (n : Nat) => (ArrOfT s c .byte → n = 1) ∧ (ArrOfT s c .int → n = 2) ∧ (n = 1 → ArrOfT s c .byte) ∧ (n = 2 → ArrOfT s c .int)) (fun c => ?_)
  by_cases g : ArrOfT s c .byte
  · exact ⟨1, fun _ => rfl, fun h => (by cases arr_ne h g), fun _ => g, fun h => (by cases h)⟩
  · by_cases g2 : ArrOfT s c .int
    · exact ⟨2, fun h => absurd h g, fun _ => rfl, fun h => (by cases h), fun _ => g2⟩
    · exact ⟨0, fun h => absurd h g, fun h => absurd h g2, fun h => (by cases h), fun h => (by cases h)⟩
def zc (s : State) (a sl : Nat) (v : Value) : Prop := ∃ cell : Cell, s.heap[a]? = some cell ∧ cell.vm.isStatics = true ∧ cell.slots[sl]? = some v
def zt (s : State) (rb : Nat → Nat) (t ind : Nat) (l : List Int32) : Prop := ∃ ca : Cell, s.heap[t]? = some ca ∧ rb ca.cls = ind ∧ ca.vm ≠ .unknown ∧ (∀ k, ca.vm ≠ .statics k) ∧ l.length ≤ ca.slots.size ∧ ca.slots.size.toInt32 = nI l.length ∧ ∀ j, j < l.length → ca.slots[j]? = some (.int (l.getD j 0))
def STk (s : State) (rb : Nat → Nat) (k : Nat) (q : Nat × Nat × Nat) : Prop := (∀ z : String × String × String, ZL[k]? = some z → ZAt s z.1 z.2.1 z.2.2 q.1 q.2.1) ∧ (∀ v : Int32, ZIL[k]? = some (some v) → zc s q.1 q.2.1 (.int v)) ∧ (∀ w : Nat × List Int32, ZTL[k]? = some (some w) → zc s q.1 q.2.1 (.ref q.2.2) ∧ zt s rb q.2.2 w.1 w.2) ∧ (ZRL[k]? = some true → zc s q.1 q.2.1 .null ∨ ∃ t, zc s q.1 q.2.1 (.ref t))
abbrev no0 : Nat → Prop := fun _ => False
theorem zz_of {s : State} {C n d : String} {v : Value} (h : va_Z C n d v no0 s s.heap) : ∃ a sl : Nat, ZAt s C n d a sl ∧ zc s a sl v := by
  obtain ⟨cf, kf, fi, f, a, cell, h1, h2, h3, h4, h5, h6, h7, -⟩ := h
  exact ⟨a, f.slot, ⟨cf, kf, fi, f, h1, h2, h3, h4, rfl⟩, cell, h5, h6, h7⟩
theorem st_int {s : State} {rb : Nat → Nat} {C n d : String} {v : Int32} {k : Nat} (h : va_Z C n d (.int v) no0 s s.heap) (h1 : ZL[k]? = some (C, n, d)) (h2 : ZIL[k]? = some (some v)) (h3 : ZTL[k]? = some none) (h4 : ZRL[k]? = some false) : ∃ q, STk s rb k q := by
  obtain ⟨a, sl, g1, g2⟩ := zz_of h
  refine ⟨(a, sl, 0), fun z hz => ?_, fun w hw => ?_, fun w hw => ?_, fun hr => ?_⟩
  · cases h1.symm.trans hz; exact g1
  · cases h2.symm.trans hw; exact g2
  · cases h3.symm.trans hw
  · cases h4.symm.trans hr
theorem st_ref {s : State} {rb : Nat → Nat} {C n d : String} {k : Nat} (h : va_Zq C n d no0 s s.heap) (h1 : ZL[k]? = some (C, n, d)) (h2 : ZIL[k]? = some none) (h3 : ZTL[k]? = some none) : ∃ q, STk s rb k q := by
  rcases h with h | ⟨t, h⟩
  · obtain ⟨a, sl, g1, g2⟩ := zz_of h
    refine ⟨(a, sl, 0), fun z hz => ?_, fun w hw => ?_, fun w hw => ?_, fun hr => Or.inl g2⟩
    · cases h1.symm.trans hz; exact g1
    · cases h2.symm.trans hw
    · cases h3.symm.trans hw
  · obtain ⟨a, sl, g1, g2⟩ := zz_of h
    refine ⟨(a, sl, 0), fun z hz => ?_, fun w hw => ?_, fun w hw => ?_, fun hr => Or.inr ⟨t, g2⟩⟩
    · cases h1.symm.trans hz; exact g1
    · cases h2.symm.trans hw
    · cases h3.symm.trans hw
theorem st_tab {A : Array Value} {s : State} {rb : Nat → Nat} {C n d : String} {ty : FieldType} {k ind N : Nat} {l : List Int32} (hl : (Cond.laysStatic C n d).before A s = true) (hini : (Cond.initialized C).before A s = true) (harr : (Cond.arrayOf (.static C n d) ty).before A s = true) (hlen : (Cond.eq (.length (.static C n d)) (.int (Int32.ofNat N))).before A s = true) (hel : ∀ j : Nat, j < N → (Cond.eq (.elem (.static C n d) (.int (Int32.ofNat j))) (.int (l.getD j 0))).before A s = true) (hN : N < 2 ^ 31) (hl2 : l.length = N) (hB : ∀ c, ArrOfT s c ty → rb c = ind) (h1 : ZL[k]? = some (C, n, d)) (h2 : ZIL[k]? = some none) (h3 : ZTL[k]? = some (some (ind, l))) (h4 : ZRL[k]? = some false) : ∃ q, STk s rb k q := by
  subst hl2
  obtain ⟨t, ht, ca, g1, g2, g3, g4, g5, g6, -⟩ := va_Tof (f := fun j => .int (l.getD j 0)) (A := no0) hN harr (va_eqt hlen) (fun j hj => va_eqt (hel j hj)) (fun _ _ z => z)
  obtain ⟨a, sl, q1, q2⟩ := zz_of (va_Zref (A := no0) hl hini ht (fun _ _ z => z))
  refine ⟨(a, sl, t), fun z hz => ?_, fun w hw => ?_, fun w hw => ?_, fun hr => ?_⟩
  · cases h1.symm.trans hz; exact q1
  · cases h2.symm.trans hw
  · cases h3.symm.trans hw
    exact ⟨q2, ca, g1, hB _ (arrT_of g2), g3, g2.1, g4, g5, g6⟩
  · cases h4.symm.trans hr
/-- a text of the program's -/
theorem st_str {ρ : RH} {s : State} {n : Nat} {by_ : List Int32} {adK adV : Nat → Nat} {t : TT} (hK : u_Kn s "java/lang/String" T11 4 ((rD ρ).1 11) ((rD ρ).2 11)) (hB : ∀ c, ArrOfT s c .byte → rB ρ c = 1) (h : vk_S 1 [n] [by_] adK adV no0 s s.heap) (hn : t.length = n) (hb : ∀ j, j < n → by_.getD j 0 = sb_b (t.getD j 0)) (h256 : ∀ c ∈ t, c < 256) (h31 : t.length < 2 ^ 31) : isS ρ no0 s.heap (adK 0) t := by
  subst hn
  obtain ⟨⟨cs, o1, o2, o3, -⟩, ⟨cf1, k1, i1, f1, c1, a1, a2, a3, a4, a5, -⟩, ⟨cf2, k2, i2, f2, c2, b1, b2, b3, b4, b5, -⟩, ca, e1, e2, e3, e4, e5, e6, -⟩ := h.1 0 (by decide)
  obtain rfl : cs = c1 := Option.some.inj (o1.symm.trans a3)
  obtain rfl : cs = c2 := Option.some.inj (o1.symm.trans b3)
  obtain ⟨hS, hfc, -⟩ := hK
  obtain ⟨cf0, kf0, fi0, fd0, q1, q2⟩ := hS 0 (by decide)
  obtain ⟨cf9, kf9, fi9, fd9, p1, p2⟩ := hS 1 (by decide)
  have w0 : fd0 = f2 := by have := q1.symm.trans b1; simp at this; exact this.2.2.2
  have w1 : fd9 = f1 := by have := p1.symm.trans a1; simp at this; exact this.2.2.2
  subst w0; subst w1
  refine ⟨adV 0, cs, o1, ?_, o2, a4, by rw [← q2]; exact b5, by rw [← p2]; exact a5, ⟨ca, e1, hB _ (arrT_of e2), e3, e2.1, e4, e5, fun j hj => ?_, h256, h31, fun z => z⟩, fun z => z⟩
  · exact Option.some.inj (o3.symm.trans hfc)
  · rw [e6 j hj]
    show some (Value.int (by_.getD j 0)) = _
    rw [hb j hj]
theorem STk.at {s : State} {rb : Nat → Nat} {k a : Nat} {q : Nat × Nat × Nat} {C n d : String} (h : STk s rb k q) (hz : ZL[k]? = some (C, n, d)) : ZAt s C n d q.1 q.2.1 := h.1 _ hz
theorem TXs_of {ρ : RH} {A : Array Value} {s : State} {k : Nat} {n d : String} (hZ : ZAt s nTN n d (rZa ρ k) (rZs ρ k)) (hl : (Cond.laysStatic nTN n d).before A s = true) (hr : zc s (rZa ρ k) (rZs ρ k) .null ∨ ∃ t, zc s (rZa ρ k) (rZs ρ k) (.ref t)) : TXs ρ s.heap s k n d := by
  obtain ⟨cf, kf, fi, f, h1, h2, h3, h4, h5⟩ := hZ
  obtain ⟨c, k', i', f', a, cell, g1, g2, g3, g4, g5, g6, g7, g8, g9⟩ := Cond.laysStatic_spec hl
  have e := h1.symm.trans g2
  simp only [Option.some.injEq, Prod.mk.injEq] at e
  obtain ⟨rfl, rfl, rfl, rfl⟩ := e
  obtain rfl : rZa ρ k = a := Option.some.inj (h4.symm.trans g4)
  have key : ∃ v : Value, cell.slots[rZs ρ k]? = some v ∧ v.isRef = true := by
    rcases hr with ⟨c2, q1, q2, q3⟩ | ⟨t, c2, q1, q2, q3⟩
    · obtain rfl : cell = c2 := Option.some.inj (g5.symm.trans q1)
      exact ⟨_, q3, rfl⟩
    · obtain rfl : cell = c2 := Option.some.inj (g5.symm.trans q1)
      exact ⟨_, q3, rfl⟩
  obtain ⟨v, q3, q4⟩ := key
  exact ⟨cf, kf, fi, f, cell, v, g1, h1, h4, g5, h2, g6, g7, g8, g9, by rw [h5]; exact q3, q4⟩
theorem NCu_of {A : Array Value} {s : State} (h : (Cond.not (.castable nISE nIAE)).before A s = true) {c1 c2 : ClassId} (h1 : s.vm.findClass nISE = some c1) (h2 : s.vm.findClass nIAE = some c2) : NCu s := by
  have hv := Cond.holds_not_iff.mp h
  simp only [Cond.value, h1, h2] at hv
  exact ⟨c1, c2, h1, h2, Option.some.inj hv⟩
/-- private methods, chosen on a class below the one that declares them -/
theorem st_private {C : String} {y : MethodName} {s : State} {args : Array Value} {n : Nat} (hy : y.cls ≠ "java/lang/invoke/MethodHandle" ∧ y.cls ≠ "java/lang/invoke/VarHandle")
    (hins : (Cond.instantiable C n).before args s = true) (hpriv : (Cond.privateMethod y).before args s = true) (hinst : (Cond.instanceMethod y).before args s = true) (hns : ∀ k mk, s.methodNamed? y = some mk → s.vm.classes[mk.cls]? = some k → k.isInterface = false) :
    (Cond.selects C y y).before args s = true := by
  obtain ⟨c, k, hc, hk, -, hniab, -, -⟩ := Cond.instantiable_spec hins
  obtain ⟨mk, methM, hnamed, hmethM, -, -⟩ := Cond.instanceMethod_spec hinst
  have hfound : s.methodFound? y.cls y.name y.desc = some mk := State.methodFound?_of_named hnamed hy
  obtain ⟨kP, hkP, -⟩ := className_of_methodNamed hnamed
  have hsel : selectMethod {} s.vm c mk = .method mk := selectMethod_private hmethM (Cond.privateMethod_at hpriv mk methM hnamed hmethM)
  have hni := hns kP mk hnamed hkP
  simp only [Cond.before, Cond.holds, Cond.value, hc, hfound, hnamed, hsel, hkP]
  simp; exact hni
theorem st_s0 {ρ : RH} {s : State} {A : Array Value} (hts : ∀ w ∈ lw_tbl, w.before A s = true) (hg : (Cond.and given_1 narrow_1).before A s = true) (hK : u_Kn s "java/lang/String" T11 4 ((rD ρ).1 11) ((rD ρ).2 11)) (hB : ∀ c, ArrOfT s c .byte → rB ρ c = 1) : ∃ a : Nat, (Term.string "WordFunctions" (13 : Nat)).eval A s none [] s = some (.ref a) ∧ isS ρ no0 s.heap a TX0 := by
  obtain ⟨adK, adV, h1, h2⟩ := vk_Sof (N := 1) (tm := fun _ => (Term.string "WordFunctions" (13 : Nat))) (len := [0]) (byt := [[]]) (A := no0) (s := s) (args := A) (fun i hi => by obtain rfl : i = 0 := (by omega); decide) (fun i _ => cB (cA (cA (cB (cB (cA (cB (cB (cB (cA (cB (hg)))))))))))) (fun i _ => cA (cB (cA (cB (cB (cA (cB (cB (cB (cA (cB (hg)))))))))))) (fun i _ => cB (cB (cA (cB (cB (cA (cB (cB (cB (cA (cB (hg)))))))))))) (fun i hi => by obtain rfl : i = 0 := (by omega); exact cA (cA (cB (cB (cB (cA (cB (cB (cB (cA (cB (hg))))))))))))
    (fun i hi j hj => by
      obtain rfl : i = 0 := by omega
      match j, hj with
      | j + 0, h => exact absurd h (by show ¬ j + 0 < 0; omega))
    (fun i j hi hj hne => absurd (show i = j by omega) hne) (fun _ _ z => z)
  exact ⟨adK 0, h2 0 (by decide), st_str hK hB h1 rfl (by decide) (by decide) (by decide)⟩
theorem st_s1 {ρ : RH} {s : State} {A : Array Value} (hts : ∀ w ∈ lw_tbl, w.before A s = true) (hg : (Cond.and given_1 narrow_1).before A s = true) (hK : u_Kn s "java/lang/String" T11 4 ((rD ρ).1 11) ((rD ρ).2 11)) (hB : ∀ c, ArrOfT s c .byte → rB ρ c = 1) : ∃ a : Nat, (Term.string "WordFunctions$Value" (23 : Nat)).eval A s none [] s = some (.ref a) ∧ isS ρ no0 s.heap a TX1 := by
  obtain ⟨adK, adV, h1, h2⟩ := vk_Sof (N := 1) (tm := fun _ => (Term.string "WordFunctions$Value" (23 : Nat))) (len := [0]) (byt := [[]]) (A := no0) (s := s) (args := A) (fun i hi => by obtain rfl : i = 0 := (by omega); decide) (fun i _ => cB (cA (cB (cB (cB (cA (cB (cB (cB (cA (cB (hg)))))))))))) (fun i _ => cA (cB (cB (cB (cB (cA (cB (cB (cB (cA (cB (hg)))))))))))) (fun i _ => cB (cB (cB (cB (cB (cA (cB (cB (cB (cA (cB (hg)))))))))))) (fun i hi => by obtain rfl : i = 0 := (by omega); exact cA (cA (cA (cA (cB (cB (cB (cB (cA (cB (hg)))))))))))
    (fun i hi j hj => by
      obtain rfl : i = 0 := by omega
      match j, hj with
      | j + 0, h => exact absurd h (by show ¬ j + 0 < 0; omega))
    (fun i j hi hj hne => absurd (show i = j by omega) hne) (fun _ _ z => z)
  exact ⟨adK 0, h2 0 (by decide), st_str hK hB h1 rfl (by decide) (by decide) (by decide)⟩
theorem st_s2 {ρ : RH} {s : State} {A : Array Value} (hts : ∀ w ∈ lw_tbl, w.before A s = true) (hg : (Cond.and given_1 narrow_1).before A s = true) (hK : u_Kn s "java/lang/String" T11 4 ((rD ρ).1 11) ((rD ρ).2 11)) (hB : ∀ c, ArrOfT s c .byte → rB ρ c = 1) : ∃ a : Nat, (Term.string "java/util/Arrays" (337 : Nat)).eval A s none [] s = some (.ref a) ∧ isS ρ no0 s.heap a TX2 := by
  obtain ⟨adK, adV, h1, h2⟩ := vk_Sof (N := 1) (tm := fun _ => (Term.string "java/util/Arrays" (337 : Nat))) (len := [3]) (byt := [[32, 62, 32]]) (A := no0) (s := s) (args := A) (fun i hi => by obtain rfl : i = 0 := (by omega); decide) (fun i _ => cB (cB (cA (cA (cA (cB (cB (cB (cB (cA (cB (hg)))))))))))) (fun i _ => cA (cA (cB (cA (cA (cB (cB (cB (cB (cA (cB (hg)))))))))))) (fun i _ => cB (cA (cB (cA (cA (cB (cB (cB (cB (cA (cB (hg)))))))))))) (fun i hi => by obtain rfl : i = 0 := (by omega); exact cA (cB (cB (cA (cA (cB (cB (cB (cB (cA (cB (hg))))))))))))
    (fun i hi j hj => by
      obtain rfl : i = 0 := by omega
      match j, hj with
      | 0, _ => exact cB (cB (cB (cA (cA (cB (cB (cB (cB (cA (cB (hg)))))))))))
      | 1, _ => exact cA (cA (cA (cB (cA (cB (cB (cB (cB (cA (cB (hg)))))))))))
      | 2, _ => exact cB (cA (cA (cB (cA (cB (cB (cB (cB (cA (cB (hg)))))))))))
      | j + 3, h => exact absurd h (by show ¬ j + 3 < 3; omega))
    (fun i j hi hj hne => absurd (show i = j by omega) hne) (fun _ _ z => z)
  exact ⟨adK 0, h2 0 (by decide), st_str hK hB h1 rfl (by decide) (by decide) (by decide)⟩
theorem st_s3 {ρ : RH} {s : State} {A : Array Value} (hts : ∀ w ∈ lw_tbl, w.before A s = true) (hg : (Cond.and given_1 narrow_1).before A s = true) (hK : u_Kn s "java/lang/String" T11 4 ((rD ρ).1 11) ((rD ρ).2 11)) (hB : ∀ c, ArrOfT s c .byte → rB ρ c = 1) : ∃ a : Nat, (Term.string "WordFunctions" (99 : Nat)).eval A s none [] s = some (.ref a) ∧ isS ρ no0 s.heap a TX3 := by
  obtain ⟨adK, adV, h1, h2⟩ := vk_Sof (N := 1) (tm := fun _ => (Term.string "WordFunctions" (99 : Nat))) (len := [42]) (byt := [[97, 32, 103, 114, 105, 100, 32, 104, 97, 115, 32, 111, 110, 101, 32, 114, 111, 119, 32, 97, 110, 100, 32, 111, 110, 101, 32, 99, 111, 108, 117, 109, 110, 32, 97, 116, 32, 108, 101, 97, 115, 116]]) (A := no0) (s := s) (args := A) (fun i hi => by obtain rfl : i = 0 := (by omega); decide) (fun i _ => cA (cA (cB (cB (cA (cB (cB (cB (cB (cA (cB (hg)))))))))))) (fun i _ => cB (cA (cB (cB (cA (cB (cB (cB (cB (cA (cB (hg)))))))))))) (fun i _ => cA (cB (cB (cB (cA (cB (cB (cB (cB (cA (cB (hg)))))))))))) (fun i hi => by obtain rfl : i = 0 := (by omega); exact cB (cB (cB (cB (cA (cB (cB (cB (cB (cA (cB (hg))))))))))))
    (fun i hi j hj => by
      obtain rfl : i = 0 := by omega
      match j, hj with
      | 0, _ => exact cA (cA (cA (cB (cB (cB (cB (cB (cA (cB (hg))))))))))
      | 1, _ => exact cA (cB (cA (cA (cB (cB (cB (cB (cB (cA (cB (hg)))))))))))
      | 2, _ => exact cB (cB (cA (cA (cB (cB (cB (cB (cB (cA (cB (hg)))))))))))
      | 3, _ => exact cA (cA (cB (cA (cB (cB (cB (cB (cB (cA (cB (hg)))))))))))
      | 4, _ => exact cB (cA (cB (cA (cB (cB (cB (cB (cB (cA (cB (hg)))))))))))
      | 5, _ => exact cA (cB (cB (cA (cB (cB (cB (cB (cB (cA (cB (hg)))))))))))
      | 6, _ => exact cB (cB (cB (cA (cB (cB (cB (cB (cB (cA (cB (hg)))))))))))
      | 7, _ => exact cA (cA (cA (cB (cB (cB (cB (cB (cB (cA (cB (hg)))))))))))
      | 8, _ => exact cB (cA (cA (cB (cB (cB (cB (cB (cB (cA (cB (hg)))))))))))
      | 9, _ => exact cA (cB (cA (cB (cB (cB (cB (cB (cB (cA (cB (hg)))))))))))
      | 10, _ => exact cB (cB (cA (cB (cB (cB (cB (cB (cB (cA (cB (hg)))))))))))
      | 11, _ => exact cA (cA (cB (cB (cB (cB (cB (cB (cB (cA (cB (hg)))))))))))
      | 12, _ => exact cB (cA (cB (cB (cB (cB (cB (cB (cB (cA (cB (hg)))))))))))
      | 13, _ => exact cA (cB (cB (cB (cB (cB (cB (cB (cB (cA (cB (hg)))))))))))
      | 14, _ => exact cB (cB (cB (cB (cB (cB (cB (cB (cB (cA (cB (hg)))))))))))
      | 15, _ => exact cA (cA (cA (cA (cA (cA (cA (cA (cB (cB (hg))))))))))
      | 16, _ => exact cA (cB (cA (cA (cA (cA (cA (cA (cA (cB (cB (hg)))))))))))
      | 17, _ => exact cB (cB (cA (cA (cA (cA (cA (cA (cA (cB (cB (hg)))))))))))
      | 18, _ => exact cA (cA (cB (cA (cA (cA (cA (cA (cA (cB (cB (hg)))))))))))
      | 19, _ => exact cB (cA (cB (cA (cA (cA (cA (cA (cA (cB (cB (hg)))))))))))
      | 20, _ => exact cA (cB (cB (cA (cA (cA (cA (cA (cA (cB (cB (hg)))))))))))
      | 21, _ => exact cB (cB (cB (cA (cA (cA (cA (cA (cA (cB (cB (hg)))))))))))
      | 22, _ => exact cA (cA (cB (cA (cA (cA (cA (cA (cB (cB (hg))))))))))
      | 23, _ => exact cA (cB (cA (cB (cA (cA (cA (cA (cA (cB (cB (hg)))))))))))
      | 24, _ => exact cB (cB (cA (cB (cA (cA (cA (cA (cA (cB (cB (hg)))))))))))
      | 25, _ => exact cA (cA (cB (cB (cA (cA (cA (cA (cA (cB (cB (hg)))))))))))
      | 26, _ => exact cB (cA (cB (cB (cA (cA (cA (cA (cA (cB (cB (hg)))))))))))
      | 27, _ => exact cA (cB (cB (cB (cA (cA (cA (cA (cA (cB (cB (hg)))))))))))
      | 28, _ => exact cB (cB (cB (cB (cA (cA (cA (cA (cA (cB (cB (hg)))))))))))
      | 29, _ => exact cA (cA (cA (cB (cA (cA (cA (cA (cB (cB (hg))))))))))
      | 30, _ => exact cA (cB (cA (cA (cB (cA (cA (cA (cA (cB (cB (hg)))))))))))
      | 31, _ => exact cB (cB (cA (cA (cB (cA (cA (cA (cA (cB (cB (hg)))))))))))
      | 32, _ => exact cA (cA (cB (cA (cB (cA (cA (cA (cA (cB (cB (hg)))))))))))
      | 33, _ => exact cB (cA (cB (cA (cB (cA (cA (cA (cA (cB (cB (hg)))))))))))
      | 34, _ => exact cA (cB (cB (cA (cB (cA (cA (cA (cA (cB (cB (hg)))))))))))
      | 35, _ => exact cB (cB (cB (cA (cB (cA (cA (cA (cA (cB (cB (hg)))))))))))
      | 36, _ => exact cA (cA (cA (cB (cB (cA (cA (cA (cA (cB (cB (hg)))))))))))
      | 37, _ => exact cB (cA (cA (cB (cB (cA (cA (cA (cA (cB (cB (hg)))))))))))
      | 38, _ => exact cA (cB (cA (cB (cB (cA (cA (cA (cA (cB (cB (hg)))))))))))
      | 39, _ => exact cB (cB (cA (cB (cB (cA (cA (cA (cA (cB (cB (hg)))))))))))
      | 40, _ => exact cA (cA (cB (cB (cB (cA (cA (cA (cA (cB (cB (hg)))))))))))
      | 41, _ => exact cB (cA (cB (cB (cB (cA (cA (cA (cA (cB (cB (hg)))))))))))
      | j + 42, h => exact absurd h (by show ¬ j + 42 < 42; omega))
    (fun i j hi hj hne => absurd (show i = j by omega) hne) (fun _ _ z => z)
  exact ⟨adK 0, h2 0 (by decide), st_str hK hB h1 rfl (by decide) (by decide) (by decide)⟩
theorem st_s4 {ρ : RH} {s : State} {A : Array Value} (hts : ∀ w ∈ lw_tbl, w.before A s = true) (hg : (Cond.and given_1 narrow_1).before A s = true) (hK : u_Kn s "java/lang/String" T11 4 ((rD ρ).1 11) ((rD ρ).2 11)) (hB : ∀ c, ArrOfT s c .byte → rB ρ c = 1) : ∃ a : Nat, (Term.string "WordFunctions" (109 : Nat)).eval A s none [] s = some (.ref a) ∧ isS ρ no0 s.heap a TX4 := by
  obtain ⟨adK, adV, h1, h2⟩ := vk_Sof (N := 1) (tm := fun _ => (Term.string "WordFunctions" (109 : Nat))) (len := [28]) (byt := [[116, 111, 111, 32, 109, 97, 110, 121, 32, 97, 114, 103, 117, 109, 101, 110, 116, 115, 32, 111, 114, 32, 118, 97, 108, 117, 101, 115]]) (A := no0) (s := s) (args := A) (fun i hi => by obtain rfl : i = 0 := (by omega); decide) (fun i _ => cA (cB (cA (cA (cA (cB (cA (cA (cA (cB (cB (hg)))))))))))) (fun i _ => cB (cB (cA (cA (cA (cB (cA (cA (cA (cB (cB (hg)))))))))))) (fun i _ => cA (cA (cB (cA (cA (cB (cA (cA (cA (cB (cB (hg)))))))))))) (fun i hi => by obtain rfl : i = 0 := (by omega); exact cB (cA (cB (cA (cA (cB (cA (cA (cA (cB (cB (hg))))))))))))
    (fun i hi j hj => by
      obtain rfl : i = 0 := by omega
      match j, hj with
      | 0, _ => exact cA (cB (cB (cA (cA (cB (cA (cA (cA (cB (cB (hg)))))))))))
      | 1, _ => exact cB (cB (cB (cA (cA (cB (cA (cA (cA (cB (cB (hg)))))))))))
      | 2, _ => exact cA (cA (cB (cA (cB (cA (cA (cA (cB (cB (hg))))))))))
      | 3, _ => exact cA (cB (cA (cB (cA (cB (cA (cA (cA (cB (cB (hg)))))))))))
      | 4, _ => exact cB (cB (cA (cB (cA (cB (cA (cA (cA (cB (cB (hg)))))))))))
      | 5, _ => exact cA (cA (cB (cB (cA (cB (cA (cA (cA (cB (cB (hg)))))))))))
      | 6, _ => exact cB (cA (cB (cB (cA (cB (cA (cA (cA (cB (cB (hg)))))))))))
      | 7, _ => exact cA (cB (cB (cB (cA (cB (cA (cA (cA (cB (cB (hg)))))))))))
      | 8, _ => exact cB (cB (cB (cB (cA (cB (cA (cA (cA (cB (cB (hg)))))))))))
      | 9, _ => exact cA (cA (cA (cB (cB (cA (cA (cA (cB (cB (hg))))))))))
      | 10, _ => exact cA (cB (cA (cA (cB (cB (cA (cA (cA (cB (cB (hg)))))))))))
      | 11, _ => exact cB (cB (cA (cA (cB (cB (cA (cA (cA (cB (cB (hg)))))))))))
      | 12, _ => exact cA (cA (cB (cA (cB (cB (cA (cA (cA (cB (cB (hg)))))))))))
      | 13, _ => exact cB (cA (cB (cA (cB (cB (cA (cA (cA (cB (cB (hg)))))))))))
      | 14, _ => exact cA (cB (cB (cA (cB (cB (cA (cA (cA (cB (cB (hg)))))))))))
      | 15, _ => exact cB (cB (cB (cA (cB (cB (cA (cA (cA (cB (cB (hg)))))))))))
      | 16, _ => exact cA (cA (cA (cB (cB (cB (cA (cA (cA (cB (cB (hg)))))))))))
      | 17, _ => exact cB (cA (cA (cB (cB (cB (cA (cA (cA (cB (cB (hg)))))))))))
      | 18, _ => exact cA (cB (cA (cB (cB (cB (cA (cA (cA (cB (cB (hg)))))))))))
      | 19, _ => exact cB (cB (cA (cB (cB (cB (cA (cA (cA (cB (cB (hg)))))))))))
      | 20, _ => exact cA (cA (cB (cB (cB (cB (cA (cA (cA (cB (cB (hg)))))))))))
      | 21, _ => exact cB (cA (cB (cB (cB (cB (cA (cA (cA (cB (cB (hg)))))))))))
      | 22, _ => exact cA (cB (cB (cB (cB (cB (cA (cA (cA (cB (cB (hg)))))))))))
      | 23, _ => exact cB (cB (cB (cB (cB (cB (cA (cA (cA (cB (cB (hg)))))))))))
      | 24, _ => exact cA (cA (cA (cA (cA (cB (cA (cA (cB (cB (hg))))))))))
      | 25, _ => exact cA (cB (cA (cA (cA (cA (cB (cA (cA (cB (cB (hg)))))))))))
      | 26, _ => exact cB (cB (cA (cA (cA (cA (cB (cA (cA (cB (cB (hg)))))))))))
      | 27, _ => exact cA (cA (cB (cA (cA (cA (cB (cA (cA (cB (cB (hg)))))))))))
      | j + 28, h => exact absurd h (by show ¬ j + 28 < 28; omega))
    (fun i j hi hj hne => absurd (show i = j by omega) hne) (fun _ _ z => z)
  exact ⟨adK 0, h2 0 (by decide), st_str hK hB h1 rfl (by decide) (by decide) (by decide)⟩
theorem st_s5 {ρ : RH} {s : State} {A : Array Value} (hts : ∀ w ∈ lw_tbl, w.before A s = true) (hg : (Cond.and given_1 narrow_1).before A s = true) (hK : u_Kn s "java/lang/String" T11 4 ((rD ρ).1 11) ((rD ρ).2 11)) (hB : ∀ c, ArrOfT s c .byte → rB ρ c = 1) : ∃ a : Nat, (Term.string "WordFunctions" (153 : Nat)).eval A s none [] s = some (.ref a) ∧ isS ρ no0 s.heap a TX5 := by
  obtain ⟨adK, adV, h1, h2⟩ := vk_Sof (N := 1) (tm := fun _ => (Term.string "WordFunctions" (153 : Nat))) (len := [38]) (byt := [[110, 111, 32, 115, 117, 99, 104, 32, 102, 117, 110, 99, 116, 105, 111, 110, 32, 102, 111, 114, 32, 115, 111, 32, 109, 97, 110, 121, 32, 97, 114, 103, 117, 109, 101, 110, 116, 115]]) (A := no0) (s := s) (args := A) (fun i hi => by obtain rfl : i = 0 := (by omega); decide) (fun i _ => cA (cB (cA (cB (cA (cA (cB (cA (cA (cB (cB (hg)))))))))))) (fun i _ => cB (cB (cA (cB (cA (cA (cB (cA (cA (cB (cB (hg)))))))))))) (fun i _ => cA (cA (cB (cB (cA (cA (cB (cA (cA (cB (cB (hg)))))))))))) (fun i hi => by obtain rfl : i = 0 := (by omega); exact cB (cA (cB (cB (cA (cA (cB (cA (cA (cB (cB (hg))))))))))))
    (fun i hi j hj => by
      obtain rfl : i = 0 := by omega
      match j, hj with
      | 0, _ => exact cA (cB (cB (cB (cA (cA (cB (cA (cA (cB (cB (hg)))))))))))
      | 1, _ => exact cB (cB (cB (cB (cA (cA (cB (cA (cA (cB (cB (hg)))))))))))
      | 2, _ => exact cA (cA (cA (cB (cA (cB (cA (cA (cB (cB (hg))))))))))
      | 3, _ => exact cA (cB (cA (cA (cB (cA (cB (cA (cA (cB (cB (hg)))))))))))
      | 4, _ => exact cB (cB (cA (cA (cB (cA (cB (cA (cA (cB (cB (hg)))))))))))
      | 5, _ => exact cA (cA (cB (cA (cB (cA (cB (cA (cA (cB (cB (hg)))))))))))
      | 6, _ => exact cB (cA (cB (cA (cB (cA (cB (cA (cA (cB (cB (hg)))))))))))
      | 7, _ => exact cA (cB (cB (cA (cB (cA (cB (cA (cA (cB (cB (hg)))))))))))
      | 8, _ => exact cB (cB (cB (cA (cB (cA (cB (cA (cA (cB (cB (hg)))))))))))
      | 9, _ => exact cA (cA (cA (cB (cB (cA (cB (cA (cA (cB (cB (hg)))))))))))
      | 10, _ => exact cB (cA (cA (cB (cB (cA (cB (cA (cA (cB (cB (hg)))))))))))
      | 11, _ => exact cA (cB (cA (cB (cB (cA (cB (cA (cA (cB (cB (hg)))))))))))
      | 12, _ => exact cB (cB (cA (cB (cB (cA (cB (cA (cA (cB (cB (hg)))))))))))
      | 13, _ => exact cA (cA (cB (cB (cB (cA (cB (cA (cA (cB (cB (hg)))))))))))
      | 14, _ => exact cB (cA (cB (cB (cB (cA (cB (cA (cA (cB (cB (hg)))))))))))
      | 15, _ => exact cA (cB (cB (cB (cB (cA (cB (cA (cA (cB (cB (hg)))))))))))
      | 16, _ => exact cB (cB (cB (cB (cB (cA (cB (cA (cA (cB (cB (hg)))))))))))
      | 17, _ => exact cA (cA (cA (cA (cB (cB (cA (cA (cB (cB (hg))))))))))
      | 18, _ => exact cA (cB (cA (cA (cA (cB (cB (cA (cA (cB (cB (hg)))))))))))
      | 19, _ => exact cB (cB (cA (cA (cA (cB (cB (cA (cA (cB (cB (hg)))))))))))
      | 20, _ => exact cA (cA (cB (cA (cA (cB (cB (cA (cA (cB (cB (hg)))))))))))
      | 21, _ => exact cB (cA (cB (cA (cA (cB (cB (cA (cA (cB (cB (hg)))))))))))
      | 22, _ => exact cA (cB (cB (cA (cA (cB (cB (cA (cA (cB (cB (hg)))))))))))
      | 23, _ => exact cB (cB (cB (cA (cA (cB (cB (cA (cA (cB (cB (hg)))))))))))
      | 24, _ => exact cA (cA (cB (cA (cB (cB (cA (cA (cB (cB (hg))))))))))
      | 25, _ => exact cA (cB (cA (cB (cA (cB (cB (cA (cA (cB (cB (hg)))))))))))
      | 26, _ => exact cB (cB (cA (cB (cA (cB (cB (cA (cA (cB (cB (hg)))))))))))
      | 27, _ => exact cA (cA (cB (cB (cA (cB (cB (cA (cA (cB (cB (hg)))))))))))
      | 28, _ => exact cB (cA (cB (cB (cA (cB (cB (cA (cA (cB (cB (hg)))))))))))
      | 29, _ => exact cA (cB (cB (cB (cA (cB (cB (cA (cA (cB (cB (hg)))))))))))
      | 30, _ => exact cB (cB (cB (cB (cA (cB (cB (cA (cA (cB (cB (hg)))))))))))
      | 31, _ => exact cA (cA (cA (cB (cB (cB (cA (cA (cB (cB (hg))))))))))
      | 32, _ => exact cA (cB (cA (cA (cB (cB (cB (cA (cA (cB (cB (hg)))))))))))
      | 33, _ => exact cB (cB (cA (cA (cB (cB (cB (cA (cA (cB (cB (hg)))))))))))
      | 34, _ => exact cA (cA (cB (cA (cB (cB (cB (cA (cA (cB (cB (hg)))))))))))
      | 35, _ => exact cB (cA (cB (cA (cB (cB (cB (cA (cA (cB (cB (hg)))))))))))
      | 36, _ => exact cA (cB (cB (cA (cB (cB (cB (cA (cA (cB (cB (hg)))))))))))
      | 37, _ => exact cB (cB (cB (cA (cB (cB (cB (cA (cA (cB (cB (hg)))))))))))
      | j + 38, h => exact absurd h (by show ¬ j + 38 < 38; omega))
    (fun i j hi hj hne => absurd (show i = j by omega) hne) (fun _ _ z => z)
  exact ⟨adK 0, h2 0 (by decide), st_str hK hB h1 rfl (by decide) (by decide) (by decide)⟩
theorem st_s6 {ρ : RH} {s : State} {A : Array Value} (hts : ∀ w ∈ lw_tbl, w.before A s = true) (hg : (Cond.and given_1 narrow_1).before A s = true) (hK : u_Kn s "java/lang/String" T11 4 ((rD ρ).1 11) ((rD ρ).2 11)) (hB : ∀ c, ArrOfT s c .byte → rB ρ c = 1) : ∃ a : Nat, (Term.string "WordFunctions$Arguments" (171 : Nat)).eval A s none [] s = some (.ref a) ∧ isS ρ no0 s.heap a TX6 := by
  obtain ⟨adK, adV, h1, h2⟩ := vk_Sof (N := 1) (tm := fun _ => (Term.string "WordFunctions$Arguments" (171 : Nat))) (len := [0]) (byt := [[]]) (A := no0) (s := s) (args := A) (fun i hi => by obtain rfl : i = 0 := (by omega); decide) (fun i _ => cB (cA (cB (cB (cB (cB (cB (cA (cA (cB (cB (hg)))))))))))) (fun i _ => cA (cB (cB (cB (cB (cB (cB (cA (cA (cB (cB (hg)))))))))))) (fun i _ => cB (cB (cB (cB (cB (cB (cB (cA (cA (cB (cB (hg)))))))))))) (fun i hi => by obtain rfl : i = 0 := (by omega); exact cA (cA (cA (cA (cA (cA (cB (cA (cB (cB (hg)))))))))))
    (fun i hi j hj => by
      obtain rfl : i = 0 := by omega
      match j, hj with
      | j + 0, h => exact absurd h (by show ¬ j + 0 < 0; omega))
    (fun i j hi hj hne => absurd (show i = j by omega) hne) (fun _ _ z => z)
  exact ⟨adK 0, h2 0 (by decide), st_str hK hB h1 rfl (by decide) (by decide) (by decide)⟩
theorem st_s7 {ρ : RH} {s : State} {A : Array Value} (hts : ∀ w ∈ lw_tbl, w.before A s = true) (hg : (Cond.and given_1 narrow_1).before A s = true) (hK : u_Kn s "java/lang/String" T11 4 ((rD ρ).1 11) ((rD ρ).2 11)) (hB : ∀ c, ArrOfT s c .byte → rB ρ c = 1) : ∃ a : Nat, (Term.string "WordFunctions$Arguments" (167 : Nat)).eval A s none [] s = some (.ref a) ∧ isS ρ no0 s.heap a TX7 := by
  obtain ⟨adK, adV, h1, h2⟩ := vk_Sof (N := 1) (tm := fun _ => (Term.string "WordFunctions$Arguments" (167 : Nat))) (len := [4]) (byt := [[84, 82, 85, 69]]) (A := no0) (s := s) (args := A) (fun i hi => by obtain rfl : i = 0 := (by omega); decide) (fun i _ => cA (cA (cB (cA (cA (cA (cB (cA (cB (cB (hg))))))))))) (fun i _ => cA (cB (cA (cB (cA (cA (cA (cB (cA (cB (cB (hg)))))))))))) (fun i _ => cB (cB (cA (cB (cA (cA (cA (cB (cA (cB (cB (hg)))))))))))) (fun i hi => by obtain rfl : i = 0 := (by omega); exact cA (cA (cB (cB (cA (cA (cA (cB (cA (cB (cB (hg))))))))))))
    (fun i hi j hj => by
      obtain rfl : i = 0 := by omega
      match j, hj with
      | 0, _ => exact cB (cA (cB (cB (cA (cA (cA (cB (cA (cB (cB (hg)))))))))))
      | 1, _ => exact cA (cB (cB (cB (cA (cA (cA (cB (cA (cB (cB (hg)))))))))))
      | 2, _ => exact cB (cB (cB (cB (cA (cA (cA (cB (cA (cB (cB (hg)))))))))))
      | 3, _ => exact cA (cA (cA (cB (cA (cA (cB (cA (cB (cB (hg))))))))))
      | j + 4, h => exact absurd h (by show ¬ j + 4 < 4; omega))
    (fun i j hi hj hne => absurd (show i = j by omega) hne) (fun _ _ z => z)
  exact ⟨adK 0, h2 0 (by decide), st_str hK hB h1 rfl (by decide) (by decide) (by decide)⟩
theorem st_s8 {ρ : RH} {s : State} {A : Array Value} (hts : ∀ w ∈ lw_tbl, w.before A s = true) (hg : (Cond.and given_1 narrow_1).before A s = true) (hK : u_Kn s "java/lang/String" T11 4 ((rD ρ).1 11) ((rD ρ).2 11)) (hB : ∀ c, ArrOfT s c .byte → rB ρ c = 1) : ∃ a : Nat, (Term.string "WordFunctions$Arguments" (169 : Nat)).eval A s none [] s = some (.ref a) ∧ isS ρ no0 s.heap a TX8 := by
  obtain ⟨adK, adV, h1, h2⟩ := vk_Sof (N := 1) (tm := fun _ => (Term.string "WordFunctions$Arguments" (169 : Nat))) (len := [5]) (byt := [[70, 65, 76, 83, 69]]) (A := no0) (s := s) (args := A) (fun i hi => by obtain rfl : i = 0 := (by omega); decide) (fun i _ => cB (cA (cA (cB (cB (cA (cA (cB (cA (cB (cB (hg)))))))))))) (fun i _ => cA (cB (cA (cB (cB (cA (cA (cB (cA (cB (cB (hg)))))))))))) (fun i _ => cB (cB (cA (cB (cB (cA (cA (cB (cA (cB (cB (hg)))))))))))) (fun i hi => by obtain rfl : i = 0 := (by omega); exact cA (cA (cB (cB (cB (cA (cA (cB (cA (cB (cB (hg))))))))))))
    (fun i hi j hj => by
      obtain rfl : i = 0 := by omega
      match j, hj with
      | 0, _ => exact cB (cA (cB (cB (cB (cA (cA (cB (cA (cB (cB (hg)))))))))))
      | 1, _ => exact cA (cB (cB (cB (cB (cA (cA (cB (cA (cB (cB (hg)))))))))))
      | 2, _ => exact cB (cB (cB (cB (cB (cA (cA (cB (cA (cB (cB (hg)))))))))))
      | 3, _ => exact cA (cA (cA (cA (cB (cA (cB (cA (cB (cB (hg))))))))))
      | 4, _ => exact cA (cB (cA (cA (cA (cB (cA (cB (cA (cB (cB (hg)))))))))))
      | j + 5, h => exact absurd h (by show ¬ j + 5 < 5; omega))
    (fun i j hi hj hne => absurd (show i = j by omega) hne) (fun _ _ z => z)
  exact ⟨adK 0, h2 0 (by decide), st_str hK hB h1 rfl (by decide) (by decide) (by decide)⟩
theorem st_s9 {ρ : RH} {s : State} {A : Array Value} (hts : ∀ w ∈ lw_tbl, w.before A s = true) (hg : (Cond.and given_1 narrow_1).before A s = true) (hK : u_Kn s "java/lang/String" T11 4 ((rD ρ).1 11) ((rD ρ).2 11)) (hB : ∀ c, ArrOfT s c .byte → rB ρ c = 1) : ∃ a : Nat, (Term.string "java/lang/StringLatin1" (151 : Nat)).eval A s none [] s = some (.ref a) ∧ isS ρ no0 s.heap a TX9 := by
  obtain ⟨adK, adV, h1, h2⟩ := vk_Sof (N := 1) (tm := fun _ => (Term.string "java/lang/StringLatin1" (151 : Nat))) (len := [0]) (byt := [[]]) (A := no0) (s := s) (args := A) (fun i hi => by obtain rfl : i = 0 := (by omega); decide) (fun i _ => cA (cA (cB (cB (cA (cB (cA (cB (cA (cB (cB (hg)))))))))))) (fun i _ => cB (cA (cB (cB (cA (cB (cA (cB (cA (cB (cB (hg)))))))))))) (fun i _ => cA (cB (cB (cB (cA (cB (cA (cB (cA (cB (cB (hg)))))))))))) (fun i hi => by obtain rfl : i = 0 := (by omega); exact cB (cB (cB (cB (cA (cB (cA (cB (cA (cB (cB (hg))))))))))))
    (fun i hi j hj => by
      obtain rfl : i = 0 := by omega
      match j, hj with
      | j + 0, h => exact absurd h (by show ¬ j + 0 < 0; omega))
    (fun i j hi hj hne => absurd (show i = j by omega) hne) (fun _ _ z => z)
  exact ⟨adK 0, h2 0 (by decide), st_str hK hB h1 rfl (by decide) (by decide) (by decide)⟩
theorem st_s10 {ρ : RH} {s : State} {A : Array Value} (hts : ∀ w ∈ lw_tbl, w.before A s = true) (hg : (Cond.and given_1 narrow_1).before A s = true) (hK : u_Kn s "java/lang/String" T11 4 ((rD ρ).1 11) ((rD ρ).2 11)) (hB : ∀ c, ArrOfT s c .byte → rB ρ c = 1) : ∃ a : Nat, (Term.string "java/lang/StringUTF16" (295 : Nat)).eval A s none [] s = some (.ref a) ∧ isS ρ no0 s.heap a TX10 := by
  obtain ⟨adK, adV, h1, h2⟩ := vk_Sof (N := 1) (tm := fun _ => (Term.string "java/lang/StringUTF16" (295 : Nat))) (len := [0]) (byt := [[]]) (A := no0) (s := s) (args := A) (fun i hi => by obtain rfl : i = 0 := (by omega); decide) (fun i _ => cA (cB (cA (cB (cB (cB (cA (cB (cA (cB (cB (hg)))))))))))) (fun i _ => cB (cB (cA (cB (cB (cB (cA (cB (cA (cB (cB (hg)))))))))))) (fun i _ => cA (cA (cB (cB (cB (cB (cA (cB (cA (cB (cB (hg)))))))))))) (fun i hi => by obtain rfl : i = 0 := (by omega); exact cB (cA (cB (cB (cB (cB (cA (cB (cA (cB (cB (hg))))))))))))
    (fun i hi j hj => by
      obtain rfl : i = 0 := by omega
      match j, hj with
      | j + 0, h => exact absurd h (by show ¬ j + 0 < 0; omega))
    (fun i j hi hj hne => absurd (show i = j by omega) hne) (fun _ _ z => z)
  exact ⟨adK 0, h2 0 (by decide), st_str hK hB h1 rfl (by decide) (by decide) (by decide)⟩
theorem st_s11 {ρ : RH} {s : State} {A : Array Value} (hts : ∀ w ∈ lw_tbl, w.before A s = true) (hg : (Cond.and given_1 narrow_1).before A s = true) (hK : u_Kn s "java/lang/String" T11 4 ((rD ρ).1 11) ((rD ρ).2 11)) (hB : ∀ c, ArrOfT s c .byte → rB ρ c = 1) : ∃ a : Nat, (Term.string "WordFunctions$Texts" (194 : Nat)).eval A s none [] s = some (.ref a) ∧ isS ρ no0 s.heap a TX11 := by
  obtain ⟨adK, adV, h1, h2⟩ := vk_Sof (N := 1) (tm := fun _ => (Term.string "WordFunctions$Texts" (194 : Nat))) (len := [0]) (byt := [[]]) (A := no0) (s := s) (args := A) (fun i hi => by obtain rfl : i = 0 := (by omega); decide) (fun i _ => cA (cB (cA (cB (cA (cA (cB (cB (cA (cB (cB (hg)))))))))))) (fun i _ => cB (cB (cA (cB (cA (cA (cB (cB (cA (cB (cB (hg)))))))))))) (fun i _ => cA (cA (cB (cB (cA (cA (cB (cB (cA (cB (cB (hg)))))))))))) (fun i hi => by obtain rfl : i = 0 := (by omega); exact cB (cA (cB (cB (cA (cA (cB (cB (cA (cB (cB (hg))))))))))))
    (fun i hi j hj => by
      obtain rfl : i = 0 := by omega
      match j, hj with
      | j + 0, h => exact absurd h (by show ¬ j + 0 < 0; omega))
    (fun i j hi hj hne => absurd (show i = j by omega) hne) (fun _ _ z => z)
  exact ⟨adK 0, h2 0 (by decide), st_str hK hB h1 rfl (by decide) (by decide) (by decide)⟩
theorem st_s12 {ρ : RH} {s : State} {A : Array Value} (hts : ∀ w ∈ lw_tbl, w.before A s = true) (hg : (Cond.and given_1 narrow_1).before A s = true) (hK : u_Kn s "java/lang/String" T11 4 ((rD ρ).1 11) ((rD ρ).2 11)) (hB : ∀ c, ArrOfT s c .byte → rB ρ c = 1) : ∃ a : Nat, (Term.string "WordFunctions$Texts" (207 : Nat)).eval A s none [] s = some (.ref a) ∧ isS ρ no0 s.heap a TX12 := by
  obtain ⟨adK, adV, h1, h2⟩ := vk_Sof (N := 1) (tm := fun _ => (Term.string "WordFunctions$Texts" (207 : Nat))) (len := [26]) (byt := [[77, 32, 67, 77, 68, 32, 67, 68, 67, 32, 88, 67, 76, 32, 88, 76, 88, 32, 73, 88, 86, 32, 73, 86, 73, 32]]) (A := no0) (s := s) (args := A) (fun i hi => by obtain rfl : i = 0 := (by omega); decide) (fun i _ => cA (cB (cA (cB (cB (cA (cB (cB (cA (cB (cB (hg)))))))))))) (fun i _ => cB (cB (cA (cB (cB (cA (cB (cB (cA (cB (cB (hg)))))))))))) (fun i _ => cA (cA (cB (cB (cB (cA (cB (cB (cA (cB (cB (hg)))))))))))) (fun i hi => by obtain rfl : i = 0 := (by omega); exact cB (cA (cB (cB (cB (cA (cB (cB (cA (cB (cB (hg))))))))))))
    (fun i hi j hj => by
      obtain rfl : i = 0 := by omega
      match j, hj with
      | 0, _ => exact cA (cB (cB (cB (cB (cA (cB (cB (cA (cB (cB (hg)))))))))))
      | 1, _ => exact cB (cB (cB (cB (cB (cA (cB (cB (cA (cB (cB (hg)))))))))))
      | 2, _ => exact cA (cA (cA (cA (cB (cB (cB (cA (cB (cB (hg))))))))))
      | 3, _ => exact cA (cB (cA (cA (cA (cB (cB (cB (cA (cB (cB (hg)))))))))))
      | 4, _ => exact cB (cB (cA (cA (cA (cB (cB (cB (cA (cB (cB (hg)))))))))))
      | 5, _ => exact cA (cA (cB (cA (cA (cB (cB (cB (cA (cB (cB (hg)))))))))))
      | 6, _ => exact cB (cA (cB (cA (cA (cB (cB (cB (cA (cB (cB (hg)))))))))))
      | 7, _ => exact cA (cB (cB (cA (cA (cB (cB (cB (cA (cB (cB (hg)))))))))))
      | 8, _ => exact cB (cB (cB (cA (cA (cB (cB (cB (cA (cB (cB (hg)))))))))))
      | 9, _ => exact cA (cA (cA (cB (cA (cB (cB (cB (cA (cB (cB (hg)))))))))))
      | 10, _ => exact cB (cA (cA (cB (cA (cB (cB (cB (cA (cB (cB (hg)))))))))))
      | 11, _ => exact cA (cB (cA (cB (cA (cB (cB (cB (cA (cB (cB (hg)))))))))))
      | 12, _ => exact cB (cB (cA (cB (cA (cB (cB (cB (cA (cB (cB (hg)))))))))))
      | 13, _ => exact cA (cA (cB (cB (cA (cB (cB (cB (cA (cB (cB (hg)))))))))))
      | 14, _ => exact cB (cA (cB (cB (cA (cB (cB (cB (cA (cB (cB (hg)))))))))))
      | 15, _ => exact cA (cB (cB (cB (cA (cB (cB (cB (cA (cB (cB (hg)))))))))))
      | 16, _ => exact cB (cB (cB (cB (cA (cB (cB (cB (cA (cB (cB (hg)))))))))))
      | 17, _ => exact cA (cA (cA (cB (cB (cB (cB (cA (cB (cB (hg))))))))))
      | 18, _ => exact cA (cB (cA (cA (cB (cB (cB (cB (cA (cB (cB (hg)))))))))))
      | 19, _ => exact cB (cB (cA (cA (cB (cB (cB (cB (cA (cB (cB (hg)))))))))))
      | 20, _ => exact cA (cA (cB (cA (cB (cB (cB (cB (cA (cB (cB (hg)))))))))))
      | 21, _ => exact cB (cA (cB (cA (cB (cB (cB (cB (cA (cB (cB (hg)))))))))))
      | 22, _ => exact cA (cB (cB (cA (cB (cB (cB (cB (cA (cB (cB (hg)))))))))))
      | 23, _ => exact cB (cB (cB (cA (cB (cB (cB (cB (cA (cB (cB (hg)))))))))))
      | 24, _ => exact cA (cA (cA (cB (cB (cB (cB (cB (cA (cB (cB (hg)))))))))))
      | 25, _ => exact cB (cA (cA (cB (cB (cB (cB (cB (cA (cB (cB (hg)))))))))))
      | j + 26, h => exact absurd h (by show ¬ j + 26 < 26; omega))
    (fun i j hi hj hne => absurd (show i = j by omega) hne) (fun _ _ z => z)
  exact ⟨adK 0, h2 0 (by decide), st_str hK hB h1 rfl (by decide) (by decide) (by decide)⟩
theorem st_s13 {ρ : RH} {s : State} {A : Array Value} (hts : ∀ w ∈ lw_tbl, w.before A s = true) (hg : (Cond.and given_1 narrow_1).before A s = true) (hK : u_Kn s "java/lang/String" T11 4 ((rD ρ).1 11) ((rD ρ).2 11)) (hB : ∀ c, ArrOfT s c .byte → rB ρ c = 1) : ∃ a : Nat, (Term.string "WordFunctions$LookUps" (201 : Nat)).eval A s none [] s = some (.ref a) ∧ isS ρ no0 s.heap a TX13 := by
  obtain ⟨adK, adV, h1, h2⟩ := vk_Sof (N := 1) (tm := fun _ => (Term.string "WordFunctions$LookUps" (201 : Nat))) (len := [1]) (byt := [[36]]) (A := no0) (s := s) (args := A) (fun i hi => by obtain rfl : i = 0 := (by omega); decide) (fun i _ => cB (cB (cB (cA (cA (cA (cA (cA (cB (cB (cB (hg)))))))))))) (fun i _ => cA (cA (cB (cA (cA (cA (cA (cB (cB (cB (hg))))))))))) (fun i _ => cA (cB (cA (cB (cA (cA (cA (cA (cB (cB (cB (hg)))))))))))) (fun i hi => by obtain rfl : i = 0 := (by omega); exact cB (cB (cA (cB (cA (cA (cA (cA (cB (cB (cB (hg))))))))))))
    (fun i hi j hj => by
      obtain rfl : i = 0 := by omega
      match j, hj with
      | 0, _ => exact cA (cA (cB (cB (cA (cA (cA (cA (cB (cB (cB (hg)))))))))))
      | j + 1, h => exact absurd h (by show ¬ j + 1 < 1; omega))
    (fun i j hi hj hne => absurd (show i = j by omega) hne) (fun _ _ z => z)
  exact ⟨adK 0, h2 0 (by decide), st_str hK hB h1 rfl (by decide) (by decide) (by decide)⟩
theorem st_s14 {ρ : RH} {s : State} {A : Array Value} (hts : ∀ w ∈ lw_tbl, w.before A s = true) (hg : (Cond.and given_1 narrow_1).before A s = true) (hK : u_Kn s "java/lang/String" T11 4 ((rD ρ).1 11) ((rD ρ).2 11)) (hB : ∀ c, ArrOfT s c .byte → rB ρ c = 1) : ∃ a : Nat, (Term.string "WordFunctions$LookUps" (203 : Nat)).eval A s none [] s = some (.ref a) ∧ isS ρ no0 s.heap a TX14 := by
  obtain ⟨adK, adV, h1, h2⟩ := vk_Sof (N := 1) (tm := fun _ => (Term.string "WordFunctions$LookUps" (203 : Nat))) (len := [0]) (byt := [[]]) (A := no0) (s := s) (args := A) (fun i hi => by obtain rfl : i = 0 := (by omega); decide) (fun i _ => cB (cB (cA (cB (cB (cA (cA (cA (cB (cB (cB (hg)))))))))))) (fun i _ => cA (cA (cB (cB (cB (cA (cA (cA (cB (cB (cB (hg)))))))))))) (fun i _ => cB (cA (cB (cB (cB (cA (cA (cA (cB (cB (cB (hg)))))))))))) (fun i hi => by obtain rfl : i = 0 := (by omega); exact cA (cB (cB (cB (cB (cA (cA (cA (cB (cB (cB (hg))))))))))))
    (fun i hi j hj => by
      obtain rfl : i = 0 := by omega
      match j, hj with
      | j + 0, h => exact absurd h (by show ¬ j + 0 < 0; omega))
    (fun i j hi hj hne => absurd (show i = j by omega) hne) (fun _ _ z => z)
  exact ⟨adK 0, h2 0 (by decide), st_str hK hB h1 rfl (by decide) (by decide) (by decide)⟩
theorem st_s15 {ρ : RH} {s : State} {A : Array Value} (hts : ∀ w ∈ lw_tbl, w.before A s = true) (hg : (Cond.and given_1 narrow_1).before A s = true) (hK : u_Kn s "java/lang/String" T11 4 ((rD ρ).1 11) ((rD ρ).2 11)) (hB : ∀ c, ArrOfT s c .byte → rB ρ c = 1) : ∃ a : Nat, (Term.string "WordFunctions$LookUps" (220 : Nat)).eval A s none [] s = some (.ref a) ∧ isS ρ no0 s.heap a TX15 := by
  obtain ⟨adK, adV, h1, h2⟩ := vk_Sof (N := 1) (tm := fun _ => (Term.string "WordFunctions$LookUps" (220 : Nat))) (len := [1]) (byt := [[91]]) (A := no0) (s := s) (args := A) (fun i hi => by obtain rfl : i = 0 := (by omega); decide) (fun i _ => cB (cB (cB (cB (cA (cB (cA (cA (cB (cB (cB (hg)))))))))))) (fun i _ => cA (cA (cA (cB (cB (cA (cA (cB (cB (cB (hg))))))))))) (fun i _ => cA (cB (cA (cA (cB (cB (cA (cA (cB (cB (cB (hg)))))))))))) (fun i hi => by obtain rfl : i = 0 := (by omega); exact cB (cB (cA (cA (cB (cB (cA (cA (cB (cB (cB (hg))))))))))))
    (fun i hi j hj => by
      obtain rfl : i = 0 := by omega
      match j, hj with
      | 0, _ => exact cA (cA (cB (cA (cB (cB (cA (cA (cB (cB (cB (hg)))))))))))
      | j + 1, h => exact absurd h (by show ¬ j + 1 < 1; omega))
    (fun i j hi hj hne => absurd (show i = j by omega) hne) (fun _ _ z => z)
  exact ⟨adK 0, h2 0 (by decide), st_str hK hB h1 rfl (by decide) (by decide) (by decide)⟩
theorem st_s16 {ρ : RH} {s : State} {A : Array Value} (hts : ∀ w ∈ lw_tbl, w.before A s = true) (hg : (Cond.and given_1 narrow_1).before A s = true) (hK : u_Kn s "java/lang/String" T11 4 ((rD ρ).1 11) ((rD ρ).2 11)) (hB : ∀ c, ArrOfT s c .byte → rB ρ c = 1) : ∃ a : Nat, (Term.string "WordFunctions$LookUps" (222 : Nat)).eval A s none [] s = some (.ref a) ∧ isS ρ no0 s.heap a TX16 := by
  obtain ⟨adK, adV, h1, h2⟩ := vk_Sof (N := 1) (tm := fun _ => (Term.string "WordFunctions$LookUps" (222 : Nat))) (len := [1]) (byt := [[93]]) (A := no0) (s := s) (args := A) (fun i hi => by obtain rfl : i = 0 := (by omega); decide) (fun i _ => cB (cA (cB (cA (cA (cA (cB (cA (cB (cB (cB (hg)))))))))))) (fun i _ => cA (cB (cB (cA (cA (cA (cB (cA (cB (cB (cB (hg)))))))))))) (fun i _ => cB (cB (cB (cA (cA (cA (cB (cA (cB (cB (cB (hg)))))))))))) (fun i hi => by obtain rfl : i = 0 := (by omega); exact cA (cA (cB (cA (cA (cB (cA (cB (cB (cB (hg)))))))))))
    (fun i hi j hj => by
      obtain rfl : i = 0 := by omega
      match j, hj with
      | 0, _ => exact cA (cB (cA (cB (cA (cA (cB (cA (cB (cB (cB (hg)))))))))))
      | j + 1, h => exact absurd h (by show ¬ j + 1 < 1; omega))
    (fun i j hi hj hne => absurd (show i = j by omega) hne) (fun _ _ z => z)
  exact ⟨adK 0, h2 0 (by decide), st_str hK hB h1 rfl (by decide) (by decide) (by decide)⟩
theorem st_s17 {ρ : RH} {s : State} {A : Array Value} (hts : ∀ w ∈ lw_tbl, w.before A s = true) (hg : (Cond.and given_1 narrow_1).before A s = true) (hK : u_Kn s "java/lang/String" T11 4 ((rD ρ).1 11) ((rD ρ).2 11)) (hB : ∀ c, ArrOfT s c .byte → rB ρ c = 1) : ∃ a : Nat, (Term.string "WordFunctions$Dates" (129 : Nat)).eval A s none [] s = some (.ref a) ∧ isS ρ no0 s.heap a TX17 := by
  obtain ⟨adK, adV, h1, h2⟩ := vk_Sof (N := 1) (tm := fun _ => (Term.string "WordFunctions$Dates" (129 : Nat))) (len := [1]) (byt := [[89]]) (A := no0) (s := s) (args := A) (fun i hi => by obtain rfl : i = 0 := (by omega); decide) (fun i _ => cA (cA (cB (cB (cB (cA (cB (cA (cB (cB (cB (hg)))))))))))) (fun i _ => cB (cA (cB (cB (cB (cA (cB (cA (cB (cB (cB (hg)))))))))))) (fun i _ => cA (cB (cB (cB (cB (cA (cB (cA (cB (cB (cB (hg)))))))))))) (fun i hi => by obtain rfl : i = 0 := (by omega); exact cB (cB (cB (cB (cB (cA (cB (cA (cB (cB (cB (hg))))))))))))
    (fun i hi j hj => by
      obtain rfl : i = 0 := by omega
      match j, hj with
      | 0, _ => exact cA (cA (cA (cA (cB (cB (cA (cB (cB (cB (hg))))))))))
      | j + 1, h => exact absurd h (by show ¬ j + 1 < 1; omega))
    (fun i j hi hj hne => absurd (show i = j by omega) hne) (fun _ _ z => z)
  exact ⟨adK 0, h2 0 (by decide), st_str hK hB h1 rfl (by decide) (by decide) (by decide)⟩
theorem st_s18 {ρ : RH} {s : State} {A : Array Value} (hts : ∀ w ∈ lw_tbl, w.before A s = true) (hg : (Cond.and given_1 narrow_1).before A s = true) (hK : u_Kn s "java/lang/String" T11 4 ((rD ρ).1 11) ((rD ρ).2 11)) (hB : ∀ c, ArrOfT s c .byte → rB ρ c = 1) : ∃ a : Nat, (Term.string "WordFunctions$Dates" (135 : Nat)).eval A s none [] s = some (.ref a) ∧ isS ρ no0 s.heap a TX18 := by
  obtain ⟨adK, adV, h1, h2⟩ := vk_Sof (N := 1) (tm := fun _ => (Term.string "WordFunctions$Dates" (135 : Nat))) (len := [1]) (byt := [[77]]) (A := no0) (s := s) (args := A) (fun i hi => by obtain rfl : i = 0 := (by omega); decide) (fun i _ => cB (cA (cB (cA (cB (cB (cB (cA (cB (cB (cB (hg)))))))))))) (fun i _ => cA (cB (cB (cA (cB (cB (cB (cA (cB (cB (cB (hg)))))))))))) (fun i _ => cB (cB (cB (cA (cB (cB (cB (cA (cB (cB (cB (hg)))))))))))) (fun i hi => by obtain rfl : i = 0 := (by omega); exact cA (cA (cA (cB (cB (cB (cB (cA (cB (cB (cB (hg))))))))))))
    (fun i hi j hj => by
      obtain rfl : i = 0 := by omega
      match j, hj with
      | 0, _ => exact cB (cA (cA (cB (cB (cB (cB (cA (cB (cB (cB (hg)))))))))))
      | j + 1, h => exact absurd h (by show ¬ j + 1 < 1; omega))
    (fun i j hi hj hne => absurd (show i = j by omega) hne) (fun _ _ z => z)
  exact ⟨adK 0, h2 0 (by decide), st_str hK hB h1 rfl (by decide) (by decide) (by decide)⟩
theorem st_s19 {ρ : RH} {s : State} {A : Array Value} (hts : ∀ w ∈ lw_tbl, w.before A s = true) (hg : (Cond.and given_1 narrow_1).before A s = true) (hK : u_Kn s "java/lang/String" T11 4 ((rD ρ).1 11) ((rD ρ).2 11)) (hB : ∀ c, ArrOfT s c .byte → rB ρ c = 1) : ∃ a : Nat, (Term.string "WordFunctions$Dates" (137 : Nat)).eval A s none [] s = some (.ref a) ∧ isS ρ no0 s.heap a TX19 := by
  obtain ⟨adK, adV, h1, h2⟩ := vk_Sof (N := 1) (tm := fun _ => (Term.string "WordFunctions$Dates" (137 : Nat))) (len := [1]) (byt := [[68]]) (A := no0) (s := s) (args := A) (fun i hi => by obtain rfl : i = 0 := (by omega); decide) (fun i _ => cA (cB (cB (cB (cA (cA (cA (cB (cB (cB (cB (hg)))))))))))) (fun i _ => cB (cB (cB (cB (cA (cA (cA (cB (cB (cB (cB (hg)))))))))))) (fun i _ => cA (cA (cA (cB (cA (cA (cB (cB (cB (cB (hg))))))))))) (fun i hi => by obtain rfl : i = 0 := (by omega); exact cA (cB (cA (cA (cB (cA (cA (cB (cB (cB (cB (hg))))))))))))
    (fun i hi j hj => by
      obtain rfl : i = 0 := by omega
      match j, hj with
      | 0, _ => exact cB (cB (cA (cA (cB (cA (cA (cB (cB (cB (cB (hg)))))))))))
      | j + 1, h => exact absurd h (by show ¬ j + 1 < 1; omega))
    (fun i j hi hj hne => absurd (show i = j by omega) hne) (fun _ _ z => z)
  exact ⟨adK 0, h2 0 (by decide), st_str hK hB h1 rfl (by decide) (by decide) (by decide)⟩
theorem st_s20 {ρ : RH} {s : State} {A : Array Value} (hts : ∀ w ∈ lw_tbl, w.before A s = true) (hg : (Cond.and given_1 narrow_1).before A s = true) (hK : u_Kn s "java/lang/String" T11 4 ((rD ρ).1 11) ((rD ρ).2 11)) (hB : ∀ c, ArrOfT s c .byte → rB ρ c = 1) : ∃ a : Nat, (Term.string "WordFunctions$Dates" (139 : Nat)).eval A s none [] s = some (.ref a) ∧ isS ρ no0 s.heap a TX20 := by
  obtain ⟨adK, adV, h1, h2⟩ := vk_Sof (N := 1) (tm := fun _ => (Term.string "WordFunctions$Dates" (139 : Nat))) (len := [2]) (byt := [[89, 77]]) (A := no0) (s := s) (args := A) (fun i hi => by obtain rfl : i = 0 := (by omega); decide) (fun i _ => cA (cA (cB (cA (cB (cA (cB (cB (cB (cB (hg))))))))))) (fun i _ => cA (cB (cA (cB (cA (cB (cA (cB (cB (cB (cB (hg)))))))))))) (fun i _ => cB (cB (cA (cB (cA (cB (cA (cB (cB (cB (cB (hg)))))))))))) (fun i hi => by obtain rfl : i = 0 := (by omega); exact cA (cA (cB (cB (cA (cB (cA (cB (cB (cB (cB (hg))))))))))))
    (fun i hi j hj => by
      obtain rfl : i = 0 := by omega
      match j, hj with
      | 0, _ => exact cB (cA (cB (cB (cA (cB (cA (cB (cB (cB (cB (hg)))))))))))
      | 1, _ => exact cA (cB (cB (cB (cA (cB (cA (cB (cB (cB (cB (hg)))))))))))
      | j + 2, h => exact absurd h (by show ¬ j + 2 < 2; omega))
    (fun i j hi hj hne => absurd (show i = j by omega) hne) (fun _ _ z => z)
  exact ⟨adK 0, h2 0 (by decide), st_str hK hB h1 rfl (by decide) (by decide) (by decide)⟩
theorem st_s21 {ρ : RH} {s : State} {A : Array Value} (hts : ∀ w ∈ lw_tbl, w.before A s = true) (hg : (Cond.and given_1 narrow_1).before A s = true) (hK : u_Kn s "java/lang/String" T11 4 ((rD ρ).1 11) ((rD ρ).2 11)) (hB : ∀ c, ArrOfT s c .byte → rB ρ c = 1) : ∃ a : Nat, (Term.string "WordFunctions$Dates" (141 : Nat)).eval A s none [] s = some (.ref a) ∧ isS ρ no0 s.heap a TX21 := by
  obtain ⟨adK, adV, h1, h2⟩ := vk_Sof (N := 1) (tm := fun _ => (Term.string "WordFunctions$Dates" (141 : Nat))) (len := [2]) (byt := [[77, 68]]) (A := no0) (s := s) (args := A) (fun i hi => by obtain rfl : i = 0 := (by omega); decide) (fun i _ => cB (cA (cB (cA (cA (cA (cB (cB (cB (cB (cB (hg)))))))))))) (fun i _ => cA (cB (cB (cA (cA (cA (cB (cB (cB (cB (cB (hg)))))))))))) (fun i _ => cB (cB (cB (cA (cA (cA (cB (cB (cB (cB (cB (hg)))))))))))) (fun i hi => by obtain rfl : i = 0 := (by omega); exact cA (cA (cB (cA (cA (cB (cB (cB (cB (cB (hg)))))))))))
    (fun i hi j hj => by
      obtain rfl : i = 0 := by omega
      match j, hj with
      | 0, _ => exact cA (cB (cA (cB (cA (cA (cB (cB (cB (cB (cB (hg)))))))))))
      | 1, _ => exact cB (cB (cA (cB (cA (cA (cB (cB (cB (cB (cB (hg)))))))))))
      | j + 2, h => exact absurd h (by show ¬ j + 2 < 2; omega))
    (fun i j hi hj hne => absurd (show i = j by omega) hne) (fun _ _ z => z)
  exact ⟨adK 0, h2 0 (by decide), st_str hK hB h1 rfl (by decide) (by decide) (by decide)⟩
theorem st_s22 {ρ : RH} {s : State} {A : Array Value} (hts : ∀ w ∈ lw_tbl, w.before A s = true) (hg : (Cond.and given_1 narrow_1).before A s = true) (hK : u_Kn s "java/lang/String" T11 4 ((rD ρ).1 11) ((rD ρ).2 11)) (hB : ∀ c, ArrOfT s c .byte → rB ρ c = 1) : ∃ a : Nat, (Term.string "WordFunctions$Dates" (146 : Nat)).eval A s none [] s = some (.ref a) ∧ isS ρ no0 s.heap a TX22 := by
  obtain ⟨adK, adV, h1, h2⟩ := vk_Sof (N := 1) (tm := fun _ => (Term.string "WordFunctions$Dates" (146 : Nat))) (len := [2]) (byt := [[89, 68]]) (A := no0) (s := s) (args := A) (fun i hi => by obtain rfl : i = 0 := (by omega); decide) (fun i _ => cB (cB (cA (cA (cA (cB (cB (cB (cB (cB (cB (hg)))))))))))) (fun i _ => cA (cA (cB (cA (cA (cB (cB (cB (cB (cB (cB (hg)))))))))))) (fun i _ => cB (cA (cB (cA (cA (cB (cB (cB (cB (cB (cB (hg)))))))))))) (fun i hi => by obtain rfl : i = 0 := (by omega); exact cA (cB (cB (cA (cA (cB (cB (cB (cB (cB (cB (hg))))))))))))
    (fun i hi j hj => by
      obtain rfl : i = 0 := by omega
      match j, hj with
      | 0, _ => exact cB (cB (cB (cA (cA (cB (cB (cB (cB (cB (cB (hg)))))))))))
      | 1, _ => exact cA (cA (cA (cB (cA (cB (cB (cB (cB (cB (cB (hg)))))))))))
      | j + 2, h => exact absurd h (by show ¬ j + 2 < 2; omega))
    (fun i j hi hj hne => absurd (show i = j by omega) hne) (fun _ _ z => z)
  exact ⟨adK 0, h2 0 (by decide), st_str hK hB h1 rfl (by decide) (by decide) (by decide)⟩
theorem st_z0 {s : State} {A : Array Value} {rb : Nat → Nat} (hrb : RBf s rb) (hts : ∀ w ∈ lw_tbl, w.before A s = true) (hT : ∀ w ∈ TG, w.before A s = true) (hg : (Cond.and given_1 narrow_1).before A s = true) : ∃ q, STk s rb 0 q :=
  st_int (va_Zof (A := no0) (hts _ wd292) (hT _ wd14) (va_eqi (cB (cB (cA (cA (cA (cA (cA (cA (cA (cA (cB (hg))))))))))))) (fun _ _ z => z)) rfl rfl rfl rfl
theorem st_z1 {s : State} {A : Array Value} {rb : Nat → Nat} (hrb : RBf s rb) (hts : ∀ w ∈ lw_tbl, w.before A s = true) (hT : ∀ w ∈ TG, w.before A s = true) (hg : (Cond.and given_1 narrow_1).before A s = true) : ∃ q, STk s rb 1 q :=
  st_ref (va_Zqof (A := no0) (hts _ wd383) (hT _ wd21) (cA (cA (cB (cA (cA (cA (cA (cA (cA (cA (cB (hg)))))))))))) (fun _ _ z => z)) rfl rfl rfl
theorem st_z2 {s : State} {A : Array Value} {rb : Nat → Nat} (hrb : RBf s rb) (hts : ∀ w ∈ lw_tbl, w.before A s = true) (hT : ∀ w ∈ TG, w.before A s = true) (hg : (Cond.and given_1 narrow_1).before A s = true) : ∃ q, STk s rb 2 q :=
  st_int (va_Zof (A := no0) (hts _ wd391) (hT _ wd15) (va_eqi (cB (cA (cB (cA (cA (cA (cA (cA (cA (cA (cB (hg))))))))))))) (fun _ _ z => z)) rfl rfl rfl rfl
theorem st_z3 {s : State} {A : Array Value} {rb : Nat → Nat} (hrb : RBf s rb) (hts : ∀ w ∈ lw_tbl, w.before A s = true) (hT : ∀ w ∈ TG, w.before A s = true) (hg : (Cond.and given_1 narrow_1).before A s = true) : ∃ q, STk s rb 3 q :=
  st_int (va_Zof (A := no0) (hts _ wd393) (hT _ wd15) (va_eqi (cA (cB (cB (cA (cA (cA (cA (cA (cA (cA (cB (hg))))))))))))) (fun _ _ z => z)) rfl rfl rfl rfl
theorem st_z4 {s : State} {A : Array Value} {rb : Nat → Nat} (hrb : RBf s rb) (hts : ∀ w ∈ lw_tbl, w.before A s = true) (hT : ∀ w ∈ TG, w.before A s = true) (hg : (Cond.and given_1 narrow_1).before A s = true) : ∃ q, STk s rb 4 q :=
  st_int (va_Zof (A := no0) (hts _ wd395) (hT _ wd15) (va_eqi (cB (cB (cB (cA (cA (cA (cA (cA (cA (cA (cB (hg))))))))))))) (fun _ _ z => z)) rfl rfl rfl rfl
theorem st_z5 {s : State} {A : Array Value} {rb : Nat → Nat} (hrb : RBf s rb) (hts : ∀ w ∈ lw_tbl, w.before A s = true) (hT : ∀ w ∈ TG, w.before A s = true) (hg : (Cond.and given_1 narrow_1).before A s = true) : ∃ q, STk s rb 5 q :=
  st_ref (va_Zqof (A := no0) (hts _ wd471) (hT _ wd22) (cA (cA (cB (cA (cA (cA (cA (cA (cA (cB (hg))))))))))) (fun _ _ z => z)) rfl rfl rfl
theorem st_z6 {s : State} {A : Array Value} {rb : Nat → Nat} (hrb : RBf s rb) (hts : ∀ w ∈ lw_tbl, w.before A s = true) (hT : ∀ w ∈ TG, w.before A s = true) (hg : (Cond.and given_1 narrow_1).before A s = true) : ∃ q, STk s rb 6 q :=
  st_ref (va_Zqof (A := no0) (hts _ wd473) (hT _ wd22) (cA (cB (cA (cB (cA (cA (cA (cA (cA (cA (cB (hg)))))))))))) (fun _ _ z => z)) rfl rfl rfl
theorem st_z7 {s : State} {A : Array Value} {rb : Nat → Nat} (hrb : RBf s rb) (hts : ∀ w ∈ lw_tbl, w.before A s = true) (hT : ∀ w ∈ TG, w.before A s = true) (hg : (Cond.and given_1 narrow_1).before A s = true) : ∃ q, STk s rb 7 q := by
  refine st_tab (N := 100) (ind := 1) (l := ZT7) (hts _ wd500) (hT _ wd26) (cA (cA (cB (cB (cA (cA (cA (cA (cA (cA (cB (hg)))))))))))) (cB (cA (cB (cB (cA (cA (cA (cA (cA (cA (cB (hg)))))))))))) (fun j hj => ?_) (by decide) rfl (fun c h => (hrb c).1 h) rfl rfl rfl rfl
  match j, hj with
  | 0, _ => exact cA (cB (cB (cB (cA (cA (cA (cA (cA (cA (cB (hg)))))))))))
  | 1, _ => exact cB (cB (cB (cB (cA (cA (cA (cA (cA (cA (cB (hg)))))))))))
  | 2, _ => exact cA (cA (cA (cB (cA (cA (cA (cA (cA (cB (hg))))))))))
  | 3, _ => exact cA (cB (cA (cA (cB (cA (cA (cA (cA (cA (cB (hg)))))))))))
  | 4, _ => exact cB (cB (cA (cA (cB (cA (cA (cA (cA (cA (cB (hg)))))))))))
  | 5, _ => exact cA (cA (cB (cA (cB (cA (cA (cA (cA (cA (cB (hg)))))))))))
  | 6, _ => exact cB (cA (cB (cA (cB (cA (cA (cA (cA (cA (cB (hg)))))))))))
  | 7, _ => exact cA (cB (cB (cA (cB (cA (cA (cA (cA (cA (cB (hg)))))))))))
  | 8, _ => exact cB (cB (cB (cA (cB (cA (cA (cA (cA (cA (cB (hg)))))))))))
  | 9, _ => exact cA (cA (cA (cB (cB (cA (cA (cA (cA (cA (cB (hg)))))))))))
  | 10, _ => exact cB (cA (cA (cB (cB (cA (cA (cA (cA (cA (cB (hg)))))))))))
  | 11, _ => exact cA (cB (cA (cB (cB (cA (cA (cA (cA (cA (cB (hg)))))))))))
  | 12, _ => exact cB (cB (cA (cB (cB (cA (cA (cA (cA (cA (cB (hg)))))))))))
  | 13, _ => exact cA (cA (cB (cB (cB (cA (cA (cA (cA (cA (cB (hg)))))))))))
  | 14, _ => exact cB (cA (cB (cB (cB (cA (cA (cA (cA (cA (cB (hg)))))))))))
  | 15, _ => exact cA (cB (cB (cB (cB (cA (cA (cA (cA (cA (cB (hg)))))))))))
  | 16, _ => exact cB (cB (cB (cB (cB (cA (cA (cA (cA (cA (cB (hg)))))))))))
  | 17, _ => exact cA (cA (cA (cA (cB (cA (cA (cA (cA (cB (hg))))))))))
  | 18, _ => exact cA (cB (cA (cA (cA (cB (cA (cA (cA (cA (cB (hg)))))))))))
  | 19, _ => exact cB (cB (cA (cA (cA (cB (cA (cA (cA (cA (cB (hg)))))))))))
  | 20, _ => exact cA (cA (cB (cA (cA (cB (cA (cA (cA (cA (cB (hg)))))))))))
  | 21, _ => exact cB (cA (cB (cA (cA (cB (cA (cA (cA (cA (cB (hg)))))))))))
  | 22, _ => exact cA (cB (cB (cA (cA (cB (cA (cA (cA (cA (cB (hg)))))))))))
  | 23, _ => exact cB (cB (cB (cA (cA (cB (cA (cA (cA (cA (cB (hg)))))))))))
  | 24, _ => exact cA (cA (cB (cA (cB (cA (cA (cA (cA (cB (hg))))))))))
  | 25, _ => exact cA (cB (cA (cB (cA (cB (cA (cA (cA (cA (cB (hg)))))))))))
  | 26, _ => exact cB (cB (cA (cB (cA (cB (cA (cA (cA (cA (cB (hg)))))))))))
  | 27, _ => exact cA (cA (cB (cB (cA (cB (cA (cA (cA (cA (cB (hg)))))))))))
  | 28, _ => exact cB (cA (cB (cB (cA (cB (cA (cA (cA (cA (cB (hg)))))))))))
  | 29, _ => exact cA (cB (cB (cB (cA (cB (cA (cA (cA (cA (cB (hg)))))))))))
  | 30, _ => exact cB (cB (cB (cB (cA (cB (cA (cA (cA (cA (cB (hg)))))))))))
  | 31, _ => exact cA (cA (cA (cB (cB (cA (cA (cA (cA (cB (hg))))))))))
  | 32, _ => exact cA (cB (cA (cA (cB (cB (cA (cA (cA (cA (cB (hg)))))))))))
  | 33, _ => exact cB (cB (cA (cA (cB (cB (cA (cA (cA (cA (cB (hg)))))))))))
  | 34, _ => exact cA (cA (cB (cA (cB (cB (cA (cA (cA (cA (cB (hg)))))))))))
  | 35, _ => exact cB (cA (cB (cA (cB (cB (cA (cA (cA (cA (cB (hg)))))))))))
  | 36, _ => exact cA (cB (cB (cA (cB (cB (cA (cA (cA (cA (cB (hg)))))))))))
  | 37, _ => exact cB (cB (cB (cA (cB (cB (cA (cA (cA (cA (cB (hg)))))))))))
  | 38, _ => exact cA (cA (cA (cB (cB (cB (cA (cA (cA (cA (cB (hg)))))))))))
  | 39, _ => exact cB (cA (cA (cB (cB (cB (cA (cA (cA (cA (cB (hg)))))))))))
  | 40, _ => exact cA (cB (cA (cB (cB (cB (cA (cA (cA (cA (cB (hg)))))))))))
  | 41, _ => exact cB (cB (cA (cB (cB (cB (cA (cA (cA (cA (cB (hg)))))))))))
  | 42, _ => exact cA (cA (cB (cB (cB (cB (cA (cA (cA (cA (cB (hg)))))))))))
  | 43, _ => exact cB (cA (cB (cB (cB (cB (cA (cA (cA (cA (cB (hg)))))))))))
  | 44, _ => exact cA (cB (cB (cB (cB (cB (cA (cA (cA (cA (cB (hg)))))))))))
  | 45, _ => exact cB (cB (cB (cB (cB (cB (cA (cA (cA (cA (cB (hg)))))))))))
  | 46, _ => exact cA (cA (cA (cA (cA (cB (cA (cA (cA (cB (hg))))))))))
  | 47, _ => exact cA (cB (cA (cA (cA (cA (cB (cA (cA (cA (cB (hg)))))))))))
  | 48, _ => exact cB (cB (cA (cA (cA (cA (cB (cA (cA (cA (cB (hg)))))))))))
  | 49, _ => exact cA (cA (cB (cA (cA (cA (cB (cA (cA (cA (cB (hg)))))))))))
  | 50, _ => exact cB (cA (cB (cA (cA (cA (cB (cA (cA (cA (cB (hg)))))))))))
  | 51, _ => exact cA (cB (cB (cA (cA (cA (cB (cA (cA (cA (cB (hg)))))))))))
  | 52, _ => exact cB (cB (cB (cA (cA (cA (cB (cA (cA (cA (cB (hg)))))))))))
  | 53, _ => exact cA (cA (cB (cA (cA (cB (cA (cA (cA (cB (hg))))))))))
  | 54, _ => exact cA (cB (cA (cB (cA (cA (cB (cA (cA (cA (cB (hg)))))))))))
  | 55, _ => exact cB (cB (cA (cB (cA (cA (cB (cA (cA (cA (cB (hg)))))))))))
  | 56, _ => exact cA (cA (cB (cB (cA (cA (cB (cA (cA (cA (cB (hg)))))))))))
  | 57, _ => exact cB (cA (cB (cB (cA (cA (cB (cA (cA (cA (cB (hg)))))))))))
  | 58, _ => exact cA (cB (cB (cB (cA (cA (cB (cA (cA (cA (cB (hg)))))))))))
  | 59, _ => exact cB (cB (cB (cB (cA (cA (cB (cA (cA (cA (cB (hg)))))))))))
  | 60, _ => exact cA (cA (cA (cB (cA (cB (cA (cA (cA (cB (hg))))))))))
  | 61, _ => exact cA (cB (cA (cA (cB (cA (cB (cA (cA (cA (cB (hg)))))))))))
  | 62, _ => exact cB (cB (cA (cA (cB (cA (cB (cA (cA (cA (cB (hg)))))))))))
  | 63, _ => exact cA (cA (cB (cA (cB (cA (cB (cA (cA (cA (cB (hg)))))))))))
  | 64, _ => exact cB (cA (cB (cA (cB (cA (cB (cA (cA (cA (cB (hg)))))))))))
  | 65, _ => exact cA (cB (cB (cA (cB (cA (cB (cA (cA (cA (cB (hg)))))))))))
  | 66, _ => exact cB (cB (cB (cA (cB (cA (cB (cA (cA (cA (cB (hg)))))))))))
  | 67, _ => exact cA (cA (cA (cB (cB (cA (cB (cA (cA (cA (cB (hg)))))))))))
  | 68, _ => exact cB (cA (cA (cB (cB (cA (cB (cA (cA (cA (cB (hg)))))))))))
  | 69, _ => exact cA (cB (cA (cB (cB (cA (cB (cA (cA (cA (cB (hg)))))))))))
  | 70, _ => exact cB (cB (cA (cB (cB (cA (cB (cA (cA (cA (cB (hg)))))))))))
  | 71, _ => exact cA (cA (cB (cB (cB (cA (cB (cA (cA (cA (cB (hg)))))))))))
  | 72, _ => exact cB (cA (cB (cB (cB (cA (cB (cA (cA (cA (cB (hg)))))))))))
  | 73, _ => exact cA (cB (cB (cB (cB (cA (cB (cA (cA (cA (cB (hg)))))))))))
  | 74, _ => exact cB (cB (cB (cB (cB (cA (cB (cA (cA (cA (cB (hg)))))))))))
  | 75, _ => exact cA (cA (cA (cA (cB (cB (cA (cA (cA (cB (hg))))))))))
  | 76, _ => exact cA (cB (cA (cA (cA (cB (cB (cA (cA (cA (cB (hg)))))))))))
  | 77, _ => exact cB (cB (cA (cA (cA (cB (cB (cA (cA (cA (cB (hg)))))))))))
  | 78, _ => exact cA (cA (cB (cA (cA (cB (cB (cA (cA (cA (cB (hg)))))))))))
  | 79, _ => exact cB (cA (cB (cA (cA (cB (cB (cA (cA (cA (cB (hg)))))))))))
  | 80, _ => exact cA (cB (cB (cA (cA (cB (cB (cA (cA (cA (cB (hg)))))))))))
  | 81, _ => exact cB (cB (cB (cA (cA (cB (cB (cA (cA (cA (cB (hg)))))))))))
  | 82, _ => exact cA (cA (cB (cA (cB (cB (cA (cA (cA (cB (hg))))))))))
  | 83, _ => exact cA (cB (cA (cB (cA (cB (cB (cA (cA (cA (cB (hg)))))))))))
  | 84, _ => exact cB (cB (cA (cB (cA (cB (cB (cA (cA (cA (cB (hg)))))))))))
  | 85, _ => exact cA (cA (cB (cB (cA (cB (cB (cA (cA (cA (cB (hg)))))))))))
  | 86, _ => exact cB (cA (cB (cB (cA (cB (cB (cA (cA (cA (cB (hg)))))))))))
  | 87, _ => exact cA (cB (cB (cB (cA (cB (cB (cA (cA (cA (cB (hg)))))))))))
  | 88, _ => exact cB (cB (cB (cB (cA (cB (cB (cA (cA (cA (cB (hg)))))))))))
  | 89, _ => exact cA (cA (cA (cB (cB (cB (cA (cA (cA (cB (hg))))))))))
  | 90, _ => exact cA (cB (cA (cA (cB (cB (cB (cA (cA (cA (cB (hg)))))))))))
  | 91, _ => exact cB (cB (cA (cA (cB (cB (cB (cA (cA (cA (cB (hg)))))))))))
  | 92, _ => exact cA (cA (cB (cA (cB (cB (cB (cA (cA (cA (cB (hg)))))))))))
  | 93, _ => exact cB (cA (cB (cA (cB (cB (cB (cA (cA (cA (cB (hg)))))))))))
  | 94, _ => exact cA (cB (cB (cA (cB (cB (cB (cA (cA (cA (cB (hg)))))))))))
  | 95, _ => exact cB (cB (cB (cA (cB (cB (cB (cA (cA (cA (cB (hg)))))))))))
  | 96, _ => exact cA (cA (cA (cB (cB (cB (cB (cA (cA (cA (cB (hg)))))))))))
  | 97, _ => exact cB (cA (cA (cB (cB (cB (cB (cA (cA (cA (cB (hg)))))))))))
  | 98, _ => exact cA (cB (cA (cB (cB (cB (cB (cA (cA (cA (cB (hg)))))))))))
  | 99, _ => exact cB (cB (cA (cB (cB (cB (cB (cA (cA (cA (cB (hg)))))))))))
  | j + 100, h => exact absurd h (by show ¬ j + 100 < 100; omega)
theorem st_z8 {s : State} {A : Array Value} {rb : Nat → Nat} (hrb : RBf s rb) (hts : ∀ w ∈ lw_tbl, w.before A s = true) (hT : ∀ w ∈ TG, w.before A s = true) (hg : (Cond.and given_1 narrow_1).before A s = true) : ∃ q, STk s rb 8 q := by
  refine st_tab (N := 100) (ind := 1) (l := ZT8) (hts _ wd502) (hT _ wd26) (cB (cA (cB (cB (cB (cB (cB (cA (cA (cA (cB (hg)))))))))))) (cA (cB (cB (cB (cB (cB (cB (cA (cA (cA (cB (hg)))))))))))) (fun j hj => ?_) (by decide) rfl (fun c h => (hrb c).1 h) rfl rfl rfl rfl
  match j, hj with
  | 0, _ => exact cB (cB (cB (cB (cB (cB (cB (cA (cA (cA (cB (hg)))))))))))
  | 1, _ => exact cA (cA (cA (cA (cA (cA (cB (cA (cA (cB (hg))))))))))
  | 2, _ => exact cA (cB (cA (cA (cA (cA (cA (cB (cA (cA (cB (hg)))))))))))
  | 3, _ => exact cB (cB (cA (cA (cA (cA (cA (cB (cA (cA (cB (hg)))))))))))
  | 4, _ => exact cA (cA (cB (cA (cA (cA (cA (cB (cA (cA (cB (hg)))))))))))
  | 5, _ => exact cB (cA (cB (cA (cA (cA (cA (cB (cA (cA (cB (hg)))))))))))
  | 6, _ => exact cA (cB (cB (cA (cA (cA (cA (cB (cA (cA (cB (hg)))))))))))
  | 7, _ => exact cB (cB (cB (cA (cA (cA (cA (cB (cA (cA (cB (hg)))))))))))
  | 8, _ => exact cA (cA (cB (cA (cA (cA (cB (cA (cA (cB (hg))))))))))
  | 9, _ => exact cA (cB (cA (cB (cA (cA (cA (cB (cA (cA (cB (hg)))))))))))
  | 10, _ => exact cB (cB (cA (cB (cA (cA (cA (cB (cA (cA (cB (hg)))))))))))
  | 11, _ => exact cA (cA (cB (cB (cA (cA (cA (cB (cA (cA (cB (hg)))))))))))
  | 12, _ => exact cB (cA (cB (cB (cA (cA (cA (cB (cA (cA (cB (hg)))))))))))
  | 13, _ => exact cA (cB (cB (cB (cA (cA (cA (cB (cA (cA (cB (hg)))))))))))
  | 14, _ => exact cB (cB (cB (cB (cA (cA (cA (cB (cA (cA (cB (hg)))))))))))
  | 15, _ => exact cA (cA (cA (cB (cA (cA (cB (cA (cA (cB (hg))))))))))
  | 16, _ => exact cA (cB (cA (cA (cB (cA (cA (cB (cA (cA (cB (hg)))))))))))
  | 17, _ => exact cB (cB (cA (cA (cB (cA (cA (cB (cA (cA (cB (hg)))))))))))
  | 18, _ => exact cA (cA (cB (cA (cB (cA (cA (cB (cA (cA (cB (hg)))))))))))
  | 19, _ => exact cB (cA (cB (cA (cB (cA (cA (cB (cA (cA (cB (hg)))))))))))
  | 20, _ => exact cA (cB (cB (cA (cB (cA (cA (cB (cA (cA (cB (hg)))))))))))
  | 21, _ => exact cB (cB (cB (cA (cB (cA (cA (cB (cA (cA (cB (hg)))))))))))
  | 22, _ => exact cA (cA (cA (cB (cB (cA (cA (cB (cA (cA (cB (hg)))))))))))
  | 23, _ => exact cB (cA (cA (cB (cB (cA (cA (cB (cA (cA (cB (hg)))))))))))
  | 24, _ => exact cA (cB (cA (cB (cB (cA (cA (cB (cA (cA (cB (hg)))))))))))
  | 25, _ => exact cB (cB (cA (cB (cB (cA (cA (cB (cA (cA (cB (hg)))))))))))
  | 26, _ => exact cA (cA (cB (cB (cB (cA (cA (cB (cA (cA (cB (hg)))))))))))
  | 27, _ => exact cB (cA (cB (cB (cB (cA (cA (cB (cA (cA (cB (hg)))))))))))
  | 28, _ => exact cA (cB (cB (cB (cB (cA (cA (cB (cA (cA (cB (hg)))))))))))
  | 29, _ => exact cB (cB (cB (cB (cB (cA (cA (cB (cA (cA (cB (hg)))))))))))
  | 30, _ => exact cA (cA (cA (cA (cB (cA (cB (cA (cA (cB (hg))))))))))
  | 31, _ => exact cA (cB (cA (cA (cA (cB (cA (cB (cA (cA (cB (hg)))))))))))
  | 32, _ => exact cB (cB (cA (cA (cA (cB (cA (cB (cA (cA (cB (hg)))))))))))
  | 33, _ => exact cA (cA (cB (cA (cA (cB (cA (cB (cA (cA (cB (hg)))))))))))
  | 34, _ => exact cB (cA (cB (cA (cA (cB (cA (cB (cA (cA (cB (hg)))))))))))
  | 35, _ => exact cA (cB (cB (cA (cA (cB (cA (cB (cA (cA (cB (hg)))))))))))
  | 36, _ => exact cB (cB (cB (cA (cA (cB (cA (cB (cA (cA (cB (hg)))))))))))
  | 37, _ => exact cA (cA (cB (cA (cB (cA (cB (cA (cA (cB (hg))))))))))
  | 38, _ => exact cA (cB (cA (cB (cA (cB (cA (cB (cA (cA (cB (hg)))))))))))
  | 39, _ => exact cB (cB (cA (cB (cA (cB (cA (cB (cA (cA (cB (hg)))))))))))
  | 40, _ => exact cA (cA (cB (cB (cA (cB (cA (cB (cA (cA (cB (hg)))))))))))
  | 41, _ => exact cB (cA (cB (cB (cA (cB (cA (cB (cA (cA (cB (hg)))))))))))
  | 42, _ => exact cA (cB (cB (cB (cA (cB (cA (cB (cA (cA (cB (hg)))))))))))
  | 43, _ => exact cB (cB (cB (cB (cA (cB (cA (cB (cA (cA (cB (hg)))))))))))
  | 44, _ => exact cA (cA (cA (cB (cB (cA (cB (cA (cA (cB (hg))))))))))
  | 45, _ => exact cA (cB (cA (cA (cB (cB (cA (cB (cA (cA (cB (hg)))))))))))
  | 46, _ => exact cB (cB (cA (cA (cB (cB (cA (cB (cA (cA (cB (hg)))))))))))
  | 47, _ => exact cA (cA (cB (cA (cB (cB (cA (cB (cA (cA (cB (hg)))))))))))
  | 48, _ => exact cB (cA (cB (cA (cB (cB (cA (cB (cA (cA (cB (hg)))))))))))
  | 49, _ => exact cA (cB (cB (cA (cB (cB (cA (cB (cA (cA (cB (hg)))))))))))
  | 50, _ => exact cB (cB (cB (cA (cB (cB (cA (cB (cA (cA (cB (hg)))))))))))
  | 51, _ => exact cA (cA (cA (cB (cB (cB (cA (cB (cA (cA (cB (hg)))))))))))
  | 52, _ => exact cB (cA (cA (cB (cB (cB (cA (cB (cA (cA (cB (hg)))))))))))
  | 53, _ => exact cA (cB (cA (cB (cB (cB (cA (cB (cA (cA (cB (hg)))))))))))
  | 54, _ => exact cB (cB (cA (cB (cB (cB (cA (cB (cA (cA (cB (hg)))))))))))
  | 55, _ => exact cA (cA (cB (cB (cB (cB (cA (cB (cA (cA (cB (hg)))))))))))
  | 56, _ => exact cB (cA (cB (cB (cB (cB (cA (cB (cA (cA (cB (hg)))))))))))
  | 57, _ => exact cA (cB (cB (cB (cB (cB (cA (cB (cA (cA (cB (hg)))))))))))
  | 58, _ => exact cB (cB (cB (cB (cB (cB (cA (cB (cA (cA (cB (hg)))))))))))
  | 59, _ => exact cA (cA (cA (cA (cA (cB (cB (cA (cA (cB (hg))))))))))
  | 60, _ => exact cA (cB (cA (cA (cA (cA (cB (cB (cA (cA (cB (hg)))))))))))
  | 61, _ => exact cB (cB (cA (cA (cA (cA (cB (cB (cA (cA (cB (hg)))))))))))
  | 62, _ => exact cA (cA (cB (cA (cA (cA (cB (cB (cA (cA (cB (hg)))))))))))
  | 63, _ => exact cB (cA (cB (cA (cA (cA (cB (cB (cA (cA (cB (hg)))))))))))
  | 64, _ => exact cA (cB (cB (cA (cA (cA (cB (cB (cA (cA (cB (hg)))))))))))
  | 65, _ => exact cB (cB (cB (cA (cA (cA (cB (cB (cA (cA (cB (hg)))))))))))
  | 66, _ => exact cA (cA (cB (cA (cA (cB (cB (cA (cA (cB (hg))))))))))
  | 67, _ => exact cA (cB (cA (cB (cA (cA (cB (cB (cA (cA (cB (hg)))))))))))
  | 68, _ => exact cB (cB (cA (cB (cA (cA (cB (cB (cA (cA (cB (hg)))))))))))
  | 69, _ => exact cA (cA (cB (cB (cA (cA (cB (cB (cA (cA (cB (hg)))))))))))
  | 70, _ => exact cB (cA (cB (cB (cA (cA (cB (cB (cA (cA (cB (hg)))))))))))
  | 71, _ => exact cA (cB (cB (cB (cA (cA (cB (cB (cA (cA (cB (hg)))))))))))
  | 72, _ => exact cB (cB (cB (cB (cA (cA (cB (cB (cA (cA (cB (hg)))))))))))
  | 73, _ => exact cA (cA (cA (cB (cA (cB (cB (cA (cA (cB (hg))))))))))
  | 74, _ => exact cA (cB (cA (cA (cB (cA (cB (cB (cA (cA (cB (hg)))))))))))
  | 75, _ => exact cB (cB (cA (cA (cB (cA (cB (cB (cA (cA (cB (hg)))))))))))
  | 76, _ => exact cA (cA (cB (cA (cB (cA (cB (cB (cA (cA (cB (hg)))))))))))
  | 77, _ => exact cB (cA (cB (cA (cB (cA (cB (cB (cA (cA (cB (hg)))))))))))
  | 78, _ => exact cA (cB (cB (cA (cB (cA (cB (cB (cA (cA (cB (hg)))))))))))
  | 79, _ => exact cB (cB (cB (cA (cB (cA (cB (cB (cA (cA (cB (hg)))))))))))
  | 80, _ => exact cA (cA (cA (cB (cB (cA (cB (cB (cA (cA (cB (hg)))))))))))
  | 81, _ => exact cB (cA (cA (cB (cB (cA (cB (cB (cA (cA (cB (hg)))))))))))
  | 82, _ => exact cA (cB (cA (cB (cB (cA (cB (cB (cA (cA (cB (hg)))))))))))
  | 83, _ => exact cB (cB (cA (cB (cB (cA (cB (cB (cA (cA (cB (hg)))))))))))
  | 84, _ => exact cA (cA (cB (cB (cB (cA (cB (cB (cA (cA (cB (hg)))))))))))
  | 85, _ => exact cB (cA (cB (cB (cB (cA (cB (cB (cA (cA (cB (hg)))))))))))
  | 86, _ => exact cA (cB (cB (cB (cB (cA (cB (cB (cA (cA (cB (hg)))))))))))
  | 87, _ => exact cB (cB (cB (cB (cB (cA (cB (cB (cA (cA (cB (hg)))))))))))
  | 88, _ => exact cA (cA (cA (cA (cB (cB (cB (cA (cA (cB (hg))))))))))
  | 89, _ => exact cA (cB (cA (cA (cA (cB (cB (cB (cA (cA (cB (hg)))))))))))
  | 90, _ => exact cB (cB (cA (cA (cA (cB (cB (cB (cA (cA (cB (hg)))))))))))
  | 91, _ => exact cA (cA (cB (cA (cA (cB (cB (cB (cA (cA (cB (hg)))))))))))
  | 92, _ => exact cB (cA (cB (cA (cA (cB (cB (cB (cA (cA (cB (hg)))))))))))
  | 93, _ => exact cA (cB (cB (cA (cA (cB (cB (cB (cA (cA (cB (hg)))))))))))
  | 94, _ => exact cB (cB (cB (cA (cA (cB (cB (cB (cA (cA (cB (hg)))))))))))
  | 95, _ => exact cA (cA (cA (cB (cA (cB (cB (cB (cA (cA (cB (hg)))))))))))
  | 96, _ => exact cB (cA (cA (cB (cA (cB (cB (cB (cA (cA (cB (hg)))))))))))
  | 97, _ => exact cA (cB (cA (cB (cA (cB (cB (cB (cA (cA (cB (hg)))))))))))
  | 98, _ => exact cB (cB (cA (cB (cA (cB (cB (cB (cA (cA (cB (hg)))))))))))
  | 99, _ => exact cA (cA (cB (cB (cA (cB (cB (cB (cA (cA (cB (hg)))))))))))
  | j + 100, h => exact absurd h (by show ¬ j + 100 < 100; omega)
theorem st_z9 {s : State} {A : Array Value} {rb : Nat → Nat} (hrb : RBf s rb) (hts : ∀ w ∈ lw_tbl, w.before A s = true) (hT : ∀ w ∈ TG, w.before A s = true) (hg : (Cond.and given_1 narrow_1).before A s = true) : ∃ q, STk s rb 9 q := by
  refine st_tab (N := 67) (ind := 2) (l := ZT9) (hts _ wd738) (hT _ wd1) (cA (cB (cB (cB (cA (cB (cB (cB (cA (cA (cB (hg)))))))))))) (cB (cB (cB (cB (cA (cB (cB (cB (cA (cA (cB (hg)))))))))))) (fun j hj => ?_) (by decide) rfl (fun c h => (hrb c).2.1 h) rfl rfl rfl rfl
  match j, hj with
  | 0, _ => exact cA (cA (cA (cB (cB (cB (cB (cA (cA (cB (hg))))))))))
  | 1, _ => exact cA (cB (cA (cA (cB (cB (cB (cB (cA (cA (cB (hg)))))))))))
  | 2, _ => exact cB (cB (cA (cA (cB (cB (cB (cB (cA (cA (cB (hg)))))))))))
  | 3, _ => exact cA (cA (cB (cA (cB (cB (cB (cB (cA (cA (cB (hg)))))))))))
  | 4, _ => exact cB (cA (cB (cA (cB (cB (cB (cB (cA (cA (cB (hg)))))))))))
  | 5, _ => exact cA (cB (cB (cA (cB (cB (cB (cB (cA (cA (cB (hg)))))))))))
  | 6, _ => exact cB (cB (cB (cA (cB (cB (cB (cB (cA (cA (cB (hg)))))))))))
  | 7, _ => exact cA (cA (cA (cB (cB (cB (cB (cB (cA (cA (cB (hg)))))))))))
  | 8, _ => exact cB (cA (cA (cB (cB (cB (cB (cB (cA (cA (cB (hg)))))))))))
  | 9, _ => exact cA (cB (cA (cB (cB (cB (cB (cB (cA (cA (cB (hg)))))))))))
  | 10, _ => exact cB (cB (cA (cB (cB (cB (cB (cB (cA (cA (cB (hg)))))))))))
  | 11, _ => exact cA (cA (cB (cB (cB (cB (cB (cB (cA (cA (cB (hg)))))))))))
  | 12, _ => exact cB (cA (cB (cB (cB (cB (cB (cB (cA (cA (cB (hg)))))))))))
  | 13, _ => exact cA (cB (cB (cB (cB (cB (cB (cB (cA (cA (cB (hg)))))))))))
  | 14, _ => exact cB (cB (cB (cB (cB (cB (cB (cB (cA (cA (cB (hg)))))))))))
  | 15, _ => exact cA (cA (cA (cA (cA (cA (cA (cB (cA (cB (hg))))))))))
  | 16, _ => exact cA (cB (cA (cA (cA (cA (cA (cA (cB (cA (cB (hg)))))))))))
  | 17, _ => exact cB (cB (cA (cA (cA (cA (cA (cA (cB (cA (cB (hg)))))))))))
  | 18, _ => exact cA (cA (cB (cA (cA (cA (cA (cA (cB (cA (cB (hg)))))))))))
  | 19, _ => exact cB (cA (cB (cA (cA (cA (cA (cA (cB (cA (cB (hg)))))))))))
  | 20, _ => exact cA (cB (cB (cA (cA (cA (cA (cA (cB (cA (cB (hg)))))))))))
  | 21, _ => exact cB (cB (cB (cA (cA (cA (cA (cA (cB (cA (cB (hg)))))))))))
  | 22, _ => exact cA (cA (cB (cA (cA (cA (cA (cB (cA (cB (hg))))))))))
  | 23, _ => exact cA (cB (cA (cB (cA (cA (cA (cA (cB (cA (cB (hg)))))))))))
  | 24, _ => exact cB (cB (cA (cB (cA (cA (cA (cA (cB (cA (cB (hg)))))))))))
  | 25, _ => exact cA (cA (cB (cB (cA (cA (cA (cA (cB (cA (cB (hg)))))))))))
  | 26, _ => exact cB (cA (cB (cB (cA (cA (cA (cA (cB (cA (cB (hg)))))))))))
  | 27, _ => exact cA (cB (cB (cB (cA (cA (cA (cA (cB (cA (cB (hg)))))))))))
  | 28, _ => exact cB (cB (cB (cB (cA (cA (cA (cA (cB (cA (cB (hg)))))))))))
  | 29, _ => exact cA (cA (cA (cB (cA (cA (cA (cB (cA (cB (hg))))))))))
  | 30, _ => exact cA (cB (cA (cA (cB (cA (cA (cA (cB (cA (cB (hg)))))))))))
  | 31, _ => exact cB (cB (cA (cA (cB (cA (cA (cA (cB (cA (cB (hg)))))))))))
  | 32, _ => exact cA (cA (cB (cA (cB (cA (cA (cA (cB (cA (cB (hg)))))))))))
  | 33, _ => exact cB (cA (cB (cA (cB (cA (cA (cA (cB (cA (cB (hg)))))))))))
  | 34, _ => exact cA (cB (cB (cA (cB (cA (cA (cA (cB (cA (cB (hg)))))))))))
  | 35, _ => exact cB (cB (cB (cA (cB (cA (cA (cA (cB (cA (cB (hg)))))))))))
  | 36, _ => exact cA (cA (cA (cB (cB (cA (cA (cA (cB (cA (cB (hg)))))))))))
  | 37, _ => exact cB (cA (cA (cB (cB (cA (cA (cA (cB (cA (cB (hg)))))))))))
  | 38, _ => exact cA (cB (cA (cB (cB (cA (cA (cA (cB (cA (cB (hg)))))))))))
  | 39, _ => exact cB (cB (cA (cB (cB (cA (cA (cA (cB (cA (cB (hg)))))))))))
  | 40, _ => exact cA (cA (cB (cB (cB (cA (cA (cA (cB (cA (cB (hg)))))))))))
  | 41, _ => exact cB (cA (cB (cB (cB (cA (cA (cA (cB (cA (cB (hg)))))))))))
  | 42, _ => exact cA (cB (cB (cB (cB (cA (cA (cA (cB (cA (cB (hg)))))))))))
  | 43, _ => exact cB (cB (cB (cB (cB (cA (cA (cA (cB (cA (cB (hg)))))))))))
  | 44, _ => exact cA (cA (cA (cA (cB (cA (cA (cB (cA (cB (hg))))))))))
  | 45, _ => exact cA (cB (cA (cA (cA (cB (cA (cA (cB (cA (cB (hg)))))))))))
  | 46, _ => exact cB (cB (cA (cA (cA (cB (cA (cA (cB (cA (cB (hg)))))))))))
  | 47, _ => exact cA (cA (cB (cA (cA (cB (cA (cA (cB (cA (cB (hg)))))))))))
  | 48, _ => exact cB (cA (cB (cA (cA (cB (cA (cA (cB (cA (cB (hg)))))))))))
  | 49, _ => exact cA (cB (cB (cA (cA (cB (cA (cA (cB (cA (cB (hg)))))))))))
  | 50, _ => exact cB (cB (cB (cA (cA (cB (cA (cA (cB (cA (cB (hg)))))))))))
  | 51, _ => exact cA (cA (cB (cA (cB (cA (cA (cB (cA (cB (hg))))))))))
  | 52, _ => exact cA (cB (cA (cB (cA (cB (cA (cA (cB (cA (cB (hg)))))))))))
  | 53, _ => exact cB (cB (cA (cB (cA (cB (cA (cA (cB (cA (cB (hg)))))))))))
  | 54, _ => exact cA (cA (cB (cB (cA (cB (cA (cA (cB (cA (cB (hg)))))))))))
  | 55, _ => exact cB (cA (cB (cB (cA (cB (cA (cA (cB (cA (cB (hg)))))))))))
  | 56, _ => exact cA (cB (cB (cB (cA (cB (cA (cA (cB (cA (cB (hg)))))))))))
  | 57, _ => exact cB (cB (cB (cB (cA (cB (cA (cA (cB (cA (cB (hg)))))))))))
  | 58, _ => exact cA (cA (cA (cB (cB (cA (cA (cB (cA (cB (hg))))))))))
  | 59, _ => exact cA (cB (cA (cA (cB (cB (cA (cA (cB (cA (cB (hg)))))))))))
  | 60, _ => exact cB (cB (cA (cA (cB (cB (cA (cA (cB (cA (cB (hg)))))))))))
  | 61, _ => exact cA (cA (cB (cA (cB (cB (cA (cA (cB (cA (cB (hg)))))))))))
  | 62, _ => exact cB (cA (cB (cA (cB (cB (cA (cA (cB (cA (cB (hg)))))))))))
  | 63, _ => exact cA (cB (cB (cA (cB (cB (cA (cA (cB (cA (cB (hg)))))))))))
  | 64, _ => exact cB (cB (cB (cA (cB (cB (cA (cA (cB (cA (cB (hg)))))))))))
  | 65, _ => exact cA (cA (cA (cB (cB (cB (cA (cA (cB (cA (cB (hg)))))))))))
  | 66, _ => exact cB (cA (cA (cB (cB (cB (cA (cA (cB (cA (cB (hg)))))))))))
  | j + 67, h => exact absurd h (by show ¬ j + 67 < 67; omega)
theorem st_z10 {s : State} {A : Array Value} {rb : Nat → Nat} (hrb : RBf s rb) (hts : ∀ w ∈ lw_tbl, w.before A s = true) (hT : ∀ w ∈ TG, w.before A s = true) (hg : (Cond.and given_1 narrow_1).before A s = true) : ∃ q, STk s rb 10 q := by
  refine st_tab (N := 67) (ind := 2) (l := ZT10) (hts _ wd740) (hT _ wd1) (cB (cB (cA (cB (cB (cB (cA (cA (cB (cA (cB (hg)))))))))))) (cA (cA (cB (cB (cB (cB (cA (cA (cB (cA (cB (hg)))))))))))) (fun j hj => ?_) (by decide) rfl (fun c h => (hrb c).2.1 h) rfl rfl rfl rfl
  match j, hj with
  | 0, _ => exact cB (cA (cB (cB (cB (cB (cA (cA (cB (cA (cB (hg)))))))))))
  | 1, _ => exact cA (cB (cB (cB (cB (cB (cA (cA (cB (cA (cB (hg)))))))))))
  | 2, _ => exact cB (cB (cB (cB (cB (cB (cA (cA (cB (cA (cB (hg)))))))))))
  | 3, _ => exact cA (cA (cA (cA (cA (cB (cA (cB (cA (cB (hg))))))))))
  | 4, _ => exact cA (cB (cA (cA (cA (cA (cB (cA (cB (cA (cB (hg)))))))))))
  | 5, _ => exact cB (cB (cA (cA (cA (cA (cB (cA (cB (cA (cB (hg)))))))))))
  | 6, _ => exact cA (cA (cB (cA (cA (cA (cB (cA (cB (cA (cB (hg)))))))))))
  | 7, _ => exact cB (cA (cB (cA (cA (cA (cB (cA (cB (cA (cB (hg)))))))))))
  | 8, _ => exact cA (cB (cB (cA (cA (cA (cB (cA (cB (cA (cB (hg)))))))))))
  | 9, _ => exact cB (cB (cB (cA (cA (cA (cB (cA (cB (cA (cB (hg)))))))))))
  | 10, _ => exact cA (cA (cB (cA (cA (cB (cA (cB (cA (cB (hg))))))))))
  | 11, _ => exact cA (cB (cA (cB (cA (cA (cB (cA (cB (cA (cB (hg)))))))))))
  | 12, _ => exact cB (cB (cA (cB (cA (cA (cB (cA (cB (cA (cB (hg)))))))))))
  | 13, _ => exact cA (cA (cB (cB (cA (cA (cB (cA (cB (cA (cB (hg)))))))))))
  | 14, _ => exact cB (cA (cB (cB (cA (cA (cB (cA (cB (cA (cB (hg)))))))))))
  | 15, _ => exact cA (cB (cB (cB (cA (cA (cB (cA (cB (cA (cB (hg)))))))))))
  | 16, _ => exact cB (cB (cB (cB (cA (cA (cB (cA (cB (cA (cB (hg)))))))))))
  | 17, _ => exact cA (cA (cA (cB (cA (cB (cA (cB (cA (cB (hg))))))))))
  | 18, _ => exact cA (cB (cA (cA (cB (cA (cB (cA (cB (cA (cB (hg)))))))))))
  | 19, _ => exact cB (cB (cA (cA (cB (cA (cB (cA (cB (cA (cB (hg)))))))))))
  | 20, _ => exact cA (cA (cB (cA (cB (cA (cB (cA (cB (cA (cB (hg)))))))))))
  | 21, _ => exact cB (cA (cB (cA (cB (cA (cB (cA (cB (cA (cB (hg)))))))))))
  | 22, _ => exact cA (cB (cB (cA (cB (cA (cB (cA (cB (cA (cB (hg)))))))))))
  | 23, _ => exact cB (cB (cB (cA (cB (cA (cB (cA (cB (cA (cB (hg)))))))))))
  | 24, _ => exact cA (cA (cA (cB (cB (cA (cB (cA (cB (cA (cB (hg)))))))))))
  | 25, _ => exact cB (cA (cA (cB (cB (cA (cB (cA (cB (cA (cB (hg)))))))))))
  | 26, _ => exact cA (cB (cA (cB (cB (cA (cB (cA (cB (cA (cB (hg)))))))))))
  | 27, _ => exact cB (cB (cA (cB (cB (cA (cB (cA (cB (cA (cB (hg)))))))))))
  | 28, _ => exact cA (cA (cB (cB (cB (cA (cB (cA (cB (cA (cB (hg)))))))))))
  | 29, _ => exact cB (cA (cB (cB (cB (cA (cB (cA (cB (cA (cB (hg)))))))))))
  | 30, _ => exact cA (cB (cB (cB (cB (cA (cB (cA (cB (cA (cB (hg)))))))))))
  | 31, _ => exact cB (cB (cB (cB (cB (cA (cB (cA (cB (cA (cB (hg)))))))))))
  | 32, _ => exact cA (cA (cA (cA (cB (cB (cA (cB (cA (cB (hg))))))))))
  | 33, _ => exact cA (cB (cA (cA (cA (cB (cB (cA (cB (cA (cB (hg)))))))))))
  | 34, _ => exact cB (cB (cA (cA (cA (cB (cB (cA (cB (cA (cB (hg)))))))))))
  | 35, _ => exact cA (cA (cB (cA (cA (cB (cB (cA (cB (cA (cB (hg)))))))))))
  | 36, _ => exact cB (cA (cB (cA (cA (cB (cB (cA (cB (cA (cB (hg)))))))))))
  | 37, _ => exact cA (cB (cB (cA (cA (cB (cB (cA (cB (cA (cB (hg)))))))))))
  | 38, _ => exact cB (cB (cB (cA (cA (cB (cB (cA (cB (cA (cB (hg)))))))))))
  | 39, _ => exact cA (cA (cB (cA (cB (cB (cA (cB (cA (cB (hg))))))))))
  | 40, _ => exact cA (cB (cA (cB (cA (cB (cB (cA (cB (cA (cB (hg)))))))))))
  | 41, _ => exact cB (cB (cA (cB (cA (cB (cB (cA (cB (cA (cB (hg)))))))))))
  | 42, _ => exact cA (cA (cB (cB (cA (cB (cB (cA (cB (cA (cB (hg)))))))))))
  | 43, _ => exact cB (cA (cB (cB (cA (cB (cB (cA (cB (cA (cB (hg)))))))))))
  | 44, _ => exact cA (cB (cB (cB (cA (cB (cB (cA (cB (cA (cB (hg)))))))))))
  | 45, _ => exact cB (cB (cB (cB (cA (cB (cB (cA (cB (cA (cB (hg)))))))))))
  | 46, _ => exact cA (cA (cA (cB (cB (cB (cA (cB (cA (cB (hg))))))))))
  | 47, _ => exact cA (cB (cA (cA (cB (cB (cB (cA (cB (cA (cB (hg)))))))))))
  | 48, _ => exact cB (cB (cA (cA (cB (cB (cB (cA (cB (cA (cB (hg)))))))))))
  | 49, _ => exact cA (cA (cB (cA (cB (cB (cB (cA (cB (cA (cB (hg)))))))))))
  | 50, _ => exact cB (cA (cB (cA (cB (cB (cB (cA (cB (cA (cB (hg)))))))))))
  | 51, _ => exact cA (cB (cB (cA (cB (cB (cB (cA (cB (cA (cB (hg)))))))))))
  | 52, _ => exact cB (cB (cB (cA (cB (cB (cB (cA (cB (cA (cB (hg)))))))))))
  | 53, _ => exact cA (cA (cA (cB (cB (cB (cB (cA (cB (cA (cB (hg)))))))))))
  | 54, _ => exact cB (cA (cA (cB (cB (cB (cB (cA (cB (cA (cB (hg)))))))))))
  | 55, _ => exact cA (cB (cA (cB (cB (cB (cB (cA (cB (cA (cB (hg)))))))))))
  | 56, _ => exact cB (cB (cA (cB (cB (cB (cB (cA (cB (cA (cB (hg)))))))))))
  | 57, _ => exact cA (cA (cB (cB (cB (cB (cB (cA (cB (cA (cB (hg)))))))))))
  | 58, _ => exact cB (cA (cB (cB (cB (cB (cB (cA (cB (cA (cB (hg)))))))))))
  | 59, _ => exact cA (cB (cB (cB (cB (cB (cB (cA (cB (cA (cB (hg)))))))))))
  | 60, _ => exact cB (cB (cB (cB (cB (cB (cB (cA (cB (cA (cB (hg)))))))))))
  | 61, _ => exact cA (cA (cA (cA (cA (cA (cB (cB (cA (cB (hg))))))))))
  | 62, _ => exact cA (cB (cA (cA (cA (cA (cA (cB (cB (cA (cB (hg)))))))))))
  | 63, _ => exact cB (cB (cA (cA (cA (cA (cA (cB (cB (cA (cB (hg)))))))))))
  | 64, _ => exact cA (cA (cB (cA (cA (cA (cA (cB (cB (cA (cB (hg)))))))))))
  | 65, _ => exact cB (cA (cB (cA (cA (cA (cA (cB (cB (cA (cB (hg)))))))))))
  | 66, _ => exact cA (cB (cB (cA (cA (cA (cA (cB (cB (cA (cB (hg)))))))))))
  | j + 67, h => exact absurd h (by show ¬ j + 67 < 67; omega)
theorem st_z11 {s : State} {A : Array Value} {rb : Nat → Nat} (hrb : RBf s rb) (hts : ∀ w ∈ lw_tbl, w.before A s = true) (hT : ∀ w ∈ TG, w.before A s = true) (hg : (Cond.and given_1 narrow_1).before A s = true) : ∃ q, STk s rb 11 q := by
  refine st_tab (N := 13) (ind := 2) (l := ZT11) (hts _ wd1087) (hT _ wd7) (cA (cA (cB (cA (cA (cA (cB (cB (cA (cB (hg))))))))))) (cA (cB (cA (cB (cA (cA (cA (cB (cB (cA (cB (hg)))))))))))) (fun j hj => ?_) (by decide) rfl (fun c h => (hrb c).2.1 h) rfl rfl rfl rfl
  match j, hj with
  | 0, _ => exact cB (cB (cA (cB (cA (cA (cA (cB (cB (cA (cB (hg)))))))))))
  | 1, _ => exact cA (cA (cB (cB (cA (cA (cA (cB (cB (cA (cB (hg)))))))))))
  | 2, _ => exact cB (cA (cB (cB (cA (cA (cA (cB (cB (cA (cB (hg)))))))))))
  | 3, _ => exact cA (cB (cB (cB (cA (cA (cA (cB (cB (cA (cB (hg)))))))))))
  | 4, _ => exact cB (cB (cB (cB (cA (cA (cA (cB (cB (cA (cB (hg)))))))))))
  | 5, _ => exact cA (cA (cA (cB (cA (cA (cB (cB (cA (cB (hg))))))))))
  | 6, _ => exact cA (cB (cA (cA (cB (cA (cA (cB (cB (cA (cB (hg)))))))))))
  | 7, _ => exact cB (cB (cA (cA (cB (cA (cA (cB (cB (cA (cB (hg)))))))))))
  | 8, _ => exact cA (cA (cB (cA (cB (cA (cA (cB (cB (cA (cB (hg)))))))))))
  | 9, _ => exact cB (cA (cB (cA (cB (cA (cA (cB (cB (cA (cB (hg)))))))))))
  | 10, _ => exact cA (cB (cB (cA (cB (cA (cA (cB (cB (cA (cB (hg)))))))))))
  | 11, _ => exact cB (cB (cB (cA (cB (cA (cA (cB (cB (cA (cB (hg)))))))))))
  | 12, _ => exact cA (cA (cA (cB (cB (cA (cA (cB (cB (cA (cB (hg)))))))))))
  | j + 13, h => exact absurd h (by show ¬ j + 13 < 13; omega)
theorem st_z12 {s : State} {A : Array Value} {rb : Nat → Nat} (hrb : RBf s rb) (hts : ∀ w ∈ lw_tbl, w.before A s = true) (hT : ∀ w ∈ TG, w.before A s = true) (hg : (Cond.and given_1 narrow_1).before A s = true) : ∃ q, STk s rb 12 q := by
  refine st_tab (N := 12) (ind := 2) (l := ZT12) (hts _ wd1211) (hT _ wd29) (cA (cB (cA (cB (cB (cA (cA (cB (cB (cA (cB (hg)))))))))))) (cB (cB (cA (cB (cB (cA (cA (cB (cB (cA (cB (hg)))))))))))) (fun j hj => ?_) (by decide) rfl (fun c h => (hrb c).2.1 h) rfl rfl rfl rfl
  match j, hj with
  | 0, _ => exact cA (cA (cB (cB (cB (cA (cA (cB (cB (cA (cB (hg)))))))))))
  | 1, _ => exact cB (cA (cB (cB (cB (cA (cA (cB (cB (cA (cB (hg)))))))))))
  | 2, _ => exact cA (cB (cB (cB (cB (cA (cA (cB (cB (cA (cB (hg)))))))))))
  | 3, _ => exact cB (cB (cB (cB (cB (cA (cA (cB (cB (cA (cB (hg)))))))))))
  | 4, _ => exact cA (cA (cA (cA (cB (cA (cB (cB (cA (cB (hg))))))))))
  | 5, _ => exact cA (cB (cA (cA (cA (cB (cA (cB (cB (cA (cB (hg)))))))))))
  | 6, _ => exact cB (cB (cA (cA (cA (cB (cA (cB (cB (cA (cB (hg)))))))))))
  | 7, _ => exact cA (cA (cB (cA (cA (cB (cA (cB (cB (cA (cB (hg)))))))))))
  | 8, _ => exact cB (cA (cB (cA (cA (cB (cA (cB (cB (cA (cB (hg)))))))))))
  | 9, _ => exact cA (cB (cB (cA (cA (cB (cA (cB (cB (cA (cB (hg)))))))))))
  | 10, _ => exact cB (cB (cB (cA (cA (cB (cA (cB (cB (cA (cB (hg)))))))))))
  | 11, _ => exact cA (cA (cB (cA (cB (cA (cB (cB (cA (cB (hg))))))))))
  | j + 12, h => exact absurd h (by show ¬ j + 12 < 12; omega)
theorem st_TG {s : State} {A : Array Value} (hts : ∀ w ∈ lw_tbl, w.before A s = true) : ∀ w ∈ TG, w.before A s = true := by
  have hns : ∀ (y : MethodName), y.cls = "java/lang/AbstractStringBuilder" → ∀ k mk, s.methodNamed? y = some mk → s.vm.classes[mk.cls]? = some k → k.isInterface = false := by
    intro y hy k mk hn hk
    obtain ⟨cn, ck, r1, hcn, hck, hni, -, -⟩ := Cond.sameMethod_found (hts _ (tt2 (List.mem_of_getElem? (i := 117) rfl)))
    have h1 := findClass_of_methodNamed hn
    rw [hy] at h1
    obtain rfl : cn = mk.cls := Option.some.inj (hcn.symm.trans h1)
    obtain rfl : ck = k := Option.some.inj (hck.symm.trans hk)
    exact hni
  have hX : ∀ w ∈ XTR, w.before A s = true := by
    exact all_cons (st_private (by decide) (hts _ (tt2 (List.mem_of_getElem? (i := 43) rfl))) (hts _ (tt3 (List.mem_of_getElem? (i := 49) rfl))) (hts _ (tt3 (List.mem_of_getElem? (i := 50) rfl))) (hns _ rfl)) (all_cons (st_private (by decide) (hts _ (tt2 (List.mem_of_getElem? (i := 43) rfl))) (hts _ (tt2 (List.mem_of_getElem? (i := 81) rfl))) (hts _ (tt2 (List.mem_of_getElem? (i := 82) rfl))) (hns _ rfl)) (all_cons (st_private (by decide) (hts _ (tt2 (List.mem_of_getElem? (i := 43) rfl))) (hts _ (tt2 (List.mem_of_getElem? (i := 124) rfl))) (hts _ (tt2 (List.mem_of_getElem? (i := 125) rfl))) (hns _ rfl)) (all_cons (st_private (by decide) (hts _ (tt2 (List.mem_of_getElem? (i := 43) rfl))) (hts _ (tt3 (List.mem_of_getElem? (i := 69) rfl))) (hts _ (tt3 (List.mem_of_getElem? (i := 70) rfl))) (hns _ rfl)) (all_cons (st_private (by decide) (hts _ (tt2 (List.mem_of_getElem? (i := 43) rfl))) (hts _ (tt2 (List.mem_of_getElem? (i := 85) rfl))) (hts _ (tt2 (List.mem_of_getElem? (i := 86) rfl))) (hns _ rfl)) (all_cons (st_private (by decide) (hts _ (tt2 (List.mem_of_getElem? (i := 43) rfl))) (hts _ (tt3 (List.mem_of_getElem? (i := 65) rfl))) (hts _ (tt3 (List.mem_of_getElem? (i := 66) rfl))) (hns _ rfl)) (all_nil))))))
  intro w hw
  rcases List.mem_append.mp hw with h | h
  · exact hX w h
  · exact hts w (List.mem_filter.mp h).1
def TYF : List FieldType := [.int, .boolean, .char, .double, .byte, .long, .object "WordFunctions$Value", .object "WordFunctions$Grid"]
set_option maxHeartbeats 1000000 in
theorem st_known {s : State} {A : Array Value} (hts : ∀ w ∈ lw_tbl, w.before A s = true) (hg : (Cond.and given_1 narrow_1).before A s = true) : ∃ ρ : RH, KK ρ s ∧ CC ρ no0 s.heap ∧ TX ρ s.heap s ∧ rZa ρ 5 < s.heap.size ∧ rZa ρ 6 < s.heap.size := by
  have hT := st_TG hts
  obtain ⟨rb, hrb⟩ := RBf_ex s
  obtain ⟨D, hD⟩ := ex_fun (α := ClassId × (Nat → Nat)) (0, fun _ => 0) (n := 15) (Pr := fun ci q => ∀ r : vw_C, CL[ci]? = some r → u_Kn s r.1 r.2.1 r.2.2 q.1 q.2) (by
    intro k hk
    match k, hk with
    | 0, _ => obtain ⟨cC, iS, h⟩ := u_known (C := "WordFunctions$Pattern") (T := T0) (N := 3) hT tin0 (hT _ wd40); exact ⟨(cC, iS), fun r hr => by have e := Option.some.inj hr; subst e; exact h⟩
    | 1, _ => obtain ⟨cC, iS, h⟩ := u_known (C := "WordFunctions$Value") (T := T1) (N := 3) hT tin1 (hT _ wd69); exact ⟨(cC, iS), fun r hr => by have e := Option.some.inj hr; subst e; exact h⟩
    | 2, _ => obtain ⟨cC, iS, h⟩ := u_known (C := "WordFunctions$Grid") (T := T2) (N := 6) hT tin2 (hT _ wd99); exact ⟨(cC, iS), fun r hr => by have e := Option.some.inj hr; subst e; exact h⟩
    | 3, _ => obtain ⟨cC, iS, h⟩ := u_known (C := "WordFunctions$Arguments") (T := T3) (N := 9) hT tin3 (hT _ wd60); exact ⟨(cC, iS), fun r hr => by have e := Option.some.inj hr; subst e; exact h⟩
    | 4, _ => obtain ⟨cC, iS, h⟩ := u_known (C := "WordFunctions$Answer") (T := T4) (N := 4) hT tin4 (hT _ wd167); exact ⟨(cC, iS), fun r hr => by have e := Option.some.inj hr; subst e; exact h⟩
    | 5, _ => obtain ⟨cC, iS, h⟩ := u_known (C := "WordFunctions$Texts") (T := T5) (N := 2) hT tin5 (hT _ wd191); exact ⟨(cC, iS), fun r hr => by have e := Option.some.inj hr; subst e; exact h⟩
    | 6, _ => obtain ⟨cC, iS, h⟩ := u_known (C := "WordFunctions$LookUps") (T := T6) (N := 2) hT tin6 (hT _ wd204); exact ⟨(cC, iS), fun r hr => by have e := Option.some.inj hr; subst e; exact h⟩
    | 7, _ => obtain ⟨cC, iS, h⟩ := u_known (C := "WordFunctions$Dates") (T := T7) (N := 3) hT tin7 (hT _ wd217); exact ⟨(cC, iS), fun r hr => by have e := Option.some.inj hr; subst e; exact h⟩
    | 8, _ => obtain ⟨cC, iS, h⟩ := u_known (C := "WordFunctions$Kinds") (T := T8) (N := 1) hT tin8 (hT _ wd233); exact ⟨(cC, iS), fun r hr => by have e := Option.some.inj hr; subst e; exact h⟩
    | 9, _ => obtain ⟨cC, iS, h⟩ := u_known (C := "WordFunctions") (T := T9) (N := 9) hT tin9 (hT _ wd31); exact ⟨(cC, iS), fun r hr => by have e := Option.some.inj hr; subst e; exact h⟩
    | 10, _ => obtain ⟨cC, iS, h⟩ := u_known (C := "java/lang/StringBuilder") (T := T10) (N := 4) hT tin10 (hT _ wd283); exact ⟨(cC, iS), fun r hr => by have e := Option.some.inj hr; subst e; exact h⟩
    | 11, _ => obtain ⟨cC, iS, h⟩ := u_known (C := "java/lang/String") (T := T11) (N := 4) hT tin11 (hT _ wd413); exact ⟨(cC, iS), fun r hr => by have e := Option.some.inj hr; subst e; exact h⟩
    | 12, _ => obtain ⟨cC, iS, h⟩ := u_known (C := "WordFunctionsModel") (T := T12) (N := 55) hT tin12 (hT _ wd1359); exact ⟨(cC, iS), fun r hr => by have e := Option.some.inj hr; subst e; exact h⟩
    | 13, _ => obtain ⟨cC, iS, h⟩ := u_known (C := "java/lang/IllegalArgumentException") (T := T13) (N := 6) hT tin13 (hT _ wd445); exact ⟨(cC, iS), fun r hr => by have e := Option.some.inj hr; subst e; exact h⟩
    | 14, _ => obtain ⟨cC, iS, h⟩ := u_known (C := "java/lang/IllegalStateException") (T := T14) (N := 6) hT tin14 (hT _ wd712); exact ⟨(cC, iS), fun r hr => by have e := Option.some.inj hr; subst e; exact h⟩
    | k + 15, h => exact absurd h (by omega))
  obtain ⟨rAf, hA⟩ := ex_fun (α := ClassId) 0 (n := 8) (Pr := fun k c => ∀ ty, TYF[k]? = some ty → ArrOfT s c ty ∧ va_RA s c ty) (by
    intro k hk
    match k, hk with
    | 0, _ => obtain ⟨cA, h⟩ := st_prim (ty := .int) (hT _ wd57) (fun c h => h); exact ⟨cA, fun ty ht => by have e := Option.some.inj ht; subst e; exact h⟩
    | 1, _ => obtain ⟨cA, h⟩ := st_prim (ty := .boolean) (hT _ wd58) (fun c h => h); exact ⟨cA, fun ty ht => by have e := Option.some.inj ht; subst e; exact h⟩
    | 2, _ => obtain ⟨cA, h⟩ := st_prim (ty := .char) (hT _ wd55) (fun c h => h); exact ⟨cA, fun ty ht => by have e := Option.some.inj ht; subst e; exact h⟩
    | 3, _ => obtain ⟨cA, h⟩ := st_prim (ty := .double) (hT _ wd1532) (fun c h => h); exact ⟨cA, fun ty ht => by have e := Option.some.inj ht; subst e; exact h⟩
    | 4, _ => obtain ⟨cA, h⟩ := st_prim (ty := .byte) (hT _ wd56) (fun c h => h); exact ⟨cA, fun ty ht => by have e := Option.some.inj ht; subst e; exact h⟩
    | 5, _ => obtain ⟨cA, h⟩ := st_prim (ty := .long) (hT _ wd2001) (fun c h => h); exact ⟨cA, fun ty ht => by have e := Option.some.inj ht; subst e; exact h⟩
    | 6, _ => obtain ⟨cA, h⟩ := st_obj (hts _ wd127); exact ⟨cA, fun ty ht => by have e := Option.some.inj ht; subst e; exact h⟩
    | 7, _ => obtain ⟨cA, h⟩ := st_obj (hts _ wd128); exact ⟨cA, fun ty ht => by have e := Option.some.inj ht; subst e; exact h⟩
    | k + 8, h => exact absurd h (by omega))
  obtain ⟨rSf, hSf⟩ := ex_fun (α := Nat) 0 (n := 23) (Pr := fun k a => ∀ q : String × Nat × String, SRL[k]? = some q → vk_R q.1 q.2.1 q.2.2 a s ∧ ∀ t, SRT[k]? = some t → isS (((fun c => (D c).1, fun c => (D c).2), rAf, fun _ => 0, fun _ => 0, fun _ => 0, rb, fun _ => 0) : RH) no0 s.heap a t) (by
    have hK := hD 11 (by decide) _ rfl
    intro k hk
    match k, hk with
    | 0, _ => obtain ⟨a, h1, h2⟩ := st_s0 (ρ := (((fun c => (D c).1, fun c => (D c).2), rAf, fun _ => 0, fun _ => 0, fun _ => 0, rb, fun _ => 0) : RH)) hts hg hK (fun c h => (hrb c).1 h); exact ⟨a, fun q hq => by have e := Option.some.inj hq; subst e; exact ⟨vk_R.of (hts _ wd38) h1, fun t ht => by have e := Option.some.inj ht; subst e; exact h2⟩⟩
    | 1, _ => obtain ⟨a, h1, h2⟩ := st_s1 (ρ := (((fun c => (D c).1, fun c => (D c).2), rAf, fun _ => 0, fun _ => 0, fun _ => 0, rb, fun _ => 0) : RH)) hts hg hK (fun c h => (hrb c).1 h); exact ⟨a, fun q hq => by have e := Option.some.inj hq; subst e; exact ⟨vk_R.of (hts _ wd70) h1, fun t ht => by have e := Option.some.inj ht; subst e; exact h2⟩⟩
    | 2, _ => obtain ⟨a, h1, h2⟩ := st_s2 (ρ := (((fun c => (D c).1, fun c => (D c).2), rAf, fun _ => 0, fun _ => 0, fun _ => 0, rb, fun _ => 0) : RH)) hts hg hK (fun c h => (hrb c).1 h); exact ⟨a, fun q hq => by have e := Option.some.inj hq; subst e; exact ⟨vk_R.of (hts _ wd520) h1, fun t ht => by have e := Option.some.inj ht; subst e; exact h2⟩⟩
    | 3, _ => obtain ⟨a, h1, h2⟩ := st_s3 (ρ := (((fun c => (D c).1, fun c => (D c).2), rAf, fun _ => 0, fun _ => 0, fun _ => 0, rb, fun _ => 0) : RH)) hts hg hK (fun c h => (hrb c).1 h); exact ⟨a, fun q hq => by have e := Option.some.inj hq; subst e; exact ⟨vk_R.of (hts _ wd705) h1, fun t ht => by have e := Option.some.inj ht; subst e; exact h2⟩⟩
    | 4, _ => obtain ⟨a, h1, h2⟩ := st_s4 (ρ := (((fun c => (D c).1, fun c => (D c).2), rAf, fun _ => 0, fun _ => 0, fun _ => 0, rb, fun _ => 0) : RH)) hts hg hK (fun c h => (hrb c).1 h); exact ⟨a, fun q hq => by have e := Option.some.inj hq; subst e; exact ⟨vk_R.of (hts _ wd720) h1, fun t ht => by have e := Option.some.inj ht; subst e; exact h2⟩⟩
    | 5, _ => obtain ⟨a, h1, h2⟩ := st_s5 (ρ := (((fun c => (D c).1, fun c => (D c).2), rAf, fun _ => 0, fun _ => 0, fun _ => 0, rb, fun _ => 0) : RH)) hts hg hK (fun c h => (hrb c).1 h); exact ⟨a, fun q hq => by have e := Option.some.inj hq; subst e; exact ⟨vk_R.of (hts _ wd741) h1, fun t ht => by have e := Option.some.inj ht; subst e; exact h2⟩⟩
    | 6, _ => obtain ⟨a, h1, h2⟩ := st_s6 (ρ := (((fun c => (D c).1, fun c => (D c).2), rAf, fun _ => 0, fun _ => 0, fun _ => 0, rb, fun _ => 0) : RH)) hts hg hK (fun c h => (hrb c).1 h); exact ⟨a, fun q hq => by have e := Option.some.inj hq; subst e; exact ⟨vk_R.of (hts _ wd878) h1, fun t ht => by have e := Option.some.inj ht; subst e; exact h2⟩⟩
    | 7, _ => obtain ⟨a, h1, h2⟩ := st_s7 (ρ := (((fun c => (D c).1, fun c => (D c).2), rAf, fun _ => 0, fun _ => 0, fun _ => 0, rb, fun _ => 0) : RH)) hts hg hK (fun c h => (hrb c).1 h); exact ⟨a, fun q hq => by have e := Option.some.inj hq; subst e; exact ⟨vk_R.of (hts _ wd914) h1, fun t ht => by have e := Option.some.inj ht; subst e; exact h2⟩⟩
    | 8, _ => obtain ⟨a, h1, h2⟩ := st_s8 (ρ := (((fun c => (D c).1, fun c => (D c).2), rAf, fun _ => 0, fun _ => 0, fun _ => 0, rb, fun _ => 0) : RH)) hts hg hK (fun c h => (hrb c).1 h); exact ⟨a, fun q hq => by have e := Option.some.inj hq; subst e; exact ⟨vk_R.of (hts _ wd915) h1, fun t ht => by have e := Option.some.inj ht; subst e; exact h2⟩⟩
    | 9, _ => obtain ⟨a, h1, h2⟩ := st_s9 (ρ := (((fun c => (D c).1, fun c => (D c).2), rAf, fun _ => 0, fun _ => 0, fun _ => 0, rb, fun _ => 0) : RH)) hts hg hK (fun c h => (hrb c).1 h); exact ⟨a, fun q hq => by have e := Option.some.inj hq; subst e; exact ⟨vk_R.of (hts _ wd941) h1, fun t ht => by have e := Option.some.inj ht; subst e; exact h2⟩⟩
    | 10, _ => obtain ⟨a, h1, h2⟩ := st_s10 (ρ := (((fun c => (D c).1, fun c => (D c).2), rAf, fun _ => 0, fun _ => 0, fun _ => 0, rb, fun _ => 0) : RH)) hts hg hK (fun c h => (hrb c).1 h); exact ⟨a, fun q hq => by have e := Option.some.inj hq; subst e; exact ⟨vk_R.of (hts _ wd950) h1, fun t ht => by have e := Option.some.inj ht; subst e; exact h2⟩⟩
    | 11, _ => obtain ⟨a, h1, h2⟩ := st_s11 (ρ := (((fun c => (D c).1, fun c => (D c).2), rAf, fun _ => 0, fun _ => 0, fun _ => 0, rb, fun _ => 0) : RH)) hts hg hK (fun c h => (hrb c).1 h); exact ⟨a, fun q hq => by have e := Option.some.inj hq; subst e; exact ⟨vk_R.of (hts _ wd1060) h1, fun t ht => by have e := Option.some.inj ht; subst e; exact h2⟩⟩
    | 12, _ => obtain ⟨a, h1, h2⟩ := st_s12 (ρ := (((fun c => (D c).1, fun c => (D c).2), rAf, fun _ => 0, fun _ => 0, fun _ => 0, rb, fun _ => 0) : RH)) hts hg hK (fun c h => (hrb c).1 h); exact ⟨a, fun q hq => by have e := Option.some.inj hq; subst e; exact ⟨vk_R.of (hts _ wd1088) h1, fun t ht => by have e := Option.some.inj ht; subst e; exact h2⟩⟩
    | 13, _ => obtain ⟨a, h1, h2⟩ := st_s13 (ρ := (((fun c => (D c).1, fun c => (D c).2), rAf, fun _ => 0, fun _ => 0, fun _ => 0, rb, fun _ => 0) : RH)) hts hg hK (fun c h => (hrb c).1 h); exact ⟨a, fun q hq => by have e := Option.some.inj hq; subst e; exact ⟨vk_R.of (hts _ wd1170) h1, fun t ht => by have e := Option.some.inj ht; subst e; exact h2⟩⟩
    | 14, _ => obtain ⟨a, h1, h2⟩ := st_s14 (ρ := (((fun c => (D c).1, fun c => (D c).2), rAf, fun _ => 0, fun _ => 0, fun _ => 0, rb, fun _ => 0) : RH)) hts hg hK (fun c h => (hrb c).1 h); exact ⟨a, fun q hq => by have e := Option.some.inj hq; subst e; exact ⟨vk_R.of (hts _ wd1171) h1, fun t ht => by have e := Option.some.inj ht; subst e; exact h2⟩⟩
    | 15, _ => obtain ⟨a, h1, h2⟩ := st_s15 (ρ := (((fun c => (D c).1, fun c => (D c).2), rAf, fun _ => 0, fun _ => 0, fun _ => 0, rb, fun _ => 0) : RH)) hts hg hK (fun c h => (hrb c).1 h); exact ⟨a, fun q hq => by have e := Option.some.inj hq; subst e; exact ⟨vk_R.of (hts _ wd1179) h1, fun t ht => by have e := Option.some.inj ht; subst e; exact h2⟩⟩
    | 16, _ => obtain ⟨a, h1, h2⟩ := st_s16 (ρ := (((fun c => (D c).1, fun c => (D c).2), rAf, fun _ => 0, fun _ => 0, fun _ => 0, rb, fun _ => 0) : RH)) hts hg hK (fun c h => (hrb c).1 h); exact ⟨a, fun q hq => by have e := Option.some.inj hq; subst e; exact ⟨vk_R.of (hts _ wd1180) h1, fun t ht => by have e := Option.some.inj ht; subst e; exact h2⟩⟩
    | 17, _ => obtain ⟨a, h1, h2⟩ := st_s17 (ρ := (((fun c => (D c).1, fun c => (D c).2), rAf, fun _ => 0, fun _ => 0, fun _ => 0, rb, fun _ => 0) : RH)) hts hg hK (fun c h => (hrb c).1 h); exact ⟨a, fun q hq => by have e := Option.some.inj hq; subst e; exact ⟨vk_R.of (hts _ wd1280) h1, fun t ht => by have e := Option.some.inj ht; subst e; exact h2⟩⟩
    | 18, _ => obtain ⟨a, h1, h2⟩ := st_s18 (ρ := (((fun c => (D c).1, fun c => (D c).2), rAf, fun _ => 0, fun _ => 0, fun _ => 0, rb, fun _ => 0) : RH)) hts hg hK (fun c h => (hrb c).1 h); exact ⟨a, fun q hq => by have e := Option.some.inj hq; subst e; exact ⟨vk_R.of (hts _ wd1287) h1, fun t ht => by have e := Option.some.inj ht; subst e; exact h2⟩⟩
    | 19, _ => obtain ⟨a, h1, h2⟩ := st_s19 (ρ := (((fun c => (D c).1, fun c => (D c).2), rAf, fun _ => 0, fun _ => 0, fun _ => 0, rb, fun _ => 0) : RH)) hts hg hK (fun c h => (hrb c).1 h); exact ⟨a, fun q hq => by have e := Option.some.inj hq; subst e; exact ⟨vk_R.of (hts _ wd1288) h1, fun t ht => by have e := Option.some.inj ht; subst e; exact h2⟩⟩
    | 20, _ => obtain ⟨a, h1, h2⟩ := st_s20 (ρ := (((fun c => (D c).1, fun c => (D c).2), rAf, fun _ => 0, fun _ => 0, fun _ => 0, rb, fun _ => 0) : RH)) hts hg hK (fun c h => (hrb c).1 h); exact ⟨a, fun q hq => by have e := Option.some.inj hq; subst e; exact ⟨vk_R.of (hts _ wd1289) h1, fun t ht => by have e := Option.some.inj ht; subst e; exact h2⟩⟩
    | 21, _ => obtain ⟨a, h1, h2⟩ := st_s21 (ρ := (((fun c => (D c).1, fun c => (D c).2), rAf, fun _ => 0, fun _ => 0, fun _ => 0, rb, fun _ => 0) : RH)) hts hg hK (fun c h => (hrb c).1 h); exact ⟨a, fun q hq => by have e := Option.some.inj hq; subst e; exact ⟨vk_R.of (hts _ wd1290) h1, fun t ht => by have e := Option.some.inj ht; subst e; exact h2⟩⟩
    | 22, _ => obtain ⟨a, h1, h2⟩ := st_s22 (ρ := (((fun c => (D c).1, fun c => (D c).2), rAf, fun _ => 0, fun _ => 0, fun _ => 0, rb, fun _ => 0) : RH)) hts hg hK (fun c h => (hrb c).1 h); exact ⟨a, fun q hq => by have e := Option.some.inj hq; subst e; exact ⟨vk_R.of (hts _ wd1294) h1, fun t ht => by have e := Option.some.inj ht; subst e; exact h2⟩⟩
    | k + 23, h => exact absurd h (by omega))
  obtain ⟨zf, hzf⟩ := ex_fun (α := Nat × Nat × Nat) (0, 0, 0) (n := 13) (Pr := STk s rb) (by
    intro k hk
    match k, hk with
    | 0, _ => exact st_z0 hrb hts hT hg
    | 1, _ => exact st_z1 hrb hts hT hg
    | 2, _ => exact st_z2 hrb hts hT hg
    | 3, _ => exact st_z3 hrb hts hT hg
    | 4, _ => exact st_z4 hrb hts hT hg
    | 5, _ => exact st_z5 hrb hts hT hg
    | 6, _ => exact st_z6 hrb hts hT hg
    | 7, _ => exact st_z7 hrb hts hT hg
    | 8, _ => exact st_z8 hrb hts hT hg
    | 9, _ => exact st_z9 hrb hts hT hg
    | 10, _ => exact st_z10 hrb hts hT hg
    | 11, _ => exact st_z11 hrb hts hT hg
    | 12, _ => exact st_z12 hrb hts hT hg
    | k + 13, h => exact absurd h (by omega))
  have lt_of : ∀ {α : Type} {l : List α} {k n : Nat} {x : α}, l[k]? = some x → l.length = n → k < n := fun h e => e ▸ (List.getElem?_eq_some_iff.mp h).1
  have hVK : va_K (fun c => (D c).1, fun c => (D c).2) CL (TYS ((((fun c => (D c).1, fun c => (D c).2), rAf, rSf, fun k => (zf k).1, fun k => (zf k).2.1, rb, fun k => (zf k).2.2) : RH))) s := by
    refine ⟨fun c q hq => hD c (lt_of hq rfl) q hq, fun k q hk => ?_⟩
    have hlt : k < 8 := lt_of hk rfl
    match k, hlt, hk with
    | 0, h, hk => have e := Option.some.inj hk; subst e; exact hA 0 (by decide) _ rfl
    | 1, h, hk => have e := Option.some.inj hk; subst e; exact hA 1 (by decide) _ rfl
    | 2, h, hk => have e := Option.some.inj hk; subst e; exact hA 2 (by decide) _ rfl
    | 3, h, hk => have e := Option.some.inj hk; subst e; exact hA 3 (by decide) _ rfl
    | 4, h, hk => have e := Option.some.inj hk; subst e; exact hA 4 (by decide) _ rfl
    | 5, h, hk => have e := Option.some.inj hk; subst e; exact hA 5 (by decide) _ rfl
    | 6, h, hk => have e := Option.some.inj hk; subst e; exact hA 6 (by decide) _ rfl
    | 7, h, hk => have e := Option.some.inj hk; subst e; exact hA 7 (by decide) _ rfl
    | k + 8, h, _ => exact absurd h (by omega)
  refine ⟨(((fun c => (D c).1, fun c => (D c).2), rAf, rSf, fun k => (zf k).1, fun k => (zf k).2.1, rb, fun k => (zf k).2.2) : RH), ⟨hVK, fun k w hk => ?_, fun k q hk => (hSf k (lt_of hk rfl) q hk).1, fun k q hk => (hzf k (lt_of hk rfl)).1 q hk, fun c0 h => (hrb c0).2.2.1 h, fun c0 h => (hrb c0).2.2.2 h, (hrb _).1 (hA 4 (by decide) _ rfl).1, fun k q hk => ?_, fun k y hk => ?_, va_AO.of (hts _ wd127), va_AO.of (hts _ wd128)⟩, ⟨fun k t ht => ?_, fun k v hv => ?_, fun k q hq => ?_, fun k hr => ?_⟩, ⟨?_, ?_, ?_⟩, ?_, ?_⟩
  · have hlt : k < 12 := lt_of hk rfl
    match k, hlt, hk with
    | 0, h, hk => have e := Option.some.inj hk; subst e; exact va_Nw.of rfl (hts _ wd41)
    | 1, h, hk => have e := Option.some.inj hk; subst e; exact va_Nw.of rfl (hts _ wd100)
    | 2, h, hk => have e := Option.some.inj hk; subst e; exact va_Nw.of rfl (hts _ wd629)
    | 3, h, hk => have e := Option.some.inj hk; subst e; exact va_Nw.of rfl (hts _ wd983)
    | 4, h, hk => have e := Option.some.inj hk; subst e; exact va_Nw.of rfl (hts _ wd1002)
    | 5, h, hk => have e := Option.some.inj hk; subst e; exact va_Nw.of rfl (hts _ wd1023)
    | 6, h, hk => have e := Option.some.inj hk; subst e; exact va_Nw.of rfl (hts _ wd1024)
    | 7, h, hk => have e := Option.some.inj hk; subst e; exact va_Nw.of rfl (hts _ wd1031)
    | 8, h, hk => have e := Option.some.inj hk; subst e; exact va_Nw.of rfl (hts _ wd1139)
    | 9, h, hk => have e := Option.some.inj hk; subst e; exact va_Nw.of rfl (hts _ wd1165)
    | 10, h, hk => have e := Option.some.inj hk; subst e; exact va_Nw.of rfl (hts _ wd1181)
    | 11, h, hk => have e := Option.some.inj hk; subst e; exact va_Nw.of rfl (hts _ wd1286)
    | k + 12, h, _ => exact absurd h (by omega)
  · have hlt : k < 3 := lt_of hk rfl
    match k, hlt, hk with
    | 0, h, hk => have e := Option.some.inj hk; subst e; exact va_Nw.of rfl (hts _ wd347)
    | 1, h, hk => have e := Option.some.inj hk; subst e; exact va_Nw.of rfl (hts _ wd446)
    | 2, h, hk => have e := Option.some.inj hk; subst e; exact va_Nw.of rfl (hts _ wd713)
    | k + 3, h, _ => exact absurd h (by omega)
  · have hlt : k < 6 := lt_of hk rfl
    match k, hlt, hk with
    | 0, h, hk => have e := Option.some.inj hk; subst e; exact va_Nw.of rfl (hts _ wd447)
    | 1, h, hk => have e := Option.some.inj hk; subst e; exact va_Nw.of rfl (hts _ wd448)
    | 2, h, hk => have e := Option.some.inj hk; subst e; exact va_Nw.of rfl (hts _ wd449)
    | 3, h, hk => have e := Option.some.inj hk; subst e; exact va_Nw.of rfl (hts _ wd450)
    | 4, h, hk => have e := Option.some.inj hk; subst e; exact va_Nw.of rfl (hts _ wd451)
    | 5, h, hk => have e := Option.some.inj hk; subst e; exact va_Nw.of rfl (hts _ wd452)
    | k + 6, h, _ => exact absurd h (by omega)
  · have hlt : k < 23 := lt_of ht rfl
    have h1 : ∃ q, SRL[k]? = some q := ⟨SRL[k]'hlt, List.getElem?_eq_getElem hlt⟩
    obtain ⟨q, hq⟩ := h1
    exact (hSf k hlt q hq).2 t ht
  · obtain ⟨cell, g1, g2, g3⟩ := (hzf k (lt_of hv rfl)).2.1 v hv
    exact ⟨cell, g1, g2, g3, fun z => z⟩
  · obtain ⟨⟨cell, g1, g2, g3⟩, ca, q1, q2, q3, q4, q5, q6, q7⟩ := (hzf k (lt_of hq rfl)).2.2.1 q hq
    exact ⟨⟨cell, g1, g2, g3, fun z => z⟩, ca, q1, q2, q3, q4, q5, q6, q7, fun z => z⟩
  · rcases (hzf k (lt_of hr rfl)).2.2.2 hr with ⟨cell, g1, g2, g3⟩ | ⟨t, cell, g1, g2, g3⟩
    · exact Or.inl ⟨cell, g1, g2, g3, fun z => z⟩
    · exact Or.inr ⟨t, cell, g1, g2, g3, fun z => z⟩
  · exact TXs_of (A := A) ((hzf 5 (by decide)).1 _ rfl) (hts _ wd471) ((hzf 5 (by decide)).2.2.2 rfl)
  · exact TXs_of (A := A) ((hzf 6 (by decide)).1 _ rfl) (hts _ wd473) ((hzf 6 (by decide)).2.2.2 rfl)
  · exact NCu_of (cA (cA (cA (cB (cB (cB (cA (cB (cB (cA (cB (hg)))))))))))) (hVK.1 14 _ rfl).2.1 (hVK.1 13 _ rfl).2.1
  · rcases (hzf 5 (by decide)).2.2.2 rfl with ⟨cell, g1, -⟩ | ⟨t, cell, g1, -⟩ <;> exact hp_lt g1
  · rcases (hzf 6 (by decide)).2.2.2 rfl with ⟨cell, g1, -⟩ | ⟨t, cell, g1, -⟩ <;> exact hp_lt g1
theorem whole_start {p : Program} {e : Env} {s : State} {m : MethodId} {below : List Frame} {meth : Method} {c : Code} {Rel : Nat → CS → GS → Nat → Nat → Prop} (hRel : LRel Rel) (l : Launch) (hfl : l.flags = pinnedFlags ++ [noTraceFlag]) {b L : Nat} {xs : Nat → Int32} (hL : L ≤ 3072) (C0 : lw_At p s m meth c b L xs) : W p l e room_1 s m #[Value.ref b] below meth c s.heap [] 0 0 (lw_Z below #[Value.ref b] s) (entryFrame m ([Value.ref b] : List Value).toArray 9) := by
  obtain ⟨hx, hb, hr, hml, hown, hts, hX, hbl, hlk, hg⟩ := C0
  obtain ⟨ρ, hK, hC, hT, h5, h6⟩ := st_known hts hg
  have hTG := st_TG hts
  have hl := lv_entry ([Value.ref b] : List Value) (n := 9) (Nat.le_of_ble_eq_true rfl)
  rw [lg_entry_eq]
  generalize (lg_sl [Value.ref b] ++ List.replicate (9 - (lg_sl [Value.ref b]).length) Slot.unset).toArray = ls at hl ⊢
  have X : CX p s m c #[Value.ref b] "WordFunctionsLaw" code 9 ρ (Cond.initialized "java/lang/AbstractStringBuilder") := ⟨⟨hx, hb, hml, hown, fun w hw => (List.mem_cons.mp hw).elim (fun e => e ▸ hTG _ wd12) (hTG w)⟩, hK⟩
  exact lw_init hfl X hx hb hr hlk hL hX hbl hT ⟨h5, h6⟩ hRel hC hl
