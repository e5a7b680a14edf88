/-! ===== the JDK's texts: what its methods answer ===== -/
def f_js_charAt (t : TT) (i : Int32) : Option Int32 := jg (inb i t.length) (some (nI (t.getD i.toNatClampNeg 0)))
def f_js_length (t : TT) : Option Int32 := some (nI t.length)
def f_js_isEmpty (t : TT) : Option Int32 := some (if t.length = 0 then 1 else 0)
def ixOf (t : TT) (c : Nat) : Int32 := if c ∈ t then nI (t.idxOf c) else -1
def f_js_indexOf (t : TT) (c : Int32) : Option Int32 := jg (inb c 256) (some (ixOf t c.toNatClampNeg))
def f_js_equals (t u : TT) : Option Int32 := some (if t = u then 1 else 0)
def f_js_substring (t : TT) (i j : Int32) : Option (TT × Nat × Nat) := jg (decide (0 ≤ i.toInt) && decide (i.toInt ≤ j.toInt) && decide (j.toInt ≤ t.length) && decide (t.length < 2 ^ 20)) (some ((t.drop i.toNatClampNeg).take (j.toNatClampNeg - i.toNatClampNeg), 2, 4 + (j.toNatClampNeg - i.toNatClampNeg)))
def gcap (q n : Nat) : Nat := if n ≤ q then q else max n (2 * q + 2)
def gc (q n : Nat) : Nat := if n ≤ q then 0 else 1
def gs (q n : Nat) : Nat := if n ≤ q then 0 else gcap q n
def sbAdd (x : BT) (t : TT) : Option (BT × Nat × Nat) := jg (decide (x.1.length + t.length < 2 ^ 16) && decide (x.2 < 2 ^ 17)) (some ((x.1 ++ t, gcap x.2 (x.1.length + t.length)), gc x.2 (x.1.length + t.length), gs x.2 (x.1.length + t.length)))
def f_sb_appC (x : BT) (c : Int32) : Option (BT × Nat × Nat) := jg (inb c 256) (sbAdd x [c.toNatClampNeg])
def f_sb_appS (x : BT) (t : TT) : Option (BT × Nat × Nat) := sbAdd x t
/-- the decimal digits of a number -/
def digs (n : Nat) : TT := if h : n < 10 then [48 + n] else digs (n / 10) ++ [48 + n % 10]
termination_by n
decreasing_by omega
def f_sb_appI (x : BT) (n : Int32) : Option (BT × Nat × Nat) := jg (decide (0 ≤ n.toInt)) (sbAdd x (digs n.toNatClampNeg))
def f_sb_len (x : BT) : Option Int32 := some (nI x.1.length)
def f_sb_rev (x : BT) : Option BT := some (x.1.reverse, x.2)
def f_sb_toS (x : BT) : Option (TT × Nat × Nat) := some (x.1, 2, 4 + x.1.length)
def f_vl_ofEmpty : Option (VV × Nat × Nat) := some ((0, 0, []), 1, 3)
def f_vl_ofNumber (d : UInt64) : Option (VV × Nat × Nat) := some ((1, d, []), 1, 3)
def f_vl_ofText (t : TT) : Option (VV × Nat × Nat) := some ((2, 0, t), 1, 3)
def f_vl_ofTruth (b : Int32) : Option (VV × Nat × Nat) := some ((3, if b = 0 then 0 else 4607182418800017408, []), 1, 3)
def f_vl_ofError (n : Int32) : Option (VV × Nat × Nat) := some ((4, FP.i2d n, []), 1, 3)
theorem room_le {r k r' c M : Nat} (h : r = k + r') (h1 : c + r ≤ M) : c + k ≤ M := by omega
theorem room_l0 {r c M : Nat} (h1 : c + r ≤ M) : c + 0 ≤ M := by omega
theorem room_st {r k r' c M : Nat} (h : r = k + r') (h1 : c + r ≤ M) : c + k + r' ≤ M := by omega
section NN
variable {ρ : RH} {P : Nat → Prop} {ad : Nat → Nat} {st : CS} {H H1 : Heap} {a b b' ba bb b1 sz : Nat} {x : BT}
theorem nn_new (h : CW ρ P ad st H) (ha : H.size ≤ a) (hb : H.size ≤ b) : ∀ i, i < 46 → ¬ ab a b (ad i) := by
  intro i hi z
  have := h.2.1 _ (h.1 i hi)
  rcases z with z | z <;> omega
theorem nn_step (h0 : ∀ i, i < 46 → ¬ ab a b (ad i)) (hb : b' = b ∨ H.size ≤ b') (h : CW ρ P ad st H) : ∀ i, i < 46 → ¬ ab a b' (ad i) := by
  intro i hi z
  have := h.2.1 _ (h.1 i hi)
  rcases z with z | z
  · exact h0 i hi (Or.inl z)
  · rcases hb with e | e
    · exact h0 i hi (Or.inr (z.trans e))
    · omega
theorem nn_a (h0 : ∀ i, i < 46 → ¬ ab a b (ad i)) : ¬ Pm ad a := fun ⟨i, hi, e⟩ => h0 i hi (Or.inl e.symm)
theorem nn_b (h0 : ∀ i, i < 46 → ¬ ab a b (ad i)) : ¬ Pm ad b := fun ⟨i, hi, e⟩ => h0 i hi (Or.inr e.symm)
theorem sb_or (h : b1 = ba ∨ b1 = bb ∨ sz ≤ b1) (hS : SB ρ H ba b1 x) : b1 = bb ∨ sz ≤ b1 := by
  obtain ⟨z, f, -, -, -, -, -, -, -, hn, -⟩ := hS
  rcases h with h | h
  · exact absurd h.symm hn
  · exact h
end NN
section R4
variable {p : Program} {l : Launch} {e : Env} {R : Room} {s : State} {m : MethodId} {args : Array Value} {below : List Frame} {meth : Method} {c : Code} {H : Heap} {locs : List Loc} {cells slots : Nat} {Q : State → Prop}
variable {cc : ByteArray} {pc nL : Nat} {ls : Array Slot} {rest st0 : List Value} {own : String} {ρ : RH} {w0 : Cond} {A : Nat → Prop} {H0 : Heap} {P : Nat → Prop} {ad : Nat → Nat} {st : CS}
theorem sb_recv (X : CX p s m c args own cc nL ρ w0) {a b : Nat} {x : BT} (h : SB ρ H a b x) : Rcv s H a "java/lang/StringBuilder" := by
  obtain ⟨z, f, ⟨cell, q1, q2, q3, q4⟩, -⟩ := h
  obtain ⟨hS, hfc, -⟩ := X.2.1.1 10 _ rfl
  exact ⟨cell, q1, by rw [q3]; rfl, by rw [q2]; exact hfc⟩
theorem m_cret {post : Option Value → Heap → Prop} {mc ms : Nat} {v : Int32} (hx : p.tables.exec = Jvm.exec) (hb : c.code = cc) (hr : meth.sig.returnType = some .char) (hlocks : meth.locks = false) (hS : va_S A s.heap H locs) (hp : post (some (.int v)) H) (hc : cells ≤ mc) (hs : slots ≤ ms) (hdg : decode cc pc = .ok (.ireturn, 1)) (hv : narrow .char (.int v) = .int v) : W p l e R s m args below meth c H locs cells slots (MQ below (mQ post A) args s mc ms A) (F0 m pc ls [.int v]) := by
  refine W.widen hc hs ?_
  exact W.zret (v := v) hx hb hr hv (fun t ht hW => ⟨⟨_, rfl, by rw [ht]; exact hp⟩, hS.F ht⟩) hS.2.2 hdg hlocks
end R4
