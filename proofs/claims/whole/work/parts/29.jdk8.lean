/-! ===== a number's digits ===== -/
theorem digs_lt {n : Nat} (h : n < 10) : digs n = [48 + n] := by rw [digs, dif_pos h]
theorem digs_ge {n : Nat} (h : ¬ n < 10) : digs n = digs (n / 10) ++ [48 + n % 10] := by rw [digs, dif_neg h]
theorem digs_100 {n : Nat} (h : 100 ≤ n) : digs n = digs (n / 100) ++ [48 + n / 10 % 10, 48 + n % 10] := by
  rw [digs_ge (show ¬ n < 10 by omega), digs_ge (show ¬ n / 10 < 10 by omega), Nat.div_div_eq_div_mul, List.append_assoc]
  rfl
theorem digs_256 (n : Nat) : ∀ c ∈ digs n, c < 256 := by
  induction n using Nat.strongRecOn with
  | _ n ih =>
    intro c hc
    by_cases h : n < 10
    · rw [digs_lt h] at hc
      have := List.mem_singleton.mp hc
      omega
    · rw [digs_ge h] at hc
      rcases List.mem_append.mp hc with g | g
      · exact ih (n / 10) (by omega) c g
      · have := List.mem_singleton.mp g
        omega
theorem digs_len (k : Nat) : ∀ n, n < 10 ^ (k + 1) → (k = 0 ∨ 10 ^ k ≤ n) → (digs n).length = k + 1 := by
  induction k with
  | zero =>
    intro n hn _
    rw [digs_lt (by simpa using hn)]
    rfl
  | succ k ih =>
    intro n hn h
    have h2 : 10 ^ (k + 1) ≤ n := h.resolve_left (by omega)
    have e1 : (10 : Nat) ^ (k + 1) = 10 ^ k * 10 := Nat.pow_succ ..
    have e2 : (10 : Nat) ^ (k + 1 + 1) = 10 ^ (k + 1) * 10 := Nat.pow_succ ..
    have hp : 0 < (10 : Nat) ^ k := Nat.pow_pos (by decide)
    rw [digs_ge (by omega), List.length_append, ih (n / 10) (by omega) (Or.inr (by omega))]
    rfl
/-- what getChars writes: the digits of w end at e -/
def GC (w e : Nat) (g g' : Nat → Int32) : Prop := (∀ j, (j < e - (digs w).length ∨ e ≤ j) → g' j = g j) ∧ (∀ j, j < (digs w).length → g' (e - (digs w).length + j) = sb_b ((digs w).getD j 0)) ∧ sb_Fit g'
theorem GC_1 {w e : Nat} {g : Nat → Int32} (hw : w < 10) (he : 1 ≤ e) (hf : sb_Fit g) : GC w e g (upd g (e - 1) (sb_b (48 + w % 10))) := by
  unfold GC
  rw [digs_lt hw]
  refine ⟨fun j hj => pk_un (by have : ([48 + w] : TT).length = 1 := rfl; omega), fun j hj => ?_, sb_fitU hf (sb_fitB _)⟩
  have h1 : j < 1 := hj
  obtain rfl : j = 0 := by omega
  show upd g (e - 1) _ (e - 1 + 0) = sb_b (48 + w)
  rw [Nat.add_zero, pk_us, Nat.mod_eq_of_lt hw]
theorem GC_2 {w e : Nat} {g : Nat → Int32} (hw : ¬ w < 10) (hw2 : w < 100) (he : 2 ≤ e) (hf : sb_Fit g) : GC w e g (upd (upd g (e - 1) (sb_b (48 + w % 10))) (e - 1 - 1) (sb_b (48 + w / 10))) := by
  unfold GC
  rw [digs_ge hw, digs_lt (show w / 10 < 10 by omega)]
  refine ⟨fun j hj => ?_, fun j hj => ?_, sb_fitU (sb_fitU hf (sb_fitB _)) (sb_fitB _)⟩
  · have : ([48 + w / 10] ++ [48 + w % 10] : TT).length = 2 := rfl
    rw [pk_un (show j ≠ e - 1 - 1 by omega), pk_un (show j ≠ e - 1 by omega)]
  · have h1 : j < 2 := hj
    rcases j with _ | _ | j
    · show upd _ (e - 1 - 1) _ (e - 2 + 0) = sb_b (48 + w / 10)
      rw [show e - 2 + 0 = e - 1 - 1 by omega, pk_us]
    · show upd _ (e - 1 - 1) _ (e - 2 + 1) = sb_b (48 + w % 10)
      rw [show e - 2 + 1 = e - 1 by omega, pk_un (show e - 1 ≠ e - 1 - 1 by omega), pk_us]
    · omega
theorem GC_s {w e : Nat} {g g' : Nat → Int32} (hw : 100 ≤ w) (he : (digs w).length ≤ e) (h : GC (w / 100) (e - 1 - 1) (upd (upd g (e - 1) (sb_b (48 + w % 100 % 10))) (e - 1 - 1) (sb_b (48 + w % 100 / 10))) g') : GC w e g g' := by
  obtain ⟨h1, h2, h3⟩ := h
  have hl : (digs w).length = (digs (w / 100)).length + 2 := by
    rw [digs_100 hw, List.length_append]
    rfl
  refine ⟨fun j hj => ?_, fun j hj => ?_, h3⟩
  · rw [h1 j (by omega), pk_un (show j ≠ e - 1 - 1 by omega), pk_un (show j ≠ e - 1 by omega)]
  · have hgd : (digs w).getD j 0 = (digs (w / 100) ++ [48 + w / 10 % 10, 48 + w % 10]).getD j 0 := by rw [← digs_100 hw]
    rw [hgd, app_get]
    by_cases hj2 : j < (digs (w / 100)).length
    · rw [if_pos hj2, ← h2 j hj2]
      congr 1
      omega
    · rw [if_neg hj2, h1 _ (by omega)]
      by_cases hj3 : j = (digs (w / 100)).length
      · subst hj3
        rw [show e - (digs w).length + (digs (w / 100)).length = e - 1 - 1 by omega, pk_us, Nat.sub_self, show w % 100 / 10 = w / 10 % 10 by omega]
        rfl
      · rw [show e - (digs w).length + j = e - 1 by omega, pk_un (show e - 1 ≠ e - 1 - 1 by omega), pk_us, show j - (digs (w / 100)).length = 1 by omega, show w % 100 % 10 = w % 10 by omega]
        rfl
theorem tab7 : ∀ r, r < 100 → ZT7.getD r 0 = sb_b (48 + r % 10) := by decide +kernel
theorem tab8 : ∀ r, r < 100 → ZT8.getD r 0 = sb_b (48 + r / 10) := by decide +kernel
section J8
variable {p : Program} {l : Launch} {e : Env} {R : Room} {s : State} {m : MethodId} {args : Array Value} {below : List Frame} {meth : Method} {c : Code} {H : Heap} {locs : List Loc} {cells slots : Nat} {Q : State → Prop}
variable {cc : ByteArray} {pc nL : Nat} {ls : Array Slot} {rest st0 : List Value} {own : String} {ρ : RH} {w0 : Cond} {A : Nat → Prop} {H0 : Heap} {P : Nat → Prop}
theorem c_tbld (X : CX p s m c args own cc nL ρ w0) (k : Nat) {ls0 : List Int32} (hz : ztab ρ P H k 1 ls0) {j : Int32} {n : Nat} (hn : ls0.length = n) (hn2 : n < 2 ^ 31) (hin : inb j n = true) (hdg : decode cc pc = .ok (.baload, 1))
    (kk : W p l e R s m args below meth c H locs cells slots Q (F0 m (pc + 1) ls (.int (ls0.getD j.toNatClampNeg 0) :: rest))) : W p l e R s m args below meth c H locs cells slots Q (F0 m pc ls (.int j :: .ref (rT ρ k) :: rest)) := by
  obtain ⟨-, ca, h1, h2, h3, h4, h5, h6, h7, h8⟩ := hz
  have hn' := inb_in hin
  subst hn
  have hlt : j.toNatClampNeg < ls0.length := Nat.not_le.mp fun q => hn' (Or.inr q)
  exact W.bald (v := .int (ls0.getD j.toNatClampNeg 0)) X.1.1 X.1.2.1 h1 (arr_of (X.2.2.2.2.2.1 _ h2) h4) h3 (fun q => q.elim (fun z => hn' (Or.inl z)) (fun z => by omega)) (h7 _ hlt) rfl rfl hdg kk
end J8
abbrev b275 : ByteArray := prog_20_method_13_code
theorem d275_0 : decode b275 0 = .ok ((.iconst 1), 1) := by decide +kernel
theorem d275_1 : decode b275 1 = .ok ((.istore_n 1), 1) := by decide +kernel
theorem d275_2 : decode b275 2 = .ok ((.iload_n 0), 1) := by decide +kernel
theorem d275_3 : decode b275 3 = .ok ((.ifCond .lt 8), 3) := by decide +kernel
theorem d275_6 : decode b275 6 = .ok ((.iconst 0), 1) := by decide +kernel
theorem d275_7 : decode b275 7 = .ok ((.istore_n 1), 1) := by decide +kernel
theorem d275_8 : decode b275 8 = .ok ((.iload_n 0), 1) := by decide +kernel
theorem d275_9 : decode b275 9 = .ok (.ineg, 1) := by decide +kernel
theorem d275_10 : decode b275 10 = .ok ((.istore_n 0), 1) := by decide +kernel
theorem d275_11 : decode b275 11 = .ok ((.bipush (-10)), 2) := by decide +kernel
theorem d275_13 : decode b275 13 = .ok ((.istore_n 2), 1) := by decide +kernel
theorem d275_14 : decode b275 14 = .ok ((.iconst 1), 1) := by decide +kernel
theorem d275_15 : decode b275 15 = .ok ((.istore_n 3), 1) := by decide +kernel
theorem d275_16 : decode b275 16 = .ok ((.iload_n 3), 1) := by decide +kernel
theorem d275_17 : decode b275 17 = .ok ((.bipush 10), 2) := by decide +kernel
theorem d275_19 : decode b275 19 = .ok ((.if_icmp .ge 23), 3) := by decide +kernel
theorem d275_22 : decode b275 22 = .ok ((.iload_n 0), 1) := by decide +kernel
theorem d275_23 : decode b275 23 = .ok ((.iload_n 2), 1) := by decide +kernel
theorem d275_24 : decode b275 24 = .ok ((.if_icmp .le 7), 3) := by decide +kernel
theorem d275_27 : decode b275 27 = .ok ((.iload_n 3), 1) := by decide +kernel
theorem d275_28 : decode b275 28 = .ok ((.iload_n 1), 1) := by decide +kernel
theorem d275_29 : decode b275 29 = .ok (.iadd, 1) := by decide +kernel
theorem d275_30 : decode b275 30 = .ok (.ireturn, 1) := by decide +kernel
theorem d275_31 : decode b275 31 = .ok ((.bipush 10), 2) := by decide +kernel
theorem d275_33 : decode b275 33 = .ok ((.iload_n 2), 1) := by decide +kernel
theorem d275_34 : decode b275 34 = .ok (.imul, 1) := by decide +kernel
theorem d275_35 : decode b275 35 = .ok ((.istore_n 2), 1) := by decide +kernel
theorem d275_36 : decode b275 36 = .ok ((.iinc 3 1), 3) := by decide +kernel
theorem d275_39 : decode b275 39 = .ok ((.goto (-23)), 3) := by decide +kernel
theorem d275_42 : decode b275 42 = .ok ((.bipush 10), 2) := by decide +kernel
theorem d275_44 : decode b275 44 = .ok ((.iload_n 1), 1) := by decide +kernel
theorem d275_45 : decode b275 45 = .ok (.iadd, 1) := by decide +kernel
theorem d275_46 : decode b275 46 = .ok (.ireturn, 1) := by decide +kernel
set_option maxHeartbeats 1000000 in
theorem c_i_size (l : Launch) (ρ : RH) (H : Heap) (P : Nat → Prop) (w0 : Nat) (hC : CC ρ P H) (hPb : ∀ q, P q → q < H.size) (hw31 : w0 < 2 ^ 31) : Met l y275 (wsOf y275 b275 4 (some .int)) ({ frames := 0, cells := 0, slots := 0, locals := 0 } : Room) (va_Pc [.int (nI w0)] (KP ρ H)) (mQ (fun v H1 => v = some (.int (nI (digs w0).length)) ∧ H1 = H) (fun _ => False)) 0 0 (fun _ => False) := by
  refine m_ofW (own := "java/lang/Integer") (plainFor_of_name rfl) rfl (Nat.le_of_ble_eq_true rfl) fun p e s m args below meth c ls hx hb hr hlk hmn X hs0 hl => ?_
  subst hs0
  have hS : va_S (fun _ => False) s.heap s.heap [] := va_S.rf
  have hl : lv_has ls 4 [(0, .int (nI w0))] := hl
  refine lv_iconst (pc := 0) (v := 1) hx hb d275_0 (by decide) ?_
  refine lv_istore_n (pc := 1) (lv' := [(1, .int 1), (0, .int (nI w0))]) hx hb d275_1 rfl hl (by decide) rfl (fun ls hl => ?_)
  refine lv_iload_n (pc := 2) hx hb d275_2 rfl (lv_at hl 1 rfl) ?_
  refine lv_if_lt (pc := 3) (tgt := 11) hx hb d275_3 (by decide) (fun zbr => absurd zbr (nI_pos (by omega))) (fun zbr => ?_)
  refine lv_iconst (pc := 6) (v := 0) hx hb d275_6 (by decide) ?_
  refine lv_istore_n (pc := 7) (lv' := [(1, .int 0), (0, .int (nI w0))]) hx hb d275_7 rfl hl (by decide) rfl (fun ls hl => ?_)
  refine lv_iload_n (pc := 8) hx hb d275_8 rfl (lv_at hl 1 rfl) ?_
  refine lv_ineg (pc := 9) hx hb d275_9 ?_
  refine lv_istore_n (pc := 10) (lv' := [(0, .int (-(nI w0))), (1, .int 0)]) hx hb d275_10 rfl hl (by decide) rfl (fun ls hl => ?_)
  refine lv_bipush (pc := 11) (v := (-10)) hx hb d275_11 (by decide) ?_
  refine lv_istore_n (pc := 13) (lv' := [(2, .int (-10)), (0, .int (-(nI w0))), (1, .int 0)]) hx hb d275_13 rfl hl (by decide) rfl (fun ls hl => ?_)
  refine lv_iconst (pc := 14) (v := 1) hx hb d275_14 (by decide) ?_
  refine lv_istore_n (pc := 15) (lv' := [(3, .int 1), (2, .int (-10)), (0, .int (-(nI w0))), (1, .int 0)]) hx hb d275_15 rfl hl (by decide) rfl (fun ls hl => ?_)
  refine lv_iload_n (pc := 16) hx hb d275_16 rfl (lv_at hl 0 rfl) ?_
  refine lv_bipush (pc := 17) (v := 10) hx hb d275_17 (by decide) ?_
  refine lv_icmp_ge (pc := 19) (tgt := 42) hx hb d275_19 (by decide) (fun zbr => absurd zbr (by decide)) (fun zbr => ?_)
  refine lv_iload_n (pc := 22) hx hb d275_22 rfl (lv_at hl 2 rfl) ?_
  refine lv_iload_n (pc := 23) hx hb d275_23 rfl (lv_at hl 1 rfl) ?_
  refine lv_icmp_le (pc := 24) (tgt := 31) hx hb d275_24 (by decide) (fun z24 => ?_) (fun z24 => ?_)
  · skip
    have hw1 : 10 ≤ w0 := (sb_nle (b := 10) (by omega) (by decide)).mp z24
    refine lv_bipush (pc := 31) (v := 10) hx hb d275_31 (by decide) ?_
    refine lv_iload_n (pc := 33) hx hb d275_33 rfl (lv_at hl 1 rfl) ?_
    refine lv_imul (pc := 34) hx hb d275_34 ?_
    refine nm_i (y := (-100)) (by decide) ?_
    refine lv_istore_n (pc := 35) (lv' := [(2, .int (-100)), (3, .int 1), (0, .int (-(nI w0))), (1, .int 0)]) hx hb d275_35 rfl hl (by decide) rfl (fun ls hl => ?_)
    refine lv_iinc (pc := 36) (v := 2) (lv' := [(3, .int 2), (2, .int (-100)), (0, .int (-(nI w0))), (1, .int 0)]) hx hb d275_36 hl (k := 1) rfl (by decide) (by decide) rfl (fun ls hl => ?_)
    refine lv_goto (pc := 39) (tgt := 16) hx hb d275_39 (by decide) ?_
    refine lv_iload_n (pc := 16) hx hb d275_16 rfl (lv_at hl 0 rfl) ?_
    refine lv_bipush (pc := 17) (v := 10) hx hb d275_17 (by decide) ?_
    refine lv_icmp_ge (pc := 19) (tgt := 42) hx hb d275_19 (by decide) (fun zbr => absurd zbr (by decide)) (fun zbr => ?_)
    refine lv_iload_n (pc := 22) hx hb d275_22 rfl (lv_at hl 2 rfl) ?_
    refine lv_iload_n (pc := 23) hx hb d275_23 rfl (lv_at hl 1 rfl) ?_
    refine lv_icmp_le (pc := 24) (tgt := 31) hx hb d275_24 (by decide) (fun z24 => ?_) (fun z24 => ?_)
    · skip
      have hw2 : 100 ≤ w0 := (sb_nle (b := 100) (by omega) (by decide)).mp z24
      refine lv_bipush (pc := 31) (v := 10) hx hb d275_31 (by decide) ?_
      refine lv_iload_n (pc := 33) hx hb d275_33 rfl (lv_at hl 1 rfl) ?_
      refine lv_imul (pc := 34) hx hb d275_34 ?_
      refine nm_i (y := (-1000)) (by decide) ?_
      refine lv_istore_n (pc := 35) (lv' := [(2, .int (-1000)), (3, .int 2), (0, .int (-(nI w0))), (1, .int 0)]) hx hb d275_35 rfl hl (by decide) rfl (fun ls hl => ?_)
      refine lv_iinc (pc := 36) (v := 3) (lv' := [(3, .int 3), (2, .int (-1000)), (0, .int (-(nI w0))), (1, .int 0)]) hx hb d275_36 hl (k := 1) rfl (by decide) (by decide) rfl (fun ls hl => ?_)
      refine lv_goto (pc := 39) (tgt := 16) hx hb d275_39 (by decide) ?_
      refine lv_iload_n (pc := 16) hx hb d275_16 rfl (lv_at hl 0 rfl) ?_
      refine lv_bipush (pc := 17) (v := 10) hx hb d275_17 (by decide) ?_
      refine lv_icmp_ge (pc := 19) (tgt := 42) hx hb d275_19 (by decide) (fun zbr => absurd zbr (by decide)) (fun zbr => ?_)
      refine lv_iload_n (pc := 22) hx hb d275_22 rfl (lv_at hl 2 rfl) ?_
      refine lv_iload_n (pc := 23) hx hb d275_23 rfl (lv_at hl 1 rfl) ?_
      refine lv_icmp_le (pc := 24) (tgt := 31) hx hb d275_24 (by decide) (fun z24 => ?_) (fun z24 => ?_)
      · skip
        have hw3 : 1000 ≤ w0 := (sb_nle (b := 1000) (by omega) (by decide)).mp z24
        refine lv_bipush (pc := 31) (v := 10) hx hb d275_31 (by decide) ?_
        refine lv_iload_n (pc := 33) hx hb d275_33 rfl (lv_at hl 1 rfl) ?_
        refine lv_imul (pc := 34) hx hb d275_34 ?_
        refine nm_i (y := (-10000)) (by decide) ?_
        refine lv_istore_n (pc := 35) (lv' := [(2, .int (-10000)), (3, .int 3), (0, .int (-(nI w0))), (1, .int 0)]) hx hb d275_35 rfl hl (by decide) rfl (fun ls hl => ?_)
        refine lv_iinc (pc := 36) (v := 4) (lv' := [(3, .int 4), (2, .int (-10000)), (0, .int (-(nI w0))), (1, .int 0)]) hx hb d275_36 hl (k := 1) rfl (by decide) (by decide) rfl (fun ls hl => ?_)
        refine lv_goto (pc := 39) (tgt := 16) hx hb d275_39 (by decide) ?_
        refine lv_iload_n (pc := 16) hx hb d275_16 rfl (lv_at hl 0 rfl) ?_
        refine lv_bipush (pc := 17) (v := 10) hx hb d275_17 (by decide) ?_
        refine lv_icmp_ge (pc := 19) (tgt := 42) hx hb d275_19 (by decide) (fun zbr => absurd zbr (by decide)) (fun zbr => ?_)
        refine lv_iload_n (pc := 22) hx hb d275_22 rfl (lv_at hl 2 rfl) ?_
        refine lv_iload_n (pc := 23) hx hb d275_23 rfl (lv_at hl 1 rfl) ?_
        refine lv_icmp_le (pc := 24) (tgt := 31) hx hb d275_24 (by decide) (fun z24 => ?_) (fun z24 => ?_)
        · skip
          have hw4 : 10000 ≤ w0 := (sb_nle (b := 10000) (by omega) (by decide)).mp z24
          refine lv_bipush (pc := 31) (v := 10) hx hb d275_31 (by decide) ?_
          refine lv_iload_n (pc := 33) hx hb d275_33 rfl (lv_at hl 1 rfl) ?_
          refine lv_imul (pc := 34) hx hb d275_34 ?_
          refine nm_i (y := (-100000)) (by decide) ?_
          refine lv_istore_n (pc := 35) (lv' := [(2, .int (-100000)), (3, .int 4), (0, .int (-(nI w0))), (1, .int 0)]) hx hb d275_35 rfl hl (by decide) rfl (fun ls hl => ?_)
          refine lv_iinc (pc := 36) (v := 5) (lv' := [(3, .int 5), (2, .int (-100000)), (0, .int (-(nI w0))), (1, .int 0)]) hx hb d275_36 hl (k := 1) rfl (by decide) (by decide) rfl (fun ls hl => ?_)
          refine lv_goto (pc := 39) (tgt := 16) hx hb d275_39 (by decide) ?_
          refine lv_iload_n (pc := 16) hx hb d275_16 rfl (lv_at hl 0 rfl) ?_
          refine lv_bipush (pc := 17) (v := 10) hx hb d275_17 (by decide) ?_
          refine lv_icmp_ge (pc := 19) (tgt := 42) hx hb d275_19 (by decide) (fun zbr => absurd zbr (by decide)) (fun zbr => ?_)
          refine lv_iload_n (pc := 22) hx hb d275_22 rfl (lv_at hl 2 rfl) ?_
          refine lv_iload_n (pc := 23) hx hb d275_23 rfl (lv_at hl 1 rfl) ?_
          refine lv_icmp_le (pc := 24) (tgt := 31) hx hb d275_24 (by decide) (fun z24 => ?_) (fun z24 => ?_)
          · skip
            have hw5 : 100000 ≤ w0 := (sb_nle (b := 100000) (by omega) (by decide)).mp z24
            refine lv_bipush (pc := 31) (v := 10) hx hb d275_31 (by decide) ?_
            refine lv_iload_n (pc := 33) hx hb d275_33 rfl (lv_at hl 1 rfl) ?_
            refine lv_imul (pc := 34) hx hb d275_34 ?_
            refine nm_i (y := (-1000000)) (by decide) ?_
            refine lv_istore_n (pc := 35) (lv' := [(2, .int (-1000000)), (3, .int 5), (0, .int (-(nI w0))), (1, .int 0)]) hx hb d275_35 rfl hl (by decide) rfl (fun ls hl => ?_)
            refine lv_iinc (pc := 36) (v := 6) (lv' := [(3, .int 6), (2, .int (-1000000)), (0, .int (-(nI w0))), (1, .int 0)]) hx hb d275_36 hl (k := 1) rfl (by decide) (by decide) rfl (fun ls hl => ?_)
            refine lv_goto (pc := 39) (tgt := 16) hx hb d275_39 (by decide) ?_
            refine lv_iload_n (pc := 16) hx hb d275_16 rfl (lv_at hl 0 rfl) ?_
            refine lv_bipush (pc := 17) (v := 10) hx hb d275_17 (by decide) ?_
            refine lv_icmp_ge (pc := 19) (tgt := 42) hx hb d275_19 (by decide) (fun zbr => absurd zbr (by decide)) (fun zbr => ?_)
            refine lv_iload_n (pc := 22) hx hb d275_22 rfl (lv_at hl 2 rfl) ?_
            refine lv_iload_n (pc := 23) hx hb d275_23 rfl (lv_at hl 1 rfl) ?_
            refine lv_icmp_le (pc := 24) (tgt := 31) hx hb d275_24 (by decide) (fun z24 => ?_) (fun z24 => ?_)
            · skip
              have hw6 : 1000000 ≤ w0 := (sb_nle (b := 1000000) (by omega) (by decide)).mp z24
              refine lv_bipush (pc := 31) (v := 10) hx hb d275_31 (by decide) ?_
              refine lv_iload_n (pc := 33) hx hb d275_33 rfl (lv_at hl 1 rfl) ?_
              refine lv_imul (pc := 34) hx hb d275_34 ?_
              refine nm_i (y := (-10000000)) (by decide) ?_
              refine lv_istore_n (pc := 35) (lv' := [(2, .int (-10000000)), (3, .int 6), (0, .int (-(nI w0))), (1, .int 0)]) hx hb d275_35 rfl hl (by decide) rfl (fun ls hl => ?_)
              refine lv_iinc (pc := 36) (v := 7) (lv' := [(3, .int 7), (2, .int (-10000000)), (0, .int (-(nI w0))), (1, .int 0)]) hx hb d275_36 hl (k := 1) rfl (by decide) (by decide) rfl (fun ls hl => ?_)
              refine lv_goto (pc := 39) (tgt := 16) hx hb d275_39 (by decide) ?_
              refine lv_iload_n (pc := 16) hx hb d275_16 rfl (lv_at hl 0 rfl) ?_
              refine lv_bipush (pc := 17) (v := 10) hx hb d275_17 (by decide) ?_
              refine lv_icmp_ge (pc := 19) (tgt := 42) hx hb d275_19 (by decide) (fun zbr => absurd zbr (by decide)) (fun zbr => ?_)
              refine lv_iload_n (pc := 22) hx hb d275_22 rfl (lv_at hl 2 rfl) ?_
              refine lv_iload_n (pc := 23) hx hb d275_23 rfl (lv_at hl 1 rfl) ?_
              refine lv_icmp_le (pc := 24) (tgt := 31) hx hb d275_24 (by decide) (fun z24 => ?_) (fun z24 => ?_)
              · skip
                have hw7 : 10000000 ≤ w0 := (sb_nle (b := 10000000) (by omega) (by decide)).mp z24
                refine lv_bipush (pc := 31) (v := 10) hx hb d275_31 (by decide) ?_
                refine lv_iload_n (pc := 33) hx hb d275_33 rfl (lv_at hl 1 rfl) ?_
                refine lv_imul (pc := 34) hx hb d275_34 ?_
                refine nm_i (y := (-100000000)) (by decide) ?_
                refine lv_istore_n (pc := 35) (lv' := [(2, .int (-100000000)), (3, .int 7), (0, .int (-(nI w0))), (1, .int 0)]) hx hb d275_35 rfl hl (by decide) rfl (fun ls hl => ?_)
                refine lv_iinc (pc := 36) (v := 8) (lv' := [(3, .int 8), (2, .int (-100000000)), (0, .int (-(nI w0))), (1, .int 0)]) hx hb d275_36 hl (k := 1) rfl (by decide) (by decide) rfl (fun ls hl => ?_)
                refine lv_goto (pc := 39) (tgt := 16) hx hb d275_39 (by decide) ?_
                refine lv_iload_n (pc := 16) hx hb d275_16 rfl (lv_at hl 0 rfl) ?_
                refine lv_bipush (pc := 17) (v := 10) hx hb d275_17 (by decide) ?_
                refine lv_icmp_ge (pc := 19) (tgt := 42) hx hb d275_19 (by decide) (fun zbr => absurd zbr (by decide)) (fun zbr => ?_)
                refine lv_iload_n (pc := 22) hx hb d275_22 rfl (lv_at hl 2 rfl) ?_
                refine lv_iload_n (pc := 23) hx hb d275_23 rfl (lv_at hl 1 rfl) ?_
                refine lv_icmp_le (pc := 24) (tgt := 31) hx hb d275_24 (by decide) (fun z24 => ?_) (fun z24 => ?_)
                · skip
                  have hw8 : 100000000 ≤ w0 := (sb_nle (b := 100000000) (by omega) (by decide)).mp z24
                  refine lv_bipush (pc := 31) (v := 10) hx hb d275_31 (by decide) ?_
                  refine lv_iload_n (pc := 33) hx hb d275_33 rfl (lv_at hl 1 rfl) ?_
                  refine lv_imul (pc := 34) hx hb d275_34 ?_
                  refine nm_i (y := (-1000000000)) (by decide) ?_
                  refine lv_istore_n (pc := 35) (lv' := [(2, .int (-1000000000)), (3, .int 8), (0, .int (-(nI w0))), (1, .int 0)]) hx hb d275_35 rfl hl (by decide) rfl (fun ls hl => ?_)
                  refine lv_iinc (pc := 36) (v := 9) (lv' := [(3, .int 9), (2, .int (-1000000000)), (0, .int (-(nI w0))), (1, .int 0)]) hx hb d275_36 hl (k := 1) rfl (by decide) (by decide) rfl (fun ls hl => ?_)
                  refine lv_goto (pc := 39) (tgt := 16) hx hb d275_39 (by decide) ?_
                  refine lv_iload_n (pc := 16) hx hb d275_16 rfl (lv_at hl 0 rfl) ?_
                  refine lv_bipush (pc := 17) (v := 10) hx hb d275_17 (by decide) ?_
                  refine lv_icmp_ge (pc := 19) (tgt := 42) hx hb d275_19 (by decide) (fun zbr => absurd zbr (by decide)) (fun zbr => ?_)
                  refine lv_iload_n (pc := 22) hx hb d275_22 rfl (lv_at hl 2 rfl) ?_
                  refine lv_iload_n (pc := 23) hx hb d275_23 rfl (lv_at hl 1 rfl) ?_
                  refine lv_icmp_le (pc := 24) (tgt := 31) hx hb d275_24 (by decide) (fun z24 => ?_) (fun z24 => ?_)
                  · skip
                    have hw9 : 1000000000 ≤ w0 := (sb_nle (b := 1000000000) (by omega) (by decide)).mp z24
                    refine lv_bipush (pc := 31) (v := 10) hx hb d275_31 (by decide) ?_
                    refine lv_iload_n (pc := 33) hx hb d275_33 rfl (lv_at hl 1 rfl) ?_
                    refine lv_imul (pc := 34) hx hb d275_34 ?_
                    refine nm_i (y := (-1410065408)) (by decide) ?_
                    refine lv_istore_n (pc := 35) (lv' := [(2, .int (-1410065408)), (3, .int 9), (0, .int (-(nI w0))), (1, .int 0)]) hx hb d275_35 rfl hl (by decide) rfl (fun ls hl => ?_)
                    refine lv_iinc (pc := 36) (v := 10) (lv' := [(3, .int 10), (2, .int (-1410065408)), (0, .int (-(nI w0))), (1, .int 0)]) hx hb d275_36 hl (k := 1) rfl (by decide) (by decide) rfl (fun ls hl => ?_)
                    refine lv_goto (pc := 39) (tgt := 16) hx hb d275_39 (by decide) ?_
                    refine lv_iload_n (pc := 16) hx hb d275_16 rfl (lv_at hl 0 rfl) ?_
                    refine lv_bipush (pc := 17) (v := 10) hx hb d275_17 (by decide) ?_
                    refine lv_icmp_ge (pc := 19) (tgt := 42) hx hb d275_19 (by decide) (fun zbr => ?_) (fun zbr => absurd (by decide) zbr)
                    refine lv_bipush (pc := 42) (v := 10) hx hb d275_42 (by decide) ?_
                    refine lv_iload_n (pc := 44) hx hb d275_44 rfl (lv_at hl 3 rfl) ?_
                    refine lv_iadd (pc := 45) hx hb d275_45 ?_
                    exact m_iret (pc := 46) hx hb hr hlk hS ⟨by rw [digs_len 9 w0 (by show w0 < 10000000000; omega) (Or.inr (by show 1000000000 ≤ w0; omega))]; rfl, rfl⟩ (Nat.le_refl _) (Nat.le_refl _) d275_46
                  · skip
                    have hw9 : w0 < 1000000000 := Nat.lt_of_not_le fun g => z24 ((sb_nle (b := 1000000000) (by omega) (by decide)).mpr g)
                    refine lv_iload_n (pc := 27) hx hb d275_27 rfl (lv_at hl 0 rfl) ?_
                    refine lv_iload_n (pc := 28) hx hb d275_28 rfl (lv_at hl 3 rfl) ?_
                    refine lv_iadd (pc := 29) hx hb d275_29 ?_
                    exact m_iret (pc := 30) hx hb hr hlk hS ⟨by rw [digs_len 8 w0 (by show w0 < 1000000000; omega) (Or.inr (by show 100000000 ≤ w0; omega))]; rfl, rfl⟩ (Nat.le_refl _) (Nat.le_refl _) d275_30
                · skip
                  have hw8 : w0 < 100000000 := Nat.lt_of_not_le fun g => z24 ((sb_nle (b := 100000000) (by omega) (by decide)).mpr g)
                  refine lv_iload_n (pc := 27) hx hb d275_27 rfl (lv_at hl 0 rfl) ?_
                  refine lv_iload_n (pc := 28) hx hb d275_28 rfl (lv_at hl 3 rfl) ?_
                  refine lv_iadd (pc := 29) hx hb d275_29 ?_
                  exact m_iret (pc := 30) hx hb hr hlk hS ⟨by rw [digs_len 7 w0 (by show w0 < 100000000; omega) (Or.inr (by show 10000000 ≤ w0; omega))]; rfl, rfl⟩ (Nat.le_refl _) (Nat.le_refl _) d275_30
              · skip
                have hw7 : w0 < 10000000 := Nat.lt_of_not_le fun g => z24 ((sb_nle (b := 10000000) (by omega) (by decide)).mpr g)
                refine lv_iload_n (pc := 27) hx hb d275_27 rfl (lv_at hl 0 rfl) ?_
                refine lv_iload_n (pc := 28) hx hb d275_28 rfl (lv_at hl 3 rfl) ?_
                refine lv_iadd (pc := 29) hx hb d275_29 ?_
                exact m_iret (pc := 30) hx hb hr hlk hS ⟨by rw [digs_len 6 w0 (by show w0 < 10000000; omega) (Or.inr (by show 1000000 ≤ w0; omega))]; rfl, rfl⟩ (Nat.le_refl _) (Nat.le_refl _) d275_30
            · skip
              have hw6 : w0 < 1000000 := Nat.lt_of_not_le fun g => z24 ((sb_nle (b := 1000000) (by omega) (by decide)).mpr g)
              refine lv_iload_n (pc := 27) hx hb d275_27 rfl (lv_at hl 0 rfl) ?_
              refine lv_iload_n (pc := 28) hx hb d275_28 rfl (lv_at hl 3 rfl) ?_
              refine lv_iadd (pc := 29) hx hb d275_29 ?_
              exact m_iret (pc := 30) hx hb hr hlk hS ⟨by rw [digs_len 5 w0 (by show w0 < 1000000; omega) (Or.inr (by show 100000 ≤ w0; omega))]; rfl, rfl⟩ (Nat.le_refl _) (Nat.le_refl _) d275_30
          · skip
            have hw5 : w0 < 100000 := Nat.lt_of_not_le fun g => z24 ((sb_nle (b := 100000) (by omega) (by decide)).mpr g)
            refine lv_iload_n (pc := 27) hx hb d275_27 rfl (lv_at hl 0 rfl) ?_
            refine lv_iload_n (pc := 28) hx hb d275_28 rfl (lv_at hl 3 rfl) ?_
            refine lv_iadd (pc := 29) hx hb d275_29 ?_
            exact m_iret (pc := 30) hx hb hr hlk hS ⟨by rw [digs_len 4 w0 (by show w0 < 100000; omega) (Or.inr (by show 10000 ≤ w0; omega))]; rfl, rfl⟩ (Nat.le_refl _) (Nat.le_refl _) d275_30
        · skip
          have hw4 : w0 < 10000 := Nat.lt_of_not_le fun g => z24 ((sb_nle (b := 10000) (by omega) (by decide)).mpr g)
          refine lv_iload_n (pc := 27) hx hb d275_27 rfl (lv_at hl 0 rfl) ?_
          refine lv_iload_n (pc := 28) hx hb d275_28 rfl (lv_at hl 3 rfl) ?_
          refine lv_iadd (pc := 29) hx hb d275_29 ?_
          exact m_iret (pc := 30) hx hb hr hlk hS ⟨by rw [digs_len 3 w0 (by show w0 < 10000; omega) (Or.inr (by show 1000 ≤ w0; omega))]; rfl, rfl⟩ (Nat.le_refl _) (Nat.le_refl _) d275_30
      · skip
        have hw3 : w0 < 1000 := Nat.lt_of_not_le fun g => z24 ((sb_nle (b := 1000) (by omega) (by decide)).mpr g)
        refine lv_iload_n (pc := 27) hx hb d275_27 rfl (lv_at hl 0 rfl) ?_
        refine lv_iload_n (pc := 28) hx hb d275_28 rfl (lv_at hl 3 rfl) ?_
        refine lv_iadd (pc := 29) hx hb d275_29 ?_
        exact m_iret (pc := 30) hx hb hr hlk hS ⟨by rw [digs_len 2 w0 (by show w0 < 1000; omega) (Or.inr (by show 100 ≤ w0; omega))]; rfl, rfl⟩ (Nat.le_refl _) (Nat.le_refl _) d275_30
    · skip
      have hw2 : w0 < 100 := Nat.lt_of_not_le fun g => z24 ((sb_nle (b := 100) (by omega) (by decide)).mpr g)
      refine lv_iload_n (pc := 27) hx hb d275_27 rfl (lv_at hl 0 rfl) ?_
      refine lv_iload_n (pc := 28) hx hb d275_28 rfl (lv_at hl 3 rfl) ?_
      refine lv_iadd (pc := 29) hx hb d275_29 ?_
      exact m_iret (pc := 30) hx hb hr hlk hS ⟨by rw [digs_len 1 w0 (by show w0 < 100; omega) (Or.inr (by show 10 ≤ w0; omega))]; rfl, rfl⟩ (Nat.le_refl _) (Nat.le_refl _) d275_30
  · skip
    have hw1 : w0 < 10 := Nat.lt_of_not_le fun g => z24 ((sb_nle (b := 10) (by omega) (by decide)).mpr g)
    refine lv_iload_n (pc := 27) hx hb d275_27 rfl (lv_at hl 0 rfl) ?_
    refine lv_iload_n (pc := 28) hx hb d275_28 rfl (lv_at hl 3 rfl) ?_
    refine lv_iadd (pc := 29) hx hb d275_29 ?_
    exact m_iret (pc := 30) hx hb hr hlk hS ⟨by rw [digs_len 0 w0 (by show w0 < 10; omega) (Or.inl rfl)]; rfl, rfl⟩ (Nat.le_refl _) (Nat.le_refl _) d275_30
abbrev b274 : ByteArray := prog_20_method_12_code
theorem d274_0 : decode b274 0 = .ok ((.iload_n 1), 1) := by decide +kernel
theorem d274_1 : decode b274 1 = .ok ((.istore 5), 2) := by decide +kernel
theorem d274_3 : decode b274 3 = .ok ((.iload_n 0), 1) := by decide +kernel
theorem d274_4 : decode b274 4 = .ok ((.ifCond .ge 7), 3) := by decide +kernel
theorem d274_7 : decode b274 7 = .ok ((.iconst 1), 1) := by decide +kernel
theorem d274_8 : decode b274 8 = .ok ((.goto 4), 3) := by decide +kernel
theorem d274_11 : decode b274 11 = .ok ((.iconst 0), 1) := by decide +kernel
theorem d274_12 : decode b274 12 = .ok ((.istore 6), 2) := by decide +kernel
theorem d274_14 : decode b274 14 = .ok ((.iload 6), 2) := by decide +kernel
theorem d274_16 : decode b274 16 = .ok ((.ifCond .ne 6), 3) := by decide +kernel
theorem d274_19 : decode b274 19 = .ok ((.iload_n 0), 1) := by decide +kernel
theorem d274_20 : decode b274 20 = .ok (.ineg, 1) := by decide +kernel
theorem d274_21 : decode b274 21 = .ok ((.istore_n 0), 1) := by decide +kernel
theorem d274_22 : decode b274 22 = .ok ((.iload_n 0), 1) := by decide +kernel
theorem d274_23 : decode b274 23 = .ok ((.bipush (-100)), 2) := by decide +kernel
theorem d274_25 : decode b274 25 = .ok ((.if_icmp .gt 47), 3) := by decide +kernel
theorem d274_28 : decode b274 28 = .ok ((.iload_n 0), 1) := by decide +kernel
theorem d274_29 : decode b274 29 = .ok ((.bipush 100), 2) := by decide +kernel
theorem d274_31 : decode b274 31 = .ok (.idiv, 1) := by decide +kernel
theorem d274_32 : decode b274 32 = .ok ((.istore_n 3), 1) := by decide +kernel
theorem d274_33 : decode b274 33 = .ok ((.iload_n 3), 1) := by decide +kernel
theorem d274_34 : decode b274 34 = .ok ((.bipush 100), 2) := by decide +kernel
theorem d274_36 : decode b274 36 = .ok (.imul, 1) := by decide +kernel
theorem d274_37 : decode b274 37 = .ok ((.iload_n 0), 1) := by decide +kernel
theorem d274_38 : decode b274 38 = .ok (.isub, 1) := by decide +kernel
theorem d274_39 : decode b274 39 = .ok ((.istore 4), 2) := by decide +kernel
theorem d274_41 : decode b274 41 = .ok ((.iload_n 3), 1) := by decide +kernel
theorem d274_42 : decode b274 42 = .ok ((.istore_n 0), 1) := by decide +kernel
theorem d274_43 : decode b274 43 = .ok ((.aload_n 2), 1) := by decide +kernel
theorem d274_44 : decode b274 44 = .ok ((.iinc 5 (-1)), 3) := by decide +kernel
theorem d274_47 : decode b274 47 = .ok ((.iload 5), 2) := by decide +kernel
theorem d274_49 : decode b274 49 = .ok ((.getstatic 83), 3) := by decide +kernel
theorem d274_52 : decode b274 52 = .ok ((.iload 4), 2) := by decide +kernel
theorem d274_54 : decode b274 54 = .ok (.baload, 1) := by decide +kernel
theorem d274_55 : decode b274 55 = .ok (.bastore, 1) := by decide +kernel
theorem d274_56 : decode b274 56 = .ok ((.aload_n 2), 1) := by decide +kernel
theorem d274_57 : decode b274 57 = .ok ((.iinc 5 (-1)), 3) := by decide +kernel
theorem d274_60 : decode b274 60 = .ok ((.iload 5), 2) := by decide +kernel
theorem d274_62 : decode b274 62 = .ok ((.getstatic 87), 3) := by decide +kernel
theorem d274_65 : decode b274 65 = .ok ((.iload 4), 2) := by decide +kernel
theorem d274_67 : decode b274 67 = .ok (.baload, 1) := by decide +kernel
theorem d274_68 : decode b274 68 = .ok (.bastore, 1) := by decide +kernel
theorem d274_69 : decode b274 69 = .ok ((.goto (-47)), 3) := by decide +kernel
theorem d274_72 : decode b274 72 = .ok ((.aload_n 2), 1) := by decide +kernel
theorem d274_73 : decode b274 73 = .ok ((.iinc 5 (-1)), 3) := by decide +kernel
theorem d274_76 : decode b274 76 = .ok ((.iload 5), 2) := by decide +kernel
theorem d274_78 : decode b274 78 = .ok ((.getstatic 83), 3) := by decide +kernel
theorem d274_81 : decode b274 81 = .ok ((.iload_n 0), 1) := by decide +kernel
theorem d274_82 : decode b274 82 = .ok (.ineg, 1) := by decide +kernel
theorem d274_83 : decode b274 83 = .ok (.baload, 1) := by decide +kernel
theorem d274_84 : decode b274 84 = .ok (.bastore, 1) := by decide +kernel
theorem d274_85 : decode b274 85 = .ok ((.iload_n 0), 1) := by decide +kernel
theorem d274_86 : decode b274 86 = .ok ((.bipush (-9)), 2) := by decide +kernel
theorem d274_88 : decode b274 88 = .ok ((.if_icmp .ge 16), 3) := by decide +kernel
theorem d274_91 : decode b274 91 = .ok ((.aload_n 2), 1) := by decide +kernel
theorem d274_92 : decode b274 92 = .ok ((.iinc 5 (-1)), 3) := by decide +kernel
theorem d274_95 : decode b274 95 = .ok ((.iload 5), 2) := by decide +kernel
theorem d274_97 : decode b274 97 = .ok ((.getstatic 87), 3) := by decide +kernel
theorem d274_100 : decode b274 100 = .ok ((.iload_n 0), 1) := by decide +kernel
theorem d274_101 : decode b274 101 = .ok (.ineg, 1) := by decide +kernel
theorem d274_102 : decode b274 102 = .ok (.baload, 1) := by decide +kernel
theorem d274_103 : decode b274 103 = .ok (.bastore, 1) := by decide +kernel
theorem d274_104 : decode b274 104 = .ok ((.iload 6), 2) := by decide +kernel
theorem d274_106 : decode b274 106 = .ok ((.ifCond .eq 12), 3) := by decide +kernel
theorem d274_109 : decode b274 109 = .ok ((.aload_n 2), 1) := by decide +kernel
theorem d274_110 : decode b274 110 = .ok ((.iinc 5 (-1)), 3) := by decide +kernel
theorem d274_113 : decode b274 113 = .ok ((.iload 5), 2) := by decide +kernel
theorem d274_115 : decode b274 115 = .ok ((.bipush 45), 2) := by decide +kernel
theorem d274_117 : decode b274 117 = .ok (.bastore, 1) := by decide +kernel
theorem d274_118 : decode b274 118 = .ok ((.iload 5), 2) := by decide +kernel
theorem d274_120 : decode b274 120 = .ok (.ireturn, 1) := by decide +kernel
set_option maxHeartbeats 1000000 in
theorem c_i_gch (l : Launch) (ρ : RH) (H : Heap) (P : Nat → Prop) (w0 e0 b q : Nat) (f : Nat → Int32) (hC : CC ρ P H) (hPb : ∀ q, P q → q < H.size) (hcell : H[b]? = some (vp_cell (rA ρ 4) (q, .inl f))) (hfit : sb_Fit f) (hw31 : w0 < 2 ^ 31) (he0 : (digs w0).length ≤ e0) (he0q : e0 ≤ q) (hq20 : q < 2 ^ 20) (hPbb : P b) : Met l y274 (wsOf y274 b274 7 (some .int)) ({ frames := 0, cells := 0, slots := 0, locals := 0 } : Room) (va_Pc [.int (nI w0), .int (nI e0), .ref b] (KP ρ H)) (mQ (fun v H1 => (∃ r : Int32, v = some (.int r)) ∧ ∃ g, H1[b]? = some (vp_cell (rA ρ 4) (q, .inl g)) ∧ GC w0 e0 f g) (fun q => q = b)) 0 0 (fun q => q = b) := by
  refine m_ofW (own := "java/lang/Integer") (plainFor_of_name rfl) rfl (Nat.le_of_ble_eq_true rfl) fun p e s m args below meth c ls hx hb hr hlk hmn X hs0 hl => ?_
  subst hs0
  have hS : va_S (fun q => q = b) s.heap s.heap [] := va_S.rf
  have hl : lv_has ls 7 [(0, .int (nI w0)), (1, .int (nI e0)), (2, .ref b)] := hl
  have key : ∀ (w1 e1 : Nat) (g : Nat → Int32) (H : Heap) (locs : List Loc) (ls : Array Slot), w1 < 2 ^ 31 → (digs w1).length ≤ e1 → e1 ≤ q → CC ρ P H → va_S (fun q => q = b) s.heap H locs → H[b]? = some (vp_cell (rA ρ 4) (q, .inl g)) → sb_Fit g → (∀ g', GC w1 e1 g g' → GC w0 e0 f g') → lv_has ls 7 [(5, .int (nI e1)), (0, .int (-nI w1)), (2, .ref b), (6, .int 0)] → W p l e ({ frames := 0, cells := 0, slots := 0, locals := 0 } : Room) s m args below meth c H locs 0 0 (MQ below (mQ (fun v H1 => (∃ r : Int32, v = some (.int r)) ∧ ∃ g, H1[b]? = some (vp_cell (rA ρ 4) (q, .inl g)) ∧ GC w0 e0 f g) (fun q => q = b)) args s 0 0 (fun q => q = b)) (F0 m 22 ls []) := by
    intro w1
    induction w1 using Nat.strongRecOn with
    | _ w1 ih =>
      intro e1 g H locs ls hw1 he1 heq hC hS hcell hfit hfin hl
      have hdl : 1 ≤ (digs w1).length := by by_cases h : w1 < 10; rw [digs_lt h]; exact Nat.le_refl _; rw [digs_ge h, List.length_append]; exact Nat.le_add_left _ _
      refine lv_iload_n (pc := 22) hx hb d274_22 rfl (lv_at hl 1 rfl) ?_
      refine lv_bipush (pc := 23) (v := (-100)) hx hb d274_23 (by decide) ?_
      refine lv_icmp_gt (pc := 25) (tgt := 72) hx hb d274_25 (by decide) (fun z25 => ?_) (fun z25 => ?_)
      · skip
        have hw100 : w1 < 100 := Nat.lt_of_not_le fun g => absurd ((sb_nle (b := 100) hw1 (by decide)).mpr g) (Int32.not_le.mpr z25)
        refine lv_aload_n (pc := 72) hx hb d274_72 rfl (lv_at hl 2 rfl) ?_
        refine lv_iinc (pc := 73) (v := (nI (e1 - 1))) (lv' := [(5, .int (nI (e1 - 1))), (0, .int (-nI w1)), (2, .ref b), (6, .int 0)]) hx hb d274_73 hl (k := 0) rfl (sb_m1 (by omega)) (by decide) rfl (fun ls hl => ?_)
        refine lv_iload (pc := 76) hx hb d274_76 (lv_at hl 0 rfl) ?_
        refine c_gets (pc := 78) X 7 (hC.2.2.1 7 _ rfl).1 rfl rfl wd499 d274_78 ?_
        refine lv_iload_n (pc := 81) hx hb d274_81 rfl (lv_at hl 1 rfl) ?_
        refine lv_ineg (pc := 82) hx hb d274_82 ?_
        refine nm_i (y := nI w1) (Int32.neg_neg.symm) ?_
        refine c_tbld (pc := 83) X 7 (hC.2.2.1 7 _ rfl) (n := 100) rfl (by decide) (inb_of (show w1 < 100 by omega) (by decide)) d274_83 ?_
        refine nm_i (y := sb_b (48 + w1 % 10)) (by rw [nI_clamp (show w1 < 2 ^ 31 by omega), tab7 _ (show w1 < 100 by omega)]) ?_
        refine o_bst (pc := 84) X hS hcell rfl (inb_of (show e1 - 1 < q by omega) (by omega)) d274_84 (fun H1 locs1 hcell hS hz hq => ?_)
        rw [nI_clamp (show e1 - 1 < 2 ^ 31 by omega), nar_b _ (by omega)] at hcell
        have hC := hC.keep (kp_one hz hq) (fun q _ e => e ▸ hPbb)
        refine lv_iload_n (pc := 85) hx hb d274_85 rfl (lv_at hl 1 rfl) ?_
        refine lv_bipush (pc := 86) (v := (-9)) hx hb d274_86 (by decide) ?_
        refine lv_icmp_ge (pc := 88) (tgt := 104) hx hb d274_88 (by decide) (fun z88 => ?_) (fun z88 => ?_)
        · skip
          have hw9 : w1 < 10 := by have := (sb_nle (a := 9) (by decide) hw1).mp z88; omega
          refine lv_iload (pc := 104) hx hb d274_104 (lv_at hl 3 rfl) ?_
          refine lv_if_eq (pc := 106) (tgt := 118) hx hb d274_106 (by decide) (fun zbr => ?_) (fun zbr => absurd (rfl) zbr)
          refine lv_iload (pc := 118) hx hb d274_118 (lv_at hl 0 rfl) ?_
          exact m_iret (pc := 120) hx hb hr hlk hS ⟨⟨_, rfl⟩, _, hcell, hfin _ (GC_1 hw9 (by omega) hfit)⟩ (Nat.le_refl _) (Nat.le_refl _) d274_120
        · skip
          have hw9 : ¬ w1 < 10 := fun g => z88 ((sb_nle (a := 9) (by decide) hw1).mpr (by omega))
          have hd2 : 2 ≤ (digs w1).length := by rw [digs_ge hw9, List.length_append, digs_lt (show w1 / 10 < 10 by omega)]; exact Nat.le_refl _
          refine lv_aload_n (pc := 91) hx hb d274_91 rfl (lv_at hl 2 rfl) ?_
          refine lv_iinc (pc := 92) (v := (nI (e1 - 1 - 1))) (lv' := [(5, .int (nI (e1 - 1 - 1))), (0, .int (-nI w1)), (2, .ref b), (6, .int 0)]) hx hb d274_92 hl (k := 0) rfl (sb_m1 (by omega)) (by decide) rfl (fun ls hl => ?_)
          refine lv_iload (pc := 95) hx hb d274_95 (lv_at hl 0 rfl) ?_
          refine c_gets (pc := 97) X 8 (hC.2.2.1 8 _ rfl).1 rfl rfl wd501 d274_97 ?_
          refine lv_iload_n (pc := 100) hx hb d274_100 rfl (lv_at hl 1 rfl) ?_
          refine lv_ineg (pc := 101) hx hb d274_101 ?_
          refine nm_i (y := nI w1) (Int32.neg_neg.symm) ?_
          refine c_tbld (pc := 102) X 8 (hC.2.2.1 8 _ rfl) (n := 100) rfl (by decide) (inb_of (show w1 < 100 by omega) (by decide)) d274_102 ?_
          refine nm_i (y := sb_b (48 + w1 / 10)) (by rw [nI_clamp (show w1 < 2 ^ 31 by omega), tab8 _ (show w1 < 100 by omega)]) ?_
          refine o_bst (pc := 103) X hS hcell rfl (inb_of (show e1 - 1 - 1 < q by omega) (by omega)) d274_103 (fun H1 locs1 hcell hS hz hq => ?_)
          rw [nI_clamp (show e1 - 1 - 1 < 2 ^ 31 by omega), nar_b _ (by omega)] at hcell
          have hC := hC.keep (kp_one hz hq) (fun q _ e => e ▸ hPbb)
          refine lv_iload (pc := 104) hx hb d274_104 (lv_at hl 3 rfl) ?_
          refine lv_if_eq (pc := 106) (tgt := 118) hx hb d274_106 (by decide) (fun zbr => ?_) (fun zbr => absurd (rfl) zbr)
          refine lv_iload (pc := 118) hx hb d274_118 (lv_at hl 0 rfl) ?_
          exact m_iret (pc := 120) hx hb hr hlk hS ⟨⟨_, rfl⟩, _, hcell, hfin _ (GC_2 hw9 hw100 (by omega) hfit)⟩ (Nat.le_refl _) (Nat.le_refl _) d274_120
      · skip
        have hw100 : 100 ≤ w1 := (sb_nle (b := 100) hw1 (by decide)).mp (Int32.not_lt.mp z25)
        have hdb : (digs w1).length = (digs (w1 / 100)).length + 2 := by rw [digs_100 hw100, List.length_append]; rfl
        refine lv_iload_n (pc := 28) hx hb d274_28 rfl (lv_at hl 1 rfl) ?_
        refine lv_bipush (pc := 29) (v := 100) hx hb d274_29 (by decide) ?_
        refine lv_idiv (pc := 31) hx hb d274_31 (by decide) ?_
        refine nm_i (y := -nI (w1 / 100)) ((sb_ndiv hw1).symm) ?_
        refine lv_istore_n (pc := 32) (lv' := [(3, .int (-nI (w1 / 100))), (5, .int (nI e1)), (0, .int (-nI w1)), (2, .ref b), (6, .int 0)]) hx hb d274_32 rfl hl (by decide) rfl (fun ls hl => ?_)
        refine lv_iload_n (pc := 33) hx hb d274_33 rfl (lv_at hl 0 rfl) ?_
        refine lv_bipush (pc := 34) (v := 100) hx hb d274_34 (by decide) ?_
        refine lv_imul (pc := 36) hx hb d274_36 ?_
        refine lv_iload_n (pc := 37) hx hb d274_37 rfl (lv_at hl 2 rfl) ?_
        refine lv_isub (pc := 38) hx hb d274_38 ?_
        refine nm_i (y := nI (w1 % 100)) ((sb_nrem hw1).symm) ?_
        refine lv_istore (pc := 39) (lv' := [(4, .int (nI (w1 % 100))), (3, .int (-nI (w1 / 100))), (5, .int (nI e1)), (0, .int (-nI w1)), (2, .ref b), (6, .int 0)]) hx hb d274_39 hl (by decide) rfl (fun ls hl => ?_)
        refine lv_iload_n (pc := 41) hx hb d274_41 rfl (lv_at hl 1 rfl) ?_
        refine lv_istore_n (pc := 42) (lv' := [(0, .int (-nI (w1 / 100))), (4, .int (nI (w1 % 100))), (3, .int (-nI (w1 / 100))), (5, .int (nI e1)), (2, .ref b), (6, .int 0)]) hx hb d274_42 rfl hl (by decide) rfl (fun ls hl => ?_)
        refine lv_aload_n (pc := 43) hx hb d274_43 rfl (lv_at hl 4 rfl) ?_
        refine lv_iinc (pc := 44) (v := (nI (e1 - 1))) (lv' := [(5, .int (nI (e1 - 1))), (0, .int (-nI (w1 / 100))), (4, .int (nI (w1 % 100))), (3, .int (-nI (w1 / 100))), (2, .ref b), (6, .int 0)]) hx hb d274_44 hl (k := 3) rfl (sb_m1 (by omega)) (by decide) rfl (fun ls hl => ?_)
        refine lv_iload (pc := 47) hx hb d274_47 (lv_at hl 0 rfl) ?_
        refine c_gets (pc := 49) X 7 (hC.2.2.1 7 _ rfl).1 rfl rfl wd499 d274_49 ?_
        refine lv_iload (pc := 52) hx hb d274_52 (lv_at hl 2 rfl) ?_
        refine c_tbld (pc := 54) X 7 (hC.2.2.1 7 _ rfl) (n := 100) rfl (by decide) (inb_of (show w1 % 100 < 100 by omega) (by decide)) d274_54 ?_
        refine nm_i (y := sb_b (48 + w1 % 100 % 10)) (by rw [nI_clamp (show w1 % 100 < 2 ^ 31 by omega), tab7 _ (show w1 % 100 < 100 by omega)]) ?_
        refine o_bst (pc := 55) X hS hcell rfl (inb_of (show e1 - 1 < q by omega) (by omega)) d274_55 (fun H1 locs1 hcell hS hz hq => ?_)
        rw [nI_clamp (show e1 - 1 < 2 ^ 31 by omega), nar_b _ (by omega)] at hcell
        have hC := hC.keep (kp_one hz hq) (fun q _ e => e ▸ hPbb)
        refine lv_aload_n (pc := 56) hx hb d274_56 rfl (lv_at hl 4 rfl) ?_
        refine lv_iinc (pc := 57) (v := (nI (e1 - 1 - 1))) (lv' := [(5, .int (nI (e1 - 1 - 1))), (0, .int (-nI (w1 / 100))), (4, .int (nI (w1 % 100))), (3, .int (-nI (w1 / 100))), (2, .ref b), (6, .int 0)]) hx hb d274_57 hl (k := 0) rfl (sb_m1 (by omega)) (by decide) rfl (fun ls hl => ?_)
        refine lv_iload (pc := 60) hx hb d274_60 (lv_at hl 0 rfl) ?_
        refine c_gets (pc := 62) X 8 (hC.2.2.1 8 _ rfl).1 rfl rfl wd501 d274_62 ?_
        refine lv_iload (pc := 65) hx hb d274_65 (lv_at hl 2 rfl) ?_
        refine c_tbld (pc := 67) X 8 (hC.2.2.1 8 _ rfl) (n := 100) rfl (by decide) (inb_of (show w1 % 100 < 100 by omega) (by decide)) d274_67 ?_
        refine nm_i (y := sb_b (48 + w1 % 100 / 10)) (by rw [nI_clamp (show w1 % 100 < 2 ^ 31 by omega), tab8 _ (show w1 % 100 < 100 by omega)]) ?_
        refine o_bst (pc := 68) X hS hcell rfl (inb_of (show e1 - 1 - 1 < q by omega) (by omega)) d274_68 (fun H1 locs1 hcell hS hz hq => ?_)
        rw [nI_clamp (show e1 - 1 - 1 < 2 ^ 31 by omega), nar_b _ (by omega)] at hcell
        have hC := hC.keep (kp_one hz hq) (fun q _ e => e ▸ hPbb)
        refine lv_goto (pc := 69) (tgt := 22) hx hb d274_69 (by decide) ?_
        exact ih (w1 / 100) (by omega) (e1 - 1 - 1) _ _ _ _ (by omega) (by omega) (by omega) hC hS hcell (sb_fitU (sb_fitU hfit (sb_fitB _)) (sb_fitB _)) (fun g' hg => hfin g' (GC_s hw100 he1 hg)) (lv_sub hl [0, 1, 4, 5] rfl)
  refine lv_iload_n (pc := 0) hx hb d274_0 rfl (lv_at hl 1 rfl) ?_
  refine lv_istore (pc := 1) (lv' := [(5, .int (nI e0)), (0, .int (nI w0)), (1, .int (nI e0)), (2, .ref b)]) hx hb d274_1 hl (by decide) rfl (fun ls hl => ?_)
  refine lv_iload_n (pc := 3) hx hb d274_3 rfl (lv_at hl 1 rfl) ?_
  refine lv_if_ge (pc := 4) (tgt := 11) hx hb d274_4 (by decide) (fun zbr => ?_) (fun zbr => absurd (nI_pos' (by omega)) zbr)
  refine lv_iconst (pc := 11) (v := 0) hx hb d274_11 (by decide) ?_
  refine lv_istore (pc := 12) (lv' := [(6, .int 0), (5, .int (nI e0)), (0, .int (nI w0)), (1, .int (nI e0)), (2, .ref b)]) hx hb d274_12 hl (by decide) rfl (fun ls hl => ?_)
  refine lv_iload (pc := 14) hx hb d274_14 (lv_at hl 0 rfl) ?_
  refine lv_if_ne (pc := 16) (tgt := 22) hx hb d274_16 (by decide) (fun zbr => absurd zbr (by decide)) (fun zbr => ?_)
  refine lv_iload_n (pc := 19) hx hb d274_19 rfl (lv_at hl 2 rfl) ?_
  refine lv_ineg (pc := 20) hx hb d274_20 ?_
  refine lv_istore_n (pc := 21) (lv' := [(0, .int (-(nI w0))), (6, .int 0), (5, .int (nI e0)), (1, .int (nI e0)), (2, .ref b)]) hx hb d274_21 rfl hl (by decide) rfl (fun ls hl => ?_)
  exact key w0 e0 f _ _ _ hw31 he0 he0q hC hS hcell hfit (fun g' hg => hg) (lv_sub hl [2, 0, 4, 1] rfl)
abbrev b252 : ByteArray := prog_14_method_32_code
theorem d252_0 : decode b252 0 = .ok ((.aload_n 0), 1) := by decide +kernel
theorem d252_1 : decode b252 1 = .ok ((.getfield 79), 3) := by decide +kernel
theorem d252_4 : decode b252 4 = .ok ((.istore_n 2), 1) := by decide +kernel
theorem d252_5 : decode b252 5 = .ok ((.iload_n 2), 1) := by decide +kernel
theorem d252_6 : decode b252 6 = .ok ((.iload_n 1), 1) := by decide +kernel
theorem d252_7 : decode b252 7 = .ok ((.invokestatic 245), 3) := by decide +kernel
theorem d252_10 : decode b252 10 = .ok (.iadd, 1) := by decide +kernel
theorem d252_11 : decode b252 11 = .ok ((.istore_n 3), 1) := by decide +kernel
theorem d252_12 : decode b252 12 = .ok ((.aload_n 0), 1) := by decide +kernel
theorem d252_13 : decode b252 13 = .ok ((.iload_n 3), 1) := by decide +kernel
theorem d252_14 : decode b252 14 = .ok ((.invokevirtual 100), 3) := by decide +kernel
theorem d252_17 : decode b252 17 = .ok ((.aload_n 0), 1) := by decide +kernel
theorem d252_18 : decode b252 18 = .ok ((.invokevirtual 83), 3) := by decide +kernel
theorem d252_21 : decode b252 21 = .ok ((.ifCond .eq 16), 3) := by decide +kernel
theorem d252_24 : decode b252 24 = .ok ((.iload_n 1), 1) := by decide +kernel
theorem d252_25 : decode b252 25 = .ok ((.iload_n 3), 1) := by decide +kernel
theorem d252_26 : decode b252 26 = .ok ((.aload_n 0), 1) := by decide +kernel
theorem d252_27 : decode b252 27 = .ok ((.getfield 15), 3) := by decide +kernel
theorem d252_30 : decode b252 30 = .ok ((.invokestatic 248), 3) := by decide +kernel
theorem d252_33 : decode b252 33 = .ok (.pop, 1) := by decide +kernel
theorem d252_34 : decode b252 34 = .ok ((.goto 14), 3) := by decide +kernel
theorem d252_37 : decode b252 37 = .ok ((.iload_n 1), 1) := by decide +kernel
theorem d252_38 : decode b252 38 = .ok ((.iload_n 2), 1) := by decide +kernel
theorem d252_39 : decode b252 39 = .ok ((.iload_n 3), 1) := by decide +kernel
theorem d252_40 : decode b252 40 = .ok ((.aload_n 0), 1) := by decide +kernel
theorem d252_41 : decode b252 41 = .ok ((.getfield 15), 3) := by decide +kernel
theorem d252_44 : decode b252 44 = .ok ((.invokestatic 251), 3) := by decide +kernel
theorem d252_47 : decode b252 47 = .ok (.pop, 1) := by decide +kernel
theorem d252_48 : decode b252 48 = .ok ((.aload_n 0), 1) := by decide +kernel
theorem d252_49 : decode b252 49 = .ok ((.iload_n 3), 1) := by decide +kernel
theorem d252_50 : decode b252 50 = .ok ((.putfield 79), 3) := by decide +kernel
theorem d252_53 : decode b252 53 = .ok ((.aload_n 0), 1) := by decide +kernel
theorem d252_54 : decode b252 54 = .ok (.areturn, 1) := by decide +kernel
set_option maxHeartbeats 1000000 in
theorem c_b_apI (l : Launch) (ρ : RH) (H : Heap) (P : Nat → Prop) (a b : Nat) (x : BT) (w0 : Nat) (hC : CC ρ P H) (hPb : ∀ q, P q → q < H.size) (hSB : SB ρ H a b x ∧ P a ∧ P b) (hw31 : w0 < 2 ^ 31) (hl16 : x.1.length + (digs w0).length < 2 ^ 16) (hq17 : x.2 < 2 ^ 17) : Met l y252 (wsOf y252 b252 4 (some (.object "java/lang/AbstractStringBuilder"))) ({ frames := 4, cells := gc x.2 (x.1.length + (digs w0).length), slots := gs x.2 (x.1.length + (digs w0).length), locals := 104 } : Room) (va_Pc [.ref a, .int (nI w0)] (KP ρ H)) (mQ (fun v H1 => v = some (.ref a) ∧ ∃ b1, (b1 = b ∨ H.size ≤ b1) ∧ b1 < H1.size ∧ SB ρ H1 a b1 (x.1 ++ digs w0, gcap x.2 (x.1.length + (digs w0).length))) (fun q => q = a ∨ q = b ∨ H.size ≤ q)) (gc x.2 (x.1.length + (digs w0).length)) (gs x.2 (x.1.length + (digs w0).length)) (fun q => q = a ∨ q = b ∨ H.size ≤ q) := by
  obtain ⟨⟨z, f, ho, hcell, hf, hfit, hch, hln, hcap, hab, hz01⟩, hPa, hPbb⟩ := hSB
  have hC0 := hC
  refine m_ofW (own := "java/lang/AbstractStringBuilder") (plainFor_of_name rfl) rfl (Nat.le_of_ble_eq_true rfl) fun p e s m args below meth c ls hx hb hr hlk hmn X hs0 hl => ?_
  subst hs0
  have hS : va_S (fun q => q = a ∨ q = b ∨ s.heap.size ≤ q) s.heap s.heap [] := va_S.rf
  have hl : lv_has ls 4 [(0, .ref a), (1, .int (nI w0))] := hl
  refine lv_aload_n (pc := 0) hx hb d252_0 rfl (lv_at hl 0 rfl) ?_
  refine o_getf (pc := 1) X ho 3 rfl rfl rfl tin10 rfl wd303 d252_1 ?_
  refine lv_istore_n (pc := 4) (lv' := [(2, .int (nI x.1.length)), (0, .ref a), (1, .int (nI w0))]) hx hb d252_4 rfl hl (by decide) rfl (fun ls hl => ?_)
  refine lv_iload_n (pc := 5) hx hb d252_5 rfl (lv_at hl 0 rfl) ?_
  refine lv_iload_n (pc := 6) hx hb d252_6 rfl (lv_at hl 2 rfl) ?_
  refine k_callS (pc := 7) (n := 1) X hS (c_i_size l ρ _ P w0 hC hPb hw31) wd495 wd493 wd494 wd26 (by decide) ⟨rfl, rfl, Nat.le_of_ble_eq_true rfl, Nat.le_of_ble_eq_true rfl⟩ (As := [.int (nI w0)]) (rest := [.int (nI x.1.length)]) rfl rfl hl.1 (Nat.le_of_ble_eq_true rfl) d252_7 ⟨(by first | omega | (dsimp only; omega)), (by first | omega | (dsimp only; omega))⟩ (fun q hq => hq.elim) (fun v H1 locs1 hv hz1 hz2 hS => ?_)
  obtain ⟨rfl, hv2⟩ := hv
  have hv3 := hv2.symm
  clear hv2
  subst hv3
  refine lv_iadd (pc := 10) hx hb d252_10 ?_
  refine nm_i (y := nI (x.1.length + (digs w0).length)) ((nI_add _ _).symm) ?_
  refine lv_istore_n (pc := 11) (lv' := [(3, .int (nI (x.1.length + (digs w0).length))), (2, .int (nI x.1.length)), (0, .ref a), (1, .int (nI w0))]) hx hb d252_11 rfl hl (by decide) rfl (fun ls hl => ?_)
  refine lv_aload_n (pc := 12) hx hb d252_12 rfl (lv_at hl 2 rfl) ?_
  refine lv_iload_n (pc := 13) hx hb d252_13 rfl (lv_at hl 0 rfl) ?_
  refine k_callV (pc := 14) (n := 1) X hS (c_b_ens l ρ _ P a b z (nI x.1.length) x.2 f (x.1.length + (digs w0).length) hC hPb ho hcell hfit hab (by omega) (by omega)) wd323 wd320 wd322 sx255 wd12 (by decide) ⟨rfl, rfl, Nat.le_of_ble_eq_true rfl, Nat.le_of_ble_eq_true rfl⟩ (S_recv X ho (ci := 10) rfl) (As := [.int (nI (x.1.length + (digs w0).length))]) (rest := []) rfl rfl hl.1 (Nat.le_of_ble_eq_true rfl) d252_14 ⟨(by first | omega | (dsimp only; omega)), (by first | omega | (dsimp only; omega))⟩ (fun q hq => hq.elim Or.inl (fun g => Or.inr (Or.inr g))) (fun v H1 locs1 hv hz1 hq1 hS => ?_)
  obtain ⟨rfl, b1, f1, hb1, ho, hcell, hk1, hfit, hab⟩ := hv
  have hkP : kp P s.heap H1 := ⟨hz1, fun q hq hn => hq1 q hq (fun z => z.elim (fun e => hn (e ▸ hPa)) (fun g => by omega))⟩
  have hC := hC.keep hkP (fun _ _ z => z)
  have hPb : ∀ q, P q → q < H1.size := fun q z => hkP.lt (hPb q z)
  have hgl := gcap_lt (n := x.1.length + (digs w0).length) (q := x.2) (by omega) (by omega)
  have hgg := gcap_ge (q := x.2) (n := x.1.length + (digs w0).length)
  have hAb : b1 = a ∨ b1 = b ∨ s.heap.size ≤ b1 := hb1.elim (fun e => Or.inr (Or.inl e)) (fun g => Or.inr (Or.inr g))
  skip
  refine lv_aload_n (pc := 17) hx hb d252_17 rfl (lv_at hl 2 rfl) ?_
  refine k_callV (pc := 18) (n := 0) X hS (c_b_latin l ρ _ P a b1 z (nI x.1.length) hC hPb ho) wd359 wd355 wd356 wd358 wd12 (by decide) ⟨rfl, rfl, Nat.le_of_ble_eq_true rfl, Nat.le_of_ble_eq_true rfl⟩ (S_recv X ho (ci := 10) rfl) (As := []) (rest := []) rfl rfl hl.1 (Nat.le_of_ble_eq_true rfl) d252_18 ⟨(by first | omega | (dsimp only; omega)), (by first | omega | (dsimp only; omega))⟩ (fun q hq => hq.elim) (fun v H1 locs1 hv hz1 hz2 hS => ?_)
  obtain ⟨rfl, hv2⟩ := hv
  have hv3 := hv2.symm
  clear hv2
  subst hv3
  refine lv_if_eq (pc := 21) (tgt := 37) hx hb d252_21 (by decide) (fun zbr => absurd zbr (by decide)) (fun zbr => ?_)
  refine lv_iload_n (pc := 24) hx hb d252_24 rfl (lv_at hl 3 rfl) ?_
  refine lv_iload_n (pc := 25) hx hb d252_25 rfl (lv_at hl 0 rfl) ?_
  refine lv_aload_n (pc := 26) hx hb d252_26 rfl (lv_at hl 2 rfl) ?_
  refine o_getf (pc := 27) X ho 0 rfl rfl rfl tin10 rfl wd300 d252_27 ?_
  have hCb : CC ρ (fun q => P q ∨ q = b1) H1 := by rcases hb1 with e9 | g9; exact hC.step (kp.rf (Z := no)) no_hz (fun q hq z => z.elim id (fun e => by rw [e, e9]; exact hPbb)); exact hC0.step hkP (fun _ _ z => z) (fun q hq z => z.elim id (fun e => by omega))
  refine k_callS (pc := 30) (n := 3) X hS (c_i_gch l ρ _ (fun q => P q ∨ q = b1) w0 (x.1.length + (digs w0).length) b1 (gcap x.2 (x.1.length + (digs w0).length)) f1 hCb (fun q z => z.elim (hPb q) (fun e => e ▸ hp_lt hcell)) hcell hfit hw31 (by omega) (by omega) (by omega) (Or.inr rfl)) wd498 wd496 wd497 wd26 (by decide) ⟨rfl, rfl, Nat.le_of_ble_eq_true rfl, Nat.le_of_ble_eq_true rfl⟩ (As := [.int (nI w0), .int (nI (x.1.length + (digs w0).length)), .ref b1]) (rest := []) rfl rfl hl.1 (Nat.le_of_ble_eq_true rfl) d252_30 ⟨(by first | omega | (dsimp only; omega)), (by first | omega | (dsimp only; omega))⟩ (fun q hq => by rw [hq]; exact hAb) (fun v H2 locs1 hv hz2 hq2 hS => ?_)
  obtain ⟨⟨r, rfl⟩, g, hcell, hg1, hg2, hgf⟩ := hv
  have ho := ho.kept (hq2 a (t_lt ho) hab)
  refine lv_pop (pc := 33) hx hb d252_33 rfl ?_
  refine lv_goto (pc := 34) (tgt := 48) hx hb d252_34 (by decide) ?_
  refine lv_aload_n (pc := 48) hx hb d252_48 rfl (lv_at hl 2 rfl) ?_
  refine lv_iload_n (pc := 49) hx hb d252_49 rfl (lv_at hl 0 rfl) ?_
  refine o_put (pc := 50) X hS ho 3 (Or.inl rfl) rfl rfl tin10 ty10 tyo10 tnm10 rfl wd303 rfl rfl rfl d252_50 (fun H1 locs1 ho1 hS hz hq => ?_)
  have ho := ho1
  have ho := ho.to sbF_3
  have hcell := (hq b1 hab.symm).trans hcell
  refine lv_aload_n (pc := 53) hx hb d252_53 rfl (lv_at hl 2 rfl) ?_
  exact m_aret (pc := 54) hx hb hr (Or.inl ⟨_, rfl⟩) hlk hS ⟨rfl, b1, hb1, hp_lt hcell, SB_app ho hcell (fun j hj => by rw [hg1 j (by omega), hk1 j (by omega), hf j hj]) (fun j hj => by have h9 := hg2 j hj; rw [Nat.add_sub_cancel] at h9; exact h9) hgf hch (digs_256 w0) (by omega) (by omega) hab hz01⟩ (by first | omega | (dsimp only; omega)) (by first | omega | (dsimp only; omega)) d252_54
theorem d303_0 : decode b303 0 = .ok ((.aload_n 0), 1) := by decide +kernel
theorem d303_1 : decode b303 1 = .ok ((.iload_n 1), 1) := by decide +kernel
theorem d303_2 : decode b303 2 = .ok ((.invokespecial 53), 3) := by decide +kernel
theorem d303_5 : decode b303 5 = .ok (.pop, 1) := by decide +kernel
theorem d303_6 : decode b303 6 = .ok ((.aload_n 0), 1) := by decide +kernel
theorem d303_7 : decode b303 7 = .ok (.areturn, 1) := by decide +kernel
set_option maxHeartbeats 1000000 in
theorem c_sb_appI (l : Launch) (ρ : RH) (H : Heap) (P : Nat → Prop) (ba bb : Nat) (x : BT) (p0 : Int32) (res : BT × Nat × Nat) (hC : CC ρ P H) (hPb : ∀ q, P q → q < H.size) (hSB : SB ρ H ba bb x ∧ P ba ∧ P bb) (h : f_sb_appI x p0 = some res) : Met l y303 (wsOf y303 b303 2 (some (.object "java/lang/StringBuilder"))) ({ frames := 12, cells := res.2.1, slots := res.2.2, locals := 600 } : Room) (va_Pc [.ref ba, .int p0] (KP ρ H)) (mQ (fun v H1 => v = some (.ref ba) ∧ ∃ b1, (b1 = bb ∨ H.size ≤ b1) ∧ b1 < H1.size ∧ SB ρ H1 ba b1 res.1) (fun q => q = ba ∨ q = bb ∨ H.size ≤ q)) res.2.1 res.2.2 (fun q => q = ba ∨ q = bb ∨ H.size ≤ q) := by
  obtain ⟨hg, h⟩ := jg_some h
  obtain ⟨w0, hw31, rfl⟩ : ∃ j : Nat, j < 2 ^ 31 ∧ p0 = nI j := nI_of (fun z => by have h1 := of_decide_eq_true hg; rw [Int32.lt_iff_toInt_lt, Int32.toInt_zero] at z; omega)
  rw [nI_clamp hw31] at h
  unfold sbAdd at h
  obtain ⟨hg2, h⟩ := jg_some h
  simp only [Bool.and_eq_true, decide_eq_true_eq] at hg2
  obtain rfl := Option.some.inj h
  refine m_ofW (own := "java/lang/StringBuilder") (plainFor_of_name rfl) rfl (Nat.le_of_ble_eq_true rfl) fun p e s m args below meth c ls hx hb hr hlk hmn X hs0 hl => ?_
  subst hs0
  have hS : va_S (fun q => q = ba ∨ q = bb ∨ s.heap.size ≤ q) s.heap s.heap [] := va_S.rf
  have hl : lv_has ls 2 [(0, .ref ba), (1, .int (nI w0))] := hl
  refine lv_aload_n (pc := 0) hx hb d303_0 rfl (lv_at hl 0 rfl) ?_
  refine lv_iload_n (pc := 1) hx hb d303_1 rfl (lv_at hl 1 rfl) ?_
  refine k_callSU (pc := 2) (n := 1) X hS 10 rfl (c_b_apI l ρ _ P ba bb x w0 hC hPb hSB hw31 hg2.1 hg2.2) wd492 wd490 wd491 wd2007 wd312 wd12 (by decide) ⟨rfl, rfl, Nat.le_of_ble_eq_true rfl, Nat.le_of_ble_eq_true rfl⟩ (sb_recv X hSB.1) (As := [.int (nI w0)]) (rest := []) rfl rfl hl.1 (Nat.le_of_ble_eq_true rfl) d303_2 ⟨(Nat.le_of_eq (Nat.zero_add _)), (Nat.le_of_eq (Nat.zero_add _))⟩ (fun q hq => hq) (fun v H1 locs1 hv hz1 hq1 hS => ?_)
  obtain ⟨rfl, b1, hb1, hlt, hSB1⟩ := hv
  refine lv_pop (pc := 5) hx hb d303_5 rfl ?_
  refine lv_aload_n (pc := 6) hx hb d303_6 rfl (lv_at hl 0 rfl) ?_
  exact m_aret (pc := 7) hx hb hr (Or.inl ⟨_, rfl⟩) hlk hS ⟨rfl, b1, hb1, hlt, hSB1⟩ (Nat.le_of_eq (Nat.zero_add _)) (Nat.le_of_eq (Nat.zero_add _)) d303_7
