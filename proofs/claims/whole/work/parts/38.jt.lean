abbrev b1 : ByteArray := prog_1_method_6_code
theorem d1_0 : decode b1 0 = .ok ((.iload_n 1), 1) := by decide +kernel
theorem d1_1 : decode b1 1 = .ok ((.ifCond .ne 11), 3) := by decide +kernel
theorem d1_4 : decode b1 4 = .ok ((.iload_n 2), 1) := by decide +kernel
theorem d1_5 : decode b1 5 = .ok ((.ifCond .ne 7), 3) := by decide +kernel
theorem d1_8 : decode b1 8 = .ok ((.iconst 1), 1) := by decide +kernel
theorem d1_9 : decode b1 9 = .ok ((.goto 4), 3) := by decide +kernel
theorem d1_12 : decode b1 12 = .ok ((.iconst 0), 1) := by decide +kernel
theorem d1_13 : decode b1 13 = .ok ((.istore_n 3), 1) := by decide +kernel
theorem d1_14 : decode b1 14 = .ok ((.iload_n 3), 1) := by decide +kernel
theorem d1_15 : decode b1 15 = .ok ((.ifCond .ne 23), 3) := by decide +kernel
theorem d1_18 : decode b1 18 = .ok ((.iload_n 1), 1) := by decide +kernel
theorem d1_19 : decode b1 19 = .ok ((.iconst 1), 1) := by decide +kernel
theorem d1_20 : decode b1 20 = .ok ((.if_icmp .lt 8), 3) := by decide +kernel
theorem d1_23 : decode b1 23 = .ok ((.iload_n 2), 1) := by decide +kernel
theorem d1_24 : decode b1 24 = .ok ((.iconst 1), 1) := by decide +kernel
theorem d1_25 : decode b1 25 = .ok ((.if_icmp .ge 13), 3) := by decide +kernel
theorem d1_28 : decode b1 28 = .ok ((.new 97), 3) := by decide +kernel
theorem d1_31 : decode b1 31 = .ok (.dup, 1) := by decide +kernel
theorem d1_32 : decode b1 32 = .ok ((.ldc 99), 2) := by decide +kernel
theorem d1_34 : decode b1 34 = .ok ((.invokespecial 101), 3) := by decide +kernel
theorem d1_37 : decode b1 37 = .ok (.athrow, 1) := by decide +kernel
theorem d1_38 : decode b1 38 = .ok ((.aload_n 0), 1) := by decide +kernel
theorem d1_39 : decode b1 39 = .ok ((.getfield 25), 3) := by decide +kernel
theorem d1_42 : decode b1 42 = .ok ((.iload_n 1), 1) := by decide +kernel
theorem d1_43 : decode b1 43 = .ok ((.iload_n 2), 1) := by decide +kernel
theorem d1_44 : decode b1 44 = .ok ((.invokevirtual 104), 3) := by decide +kernel
theorem d1_47 : decode b1 47 = .ok ((.ifCond .ne 13), 3) := by decide +kernel
theorem d1_50 : decode b1 50 = .ok ((.new 107), 3) := by decide +kernel
theorem d1_53 : decode b1 53 = .ok (.dup, 1) := by decide +kernel
theorem d1_54 : decode b1 54 = .ok ((.ldc 109), 2) := by decide +kernel
theorem d1_56 : decode b1 56 = .ok ((.invokespecial 111), 3) := by decide +kernel
theorem d1_59 : decode b1 59 = .ok (.athrow, 1) := by decide +kernel
theorem d1_60 : decode b1 60 = .ok (.return_, 1) := by decide +kernel
abbrev b2 : ByteArray := prog_1_method_11_code
theorem d2_0 : decode b2 0 = .ok ((.iload_n 1), 1) := by decide +kernel
theorem d2_1 : decode b2 1 = .ok ((.aload_n 0), 1) := by decide +kernel
theorem d2_2 : decode b2 2 = .ok ((.getfield 25), 3) := by decide +kernel
theorem d2_5 : decode b2 5 = .ok ((.getfield 147), 3) := by decide +kernel
theorem d2_8 : decode b2 8 = .ok ((.invokestatic 150), 3) := by decide +kernel
theorem d2_11 : decode b2 11 = .ok ((.ifCond .ne 13), 3) := by decide +kernel
theorem d2_14 : decode b2 14 = .ok ((.new 97), 3) := by decide +kernel
theorem d2_17 : decode b2 17 = .ok (.dup, 1) := by decide +kernel
theorem d2_18 : decode b2 18 = .ok ((.ldc 153), 2) := by decide +kernel
theorem d2_20 : decode b2 20 = .ok ((.invokespecial 101), 3) := by decide +kernel
theorem d2_23 : decode b2 23 = .ok (.athrow, 1) := by decide +kernel
theorem d2_24 : decode b2 24 = .ok ((.aload_n 0), 1) := by decide +kernel
theorem d2_25 : decode b2 25 = .ok ((.getfield 25), 3) := by decide +kernel
theorem d2_28 : decode b2 28 = .ok ((.iconst 0), 1) := by decide +kernel
theorem d2_29 : decode b2 29 = .ok ((.putfield 155), 3) := by decide +kernel
theorem d2_32 : decode b2 32 = .ok ((.iload_n 1), 1) := by decide +kernel
theorem d2_33 : decode b2 33 = .ok ((.bipush 94), 2) := by decide +kernel
theorem d2_35 : decode b2 35 = .ok ((.if_icmp .ne 17), 3) := by decide +kernel
theorem d2_38 : decode b2 38 = .ok ((.aload_n 0), 1) := by decide +kernel
theorem d2_39 : decode b2 39 = .ok ((.getfield 48), 3) := by decide +kernel
theorem d2_42 : decode b2 42 = .ok ((.aload_n 0), 1) := by decide +kernel
theorem d2_43 : decode b2 43 = .ok ((.getfield 32), 3) := by decide +kernel
theorem d2_46 : decode b2 46 = .ok ((.invokevirtual 158), 3) := by decide +kernel
theorem d2_49 : decode b2 49 = .ok ((.goto 117), 3) := by decide +kernel
theorem d2_52 : decode b2 52 = .ok ((.iload_n 1), 1) := by decide +kernel
theorem d2_53 : decode b2 53 = .ok ((.bipush 100), 2) := by decide +kernel
theorem d2_55 : decode b2 55 = .ok ((.if_icmp .ne 17), 3) := by decide +kernel
theorem d2_58 : decode b2 58 = .ok ((.aload_n 0), 1) := by decide +kernel
theorem d2_59 : decode b2 59 = .ok ((.getfield 32), 3) := by decide +kernel
theorem d2_62 : decode b2 62 = .ok ((.aload_n 0), 1) := by decide +kernel
theorem d2_63 : decode b2 63 = .ok ((.getfield 25), 3) := by decide +kernel
theorem d2_66 : decode b2 66 = .ok ((.invokevirtual 162), 3) := by decide +kernel
theorem d2_69 : decode b2 69 = .ok ((.goto 97), 3) := by decide +kernel
theorem d2_72 : decode b2 72 = .ok ((.iload_n 1), 1) := by decide +kernel
theorem d2_73 : decode b2 73 = .ok ((.bipush 90), 2) := by decide +kernel
theorem d2_75 : decode b2 75 = .ok ((.if_icmp .ge 15), 3) := by decide +kernel
theorem d2_78 : decode b2 78 = .ok ((.aload_n 0), 1) := by decide +kernel
theorem d2_79 : decode b2 79 = .ok ((.getfield 41), 3) := by decide +kernel
theorem d2_82 : decode b2 82 = .ok ((.iload_n 1), 1) := by decide +kernel
theorem d2_83 : decode b2 83 = .ok ((.invokevirtual 165), 3) := by decide +kernel
theorem d2_86 : decode b2 86 = .ok ((.astore_n 2), 1) := by decide +kernel
theorem d2_87 : decode b2 87 = .ok ((.goto 48), 3) := by decide +kernel
theorem d2_90 : decode b2 90 = .ok ((.iload_n 1), 1) := by decide +kernel
theorem d2_91 : decode b2 91 = .ok ((.bipush 101), 2) := by decide +kernel
theorem d2_93 : decode b2 93 = .ok ((.if_icmp .ge 15), 3) := by decide +kernel
theorem d2_96 : decode b2 96 = .ok ((.aload_n 0), 1) := by decide +kernel
theorem d2_97 : decode b2 97 = .ok ((.getfield 48), 3) := by decide +kernel
theorem d2_100 : decode b2 100 = .ok ((.iload_n 1), 1) := by decide +kernel
theorem d2_101 : decode b2 101 = .ok ((.invokevirtual 168), 3) := by decide +kernel
theorem d2_104 : decode b2 104 = .ok ((.astore_n 2), 1) := by decide +kernel
theorem d2_105 : decode b2 105 = .ok ((.goto 30), 3) := by decide +kernel
theorem d2_108 : decode b2 108 = .ok ((.iload_n 1), 1) := by decide +kernel
theorem d2_109 : decode b2 109 = .ok ((.bipush 119), 2) := by decide +kernel
theorem d2_111 : decode b2 111 = .ok ((.if_icmp .ge 15), 3) := by decide +kernel
theorem d2_114 : decode b2 114 = .ok ((.aload_n 0), 1) := by decide +kernel
theorem d2_115 : decode b2 115 = .ok ((.getfield 57), 3) := by decide +kernel
theorem d2_118 : decode b2 118 = .ok ((.iload_n 1), 1) := by decide +kernel
theorem d2_119 : decode b2 119 = .ok ((.invokevirtual 169), 3) := by decide +kernel
theorem d2_122 : decode b2 122 = .ok ((.astore_n 2), 1) := by decide +kernel
theorem d2_123 : decode b2 123 = .ok ((.goto 12), 3) := by decide +kernel
theorem d2_126 : decode b2 126 = .ok ((.aload_n 0), 1) := by decide +kernel
theorem d2_127 : decode b2 127 = .ok ((.getfield 64), 3) := by decide +kernel
theorem d2_130 : decode b2 130 = .ok ((.iload_n 1), 1) := by decide +kernel
theorem d2_131 : decode b2 131 = .ok ((.invokevirtual 170), 3) := by decide +kernel
theorem d2_134 : decode b2 134 = .ok ((.astore_n 2), 1) := by decide +kernel
theorem d2_135 : decode b2 135 = .ok ((.aload_n 0), 1) := by decide +kernel
theorem d2_136 : decode b2 136 = .ok ((.getfield 32), 3) := by decide +kernel
theorem d2_139 : decode b2 139 = .ok ((.aload_n 0), 1) := by decide +kernel
theorem d2_140 : decode b2 140 = .ok ((.getfield 25), 3) := by decide +kernel
theorem d2_143 : decode b2 143 = .ok ((.getfield 155), 3) := by decide +kernel
theorem d2_146 : decode b2 146 = .ok ((.ifCond .ne 7), 3) := by decide +kernel
theorem d2_149 : decode b2 149 = .ok ((.aload_n 2), 1) := by decide +kernel
theorem d2_150 : decode b2 150 = .ok ((.goto 13), 3) := by decide +kernel
theorem d2_153 : decode b2 153 = .ok ((.aload_n 0), 1) := by decide +kernel
theorem d2_154 : decode b2 154 = .ok ((.getfield 25), 3) := by decide +kernel
theorem d2_157 : decode b2 157 = .ok ((.getfield 155), 3) := by decide +kernel
theorem d2_160 : decode b2 160 = .ok ((.invokestatic 139), 3) := by decide +kernel
theorem d2_163 : decode b2 163 = .ok ((.invokevirtual 171), 3) := by decide +kernel
theorem d2_166 : decode b2 166 = .ok ((.aload_n 0), 1) := by decide +kernel
theorem d2_167 : decode b2 167 = .ok ((.getfield 25), 3) := by decide +kernel
theorem d2_170 : decode b2 170 = .ok ((.invokevirtual 175), 3) := by decide +kernel
theorem d2_173 : decode b2 173 = .ok ((.aload_n 0), 1) := by decide +kernel
theorem d2_174 : decode b2 174 = .ok ((.getfield 32), 3) := by decide +kernel
theorem d2_177 : decode b2 177 = .ok ((.invokevirtual 178), 3) := by decide +kernel
theorem d2_180 : decode b2 180 = .ok ((.ifCond .eq 16), 3) := by decide +kernel
theorem d2_183 : decode b2 183 = .ok ((.aload_n 0), 1) := by decide +kernel
theorem d2_184 : decode b2 184 = .ok ((.getfield 32), 3) := by decide +kernel
theorem d2_187 : decode b2 187 = .ok ((.getfield 182), 3) := by decide +kernel
theorem d2_190 : decode b2 190 = .ok ((.getfield 186), 3) := by decide +kernel
theorem d2_193 : decode b2 193 = .ok ((.goto 5), 3) := by decide +kernel
theorem d2_196 : decode b2 196 = .ok ((.bipush 64), 2) := by decide +kernel
theorem d2_198 : decode b2 198 = .ok (.ireturn, 1) := by decide +kernel
def f_ar_addF (st : CS) (p0 : Int32) (p1 : Int32) : Option (Int32) := jn (p0.toInt64 * p1.toInt64) (fun v1 => jb (30 ≤ (st.1 1 5)) (some 0) (jb ((lg_cmp v1 0) < 0) (some 0) (jb ((lg_cmp ((st.1 1 4).toInt64 + v1) ((512 : Int32).toInt64)) ≤ 0) (none) (some 0))))
set_option maxHeartbeats 4000000 in
set_option maxRecDepth 100000 in
theorem c_ar_addF (l : Launch) (ρ : RH) (ad : Nat → Nat) (H : Heap) (P : Nat → Prop) (st : CS) (p0 : Int32) (p1 : Int32) (res : Int32) (hW : CW ρ P ad st H) (h : f_ar_addF st p0 p1 = some res) : Met l y29 (wsOf y29 b29 7 (some .boolean)) ({ frames := 0, cells := 0, slots := 0, locals := 0 } : Room) (va_Pc [.ref (ad 1), .int p0, .int p1] (KP ρ H)) (mQ (fun v H1 => v = some (.int res) ∧ H1 = H) (fun _ => False)) 0 0 (fun _ => False) := by
  refine m_ofW (own := "WordFunctions$Arguments") (plainFor_of_name rfl) rfl (Nat.le_of_ble_eq_true rfl) fun p e s m args below meth c ls hx hb hr hlk _ X hs hl => ?_
  subst hs
  have hS : va_S (fun _ => False) s.heap s.heap [] := va_S.rf
  have hSz := hS.1
  have hPp : ∀ i, i < 46 → P (ad i) := hW.1
  have hl : lv_has ls 7 [(0, .ref (ad 1)), (1, .int p0), (2, .int p1)] := hl
  unfold f_ar_addF at h
  refine lv_iload_n (pc := 0) hx hb d29_0 rfl (lv_at hl 1 rfl) ?_
  refine lv_i2l (pc := 1) hx hb d29_1 rfl ?_
  refine lv_iload_n (pc := 2) hx hb d29_2 rfl (lv_at hl 2 rfl) ?_
  refine lv_i2l (pc := 3) hx hb d29_3 rfl ?_
  refine lv_lmul (pc := 4) hx hb d29_4 ?_
  obtain ⟨v1, ev1, h⟩ := jn_ex h
  refine nm_l ev1 ?_
  refine lv_lstore_n (pc := 5) (lv' := [(3, .long v1), (0, .ref (ad 1)), (1, .int p0), (2, .int p1)]) hx hb d29_5 rfl hl (by decide) rfl (fun ls hl => ?_)
  refine lv_aload_n (pc := 6) hx hb d29_6 rfl (lv_at hl 1 rfl) ?_
  refine c_getI (pc := 7) X hW 1 5 3 (C := "WordFunctions$Arguments") (T := T3) (N := 9) (by decide) rfl rfl rfl rfl tin3 rfl wd134 rfl d29_7 ?_
  refine lv_aload_n (pc := 10) hx hb d29_10 rfl (lv_at hl 1 rfl) ?_
  refine c_getK (pc := 11) X hW 1 3 3 41 (C := "WordFunctions$Arguments") (T := T3) (N := 9) (by decide) rfl rfl rfl rfl tin3 rfl wd132 rfl rfl d29_11 ?_
  refine c_alen (pc := 14) (v := 30) X hW 41 (by decide) rfl (by decide) (by decide) d29_14 ?_
  refine lv_icmp_ge (pc := 15) (tgt := 41) hx hb d29_15 (by decide) (fun c15 => ?_) (fun c15 => ?_)
  · have h := jb_t c15 h
    refine lv_iconst (pc := 41) (v := 0) hx hb d29_41 (by decide) ?_
    obtain rfl := Option.some.inj h
    exact m_zret (pc := 42) hx hb hr hlk hS ⟨rfl, rfl⟩ (Nat.le_refl _) (Nat.le_refl _) d29_42 (by decide)
  · have h := jb_f c15 h
    refine lv_lload_n (pc := 18) hx hb d29_18 rfl (lv_at hl 0 rfl) ?_
    refine lv_lconst (pc := 19) (v := 0) hx hb d29_19 rfl ?_
    refine W.lcmp (pc := 20) hx hb d29_20 ?_
    refine lv_if_lt (pc := 21) (tgt := 41) hx hb d29_21 (by decide) (fun c21 => ?_) (fun c21 => ?_)
    · have h := jb_t c21 h
      refine lv_iconst (pc := 41) (v := 0) hx hb d29_41 (by decide) ?_
      obtain rfl := Option.some.inj h
      exact m_zret (pc := 42) hx hb hr hlk hS ⟨rfl, rfl⟩ (Nat.le_refl _) (Nat.le_refl _) d29_42 (by decide)
    · have h := jb_f c21 h
      refine lv_aload_n (pc := 24) hx hb d29_24 rfl (lv_at hl 1 rfl) ?_
      refine c_getI (pc := 25) X hW 1 4 3 (C := "WordFunctions$Arguments") (T := T3) (N := 9) (by decide) rfl rfl rfl rfl tin3 rfl wd133 rfl d29_25 ?_
      refine lv_i2l (pc := 28) hx hb d29_28 rfl ?_
      refine lv_lload_n (pc := 29) hx hb d29_29 rfl (lv_at hl 0 rfl) ?_
      refine lv_ladd (pc := 30) hx hb d29_30 ?_
      refine lv_aload_n (pc := 31) hx hb d29_31 rfl (lv_at hl 1 rfl) ?_
      refine c_getK (pc := 32) X hW 1 2 3 40 (C := "WordFunctions$Arguments") (T := T3) (N := 9) (by decide) rfl rfl rfl rfl tin3 rfl wd131 rfl rfl d29_32 ?_
      refine c_alen (pc := 35) (v := 512) X hW 40 (by decide) rfl (by decide) (by decide) d29_35 ?_
      refine lv_i2l (pc := 36) hx hb d29_36 rfl ?_
      refine W.lcmp (pc := 37) hx hb d29_37 ?_
      refine lv_if_le (pc := 38) (tgt := 43) hx hb d29_38 (by decide) (fun c38 => ?_) (fun c38 => ?_)
      · have h := jb_t c38 h
        cases h
      · have h := jb_f c38 h
        refine lv_iconst (pc := 41) (v := 0) hx hb d29_41 (by decide) ?_
        obtain rfl := Option.some.inj h
        exact m_zret (pc := 42) hx hb hr hlk hS ⟨rfl, rfl⟩ (Nat.le_refl _) (Nat.le_refl _) d29_42 (by decide)
def wf_argument_38  (st : CS) (x1 : Int32) (x2 : Int32) : Option (CS) := jc (f_ar_add st x1 x2) (fun q1 => jb (q1.1 = 0) (none) (some q1.2))
def wf_argument_13  (st : CS) (x1 : Int32) (x2 : Int32) (z0 : Int32) : Option (CS) := jb (z0 = 0) (jb (x1 < 1) (none) (jb (1 ≤ x2) (wf_argument_38 st x1 x2) (none))) (wf_argument_38 st x1 x2)
def wf_argument_12  (st : CS) (x1 : Int32) (x2 : Int32) : Option (CS) := wf_argument_13 st x1 x2 0
def f_wf_argument (st : CS) (p0 : Int32) (p1 : Int32) : Option (CS) := jb (p0 = 0) (jb (p1 = 0) (wf_argument_13 st p0 p1 1) (wf_argument_12 st p0 p1)) (wf_argument_12 st p0 p1)
set_option maxHeartbeats 4000000 in
set_option maxRecDepth 100000 in
theorem c_wf_argument (l : Launch) (ρ : RH) (ad : Nat → Nat) (H : Heap) (P : Nat → Prop) (st : CS) (p0 : Int32) (p1 : Int32) (res : CS) (hW : CW ρ P ad st H) (h : f_wf_argument st p0 p1 = some res) : Met l y1 (wsOf y1 b1 4 none) ({ frames := 1, cells := 0, slots := 0, locals := 26 } : Room) (va_Pc [.ref (ad 0), .int p0, .int p1] (KP ρ H)) (mQ (fun v H1 => v = none ∧ CW ρ P ad res H1) (MA wC ad H.size)) 0 0 (MA wC ad H.size) := by
  refine m_ofW (own := "WordFunctions") (plainFor_of_name rfl) rfl (Nat.le_of_ble_eq_true rfl) fun p e s m args below meth c ls hx hb hr hlk _ X hs hl => ?_
  subst hs
  have hS : va_S (MA wC ad s.heap.size) s.heap s.heap [] := va_S.rf
  have hSz := hS.1
  have hAz : ∀ q, s.heap.size ≤ q → (MA wC ad s.heap.size) q := fun q hq => Or.inr hq
  have hAp : ∀ i, i < 46 → (MA wC ad s.heap.size) (ad i) := fun i hi => MA.in hi
  have hPp : ∀ i, i < 46 → P (ad i) := hW.1
  have hl : lv_has ls 4 [(0, .ref (ad 0)), (1, .int p0), (2, .int p1)] := hl
  have kc38 : ∀ (st : CS) (x1 : Int32) (x2 : Int32) (H : Heap) (locs : List Loc) (ls : Array Slot), CW ρ P ad st H → va_S (MA wC ad s.heap.size) s.heap H locs → lv_has ls 4 [(0, .ref (ad 0)), (1, .int x1), (2, .int x2)] → wf_argument_38 st x1 x2 = some res → W p l e ({ frames := 1, cells := 0, slots := 0, locals := 26 } : Room) s m args below meth c H locs 0 0 (MQ below (mQ (fun v H1 => v = none ∧ CW ρ P ad res H1) (MA wC ad s.heap.size)) args s 0 0 (MA wC ad s.heap.size)) (F0 m 38 ls []) := by
    intro st x1 x2 H locs ls hW hS hl h
    have hSz := hS.1
    unfold wf_argument_38 at h
    refine lv_aload_n (pc := 38) hx hb d1_38 rfl (lv_at hl 0 rfl) ?_
    refine c_getK (pc := 39) X hW 0 3 9 1 (C := "WordFunctions") (T := T9) (N := 9) (by decide) rfl rfl rfl rfl tin9 rfl wd245 rfl rfl d1_39 ?_
    refine lv_iload_n (pc := 42) hx hb d1_42 rfl (lv_at hl 1 rfl) ?_
    refine lv_iload_n (pc := 43) hx hb d1_43 rfl (lv_at hl 2 rfl) ?_
    obtain ⟨q1, hq1, h⟩ := jc_some h
    refine k_callV (pc := 44) (n := 2) X hS (c_ar_add l ρ ad _ P st x1 x2 q1 hW  hq1) wd710 wd707 wd708 wd709 wd3 (by decide) ⟨rfl, rfl, Nat.le_of_ble_eq_true rfl, Nat.le_of_ble_eq_true rfl⟩ (c_recv X hW 1 3 (by decide) rfl rfl) (As := [.int x1, .int x2]) (rest := []) rfl rfl hl.1 (Nat.le_of_ble_eq_true rfl) d1_44 ⟨Nat.le_refl _, Nat.le_refl _⟩ (fun q hq => MA.mono hS.1 hq) (fun v H1 locs1 hv hz1 hz2 hSq1 => ?_)
    have hPq := hW.1
    obtain ⟨rfl, hW⟩ := hv
    have hS := hSq1
    have hSz := hS.1
    refine lv_if_ne (pc := 47) (tgt := 60) hx hb d1_47 (by decide) (fun c47 => ?_) (fun c47 => ?_)
    · have h := jb_f c47 h
      obtain rfl := Option.some.inj h
      exact m_vret (pc := 60) hx hb hr hlk hS ⟨rfl, hW⟩ (Nat.le_refl _) (Nat.le_refl _) d1_60
    · have h := jb_t c47 h
      cases h
  have kc13 : ∀ (st : CS) (x1 : Int32) (x2 : Int32) (z0 : Int32) (H : Heap) (locs : List Loc) (ls : Array Slot), CW ρ P ad st H → va_S (MA wC ad s.heap.size) s.heap H locs → lv_has ls 4 [(0, .ref (ad 0)), (1, .int x1), (2, .int x2)] → wf_argument_13 st x1 x2 z0 = some res → W p l e ({ frames := 1, cells := 0, slots := 0, locals := 26 } : Room) s m args below meth c H locs 0 0 (MQ below (mQ (fun v H1 => v = none ∧ CW ρ P ad res H1) (MA wC ad s.heap.size)) args s 0 0 (MA wC ad s.heap.size)) (F0 m 13 ls [.int z0]) := by
    intro st x1 x2 z0 H locs ls hW hS hl h
    have hSz := hS.1
    unfold wf_argument_13 at h
    refine lv_istore_n (pc := 13) (lv' := [(3, .int z0), (0, .ref (ad 0)), (1, .int x1), (2, .int x2)]) hx hb d1_13 rfl hl (by decide) rfl (fun ls hl => ?_)
    refine lv_iload_n (pc := 14) hx hb d1_14 rfl (lv_at hl 0 rfl) ?_
    refine lv_if_ne (pc := 15) (tgt := 38) hx hb d1_15 (by decide) (fun c15 => ?_) (fun c15 => ?_)
    · have h := jb_f c15 h
      exact kc38   st x1 x2 _ _ _ hW hS (lv_sub hl [1, 2, 3] rfl) h
    · have h := jb_t c15 h
      refine lv_iload_n (pc := 18) hx hb d1_18 rfl (lv_at hl 2 rfl) ?_
      refine lv_iconst (pc := 19) (v := 1) hx hb d1_19 (by decide) ?_
      refine lv_icmp_lt (pc := 20) (tgt := 28) hx hb d1_20 (by decide) (fun c20 => ?_) (fun c20 => ?_)
      · have h := jb_t c20 h
        cases h
      · have h := jb_f c20 h
        refine lv_iload_n (pc := 23) hx hb d1_23 rfl (lv_at hl 3 rfl) ?_
        refine lv_iconst (pc := 24) (v := 1) hx hb d1_24 (by decide) ?_
        refine lv_icmp_ge (pc := 25) (tgt := 38) hx hb d1_25 (by decide) (fun c25 => ?_) (fun c25 => ?_)
        · have h := jb_t c25 h
          exact kc38   st x1 x2 _ _ _ hW hS (lv_sub hl [1, 2, 3] rfl) h
        · have h := jb_f c25 h
          cases h
  have kc12 : ∀ (st : CS) (x1 : Int32) (x2 : Int32) (H : Heap) (locs : List Loc) (ls : Array Slot), CW ρ P ad st H → va_S (MA wC ad s.heap.size) s.heap H locs → lv_has ls 4 [(0, .ref (ad 0)), (1, .int x1), (2, .int x2)] → wf_argument_12 st x1 x2 = some res → W p l e ({ frames := 1, cells := 0, slots := 0, locals := 26 } : Room) s m args below meth c H locs 0 0 (MQ below (mQ (fun v H1 => v = none ∧ CW ρ P ad res H1) (MA wC ad s.heap.size)) args s 0 0 (MA wC ad s.heap.size)) (F0 m 12 ls []) := by
    intro st x1 x2 H locs ls hW hS hl h
    have hSz := hS.1
    unfold wf_argument_12 at h
    refine lv_iconst (pc := 12) (v := 0) hx hb d1_12 (by decide) ?_
    exact kc13   st x1 x2 0 _ _ _ hW hS (lv_sub hl [0, 1, 2] rfl) h
  unfold f_wf_argument at h
  refine lv_iload_n (pc := 0) hx hb d1_0 rfl (lv_at hl 1 rfl) ?_
  refine lv_if_ne (pc := 1) (tgt := 12) hx hb d1_1 (by decide) (fun c1 => ?_) (fun c1 => ?_)
  · have h := jb_f c1 h
    exact kc12   st p0 p1 _ _ _ hW hS (lv_sub hl [0, 1, 2] rfl) h
  · have h := jb_t c1 h
    refine lv_iload_n (pc := 4) hx hb d1_4 rfl (lv_at hl 2 rfl) ?_
    refine lv_if_ne (pc := 5) (tgt := 12) hx hb d1_5 (by decide) (fun c5 => ?_) (fun c5 => ?_)
    · have h := jb_f c5 h
      exact kc12   st p0 p1 _ _ _ hW hS (lv_sub hl [0, 1, 2] rfl) h
    · have h := jb_t c5 h
      refine lv_iconst (pc := 8) (v := 1) hx hb d1_8 (by decide) ?_
      refine lv_goto (pc := 9) (tgt := 13) hx hb d1_9 (by decide) ?_
      exact kc13   st p0 p1 1 _ _ _ hW hS (lv_sub hl [0, 1, 2] rfl) h
def wf_call_166  (st : CS) : Option ((Int32 × CS) × Nat × Nat) := jc (f_ar_clear st) (fun q1 => jc (f_an_isOne q1) (fun q2 => jb (q2 = 0) (some ((64, q1), 0, 0)) (some (((q1.2 2 3).1, q1), 0, 0))))
def wf_call_163  (st : CS) (z1 : VV) : Option ((Int32 × CS) × Nat × Nat) := jc (f_an_become st z1) (fun q4 => wf_call_166 q4)
def wf_call_135  (st : CS) (x2 : VV) : Option ((Int32 × CS) × Nat × Nat) := jb ((st.1 1 6) = 0) (wf_call_163 st x2) (jd (f_vl_ofError (st.1 1 6)) (fun q5 => wf_call_163 st q5))
def f_wf_call (st : CS) (p0 : Int32) : Option ((Int32 × CS) × Nat × Nat) := jc (f_wf_isFor p0 (st.1 1 5)) (fun q7 => jb (q7 = 0) (none) (jn (uC st 1 6 0) (fun st8 => jb (p0 = 94) (jd (f_lu_index st8) (fun q18 => wf_call_166 q18)) (jb (p0 = 100) (jc (f_an_transpose st8) (fun q17 => wf_call_166 q17)) (jb (90 ≤ p0) (jb (101 ≤ p0) (jb (119 ≤ p0) (jd (f_ki_of st8 p0) (fun q9 => wf_call_135 q9.2 q9.1)) (jd (f_da_of st8 p0) (fun q11 => wf_call_135 q11.2 q11.1))) (jd (f_lu_of st8 p0) (fun q13 => wf_call_135 q13.2 q13.1))) (jd (f_tx_of st8 p0) (fun q15 => wf_call_135 q15.2 q15.1)))))))
set_option maxHeartbeats 4000000 in
set_option maxRecDepth 100000 in
theorem c_wf_call (l : Launch) (ρ : RH) (ad : Nat → Nat) (H : Heap) (P : Nat → Prop) (st : CS) (p0 : Int32) (res : (Int32 × CS) × Nat × Nat) (hW : CW ρ P ad st H) (h : f_wf_call st p0 = some res) : Met l y2 (wsOf y2 b2 3 (some .int)) ({ frames := 19, cells := res.2.1, slots := res.2.2, locals := 771 } : Room) (va_Pc [.ref (ad 0), .int p0] (KP ρ H)) (mQ (fun v H1 => v = some (.int res.1.1) ∧ CW ρ P ad res.1.2 H1) (MA wC ad H.size)) res.2.1 res.2.2 (MA wC ad H.size) := by
  refine m_ofW (own := "WordFunctions") (plainFor_of_name rfl) rfl (Nat.le_of_ble_eq_true rfl) fun p e s m args below meth c ls hx hb hr hlk _ X hs hl => ?_
  subst hs
  have hS : va_S (MA wC ad s.heap.size) s.heap s.heap [] := va_S.rf
  have hSz := hS.1
  have hAz : ∀ q, s.heap.size ≤ q → (MA wC ad s.heap.size) q := fun q hq => Or.inr hq
  have hAp : ∀ i, i < 46 → (MA wC ad s.heap.size) (ad i) := fun i hi => MA.in hi
  have hPp : ∀ i, i < 46 → P (ad i) := hW.1
  have hl : lv_has ls 3 [(0, .ref (ad 0)), (1, .int p0)] := hl
  have kc166 : ∀ (st : CS) (H : Heap) (locs : List Loc) (ls : Array Slot) (cells slots : Nat) (r : (Int32 × CS) × Nat × Nat), CW ρ P ad st H → va_S (MA wC ad s.heap.size) s.heap H locs → lv_has ls 3 [(0, .ref (ad 0))] → res.1 = r.1 → cells + r.2.1 ≤ res.2.1 → slots + r.2.2 ≤ res.2.2 → wf_call_166 st = some r → W p l e ({ frames := 19, cells := res.2.1, slots := res.2.2, locals := 771 } : Room) s m args below meth c H locs cells slots (MQ below (mQ (fun v H1 => v = some (.int res.1.1) ∧ CW ρ P ad res.1.2 H1) (MA wC ad s.heap.size)) args s res.2.1 res.2.2 (MA wC ad s.heap.size)) (F0 m 166 ls []) := by
    intro st H locs ls cells slots r hW hS hl her hc1 hs1 h
    have hSz := hS.1
    unfold wf_call_166 at h
    refine lv_aload_n (pc := 166) hx hb d2_166 rfl (lv_at hl 0 rfl) ?_
    refine c_getK (pc := 167) X hW 0 3 9 1 (C := "WordFunctions") (T := T9) (N := 9) (by decide) rfl rfl rfl rfl tin9 rfl wd245 rfl rfl d2_167 ?_
    obtain ⟨q1, hq1, h⟩ := jc_some h
    refine k_callV (pc := 170) (n := 0) X hS (c_ar_clear l ρ ad _ P st  q1 hW  hq1) wd1353 wd1350 wd1351 wd1352 wd3 (by decide) ⟨rfl, rfl, Nat.le_of_ble_eq_true rfl, Nat.le_of_ble_eq_true rfl⟩ (c_recv X hW 1 3 (by decide) rfl rfl) (As := []) (rest := []) rfl rfl hl.1 (Nat.le_of_ble_eq_true rfl) d2_170 ⟨room_l0 hc1, room_l0 hs1⟩ (fun q hq => MA.mono hS.1 hq) (fun v H1 locs1 hv hz1 hz2 hSq1 => ?_)
    have hPq := hW.1
    obtain ⟨rfl, hW⟩ := hv
    have hS := hSq1
    have hSz := hS.1
    refine lv_aload_n (pc := 173) hx hb d2_173 rfl (lv_at hl 0 rfl) ?_
    refine c_getK (pc := 174) X hW 0 4 9 2 (C := "WordFunctions") (T := T9) (N := 9) (by decide) rfl rfl rfl rfl tin9 rfl wd246 rfl rfl d2_174 ?_
    obtain ⟨q2, hq2, h⟩ := jc_some h
    refine k_callV (pc := 177) (n := 0) X hS (c_an_isOne l ρ ad _ P q1  q2 hW  hq2) wd1357 wd1354 wd1355 wd1356 wd6 (by decide) ⟨rfl, rfl, Nat.le_of_ble_eq_true rfl, Nat.le_of_ble_eq_true rfl⟩ (c_recv X hW 2 4 (by decide) rfl rfl) (As := []) (rest := []) rfl rfl hl.1 (Nat.le_of_ble_eq_true rfl) d2_177 ⟨room_l0 hc1, room_l0 hs1⟩ (fun q hq => False.elim hq) (fun v H1 locs1 hv _ _ hSq2 => ?_)
    obtain ⟨rfl, rfl⟩ := hv
    have hS := hSq2
    have hSz := hS.1
    refine lv_if_eq (pc := 180) (tgt := 196) hx hb d2_180 (by decide) (fun c180 => ?_) (fun c180 => ?_)
    · have h := jb_t c180 h
      refine lv_bipush (pc := 196) (v := 64) hx hb d2_196 (by decide) ?_
      have her : res.1 = (64, q1) := her.trans (congrArg Prod.fst (Option.some.inj h)).symm
      exact m_iret (pc := 198) hx hb hr hlk hS ⟨by rw [her], by rw [her]; exact hW⟩ (Nat.le_trans (Nat.le_add_right _ _) hc1) (Nat.le_trans (Nat.le_add_right _ _) hs1) d2_198
    · have h := jb_f c180 h
      refine lv_aload_n (pc := 183) hx hb d2_183 rfl (lv_at hl 0 rfl) ?_
      refine c_getK (pc := 184) X hW 0 4 9 2 (C := "WordFunctions") (T := T9) (N := 9) (by decide) rfl rfl rfl rfl tin9 rfl wd246 rfl rfl d2_184 ?_
      refine c_gettold (pc := 187) X hW wd180 d2_187 (fun u3 fu3 => ?_)
      refine v_kind (pc := 190) X fu3 wd78 d2_190 ?_
      refine lv_goto (pc := 193) (tgt := 198) hx hb d2_193 (by decide) ?_
      have her : res.1 = ((q1.2 2 3).1, q1) := her.trans (congrArg Prod.fst (Option.some.inj h)).symm
      exact m_iret (pc := 198) hx hb hr hlk hS ⟨by rw [her], by rw [her]; exact hW⟩ (Nat.le_trans (Nat.le_add_right _ _) hc1) (Nat.le_trans (Nat.le_add_right _ _) hs1) d2_198
  have kc163 : ∀ (st : CS) (z1 : VV) (az1 : Nat) (H : Heap) (locs : List Loc) (ls : Array Slot) (cells slots : Nat) (r : (Int32 × CS) × Nat × Nat), CW ρ P ad st H → va_S (MA wC ad s.heap.size) s.heap H locs → isV ρ P H az1 z1 → lv_has ls 3 [(0, .ref (ad 0))] → res.1 = r.1 → cells + r.2.1 ≤ res.2.1 → slots + r.2.2 ≤ res.2.2 → wf_call_163 st z1 = some r → W p l e ({ frames := 19, cells := res.2.1, slots := res.2.2, locals := 771 } : Room) s m args below meth c H locs cells slots (MQ below (mQ (fun v H1 => v = some (.int res.1.1) ∧ CW ρ P ad res.1.2 H1) (MA wC ad s.heap.size)) args s res.2.1 res.2.2 (MA wC ad s.heap.size)) (F0 m 163 ls [.ref az1, .ref (ad 2)]) := by
    intro st z1 az1 H locs ls cells slots r hW hS faz1 hl her hc1 hs1 h
    have hSz := hS.1
    unfold wf_call_163 at h
    obtain ⟨q4, hq4, h⟩ := jc_some h
    refine k_callV (pc := 163) (n := 1) X hS (c_an_become l ρ ad _ P st az1 z1 q4 hW faz1 hq4) wd840 wd1349 wd838 wd839 wd6 (by decide) ⟨rfl, rfl, Nat.le_of_ble_eq_true rfl, Nat.le_of_ble_eq_true rfl⟩ (c_recv X hW 2 4 (by decide) rfl rfl) (As := [.ref az1]) (rest := []) rfl rfl hl.1 (Nat.le_of_ble_eq_true rfl) d2_163 ⟨room_l0 hc1, room_l0 hs1⟩ (fun q hq => MA.mono hS.1 hq) (fun v H1 locs1 hv hz1 hz2 hSq4 => ?_)
    have hPq := hW.1
    obtain ⟨rfl, hW⟩ := hv
    have hS := hSq4
    have hSz := hS.1
    exact kc166   q4 _ _ _ _ _ _ hW hS (lv_sub hl [0] rfl) her hc1 hs1 h
  have kc135 : ∀ (st : CS) (x2 : VV) (ax2 : Nat) (H : Heap) (locs : List Loc) (ls : Array Slot) (cells slots : Nat) (r : (Int32 × CS) × Nat × Nat), CW ρ P ad st H → va_S (MA wC ad s.heap.size) s.heap H locs → isV ρ P H ax2 x2 → lv_has ls 3 [(0, .ref (ad 0)), (2, .ref ax2)] → res.1 = r.1 → cells + r.2.1 ≤ res.2.1 → slots + r.2.2 ≤ res.2.2 → wf_call_135 st x2 = some r → W p l e ({ frames := 19, cells := res.2.1, slots := res.2.2, locals := 771 } : Room) s m args below meth c H locs cells slots (MQ below (mQ (fun v H1 => v = some (.int res.1.1) ∧ CW ρ P ad res.1.2 H1) (MA wC ad s.heap.size)) args s res.2.1 res.2.2 (MA wC ad s.heap.size)) (F0 m 135 ls []) := by
    intro st x2 ax2 H locs ls cells slots r hW hS fax2 hl her hc1 hs1 h
    have hSz := hS.1
    unfold wf_call_135 at h
    refine lv_aload_n (pc := 135) hx hb d2_135 rfl (lv_at hl 0 rfl) ?_
    refine c_getK (pc := 136) X hW 0 4 9 2 (C := "WordFunctions") (T := T9) (N := 9) (by decide) rfl rfl rfl rfl tin9 rfl wd246 rfl rfl d2_136 ?_
    refine lv_aload_n (pc := 139) hx hb d2_139 rfl (lv_at hl 0 rfl) ?_
    refine c_getK (pc := 140) X hW 0 3 9 1 (C := "WordFunctions") (T := T9) (N := 9) (by decide) rfl rfl rfl rfl tin9 rfl wd245 rfl rfl d2_140 ?_
    refine c_getI (pc := 143) X hW 1 6 3 (C := "WordFunctions$Arguments") (T := T3) (N := 9) (by decide) rfl rfl rfl rfl tin3 rfl wd139 rfl d2_143 ?_
    refine lv_if_ne (pc := 146) (tgt := 153) hx hb d2_146 (by decide) (fun c146 => ?_) (fun c146 => ?_)
    · have h := jb_f c146 h
      refine lv_aload_n (pc := 153) hx hb d2_153 rfl (lv_at hl 0 rfl) ?_
      refine c_getK (pc := 154) X hW 0 3 9 1 (C := "WordFunctions") (T := T9) (N := 9) (by decide) rfl rfl rfl rfl tin9 rfl wd245 rfl rfl d2_154 ?_
      refine c_getI (pc := 157) X hW 1 6 3 (C := "WordFunctions$Arguments") (T := T3) (N := 9) (by decide) rfl rfl rfl rfl tin3 rfl wd139 rfl d2_157 ?_
      obtain ⟨q5, rq5, hq5, h, herq5, hccq5, hssq5⟩ := jd_some h
      refine k_callS (pc := 160) (n := 1) X hS (c_vl_ofError l ρ _ P (st.1 1 6) q5 hW.2.2.1 hW.2.1  hq5) wd651 wd649 wd650 wd4 (by decide) ⟨rfl, rfl, Nat.le_of_ble_eq_true rfl, Nat.le_of_ble_eq_true rfl⟩ (As := [.int (st.1 1 6)]) (rest := [.ref (ad 2)]) rfl rfl hl.1 (Nat.le_of_ble_eq_true rfl) d2_160 ⟨room_le hccq5 hc1, room_le hssq5 hs1⟩ (fun q hq => hAz q (Nat.le_trans hS.1 hq)) (fun v H1 locs1 hv hz1 hz2 hSq5 => ?_)
      obtain ⟨u6, rfl, fu6⟩ := hv
      have hk : kp no _ H1 := kp_call hz1 hz2 (fun q hq z => absurd hq (Nat.not_lt.mpr z))
      have hW := hW.keep hk no_hz (fun _ _ z => z)
      have hS := hSq5
      have hSz := hS.1
      have her := her.trans herq5
      have hc1 := room_st hccq5 hc1
      have hs1 := room_st hssq5 hs1
      exact kc163   st q5.1 u6 _ _ _ _ _ _ hW hS fu6 (lv_sub hl [0] rfl) her hc1 hs1 h
    · have h := jb_t c146 h
      refine lv_aload_n (pc := 149) hx hb d2_149 rfl (lv_at hl 1 rfl) ?_
      refine lv_goto (pc := 150) (tgt := 163) hx hb d2_150 (by decide) ?_
      exact kc163   st x2 ax2 _ _ _ _ _ _ hW hS fax2 (lv_sub hl [0] rfl) her hc1 hs1 h
  have her : res.1 = res.1 := rfl
  have hc1 : 0 + res.2.1 ≤ res.2.1 := Nat.le_of_eq (Nat.zero_add _)
  have hs1 : 0 + res.2.2 ≤ res.2.2 := Nat.le_of_eq (Nat.zero_add _)
  unfold f_wf_call at h
  refine lv_iload_n (pc := 0) hx hb d2_0 rfl (lv_at hl 1 rfl) ?_
  refine lv_aload_n (pc := 1) hx hb d2_1 rfl (lv_at hl 0 rfl) ?_
  refine c_getK (pc := 2) X hW 0 3 9 1 (C := "WordFunctions") (T := T9) (N := 9) (by decide) rfl rfl rfl rfl tin9 rfl wd245 rfl rfl d2_2 ?_
  refine c_getI (pc := 5) X hW 1 5 3 (C := "WordFunctions$Arguments") (T := T3) (N := 9) (by decide) rfl rfl rfl rfl tin3 rfl wd135 rfl d2_5 ?_
  obtain ⟨q7, hq7, h⟩ := jc_some h
  refine k_callS (pc := 8) (n := 2) X hS (c_wf_isFor l ρ _ P p0 (st.1 1 5) q7 hW.2.2.1 hW.2.1  hq7) wd736 wd734 wd735 wd1 (by decide) ⟨rfl, rfl, Nat.le_of_ble_eq_true rfl, Nat.le_of_ble_eq_true rfl⟩ (As := [.int p0, .int (st.1 1 5)]) (rest := []) rfl rfl hl.1 (Nat.le_of_ble_eq_true rfl) d2_8 ⟨room_l0 hc1, room_l0 hs1⟩ (fun q hq => False.elim hq) (fun v H1 locs1 hv _ _ hSq7 => ?_)
  obtain ⟨rfl, rfl⟩ := hv
  have hS := hSq7
  have hSz := hS.1
  refine lv_if_ne (pc := 11) (tgt := 24) hx hb d2_11 (by decide) (fun c11 => ?_) (fun c11 => ?_)
  · have h := jb_f c11 h
    refine lv_aload_n (pc := 24) hx hb d2_24 rfl (lv_at hl 0 rfl) ?_
    refine c_getK (pc := 25) X hW 0 3 9 1 (C := "WordFunctions") (T := T9) (N := 9) (by decide) rfl rfl rfl rfl tin9 rfl wd245 rfl rfl d2_25 ?_
    refine lv_iconst (pc := 28) (v := 0) hx hb d2_28 (by decide) ?_
    obtain ⟨st8, est8, h⟩ := jn_ex h
    refine c_putI (pc := 29) X hW hS 1 6 3 (C := "WordFunctions$Arguments") (T := T3) (N := 9) est8 (hAp _ (by decide)) (by decide) rfl rfl rfl rfl tin3 ty3 tyo3 tnm3 rfl wd139 rfl rfl rfl rfl d2_29 (fun H locs hW hS hk => ?_)
    have hSz := hS.1
    refine lv_iload_n (pc := 32) hx hb d2_32 rfl (lv_at hl 1 rfl) ?_
    refine lv_bipush (pc := 33) (v := 94) hx hb d2_33 (by decide) ?_
    refine lv_icmp_ne (pc := 35) (tgt := 52) hx hb d2_35 (by decide) (fun c35 => ?_) (fun c35 => ?_)
    · have h := jb_f c35 h
      refine lv_iload_n (pc := 52) hx hb d2_52 rfl (lv_at hl 1 rfl) ?_
      refine lv_bipush (pc := 53) (v := 100) hx hb d2_53 (by decide) ?_
      refine lv_icmp_ne (pc := 55) (tgt := 72) hx hb d2_55 (by decide) (fun c55 => ?_) (fun c55 => ?_)
      · have h := jb_f c55 h
        refine lv_iload_n (pc := 72) hx hb d2_72 rfl (lv_at hl 1 rfl) ?_
        refine lv_bipush (pc := 73) (v := 90) hx hb d2_73 (by decide) ?_
        refine lv_icmp_ge (pc := 75) (tgt := 90) hx hb d2_75 (by decide) (fun c75 => ?_) (fun c75 => ?_)
        · have h := jb_t c75 h
          refine lv_iload_n (pc := 90) hx hb d2_90 rfl (lv_at hl 1 rfl) ?_
          refine lv_bipush (pc := 91) (v := 101) hx hb d2_91 (by decide) ?_
          refine lv_icmp_ge (pc := 93) (tgt := 108) hx hb d2_93 (by decide) (fun c93 => ?_) (fun c93 => ?_)
          · have h := jb_t c93 h
            refine lv_iload_n (pc := 108) hx hb d2_108 rfl (lv_at hl 1 rfl) ?_
            refine lv_bipush (pc := 109) (v := 119) hx hb d2_109 (by decide) ?_
            refine lv_icmp_ge (pc := 111) (tgt := 126) hx hb d2_111 (by decide) (fun c111 => ?_) (fun c111 => ?_)
            · have h := jb_t c111 h
              refine lv_aload_n (pc := 126) hx hb d2_126 rfl (lv_at hl 0 rfl) ?_
              refine c_getK (pc := 127) X hW 0 8 9 6 (C := "WordFunctions") (T := T9) (N := 9) (by decide) rfl rfl rfl rfl tin9 rfl wd250 rfl rfl d2_127 ?_
              refine lv_iload_n (pc := 130) hx hb d2_130 rfl (lv_at hl 1 rfl) ?_
              obtain ⟨q9, rq9, hq9, h, herq9, hccq9, hssq9⟩ := jd_some h
              refine k_callV (pc := 131) (n := 1) X hS (c_ki_of l ρ ad _ P st8 p0 q9 hW  hq9) wd1336 wd1333 wd1334 wd1335 wd10 (by decide) ⟨rfl, rfl, Nat.le_of_ble_eq_true rfl, Nat.le_of_ble_eq_true rfl⟩ (c_recv X hW 6 8 (by decide) rfl rfl) (As := [.int p0]) (rest := []) rfl rfl hl.1 (Nat.le_of_ble_eq_true rfl) d2_131 ⟨room_le hccq9 hc1, room_le hssq9 hs1⟩ (fun q hq => MA.mono hS.1 hq) (fun v H1 locs1 hv hz1 hz2 hSq9 => ?_)
              have hPq := hW.1
              obtain ⟨u10, rfl, fu10, hW⟩ := hv
              have hS := hSq9
              have hSz := hS.1
              have her := her.trans herq9
              have hc1 := room_st hccq9 hc1
              have hs1 := room_st hssq9 hs1
              refine lv_astore_n (pc := 134) (lv' := [(2, .ref u10), (0, .ref (ad 0)), (1, .int p0)]) hx hb d2_134 rfl hl (by decide) rfl (fun ls hl => ?_)
              exact kc135   q9.1.2 q9.1.1 u10 _ _ _ _ _ _ hW hS fu10 (lv_sub hl [1, 0] rfl) her hc1 hs1 h
            · have h := jb_f c111 h
              refine lv_aload_n (pc := 114) hx hb d2_114 rfl (lv_at hl 0 rfl) ?_
              refine c_getK (pc := 115) X hW 0 7 9 5 (C := "WordFunctions") (T := T9) (N := 9) (by decide) rfl rfl rfl rfl tin9 rfl wd249 rfl rfl d2_115 ?_
              refine lv_iload_n (pc := 118) hx hb d2_118 rfl (lv_at hl 1 rfl) ?_
              obtain ⟨q11, rq11, hq11, h, herq11, hccq11, hssq11⟩ := jd_some h
              refine k_callV (pc := 119) (n := 1) X hS (c_da_of l ρ ad _ P st8 p0 q11 hW  hq11) wd1185 wd1182 wd1183 wd1184 wd9 (by decide) ⟨rfl, rfl, Nat.le_of_ble_eq_true rfl, Nat.le_of_ble_eq_true rfl⟩ (c_recv X hW 5 7 (by decide) rfl rfl) (As := [.int p0]) (rest := []) rfl rfl hl.1 (Nat.le_of_ble_eq_true rfl) d2_119 ⟨room_le hccq11 hc1, room_le hssq11 hs1⟩ (fun q hq => MA.mono hS.1 hq) (fun v H1 locs1 hv hz1 hz2 hSq11 => ?_)
              have hPq := hW.1
              obtain ⟨u12, rfl, fu12, hW⟩ := hv
              have hS := hSq11
              have hSz := hS.1
              have her := her.trans herq11
              have hc1 := room_st hccq11 hc1
              have hs1 := room_st hssq11 hs1
              refine lv_astore_n (pc := 122) (lv' := [(2, .ref u12), (0, .ref (ad 0)), (1, .int p0)]) hx hb d2_122 rfl hl (by decide) rfl (fun ls hl => ?_)
              refine lv_goto (pc := 123) (tgt := 135) hx hb d2_123 (by decide) ?_
              exact kc135   q11.1.2 q11.1.1 u12 _ _ _ _ _ _ hW hS fu12 (lv_sub hl [1, 0] rfl) her hc1 hs1 h
          · have h := jb_f c93 h
            refine lv_aload_n (pc := 96) hx hb d2_96 rfl (lv_at hl 0 rfl) ?_
            refine c_getK (pc := 97) X hW 0 6 9 4 (C := "WordFunctions") (T := T9) (N := 9) (by decide) rfl rfl rfl rfl tin9 rfl wd248 rfl rfl d2_97 ?_
            refine lv_iload_n (pc := 100) hx hb d2_100 rfl (lv_at hl 1 rfl) ?_
            obtain ⟨q13, rq13, hq13, h, herq13, hccq13, hssq13⟩ := jd_some h
            refine k_callV (pc := 101) (n := 1) X hS (c_lu_of l ρ ad _ P st8 p0 q13 hW  hq13) wd1109 wd1106 wd1107 wd1108 wd8 (by decide) ⟨rfl, rfl, Nat.le_of_ble_eq_true rfl, Nat.le_of_ble_eq_true rfl⟩ (c_recv X hW 4 6 (by decide) rfl rfl) (As := [.int p0]) (rest := []) rfl rfl hl.1 (Nat.le_of_ble_eq_true rfl) d2_101 ⟨room_le hccq13 hc1, room_le hssq13 hs1⟩ (fun q hq => MA.mono hS.1 hq) (fun v H1 locs1 hv hz1 hz2 hSq13 => ?_)
            have hPq := hW.1
            obtain ⟨u14, rfl, fu14, hW⟩ := hv
            have hS := hSq13
            have hSz := hS.1
            have her := her.trans herq13
            have hc1 := room_st hccq13 hc1
            have hs1 := room_st hssq13 hs1
            refine lv_astore_n (pc := 104) (lv' := [(2, .ref u14), (0, .ref (ad 0)), (1, .int p0)]) hx hb d2_104 rfl hl (by decide) rfl (fun ls hl => ?_)
            refine lv_goto (pc := 105) (tgt := 135) hx hb d2_105 (by decide) ?_
            exact kc135   q13.1.2 q13.1.1 u14 _ _ _ _ _ _ hW hS fu14 (lv_sub hl [1, 0] rfl) her hc1 hs1 h
        · have h := jb_f c75 h
          refine lv_aload_n (pc := 78) hx hb d2_78 rfl (lv_at hl 0 rfl) ?_
          refine c_getK (pc := 79) X hW 0 5 9 3 (C := "WordFunctions") (T := T9) (N := 9) (by decide) rfl rfl rfl rfl tin9 rfl wd247 rfl rfl d2_79 ?_
          refine lv_iload_n (pc := 82) hx hb d2_82 rfl (lv_at hl 1 rfl) ?_
          obtain ⟨q15, rq15, hq15, h, herq15, hccq15, hssq15⟩ := jd_some h
          refine k_callV (pc := 83) (n := 1) X hS (c_tx_of l ρ ad _ P st8 p0 q15 hW  hq15) wd864 wd861 wd862 wd863 wd7 (by decide) ⟨rfl, rfl, Nat.le_of_ble_eq_true rfl, Nat.le_of_ble_eq_true rfl⟩ (c_recv X hW 3 5 (by decide) rfl rfl) (As := [.int p0]) (rest := []) rfl rfl hl.1 (Nat.le_of_ble_eq_true rfl) d2_83 ⟨room_le hccq15 hc1, room_le hssq15 hs1⟩ (fun q hq => MA.mono hS.1 hq) (fun v H1 locs1 hv hz1 hz2 hSq15 => ?_)
          have hPq := hW.1
          obtain ⟨u16, rfl, fu16, hW⟩ := hv
          have hS := hSq15
          have hSz := hS.1
          have her := her.trans herq15
          have hc1 := room_st hccq15 hc1
          have hs1 := room_st hssq15 hs1
          refine lv_astore_n (pc := 86) (lv' := [(2, .ref u16), (0, .ref (ad 0)), (1, .int p0)]) hx hb d2_86 rfl hl (by decide) rfl (fun ls hl => ?_)
          refine lv_goto (pc := 87) (tgt := 135) hx hb d2_87 (by decide) ?_
          exact kc135   q15.1.2 q15.1.1 u16 _ _ _ _ _ _ hW hS fu16 (lv_sub hl [1, 0] rfl) her hc1 hs1 h
      · have h := jb_t c55 h
        refine lv_aload_n (pc := 58) hx hb d2_58 rfl (lv_at hl 0 rfl) ?_
        refine c_getK (pc := 59) X hW 0 4 9 2 (C := "WordFunctions") (T := T9) (N := 9) (by decide) rfl rfl rfl rfl tin9 rfl wd246 rfl rfl d2_59 ?_
        refine lv_aload_n (pc := 62) hx hb d2_62 rfl (lv_at hl 0 rfl) ?_
        refine c_getK (pc := 63) X hW 0 3 9 1 (C := "WordFunctions") (T := T9) (N := 9) (by decide) rfl rfl rfl rfl tin9 rfl wd245 rfl rfl d2_63 ?_
        obtain ⟨q17, hq17, h⟩ := jc_some h
        refine k_callV (pc := 66) (n := 1) X hS (c_an_transpose l ρ ad _ P st8  q17 hW  hq17) wd858 wd855 wd856 wd857 wd6 (by decide) ⟨rfl, rfl, Nat.le_of_ble_eq_true rfl, Nat.le_of_ble_eq_true rfl⟩ (c_recv X hW 2 4 (by decide) rfl rfl) (As := [.ref (ad 1)]) (rest := []) rfl rfl hl.1 (Nat.le_of_ble_eq_true rfl) d2_66 ⟨room_l0 hc1, room_l0 hs1⟩ (fun q hq => MA.mono hS.1 hq) (fun v H1 locs1 hv hz1 hz2 hSq17 => ?_)
        have hPq := hW.1
        obtain ⟨rfl, hW⟩ := hv
        have hS := hSq17
        have hSz := hS.1
        refine lv_goto (pc := 69) (tgt := 166) hx hb d2_69 (by decide) ?_
        exact kc166   q17 _ _ _ _ _ _ hW hS (lv_sub hl [0] rfl) her hc1 hs1 h
    · have h := jb_t c35 h
      refine lv_aload_n (pc := 38) hx hb d2_38 rfl (lv_at hl 0 rfl) ?_
      refine c_getK (pc := 39) X hW 0 6 9 4 (C := "WordFunctions") (T := T9) (N := 9) (by decide) rfl rfl rfl rfl tin9 rfl wd248 rfl rfl d2_39 ?_
      refine lv_aload_n (pc := 42) hx hb d2_42 rfl (lv_at hl 0 rfl) ?_
      refine c_getK (pc := 43) X hW 0 4 9 2 (C := "WordFunctions") (T := T9) (N := 9) (by decide) rfl rfl rfl rfl tin9 rfl wd246 rfl rfl d2_43 ?_
      obtain ⟨q18, rq18, hq18, h, herq18, hccq18, hssq18⟩ := jd_some h
      refine k_callV (pc := 46) (n := 1) X hS (c_lu_index l ρ ad _ P st8  q18 hW  hq18) wd745 wd742 wd743 wd744 wd8 (by decide) ⟨rfl, rfl, Nat.le_of_ble_eq_true rfl, Nat.le_of_ble_eq_true rfl⟩ (c_recv X hW 4 6 (by decide) rfl rfl) (As := [.ref (ad 2)]) (rest := []) rfl rfl hl.1 (Nat.le_of_ble_eq_true rfl) d2_46 ⟨room_le hccq18 hc1, room_le hssq18 hs1⟩ (fun q hq => MA.mono hS.1 hq) (fun v H1 locs1 hv hz1 hz2 hSq18 => ?_)
      have hPq := hW.1
      obtain ⟨rfl, hW⟩ := hv
      have hS := hSq18
      have hSz := hS.1
      have her := her.trans herq18
      have hc1 := room_st hccq18 hc1
      have hs1 := room_st hssq18 hs1
      refine lv_goto (pc := 49) (tgt := 166) hx hb d2_49 (by decide) ?_
      exact kc166   q18.1 _ _ _ _ _ _ hW hS (lv_sub hl [0] rfl) her hc1 hs1 h
  · have h := jb_t c11 h
    cases h
