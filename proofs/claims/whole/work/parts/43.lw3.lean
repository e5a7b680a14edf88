set_option maxHeartbeats 2000000 in
theorem lw_case0 {p : Program} {l : Launch} {e : Env} {s : State} {m : MethodId} {args : Array Value} {below : List Frame} {meth : Method} {c : Code} {H : Heap} {locs : List Loc} {Q : State → Prop} {ls : Array Slot} {ρ : RH} {w0 : Cond} {P : Nat → Prop} {ad am : Nat → Nat} {oo b L k C S : Nat} {xs : Nat → Int32} {cs : CS} {ms : GS} {Rel : Nat → CS → GS → Nat → Nat → Prop} (hfl : l.flags = pinnedFlags ++ [noTraceFlag]) (X : CX p s m c args "WordFunctionsLaw" code 9 ρ w0) (hx : p.tables.exec = Jvm.exec) (hb : c.code = code) (hL : L ≤ 3072) (hkL : 6 * k + 6 ≤ L) (hX : va_X b L xs s s.heap) (hbl : b < s.heap.size) (hT0 : TX ρ s.heap s) (hZ : rZa ρ 5 < s.heap.size ∧ rZa ρ 6 < s.heap.size) (hRel : LRel Rel) (hr : Rel k cs ms C S) (hS : va_S (fun q => s.heap.size ≤ q) s.heap H locs) (hI : LI ρ P ad am oo s.heap.size cs ms H) (hl : lv_has ls 9 [(4, .int (nI (6 * k))), (3, .ref oo), (2, .ref (am 0)), (1, .ref (ad 0)), (0, .ref b)]) (kk : ∀ (cs' : CS) (ms' : GS) (C' S' : Nat) (H1 : Heap) (locs1 : List Loc) (ls1 : Array Slot), Rel (k + 1) cs' ms' C' S' → LI ρ P ad am oo s.heap.size cs' ms' H1 → va_S (fun q => s.heap.size ≤ q) s.heap H1 locs1 → lv_has ls1 9 [(4, .int (nI (6 * k))), (3, .ref oo), (2, .ref (am 0)), (1, .ref (ad 0)), (0, .ref b)] → W p l e room_1 s m args below meth c H1 locs1 (72 + C') (214664 + S') Q (F0 m 608 ls1 [])) : W p l e room_1 s m args below meth c H locs (72 + C) (214664 + S) Q (F0 m 104 ls []) := by
  have hk5 : k < 512 := by omega
  have hroom := hRel.room hr
  refine lv_aload_n (pc := 104) hx hb d137_104 rfl (lv_at hl 3 rfl) ?_
  refine lv_aload_n (pc := 105) hx hb d137_105 rfl (lv_at hl 4 rfl) ?_
  refine lv_iload (pc := 106) hx hb d137_106 (lv_at hl 0 rfl) ?_
  refine lv_iconst (pc := 108) (v := 1) hx hb d137_108 (by decide) ?_
  refine lv_iadd (pc := 109) hx hb d137_109 ?_
  refine nm_i (y := nI (6 * k + 1)) ((nI_add (6 * k) 1).symm) ?_
  refine va_sld (pc := 110) X.1.1 X.1.2.1 hX hbl (Nat.not_le.mpr hbl) hS (nI_in (show 6 * k + 1 < L by omega) (by omega)) d137_110 ?_
  refine lv_aload_n (pc := 111) hx hb d137_111 rfl (lv_at hl 4 rfl) ?_
  refine lv_iload (pc := 112) hx hb d137_112 (lv_at hl 0 rfl) ?_
  refine lv_iconst (pc := 114) (v := 2) hx hb d137_114 (by decide) ?_
  refine lv_iadd (pc := 115) hx hb d137_115 ?_
  refine nm_i (y := nI (6 * k + 2)) ((nI_add (6 * k) 2).symm) ?_
  refine va_sld (pc := 116) X.1.1 X.1.2.1 hX hbl (Nat.not_le.mpr hbl) hS (nI_in (show 6 * k + 2 < L by omega) (by omega)) d137_116 ?_
  refine lv_aload_n (pc := 117) hx hb d137_117 rfl (lv_at hl 4 rfl) ?_
  refine lv_iload (pc := 118) hx hb d137_118 (lv_at hl 0 rfl) ?_
  refine lv_iconst (pc := 120) (v := 3) hx hb d137_120 (by decide) ?_
  refine lv_iadd (pc := 121) hx hb d137_121 ?_
  refine nm_i (y := nI (6 * k + 3)) ((nI_add (6 * k) 3).symm) ?_
  refine va_sld (pc := 122) X.1.1 X.1.2.1 hX hbl (Nat.not_le.mpr hbl) hS (nI_in (show 6 * k + 3 < L by omega) (by omega)) d137_122 ?_
  refine lv_aload_n (pc := 123) hx hb d137_123 rfl (lv_at hl 4 rfl) ?_
  refine lv_iload (pc := 124) hx hb d137_124 (lv_at hl 0 rfl) ?_
  refine lv_iconst (pc := 126) (v := 4) hx hb d137_126 (by decide) ?_
  refine lv_iadd (pc := 127) hx hb d137_127 ?_
  refine nm_i (y := nI (6 * k + 4)) ((nI_add (6 * k) 4).symm) ?_
  refine va_sld (pc := 128) X.1.1 X.1.2.1 hX hbl (Nat.not_le.mpr hbl) hS (nI_in (show 6 * k + 4 < L by omega) (by omega)) d137_128 ?_
  refine lv_aload_n (pc := 129) hx hb d137_129 rfl (lv_at hl 4 rfl) ?_
  refine lv_iload (pc := 130) hx hb d137_130 (lv_at hl 0 rfl) ?_
  refine lv_iconst (pc := 132) (v := 5) hx hb d137_132 (by decide) ?_
  refine lv_iadd (pc := 133) hx hb d137_133 ?_
  refine nm_i (y := nI (6 * k + 5)) ((nI_add (6 * k) 5).symm) ?_
  refine va_sld (pc := 134) X.1.1 X.1.2.1 hX hbl (Nat.not_le.mpr hbl) hS (nI_in (show 6 * k + 5 < L by omega) (by omega)) d137_134 ?_
  obtain ⟨r, cs', ms', h1, h2, hr'⟩ := hRel.feed hr hk5 (xs (nI (6 * k + 1)).toNatClampNeg) (xs (nI (6 * k + 2)).toNatClampNeg) (xs (nI (6 * k + 3)).toNatClampNeg) (xs (nI (6 * k + 4)).toNatClampNeg) (xs (nI (6 * k + 5)).toNatClampNeg)
  have hroom' := hRel.room hr'
  refine k_callV (pc := 135) (n := 5) X hS (c_wf_feed l ρ ad _ P cs (xs (nI (6 * k + 1)).toNatClampNeg) (xs (nI (6 * k + 2)).toNatClampNeg) (xs (nI (6 * k + 3)).toNatClampNeg) (xs (nI (6 * k + 4)).toNatClampNeg) (xs (nI (6 * k + 5)).toNatClampNeg) (r, cs') hI.1 h1) wd273 wd270 wd271 wd272 wd1 (by decide) ⟨rfl, rfl, (Nat.le_of_ble_eq_true rfl), (Nat.le_of_ble_eq_true rfl)⟩ (c_recv X hI.1 0 9 (by decide) rfl rfl) (As := [.int (xs (nI (6 * k + 1)).toNatClampNeg), .int (xs (nI (6 * k + 2)).toNatClampNeg), .int (xs (nI (6 * k + 3)).toNatClampNeg), .int (xs (nI (6 * k + 4)).toNatClampNeg), .int (xs (nI (6 * k + 5)).toNatClampNeg)]) (rest := []) rfl rfl hl.1 (Nat.le_of_ble_eq_true rfl) d137_135 ⟨by show _ ≤ 601024; (try dsimp only); omega, by show _ ≤ 7293034; (try dsimp only); omega⟩ (hI.MAc hS.1) (fun v H1 locs1 hv hz1 hq1 hS1 => ?_)
  obtain ⟨rfl, hW⟩ := hv
  have hI := hI.cls hW hz1 hq1
  have hS := hS1
  refine lv_aload_n (pc := 138) hx hb d137_138 rfl (lv_at hl 2 rfl) ?_
  refine lv_aload_n (pc := 139) hx hb d137_139 rfl (lv_at hl 4 rfl) ?_
  refine lv_iload (pc := 140) hx hb d137_140 (lv_at hl 0 rfl) ?_
  refine lv_iconst (pc := 142) (v := 1) hx hb d137_142 (by decide) ?_
  refine lv_iadd (pc := 143) hx hb d137_143 ?_
  refine nm_i (y := nI (6 * k + 1)) ((nI_add (6 * k) 1).symm) ?_
  refine va_sld (pc := 144) X.1.1 X.1.2.1 hX hbl (Nat.not_le.mpr hbl) hS (nI_in (show 6 * k + 1 < L by omega) (by omega)) d137_144 ?_
  refine lv_aload_n (pc := 145) hx hb d137_145 rfl (lv_at hl 4 rfl) ?_
  refine lv_iload (pc := 146) hx hb d137_146 (lv_at hl 0 rfl) ?_
  refine lv_iconst (pc := 148) (v := 2) hx hb d137_148 (by decide) ?_
  refine lv_iadd (pc := 149) hx hb d137_149 ?_
  refine nm_i (y := nI (6 * k + 2)) ((nI_add (6 * k) 2).symm) ?_
  refine va_sld (pc := 150) X.1.1 X.1.2.1 hX hbl (Nat.not_le.mpr hbl) hS (nI_in (show 6 * k + 2 < L by omega) (by omega)) d137_150 ?_
  refine lv_aload_n (pc := 151) hx hb d137_151 rfl (lv_at hl 4 rfl) ?_
  refine lv_iload (pc := 152) hx hb d137_152 (lv_at hl 0 rfl) ?_
  refine lv_iconst (pc := 154) (v := 3) hx hb d137_154 (by decide) ?_
  refine lv_iadd (pc := 155) hx hb d137_155 ?_
  refine nm_i (y := nI (6 * k + 3)) ((nI_add (6 * k) 3).symm) ?_
  refine va_sld (pc := 156) X.1.1 X.1.2.1 hX hbl (Nat.not_le.mpr hbl) hS (nI_in (show 6 * k + 3 < L by omega) (by omega)) d137_156 ?_
  refine lv_aload_n (pc := 157) hx hb d137_157 rfl (lv_at hl 4 rfl) ?_
  refine lv_iload (pc := 158) hx hb d137_158 (lv_at hl 0 rfl) ?_
  refine lv_iconst (pc := 160) (v := 4) hx hb d137_160 (by decide) ?_
  refine lv_iadd (pc := 161) hx hb d137_161 ?_
  refine nm_i (y := nI (6 * k + 4)) ((nI_add (6 * k) 4).symm) ?_
  refine va_sld (pc := 162) X.1.1 X.1.2.1 hX hbl (Nat.not_le.mpr hbl) hS (nI_in (show 6 * k + 4 < L by omega) (by omega)) d137_162 ?_
  refine lv_aload_n (pc := 163) hx hb d137_163 rfl (lv_at hl 4 rfl) ?_
  refine lv_iload (pc := 164) hx hb d137_164 (lv_at hl 0 rfl) ?_
  refine lv_iconst (pc := 166) (v := 5) hx hb d137_166 (by decide) ?_
  refine lv_iadd (pc := 167) hx hb d137_167 ?_
  refine nm_i (y := nI (6 * k + 5)) ((nI_add (6 * k) 5).symm) ?_
  refine va_sld (pc := 168) X.1.1 X.1.2.1 hX hbl (Nat.not_le.mpr hbl) hS (nI_in (show 6 * k + 5 < L by omega) (by omega)) d137_168 ?_
  refine k_callV (pc := 169) (n := 5) X hS (c_mo_feed l ρ am _ ms (xs (nI (6 * k + 1)).toNatClampNeg) (xs (nI (6 * k + 2)).toNatClampNeg) (xs (nI (6 * k + 3)).toNatClampNeg) (xs (nI (6 * k + 4)).toNatClampNeg) (xs (nI (6 * k + 5)).toNatClampNeg) (r, ms') hI.2.1 h2) wd1540 wd1537 wd1538 wd1539 wd11 (by decide) ⟨rfl, rfl, (Nat.le_of_ble_eq_true rfl), (Nat.le_of_ble_eq_true rfl)⟩ (g_recv X hI.2.1 0 12 (by decide) rfl rfl) (As := [.int (xs (nI (6 * k + 1)).toNatClampNeg), .int (xs (nI (6 * k + 2)).toNatClampNeg), .int (xs (nI (6 * k + 3)).toNatClampNeg), .int (xs (nI (6 * k + 4)).toNatClampNeg), .int (xs (nI (6 * k + 5)).toNatClampNeg)]) (rest := [.int r]) rfl rfl hl.1 (Nat.le_of_ble_eq_true rfl) d137_169 ⟨by show _ ≤ 601024; (try dsimp only); omega, by show _ ≤ 7293034; (try dsimp only); omega⟩ (hI.MAm hS.1) (fun v H1 locs1 hv hz1 hq1 hS1 => ?_)
  obtain ⟨rfl, hG⟩ := hv
  have hI := hI.mod hG hz1 hq1
  have hS := hS1
  refine lv_icmp_eq (pc := 172) (tgt := 608) hx hb d137_172 (by decide) (fun zbr => ?_) (fun zbr => absurd (rfl) zbr)
  exact W.widen (show _ ≤ 72 + (C) by (try dsimp only); omega) (show _ ≤ 214664 + (S) by (try dsimp only); omega) (kk _ _ _ _ _ _ _ hr' hI hS (lv_sub hl [0, 1, 2, 3, 4] rfl))
set_option maxHeartbeats 2000000 in
theorem lw_case1 {p : Program} {l : Launch} {e : Env} {s : State} {m : MethodId} {args : Array Value} {below : List Frame} {meth : Method} {c : Code} {H : Heap} {locs : List Loc} {Q : State → Prop} {ls : Array Slot} {ρ : RH} {w0 : Cond} {P : Nat → Prop} {ad am : Nat → Nat} {oo b L k C S : Nat} {xs : Nat → Int32} {cs : CS} {ms : GS} {Rel : Nat → CS → GS → Nat → Nat → Prop} (hfl : l.flags = pinnedFlags ++ [noTraceFlag]) (X : CX p s m c args "WordFunctionsLaw" code 9 ρ w0) (hx : p.tables.exec = Jvm.exec) (hb : c.code = code) (hL : L ≤ 3072) (hkL : 6 * k + 6 ≤ L) (hX : va_X b L xs s s.heap) (hbl : b < s.heap.size) (hT0 : TX ρ s.heap s) (hZ : rZa ρ 5 < s.heap.size ∧ rZa ρ 6 < s.heap.size) (hRel : LRel Rel) (hr : Rel k cs ms C S) (hS : va_S (fun q => s.heap.size ≤ q) s.heap H locs) (hI : LI ρ P ad am oo s.heap.size cs ms H) (hl : lv_has ls 9 [(4, .int (nI (6 * k))), (3, .ref oo), (2, .ref (am 0)), (1, .ref (ad 0)), (0, .ref b)]) (kk : ∀ (cs' : CS) (ms' : GS) (C' S' : Nat) (H1 : Heap) (locs1 : List Loc) (ls1 : Array Slot), Rel (k + 1) cs' ms' C' S' → LI ρ P ad am oo s.heap.size cs' ms' H1 → va_S (fun q => s.heap.size ≤ q) s.heap H1 locs1 → lv_has ls1 9 [(4, .int (nI (6 * k))), (3, .ref oo), (2, .ref (am 0)), (1, .ref (ad 0)), (0, .ref b)] → W p l e room_1 s m args below meth c H1 locs1 (72 + C') (214664 + S') Q (F0 m 608 ls1 [])) : W p l e room_1 s m args below meth c H locs (72 + C) (214664 + S) Q (F0 m 177 ls []) := by
  have hk5 : k < 512 := by omega
  have hroom := hRel.room hr
  refine lv_aload_n (pc := 177) hx hb d137_177 rfl (lv_at hl 3 rfl) ?_
  refine lv_aload_n (pc := 178) hx hb d137_178 rfl (lv_at hl 4 rfl) ?_
  refine lv_iload (pc := 179) hx hb d137_179 (lv_at hl 0 rfl) ?_
  refine lv_iconst (pc := 181) (v := 1) hx hb d137_181 (by decide) ?_
  refine lv_iadd (pc := 182) hx hb d137_182 ?_
  refine nm_i (y := nI (6 * k + 1)) ((nI_add (6 * k) 1).symm) ?_
  refine va_sld (pc := 183) X.1.1 X.1.2.1 hX hbl (Nat.not_le.mpr hbl) hS (nI_in (show 6 * k + 1 < L by omega) (by omega)) d137_183 ?_
  obtain ⟨r, cs', ms', c1, s1, h1, h2, hr'⟩ := hRel.end_ hr hk5 (xs (nI (6 * k + 1)).toNatClampNeg)
  have hroom' := hRel.room hr'
  refine k_callV (pc := 184) (n := 1) X hS (c_wf_end l ρ ad _ P cs (xs (nI (6 * k + 1)).toNatClampNeg) ((r, cs'), c1, s1) hI.1 h1) wd281 wd278 wd279 wd280 wd1 (by decide) ⟨rfl, rfl, (Nat.le_of_ble_eq_true rfl), (Nat.le_of_ble_eq_true rfl)⟩ (c_recv X hI.1 0 9 (by decide) rfl rfl) (As := [.int (xs (nI (6 * k + 1)).toNatClampNeg)]) (rest := []) rfl rfl hl.1 (Nat.le_of_ble_eq_true rfl) d137_184 ⟨by show _ ≤ 601024; (try dsimp only); omega, by show _ ≤ 7293034; (try dsimp only); omega⟩ (hI.MAc hS.1) (fun v H1 locs1 hv hz1 hq1 hS1 => ?_)
  obtain ⟨rfl, hW⟩ := hv
  have hI := hI.cls hW hz1 hq1
  have hS := hS1
  refine lv_aload_n (pc := 187) hx hb d137_187 rfl (lv_at hl 2 rfl) ?_
  refine lv_aload_n (pc := 188) hx hb d137_188 rfl (lv_at hl 4 rfl) ?_
  refine lv_iload (pc := 189) hx hb d137_189 (lv_at hl 0 rfl) ?_
  refine lv_iconst (pc := 191) (v := 1) hx hb d137_191 (by decide) ?_
  refine lv_iadd (pc := 192) hx hb d137_192 ?_
  refine nm_i (y := nI (6 * k + 1)) ((nI_add (6 * k) 1).symm) ?_
  refine va_sld (pc := 193) X.1.1 X.1.2.1 hX hbl (Nat.not_le.mpr hbl) hS (nI_in (show 6 * k + 1 < L by omega) (by omega)) d137_193 ?_
  refine k_callV (pc := 194) (n := 1) X hS (c_mo_end l ρ am _ ms (xs (nI (6 * k + 1)).toNatClampNeg) (r, ms') hI.2.1 h2) wd1548 wd1545 wd1546 wd1547 wd11 (by decide) ⟨rfl, rfl, (Nat.le_of_ble_eq_true rfl), (Nat.le_of_ble_eq_true rfl)⟩ (g_recv X hI.2.1 0 12 (by decide) rfl rfl) (As := [.int (xs (nI (6 * k + 1)).toNatClampNeg)]) (rest := [.int r]) rfl rfl hl.1 (Nat.le_of_ble_eq_true rfl) d137_194 ⟨by show _ ≤ 601024; (try dsimp only); omega, by show _ ≤ 7293034; (try dsimp only); omega⟩ (hI.MAm hS.1) (fun v H1 locs1 hv hz1 hq1 hS1 => ?_)
  obtain ⟨rfl, hG⟩ := hv
  have hI := hI.mod hG hz1 hq1
  have hS := hS1
  refine lv_icmp_eq (pc := 197) (tgt := 608) hx hb d137_197 (by decide) (fun zbr => ?_) (fun zbr => absurd (rfl) zbr)
  exact W.widen (show _ ≤ 72 + (C + c1) by (try dsimp only); omega) (show _ ≤ 214664 + (S + s1) by (try dsimp only); omega) (kk _ _ _ _ _ _ _ hr' hI hS (lv_sub hl [0, 1, 2, 3, 4] rfl))
set_option maxHeartbeats 2000000 in
theorem lw_case2 {p : Program} {l : Launch} {e : Env} {s : State} {m : MethodId} {args : Array Value} {below : List Frame} {meth : Method} {c : Code} {H : Heap} {locs : List Loc} {Q : State → Prop} {ls : Array Slot} {ρ : RH} {w0 : Cond} {P : Nat → Prop} {ad am : Nat → Nat} {oo b L k C S : Nat} {xs : Nat → Int32} {cs : CS} {ms : GS} {Rel : Nat → CS → GS → Nat → Nat → Prop} (hfl : l.flags = pinnedFlags ++ [noTraceFlag]) (X : CX p s m c args "WordFunctionsLaw" code 9 ρ w0) (hx : p.tables.exec = Jvm.exec) (hb : c.code = code) (hL : L ≤ 3072) (hkL : 6 * k + 6 ≤ L) (hX : va_X b L xs s s.heap) (hbl : b < s.heap.size) (hT0 : TX ρ s.heap s) (hZ : rZa ρ 5 < s.heap.size ∧ rZa ρ 6 < s.heap.size) (hRel : LRel Rel) (hr : Rel k cs ms C S) (hS : va_S (fun q => s.heap.size ≤ q) s.heap H locs) (hI : LI ρ P ad am oo s.heap.size cs ms H) (hl : lv_has ls 9 [(4, .int (nI (6 * k))), (3, .ref oo), (2, .ref (am 0)), (1, .ref (ad 0)), (0, .ref b)]) (kk : ∀ (cs' : CS) (ms' : GS) (C' S' : Nat) (H1 : Heap) (locs1 : List Loc) (ls1 : Array Slot), Rel (k + 1) cs' ms' C' S' → LI ρ P ad am oo s.heap.size cs' ms' H1 → va_S (fun q => s.heap.size ≤ q) s.heap H1 locs1 → lv_has ls1 9 [(4, .int (nI (6 * k))), (3, .ref oo), (2, .ref (am 0)), (1, .ref (ad 0)), (0, .ref b)] → W p l e room_1 s m args below meth c H1 locs1 (72 + C') (214664 + S') Q (F0 m 608 ls1 [])) : W p l e room_1 s m args below meth c H locs (72 + C) (214664 + S) Q (F0 m 202 ls []) := by
  have hk5 : k < 512 := by omega
  have hroom := hRel.room hr
  refine lv_aload_n (pc := 202) hx hb d137_202 rfl (lv_at hl 3 rfl) ?_
  refine lv_aload_n (pc := 203) hx hb d137_203 rfl (lv_at hl 4 rfl) ?_
  refine lv_iload (pc := 204) hx hb d137_204 (lv_at hl 0 rfl) ?_
  refine lv_iconst (pc := 206) (v := 1) hx hb d137_206 (by decide) ?_
  refine lv_iadd (pc := 207) hx hb d137_207 ?_
  refine nm_i (y := nI (6 * k + 1)) ((nI_add (6 * k) 1).symm) ?_
  refine va_sld (pc := 208) X.1.1 X.1.2.1 hX hbl (Nat.not_le.mpr hbl) hS (nI_in (show 6 * k + 1 < L by omega) (by omega)) d137_208 ?_
  refine lv_aload_n (pc := 209) hx hb d137_209 rfl (lv_at hl 4 rfl) ?_
  refine lv_iload (pc := 210) hx hb d137_210 (lv_at hl 0 rfl) ?_
  refine lv_iconst (pc := 212) (v := 2) hx hb d137_212 (by decide) ?_
  refine lv_iadd (pc := 213) hx hb d137_213 ?_
  refine nm_i (y := nI (6 * k + 2)) ((nI_add (6 * k) 2).symm) ?_
  refine va_sld (pc := 214) X.1.1 X.1.2.1 hX hbl (Nat.not_le.mpr hbl) hS (nI_in (show 6 * k + 2 < L by omega) (by omega)) d137_214 ?_
  obtain ⟨r, cs', ms', h1, h2, hr'⟩ := hRel.home hr hk5 (xs (nI (6 * k + 1)).toNatClampNeg) (xs (nI (6 * k + 2)).toNatClampNeg)
  have hroom' := hRel.room hr'
  refine k_callV (pc := 215) (n := 2) X hS (c_wf_home l ρ ad _ P cs (xs (nI (6 * k + 1)).toNatClampNeg) (xs (nI (6 * k + 2)).toNatClampNeg) (r, cs') hI.1 h1) wd612 wd609 wd610 wd611 wd1 (by decide) ⟨rfl, rfl, (Nat.le_of_ble_eq_true rfl), (Nat.le_of_ble_eq_true rfl)⟩ (c_recv X hI.1 0 9 (by decide) rfl rfl) (As := [.int (xs (nI (6 * k + 1)).toNatClampNeg), .int (xs (nI (6 * k + 2)).toNatClampNeg)]) (rest := []) rfl rfl hl.1 (Nat.le_of_ble_eq_true rfl) d137_215 ⟨by show _ ≤ 601024; (try dsimp only); omega, by show _ ≤ 7293034; (try dsimp only); omega⟩ (hI.MAc hS.1) (fun v H1 locs1 hv hz1 hq1 hS1 => ?_)
  obtain ⟨rfl, hW⟩ := hv
  have hI := hI.cls hW hz1 hq1
  have hS := hS1
  refine lv_aload_n (pc := 218) hx hb d137_218 rfl (lv_at hl 2 rfl) ?_
  refine lv_aload_n (pc := 219) hx hb d137_219 rfl (lv_at hl 4 rfl) ?_
  refine lv_iload (pc := 220) hx hb d137_220 (lv_at hl 0 rfl) ?_
  refine lv_iconst (pc := 222) (v := 1) hx hb d137_222 (by decide) ?_
  refine lv_iadd (pc := 223) hx hb d137_223 ?_
  refine nm_i (y := nI (6 * k + 1)) ((nI_add (6 * k) 1).symm) ?_
  refine va_sld (pc := 224) X.1.1 X.1.2.1 hX hbl (Nat.not_le.mpr hbl) hS (nI_in (show 6 * k + 1 < L by omega) (by omega)) d137_224 ?_
  refine lv_aload_n (pc := 225) hx hb d137_225 rfl (lv_at hl 4 rfl) ?_
  refine lv_iload (pc := 226) hx hb d137_226 (lv_at hl 0 rfl) ?_
  refine lv_iconst (pc := 228) (v := 2) hx hb d137_228 (by decide) ?_
  refine lv_iadd (pc := 229) hx hb d137_229 ?_
  refine nm_i (y := nI (6 * k + 2)) ((nI_add (6 * k) 2).symm) ?_
  refine va_sld (pc := 230) X.1.1 X.1.2.1 hX hbl (Nat.not_le.mpr hbl) hS (nI_in (show 6 * k + 2 < L by omega) (by omega)) d137_230 ?_
  refine k_callV (pc := 231) (n := 2) X hS (c_mo_home l ρ am _ ms (xs (nI (6 * k + 1)).toNatClampNeg) (xs (nI (6 * k + 2)).toNatClampNeg) (r, ms') hI.2.1 h2) wd1552 wd1549 wd1550 wd1551 wd11 (by decide) ⟨rfl, rfl, (Nat.le_of_ble_eq_true rfl), (Nat.le_of_ble_eq_true rfl)⟩ (g_recv X hI.2.1 0 12 (by decide) rfl rfl) (As := [.int (xs (nI (6 * k + 1)).toNatClampNeg), .int (xs (nI (6 * k + 2)).toNatClampNeg)]) (rest := [.int r]) rfl rfl hl.1 (Nat.le_of_ble_eq_true rfl) d137_231 ⟨by show _ ≤ 601024; (try dsimp only); omega, by show _ ≤ 7293034; (try dsimp only); omega⟩ (hI.MAm hS.1) (fun v H1 locs1 hv hz1 hq1 hS1 => ?_)
  obtain ⟨rfl, hG⟩ := hv
  have hI := hI.mod hG hz1 hq1
  have hS := hS1
  refine lv_icmp_eq (pc := 234) (tgt := 608) hx hb d137_234 (by decide) (fun zbr => ?_) (fun zbr => absurd (rfl) zbr)
  exact W.widen (show _ ≤ 72 + (C) by (try dsimp only); omega) (show _ ≤ 214664 + (S) by (try dsimp only); omega) (kk _ _ _ _ _ _ _ hr' hI hS (lv_sub hl [0, 1, 2, 3, 4] rfl))
set_option maxHeartbeats 2000000 in
theorem lw_case4 {p : Program} {l : Launch} {e : Env} {s : State} {m : MethodId} {args : Array Value} {below : List Frame} {meth : Method} {c : Code} {H : Heap} {locs : List Loc} {Q : State → Prop} {ls : Array Slot} {ρ : RH} {w0 : Cond} {P : Nat → Prop} {ad am : Nat → Nat} {oo b L k C S : Nat} {xs : Nat → Int32} {cs : CS} {ms : GS} {Rel : Nat → CS → GS → Nat → Nat → Prop} (hfl : l.flags = pinnedFlags ++ [noTraceFlag]) (X : CX p s m c args "WordFunctionsLaw" code 9 ρ w0) (hx : p.tables.exec = Jvm.exec) (hb : c.code = code) (hL : L ≤ 3072) (hkL : 6 * k + 6 ≤ L) (hX : va_X b L xs s s.heap) (hbl : b < s.heap.size) (hT0 : TX ρ s.heap s) (hZ : rZa ρ 5 < s.heap.size ∧ rZa ρ 6 < s.heap.size) (hRel : LRel Rel) (hr : Rel k cs ms C S) (hS : va_S (fun q => s.heap.size ≤ q) s.heap H locs) (hI : LI ρ P ad am oo s.heap.size cs ms H) (hl : lv_has ls 9 [(4, .int (nI (6 * k))), (3, .ref oo), (2, .ref (am 0)), (1, .ref (ad 0)), (0, .ref b)]) (kk : ∀ (cs' : CS) (ms' : GS) (C' S' : Nat) (H1 : Heap) (locs1 : List Loc) (ls1 : Array Slot), Rel (k + 1) cs' ms' C' S' → LI ρ P ad am oo s.heap.size cs' ms' H1 → va_S (fun q => s.heap.size ≤ q) s.heap H1 locs1 → lv_has ls1 9 [(4, .int (nI (6 * k))), (3, .ref oo), (2, .ref (am 0)), (1, .ref (ad 0)), (0, .ref b)] → W p l e room_1 s m args below meth c H1 locs1 (72 + C') (214664 + S') Q (F0 m 608 ls1 [])) : W p l e room_1 s m args below meth c H locs (72 + C) (214664 + S) Q (F0 m 287 ls []) := by
  have hk5 : k < 512 := by omega
  have hroom := hRel.room hr
  refine lv_aload_n (pc := 287) hx hb d137_287 rfl (lv_at hl 3 rfl) ?_
  refine lv_aload_n (pc := 288) hx hb d137_288 rfl (lv_at hl 4 rfl) ?_
  refine lv_iload (pc := 289) hx hb d137_289 (lv_at hl 0 rfl) ?_
  refine lv_iconst (pc := 291) (v := 1) hx hb d137_291 (by decide) ?_
  refine lv_iadd (pc := 292) hx hb d137_292 ?_
  refine nm_i (y := nI (6 * k + 1)) ((nI_add (6 * k) 1).symm) ?_
  refine va_sld (pc := 293) X.1.1 X.1.2.1 hX hbl (Nat.not_le.mpr hbl) hS (nI_in (show 6 * k + 1 < L by omega) (by omega)) d137_293 ?_
  refine lv_aload_n (pc := 294) hx hb d137_294 rfl (lv_at hl 4 rfl) ?_
  refine lv_iload (pc := 295) hx hb d137_295 (lv_at hl 0 rfl) ?_
  refine lv_iconst (pc := 297) (v := 2) hx hb d137_297 (by decide) ?_
  refine lv_iadd (pc := 298) hx hb d137_298 ?_
  refine nm_i (y := nI (6 * k + 2)) ((nI_add (6 * k) 2).symm) ?_
  refine va_sld (pc := 299) X.1.1 X.1.2.1 hX hbl (Nat.not_le.mpr hbl) hS (nI_in (show 6 * k + 2 < L by omega) (by omega)) d137_299 ?_
  obtain ⟨r, cs', ms', h1, h2, hr'⟩ := hRel.range hr hk5 (xs (nI (6 * k + 1)).toNatClampNeg) (xs (nI (6 * k + 2)).toNatClampNeg)
  have hroom' := hRel.room hr'
  refine k_callV (pc := 300) (n := 2) X hS (c_wf_range l ρ ad _ P cs (xs (nI (6 * k + 1)).toNatClampNeg) (xs (nI (6 * k + 2)).toNatClampNeg) (r, cs') hI.1 h1) wd620 wd617 wd618 wd619 wd1 (by decide) ⟨rfl, rfl, (Nat.le_of_ble_eq_true rfl), (Nat.le_of_ble_eq_true rfl)⟩ (c_recv X hI.1 0 9 (by decide) rfl rfl) (As := [.int (xs (nI (6 * k + 1)).toNatClampNeg), .int (xs (nI (6 * k + 2)).toNatClampNeg)]) (rest := []) rfl rfl hl.1 (Nat.le_of_ble_eq_true rfl) d137_300 ⟨by show _ ≤ 601024; (try dsimp only); omega, by show _ ≤ 7293034; (try dsimp only); omega⟩ (hI.MAc hS.1) (fun v H1 locs1 hv hz1 hq1 hS1 => ?_)
  obtain ⟨rfl, hW⟩ := hv
  have hI := hI.cls hW hz1 hq1
  have hS := hS1
  refine lv_aload_n (pc := 303) hx hb d137_303 rfl (lv_at hl 2 rfl) ?_
  refine lv_aload_n (pc := 304) hx hb d137_304 rfl (lv_at hl 4 rfl) ?_
  refine lv_iload (pc := 305) hx hb d137_305 (lv_at hl 0 rfl) ?_
  refine lv_iconst (pc := 307) (v := 1) hx hb d137_307 (by decide) ?_
  refine lv_iadd (pc := 308) hx hb d137_308 ?_
  refine nm_i (y := nI (6 * k + 1)) ((nI_add (6 * k) 1).symm) ?_
  refine va_sld (pc := 309) X.1.1 X.1.2.1 hX hbl (Nat.not_le.mpr hbl) hS (nI_in (show 6 * k + 1 < L by omega) (by omega)) d137_309 ?_
  refine lv_aload_n (pc := 310) hx hb d137_310 rfl (lv_at hl 4 rfl) ?_
  refine lv_iload (pc := 311) hx hb d137_311 (lv_at hl 0 rfl) ?_
  refine lv_iconst (pc := 313) (v := 2) hx hb d137_313 (by decide) ?_
  refine lv_iadd (pc := 314) hx hb d137_314 ?_
  refine nm_i (y := nI (6 * k + 2)) ((nI_add (6 * k) 2).symm) ?_
  refine va_sld (pc := 315) X.1.1 X.1.2.1 hX hbl (Nat.not_le.mpr hbl) hS (nI_in (show 6 * k + 2 < L by omega) (by omega)) d137_315 ?_
  refine k_callV (pc := 316) (n := 2) X hS (c_mo_range l ρ am _ ms (xs (nI (6 * k + 1)).toNatClampNeg) (xs (nI (6 * k + 2)).toNatClampNeg) (r, ms') hI.2.1 h2) wd1564 wd1561 wd1562 wd1563 wd11 (by decide) ⟨rfl, rfl, (Nat.le_of_ble_eq_true rfl), (Nat.le_of_ble_eq_true rfl)⟩ (g_recv X hI.2.1 0 12 (by decide) rfl rfl) (As := [.int (xs (nI (6 * k + 1)).toNatClampNeg), .int (xs (nI (6 * k + 2)).toNatClampNeg)]) (rest := [.int r]) rfl rfl hl.1 (Nat.le_of_ble_eq_true rfl) d137_316 ⟨by show _ ≤ 601024; (try dsimp only); omega, by show _ ≤ 7293034; (try dsimp only); omega⟩ (hI.MAm hS.1) (fun v H1 locs1 hv hz1 hq1 hS1 => ?_)
  obtain ⟨rfl, hG⟩ := hv
  have hI := hI.mod hG hz1 hq1
  have hS := hS1
  refine lv_icmp_eq (pc := 319) (tgt := 608) hx hb d137_319 (by decide) (fun zbr => ?_) (fun zbr => absurd (rfl) zbr)
  exact W.widen (show _ ≤ 72 + (C) by (try dsimp only); omega) (show _ ≤ 214664 + (S) by (try dsimp only); omega) (kk _ _ _ _ _ _ _ hr' hI hS (lv_sub hl [0, 1, 2, 3, 4] rfl))
set_option maxHeartbeats 2000000 in
theorem lw_case6 {p : Program} {l : Launch} {e : Env} {s : State} {m : MethodId} {args : Array Value} {below : List Frame} {meth : Method} {c : Code} {H : Heap} {locs : List Loc} {Q : State → Prop} {ls : Array Slot} {ρ : RH} {w0 : Cond} {P : Nat → Prop} {ad am : Nat → Nat} {oo b L k C S : Nat} {xs : Nat → Int32} {cs : CS} {ms : GS} {Rel : Nat → CS → GS → Nat → Nat → Prop} (hfl : l.flags = pinnedFlags ++ [noTraceFlag]) (X : CX p s m c args "WordFunctionsLaw" code 9 ρ w0) (hx : p.tables.exec = Jvm.exec) (hb : c.code = code) (hL : L ≤ 3072) (hkL : 6 * k + 6 ≤ L) (hX : va_X b L xs s s.heap) (hbl : b < s.heap.size) (hT0 : TX ρ s.heap s) (hZ : rZa ρ 5 < s.heap.size ∧ rZa ρ 6 < s.heap.size) (hRel : LRel Rel) (hr : Rel k cs ms C S) (hS : va_S (fun q => s.heap.size ≤ q) s.heap H locs) (hI : LI ρ P ad am oo s.heap.size cs ms H) (hl : lv_has ls 9 [(4, .int (nI (6 * k))), (3, .ref oo), (2, .ref (am 0)), (1, .ref (ad 0)), (0, .ref b)]) (kk : ∀ (cs' : CS) (ms' : GS) (C' S' : Nat) (H1 : Heap) (locs1 : List Loc) (ls1 : Array Slot), Rel (k + 1) cs' ms' C' S' → LI ρ P ad am oo s.heap.size cs' ms' H1 → va_S (fun q => s.heap.size ≤ q) s.heap H1 locs1 → lv_has ls1 9 [(4, .int (nI (6 * k))), (3, .ref oo), (2, .ref (am 0)), (1, .ref (ad 0)), (0, .ref b)] → W p l e room_1 s m args below meth c H1 locs1 (72 + C') (214664 + S') Q (F0 m 608 ls1 [])) : W p l e room_1 s m args below meth c H locs (72 + C) (214664 + S) Q (F0 m 383 ls []) := by
  have hk5 : k < 512 := by omega
  have hroom := hRel.room hr
  refine lv_aload_n (pc := 383) hx hb d137_383 rfl (lv_at hl 3 rfl) ?_
  refine lv_aload_n (pc := 384) hx hb d137_384 rfl (lv_at hl 4 rfl) ?_
  refine lv_iload (pc := 385) hx hb d137_385 (lv_at hl 0 rfl) ?_
  refine lv_iconst (pc := 387) (v := 1) hx hb d137_387 (by decide) ?_
  refine lv_iadd (pc := 388) hx hb d137_388 ?_
  refine nm_i (y := nI (6 * k + 1)) ((nI_add (6 * k) 1).symm) ?_
  refine va_sld (pc := 389) X.1.1 X.1.2.1 hX hbl (Nat.not_le.mpr hbl) hS (nI_in (show 6 * k + 1 < L by omega) (by omega)) d137_389 ?_
  obtain ⟨r, cs', ms', c1, s1, h1, h2, hr'⟩ := hRel.putText hr hk5 (xs (nI (6 * k + 1)).toNatClampNeg)
  have hroom' := hRel.room hr'
  refine k_callV (pc := 390) (n := 1) X hS (c_wf_putText l ρ ad _ P cs (xs (nI (6 * k + 1)).toNatClampNeg) ((r, cs'), c1, s1) hI.1 h1) wd655 wd652 wd653 wd654 wd1 (by decide) ⟨rfl, rfl, (Nat.le_of_ble_eq_true rfl), (Nat.le_of_ble_eq_true rfl)⟩ (c_recv X hI.1 0 9 (by decide) rfl rfl) (As := [.int (xs (nI (6 * k + 1)).toNatClampNeg)]) (rest := []) rfl rfl hl.1 (Nat.le_of_ble_eq_true rfl) d137_390 ⟨by show _ ≤ 601024; (try dsimp only); omega, by show _ ≤ 7293034; (try dsimp only); omega⟩ (hI.MAc hS.1) (fun v H1 locs1 hv hz1 hq1 hS1 => ?_)
  obtain ⟨rfl, hW⟩ := hv
  have hI := hI.cls hW hz1 hq1
  have hS := hS1
  refine lv_aload_n (pc := 393) hx hb d137_393 rfl (lv_at hl 2 rfl) ?_
  refine lv_aload_n (pc := 394) hx hb d137_394 rfl (lv_at hl 4 rfl) ?_
  refine lv_iload (pc := 395) hx hb d137_395 (lv_at hl 0 rfl) ?_
  refine lv_iconst (pc := 397) (v := 1) hx hb d137_397 (by decide) ?_
  refine lv_iadd (pc := 398) hx hb d137_398 ?_
  refine nm_i (y := nI (6 * k + 1)) ((nI_add (6 * k) 1).symm) ?_
  refine va_sld (pc := 399) X.1.1 X.1.2.1 hX hbl (Nat.not_le.mpr hbl) hS (nI_in (show 6 * k + 1 < L by omega) (by omega)) d137_399 ?_
  refine k_callV (pc := 400) (n := 1) X hS (c_mo_putText l ρ am _ ms (xs (nI (6 * k + 1)).toNatClampNeg) (r, ms') hI.2.1 h2) wd1582 wd1579 wd1580 wd1581 wd11 (by decide) ⟨rfl, rfl, (Nat.le_of_ble_eq_true rfl), (Nat.le_of_ble_eq_true rfl)⟩ (g_recv X hI.2.1 0 12 (by decide) rfl rfl) (As := [.int (xs (nI (6 * k + 1)).toNatClampNeg)]) (rest := [.int r]) rfl rfl hl.1 (Nat.le_of_ble_eq_true rfl) d137_400 ⟨by show _ ≤ 601024; (try dsimp only); omega, by show _ ≤ 7293034; (try dsimp only); omega⟩ (hI.MAm hS.1) (fun v H1 locs1 hv hz1 hq1 hS1 => ?_)
  obtain ⟨rfl, hG⟩ := hv
  have hI := hI.mod hG hz1 hq1
  have hS := hS1
  refine lv_icmp_eq (pc := 403) (tgt := 608) hx hb d137_403 (by decide) (fun zbr => ?_) (fun zbr => absurd (rfl) zbr)
  exact W.widen (show _ ≤ 72 + (C + c1) by (try dsimp only); omega) (show _ ≤ 214664 + (S + s1) by (try dsimp only); omega) (kk _ _ _ _ _ _ _ hr' hI hS (lv_sub hl [0, 1, 2, 3, 4] rfl))
set_option maxHeartbeats 2000000 in
theorem lw_case9 {p : Program} {l : Launch} {e : Env} {s : State} {m : MethodId} {args : Array Value} {below : List Frame} {meth : Method} {c : Code} {H : Heap} {locs : List Loc} {Q : State → Prop} {ls : Array Slot} {ρ : RH} {w0 : Cond} {P : Nat → Prop} {ad am : Nat → Nat} {oo b L k C S : Nat} {xs : Nat → Int32} {cs : CS} {ms : GS} {Rel : Nat → CS → GS → Nat → Nat → Prop} (hfl : l.flags = pinnedFlags ++ [noTraceFlag]) (X : CX p s m c args "WordFunctionsLaw" code 9 ρ w0) (hx : p.tables.exec = Jvm.exec) (hb : c.code = code) (hL : L ≤ 3072) (hkL : 6 * k + 6 ≤ L) (hX : va_X b L xs s s.heap) (hbl : b < s.heap.size) (hT0 : TX ρ s.heap s) (hZ : rZa ρ 5 < s.heap.size ∧ rZa ρ 6 < s.heap.size) (hRel : LRel Rel) (hr : Rel k cs ms C S) (hS : va_S (fun q => s.heap.size ≤ q) s.heap H locs) (hI : LI ρ P ad am oo s.heap.size cs ms H) (hl : lv_has ls 9 [(4, .int (nI (6 * k))), (3, .ref oo), (2, .ref (am 0)), (1, .ref (ad 0)), (0, .ref b)]) (kk : ∀ (cs' : CS) (ms' : GS) (C' S' : Nat) (H1 : Heap) (locs1 : List Loc) (ls1 : Array Slot), Rel (k + 1) cs' ms' C' S' → LI ρ P ad am oo s.heap.size cs' ms' H1 → va_S (fun q => s.heap.size ≤ q) s.heap H1 locs1 → lv_has ls1 9 [(4, .int (nI (6 * k))), (3, .ref oo), (2, .ref (am 0)), (1, .ref (ad 0)), (0, .ref b)] → W p l e room_1 s m args below meth c H1 locs1 (72 + C') (214664 + S') Q (F0 m 608 ls1 [])) : W p l e room_1 s m args below meth c H locs (72 + C) (214664 + S) Q (F0 m 505 ls []) := by
  have hk5 : k < 512 := by omega
  have hroom := hRel.room hr
  refine lv_aload_n (pc := 505) hx hb d137_505 rfl (lv_at hl 3 rfl) ?_
  refine lv_aload_n (pc := 506) hx hb d137_506 rfl (lv_at hl 4 rfl) ?_
  refine lv_iload (pc := 507) hx hb d137_507 (lv_at hl 0 rfl) ?_
  refine lv_iconst (pc := 509) (v := 1) hx hb d137_509 (by decide) ?_
  refine lv_iadd (pc := 510) hx hb d137_510 ?_
  refine nm_i (y := nI (6 * k + 1)) ((nI_add (6 * k) 1).symm) ?_
  refine va_sld (pc := 511) X.1.1 X.1.2.1 hX hbl (Nat.not_le.mpr hbl) hS (nI_in (show 6 * k + 1 < L by omega) (by omega)) d137_511 ?_
  refine lv_aload_n (pc := 512) hx hb d137_512 rfl (lv_at hl 4 rfl) ?_
  refine lv_iload (pc := 513) hx hb d137_513 (lv_at hl 0 rfl) ?_
  refine lv_iconst (pc := 515) (v := 2) hx hb d137_515 (by decide) ?_
  refine lv_iadd (pc := 516) hx hb d137_516 ?_
  refine nm_i (y := nI (6 * k + 2)) ((nI_add (6 * k) 2).symm) ?_
  refine va_sld (pc := 517) X.1.1 X.1.2.1 hX hbl (Nat.not_le.mpr hbl) hS (nI_in (show 6 * k + 2 < L by omega) (by omega)) d137_517 ?_
  obtain ⟨r, cs', ms', h1, h2, hr'⟩ := hRel.look hr hk5 (xs (nI (6 * k + 1)).toNatClampNeg) (xs (nI (6 * k + 2)).toNatClampNeg)
  have hroom' := hRel.room hr'
  refine k_callV (pc := 518) (n := 2) X hS (c_wf_look l ρ ad _ P cs (xs (nI (6 * k + 1)).toNatClampNeg) (xs (nI (6 * k + 2)).toNatClampNeg) (r, cs') hI.1 h1) wd666 wd663 wd664 wd665 wd1 (by decide) ⟨rfl, rfl, (Nat.le_of_ble_eq_true rfl), (Nat.le_of_ble_eq_true rfl)⟩ (c_recv X hI.1 0 9 (by decide) rfl rfl) (As := [.int (xs (nI (6 * k + 1)).toNatClampNeg), .int (xs (nI (6 * k + 2)).toNatClampNeg)]) (rest := []) rfl rfl hl.1 (Nat.le_of_ble_eq_true rfl) d137_518 ⟨by show _ ≤ 601024; (try dsimp only); omega, by show _ ≤ 7293034; (try dsimp only); omega⟩ (hI.MAc hS.1) (fun v H1 locs1 hv hz1 hq1 hS1 => ?_)
  obtain ⟨rfl, hW⟩ := hv
  have hI := hI.cls hW hz1 hq1
  have hS := hS1
  refine lv_aload_n (pc := 521) hx hb d137_521 rfl (lv_at hl 2 rfl) ?_
  refine lv_aload_n (pc := 522) hx hb d137_522 rfl (lv_at hl 4 rfl) ?_
  refine lv_iload (pc := 523) hx hb d137_523 (lv_at hl 0 rfl) ?_
  refine lv_iconst (pc := 525) (v := 1) hx hb d137_525 (by decide) ?_
  refine lv_iadd (pc := 526) hx hb d137_526 ?_
  refine nm_i (y := nI (6 * k + 1)) ((nI_add (6 * k) 1).symm) ?_
  refine va_sld (pc := 527) X.1.1 X.1.2.1 hX hbl (Nat.not_le.mpr hbl) hS (nI_in (show 6 * k + 1 < L by omega) (by omega)) d137_527 ?_
  refine lv_aload_n (pc := 528) hx hb d137_528 rfl (lv_at hl 4 rfl) ?_
  refine lv_iload (pc := 529) hx hb d137_529 (lv_at hl 0 rfl) ?_
  refine lv_iconst (pc := 531) (v := 2) hx hb d137_531 (by decide) ?_
  refine lv_iadd (pc := 532) hx hb d137_532 ?_
  refine nm_i (y := nI (6 * k + 2)) ((nI_add (6 * k) 2).symm) ?_
  refine va_sld (pc := 533) X.1.1 X.1.2.1 hX hbl (Nat.not_le.mpr hbl) hS (nI_in (show 6 * k + 2 < L by omega) (by omega)) d137_533 ?_
  refine k_callV (pc := 534) (n := 2) X hS (c_mo_look l ρ am _ ms (xs (nI (6 * k + 1)).toNatClampNeg) (xs (nI (6 * k + 2)).toNatClampNeg) (r, ms') hI.2.1 h2) wd1991 wd1988 wd1989 wd1990 wd11 (by decide) ⟨rfl, rfl, (Nat.le_of_ble_eq_true rfl), (Nat.le_of_ble_eq_true rfl)⟩ (g_recv X hI.2.1 0 12 (by decide) rfl rfl) (As := [.int (xs (nI (6 * k + 1)).toNatClampNeg), .int (xs (nI (6 * k + 2)).toNatClampNeg)]) (rest := [.int r]) rfl rfl hl.1 (Nat.le_of_ble_eq_true rfl) d137_534 ⟨by show _ ≤ 601024; (try dsimp only); omega, by show _ ≤ 7293034; (try dsimp only); omega⟩ (hI.MAm hS.1) (fun v H1 locs1 hv hz1 hq1 hS1 => ?_)
  obtain ⟨rfl, hG⟩ := hv
  have hI := hI.mod hG hz1 hq1
  have hS := hS1
  refine lv_icmp_eq (pc := 537) (tgt := 608) hx hb d137_537 (by decide) (fun zbr => ?_) (fun zbr => absurd (rfl) zbr)
  exact W.widen (show _ ≤ 72 + (C) by (try dsimp only); omega) (show _ ≤ 214664 + (S) by (try dsimp only); omega) (kk _ _ _ _ _ _ _ hr' hI hS (lv_sub hl [0, 1, 2, 3, 4] rfl))
set_option maxHeartbeats 2000000 in
theorem lw_case11 {p : Program} {l : Launch} {e : Env} {s : State} {m : MethodId} {args : Array Value} {below : List Frame} {meth : Method} {c : Code} {H : Heap} {locs : List Loc} {Q : State → Prop} {ls : Array Slot} {ρ : RH} {w0 : Cond} {P : Nat → Prop} {ad am : Nat → Nat} {oo b L k C S : Nat} {xs : Nat → Int32} {cs : CS} {ms : GS} {Rel : Nat → CS → GS → Nat → Nat → Prop} (hfl : l.flags = pinnedFlags ++ [noTraceFlag]) (X : CX p s m c args "WordFunctionsLaw" code 9 ρ w0) (hx : p.tables.exec = Jvm.exec) (hb : c.code = code) (hL : L ≤ 3072) (hkL : 6 * k + 6 ≤ L) (hX : va_X b L xs s s.heap) (hbl : b < s.heap.size) (hT0 : TX ρ s.heap s) (hZ : rZa ρ 5 < s.heap.size ∧ rZa ρ 6 < s.heap.size) (hRel : LRel Rel) (hr : Rel k cs ms C S) (hS : va_S (fun q => s.heap.size ≤ q) s.heap H locs) (hI : LI ρ P ad am oo s.heap.size cs ms H) (hl : lv_has ls 9 [(4, .int (nI (6 * k))), (3, .ref oo), (2, .ref (am 0)), (1, .ref (ad 0)), (0, .ref b)]) (kk : ∀ (cs' : CS) (ms' : GS) (C' S' : Nat) (H1 : Heap) (locs1 : List Loc) (ls1 : Array Slot), Rel (k + 1) cs' ms' C' S' → LI ρ P ad am oo s.heap.size cs' ms' H1 → va_S (fun q => s.heap.size ≤ q) s.heap H1 locs1 → lv_has ls1 9 [(4, .int (nI (6 * k))), (3, .ref oo), (2, .ref (am 0)), (1, .ref (ad 0)), (0, .ref b)] → W p l e room_1 s m args below meth c H1 locs1 (72 + C') (214664 + S') Q (F0 m 608 ls1 [])) : W p l e room_1 s m args below meth c H locs (72 + C) (214664 + S) Q (F0 m 583 ls []) := by
  have hk5 : k < 512 := by omega
  have hroom := hRel.room hr
  refine lv_aload_n (pc := 583) hx hb d137_583 rfl (lv_at hl 3 rfl) ?_
  refine lv_aload_n (pc := 584) hx hb d137_584 rfl (lv_at hl 4 rfl) ?_
  refine lv_iload (pc := 585) hx hb d137_585 (lv_at hl 0 rfl) ?_
  refine lv_iconst (pc := 587) (v := 1) hx hb d137_587 (by decide) ?_
  refine lv_iadd (pc := 588) hx hb d137_588 ?_
  refine nm_i (y := nI (6 * k + 1)) ((nI_add (6 * k) 1).symm) ?_
  refine va_sld (pc := 589) X.1.1 X.1.2.1 hX hbl (Nat.not_le.mpr hbl) hS (nI_in (show 6 * k + 1 < L by omega) (by omega)) d137_589 ?_
  obtain ⟨r, ms', h1, h2, hr'⟩ := hRel.letter hr hk5 (xs (nI (6 * k + 1)).toNatClampNeg)
  have hroom' := hRel.room hr'
  refine k_callV (pc := 590) (n := 1) X hS (c_wf_letter l ρ ad _ P cs (xs (nI (6 * k + 1)).toNatClampNeg) r hI.1 h1) wd679 wd676 wd677 wd678 wd1 (by decide) ⟨rfl, rfl, (Nat.le_of_ble_eq_true rfl), (Nat.le_of_ble_eq_true rfl)⟩ (c_recv X hI.1 0 9 (by decide) rfl rfl) (As := [.int (xs (nI (6 * k + 1)).toNatClampNeg)]) (rest := []) rfl rfl hl.1 (Nat.le_of_ble_eq_true rfl) d137_590 ⟨by show _ ≤ 601024; (try dsimp only); omega, by show _ ≤ 7293034; (try dsimp only); omega⟩ (fun q hq => hq.elim) (fun v H1 locs1 hv hz1 hq1 hS1 => ?_)
  obtain ⟨rfl, hv2⟩ := hv
  have hv3 := hv2.symm
  clear hv2
  subst hv3
  have hS := hS1
  refine lv_aload_n (pc := 593) hx hb d137_593 rfl (lv_at hl 2 rfl) ?_
  refine lv_aload_n (pc := 594) hx hb d137_594 rfl (lv_at hl 4 rfl) ?_
  refine lv_iload (pc := 595) hx hb d137_595 (lv_at hl 0 rfl) ?_
  refine lv_iconst (pc := 597) (v := 1) hx hb d137_597 (by decide) ?_
  refine lv_iadd (pc := 598) hx hb d137_598 ?_
  refine nm_i (y := nI (6 * k + 1)) ((nI_add (6 * k) 1).symm) ?_
  refine va_sld (pc := 599) X.1.1 X.1.2.1 hX hbl (Nat.not_le.mpr hbl) hS (nI_in (show 6 * k + 1 < L by omega) (by omega)) d137_599 ?_
  refine k_callV (pc := 600) (n := 1) X hS (c_mo_letter l ρ am _ ms (xs (nI (6 * k + 1)).toNatClampNeg) (r, ms') hI.2.1 h2) wd1999 wd1996 wd1997 wd1998 wd11 (by decide) ⟨rfl, rfl, (Nat.le_of_ble_eq_true rfl), (Nat.le_of_ble_eq_true rfl)⟩ (g_recv X hI.2.1 0 12 (by decide) rfl rfl) (As := [.int (xs (nI (6 * k + 1)).toNatClampNeg)]) (rest := [.int r]) rfl rfl hl.1 (Nat.le_of_ble_eq_true rfl) d137_600 ⟨by show _ ≤ 601024; (try dsimp only); omega, by show _ ≤ 7293034; (try dsimp only); omega⟩ (hI.MAm hS.1) (fun v H1 locs1 hv hz1 hq1 hS1 => ?_)
  obtain ⟨rfl, hG⟩ := hv
  have hI := hI.mod hG hz1 hq1
  have hS := hS1
  refine lv_icmp_eq (pc := 603) (tgt := 608) hx hb d137_603 (by decide) (fun zbr => ?_) (fun zbr => absurd (rfl) zbr)
  exact W.widen (show _ ≤ 72 + (C) by (try dsimp only); omega) (show _ ≤ 214664 + (S) by (try dsimp only); omega) (kk _ _ _ _ _ _ _ hr' hI hS (lv_sub hl [0, 1, 2, 3, 4] rfl))
set_option maxHeartbeats 2000000 in
theorem lw_case5 {p : Program} {l : Launch} {e : Env} {s : State} {m : MethodId} {args : Array Value} {below : List Frame} {meth : Method} {c : Code} {H : Heap} {locs : List Loc} {Q : State → Prop} {ls : Array Slot} {ρ : RH} {w0 : Cond} {P : Nat → Prop} {ad am : Nat → Nat} {oo b L k C S : Nat} {xs : Nat → Int32} {cs : CS} {ms : GS} {Rel : Nat → CS → GS → Nat → Nat → Prop} (hfl : l.flags = pinnedFlags ++ [noTraceFlag]) (X : CX p s m c args "WordFunctionsLaw" code 9 ρ w0) (hx : p.tables.exec = Jvm.exec) (hb : c.code = code) (hL : L ≤ 3072) (hkL : 6 * k + 6 ≤ L) (hX : va_X b L xs s s.heap) (hbl : b < s.heap.size) (hT0 : TX ρ s.heap s) (hZ : rZa ρ 5 < s.heap.size ∧ rZa ρ 6 < s.heap.size) (hRel : LRel Rel) (hr : Rel k cs ms C S) (hS : va_S (fun q => s.heap.size ≤ q) s.heap H locs) (hI : LI ρ P ad am oo s.heap.size cs ms H) (hl : lv_has ls 9 [(4, .int (nI (6 * k))), (3, .ref oo), (2, .ref (am 0)), (1, .ref (ad 0)), (0, .ref b)]) (kk : ∀ (cs' : CS) (ms' : GS) (C' S' : Nat) (H1 : Heap) (locs1 : List Loc) (ls1 : Array Slot), Rel (k + 1) cs' ms' C' S' → LI ρ P ad am oo s.heap.size cs' ms' H1 → va_S (fun q => s.heap.size ≤ q) s.heap H1 locs1 → lv_has ls1 9 [(4, .int (nI (6 * k))), (3, .ref oo), (2, .ref (am 0)), (1, .ref (ad 0)), (0, .ref b)] → W p l e room_1 s m args below meth c H1 locs1 (72 + C') (214664 + S') Q (F0 m 608 ls1 [])) : W p l e room_1 s m args below meth c H locs (72 + C) (214664 + S) Q (F0 m 324 ls []) := by
  have hk5 : k < 512 := by omega
  have hroom := hRel.room hr
  refine lv_aload_n (pc := 324) hx hb d137_324 rfl (lv_at hl 3 rfl) ?_
  refine lv_aload_n (pc := 325) hx hb d137_325 rfl (lv_at hl 4 rfl) ?_
  refine lv_iload (pc := 326) hx hb d137_326 (lv_at hl 0 rfl) ?_
  refine lv_iconst (pc := 328) (v := 1) hx hb d137_328 (by decide) ?_
  refine lv_iadd (pc := 329) hx hb d137_329 ?_
  refine nm_i (y := nI (6 * k + 1)) ((nI_add (6 * k) 1).symm) ?_
  refine va_sld (pc := 330) X.1.1 X.1.2.1 hX hbl (Nat.not_le.mpr hbl) hS (nI_in (show 6 * k + 1 < L by omega) (by omega)) d137_330 ?_
  refine lv_aload_n (pc := 331) hx hb d137_331 rfl (lv_at hl 4 rfl) ?_
  refine lv_iload (pc := 332) hx hb d137_332 (lv_at hl 0 rfl) ?_
  refine lv_iconst (pc := 334) (v := 2) hx hb d137_334 (by decide) ?_
  refine lv_iadd (pc := 335) hx hb d137_335 ?_
  refine nm_i (y := nI (6 * k + 2)) ((nI_add (6 * k) 2).symm) ?_
  refine va_sld (pc := 336) X.1.1 X.1.2.1 hX hbl (Nat.not_le.mpr hbl) hS (nI_in (show 6 * k + 2 < L by omega) (by omega)) d137_336 ?_
  refine lv_aload_n (pc := 337) hx hb d137_337 rfl (lv_at hl 4 rfl) ?_
  refine lv_iload (pc := 338) hx hb d137_338 (lv_at hl 0 rfl) ?_
  refine lv_iconst (pc := 340) (v := 3) hx hb d137_340 (by decide) ?_
  refine lv_iadd (pc := 341) hx hb d137_341 ?_
  refine nm_i (y := nI (6 * k + 3)) ((nI_add (6 * k) 3).symm) ?_
  refine va_sld (pc := 342) X.1.1 X.1.2.1 hX hbl (Nat.not_le.mpr hbl) hS (nI_in (show 6 * k + 3 < L by omega) (by omega)) d137_342 ?_
  obtain ⟨hnn, r, cs', ms', c1, s1, h1, h2, hr'⟩ := hRel.put hr hk5 (xs (nI (6 * k + 1)).toNatClampNeg) (xs (nI (6 * k + 2)).toNatClampNeg) (xs (nI (6 * k + 3)).toNatClampNeg)
  have hroom' := hRel.room hr'
  refine lv_i2d (pc := 343) hx hb d137_343 ?_
  refine lv_ldc2d (pc := 344) hx hb X.1.2.2.2.1 (X.ts wd2000) d137_344 ?_
  refine lv_dmul (pc := 347) hx hb d137_347 (nn_ok hnn) ?_
  refine k_callV (pc := 348) (n := 3) X hS (c_wf_put l ρ ad _ P cs (xs (nI (6 * k + 1)).toNatClampNeg) (xs (nI (6 * k + 2)).toNatClampNeg) (FP.dmul (FP.i2d (xs (nI (6 * k + 3)).toNatClampNeg)) (4593671619917905920 : UInt64)) ((r, cs'), c1, s1) hI.1 h1) wd633 wd630 wd631 wd632 wd1 (by decide) ⟨rfl, rfl, (Nat.le_of_ble_eq_true rfl), (Nat.le_of_ble_eq_true rfl)⟩ (c_recv X hI.1 0 9 (by decide) rfl rfl) (As := [.int (xs (nI (6 * k + 1)).toNatClampNeg), .int (xs (nI (6 * k + 2)).toNatClampNeg), .double (FP.dmul (FP.i2d (xs (nI (6 * k + 3)).toNatClampNeg)) (4593671619917905920 : UInt64))]) (rest := []) rfl rfl hl.1 (Nat.le_of_ble_eq_true rfl) d137_348 ⟨by show _ ≤ 601024; (try dsimp only); omega, by show _ ≤ 7293034; (try dsimp only); omega⟩ (hI.MAc hS.1) (fun v H1 locs1 hv hz1 hq1 hS1 => ?_)
  obtain ⟨rfl, hW⟩ := hv
  have hI := hI.cls hW hz1 hq1
  have hS := hS1
  refine lv_aload_n (pc := 351) hx hb d137_351 rfl (lv_at hl 2 rfl) ?_
  refine lv_aload_n (pc := 352) hx hb d137_352 rfl (lv_at hl 4 rfl) ?_
  refine lv_iload (pc := 353) hx hb d137_353 (lv_at hl 0 rfl) ?_
  refine lv_iconst (pc := 355) (v := 1) hx hb d137_355 (by decide) ?_
  refine lv_iadd (pc := 356) hx hb d137_356 ?_
  refine nm_i (y := nI (6 * k + 1)) ((nI_add (6 * k) 1).symm) ?_
  refine va_sld (pc := 357) X.1.1 X.1.2.1 hX hbl (Nat.not_le.mpr hbl) hS (nI_in (show 6 * k + 1 < L by omega) (by omega)) d137_357 ?_
  refine lv_aload_n (pc := 358) hx hb d137_358 rfl (lv_at hl 4 rfl) ?_
  refine lv_iload (pc := 359) hx hb d137_359 (lv_at hl 0 rfl) ?_
  refine lv_iconst (pc := 361) (v := 2) hx hb d137_361 (by decide) ?_
  refine lv_iadd (pc := 362) hx hb d137_362 ?_
  refine nm_i (y := nI (6 * k + 2)) ((nI_add (6 * k) 2).symm) ?_
  refine va_sld (pc := 363) X.1.1 X.1.2.1 hX hbl (Nat.not_le.mpr hbl) hS (nI_in (show 6 * k + 2 < L by omega) (by omega)) d137_363 ?_
  refine lv_aload_n (pc := 364) hx hb d137_364 rfl (lv_at hl 4 rfl) ?_
  refine lv_iload (pc := 365) hx hb d137_365 (lv_at hl 0 rfl) ?_
  refine lv_iconst (pc := 367) (v := 3) hx hb d137_367 (by decide) ?_
  refine lv_iadd (pc := 368) hx hb d137_368 ?_
  refine nm_i (y := nI (6 * k + 3)) ((nI_add (6 * k) 3).symm) ?_
  refine va_sld (pc := 369) X.1.1 X.1.2.1 hX hbl (Nat.not_le.mpr hbl) hS (nI_in (show 6 * k + 3 < L by omega) (by omega)) d137_369 ?_
  refine lv_i2d (pc := 370) hx hb d137_370 ?_
  refine lv_ldc2d (pc := 371) hx hb X.1.2.2.2.1 (X.ts wd2000) d137_371 ?_
  refine lv_dmul (pc := 374) hx hb d137_374 (nn_ok hnn) ?_
  refine k_callV (pc := 375) (n := 3) X hS (c_mo_put l ρ am _ ms (xs (nI (6 * k + 1)).toNatClampNeg) (xs (nI (6 * k + 2)).toNatClampNeg) (FP.dmul (FP.i2d (xs (nI (6 * k + 3)).toNatClampNeg)) (4593671619917905920 : UInt64)) (r, ms') hI.2.1 h2) wd1568 wd1565 wd1566 wd1567 wd11 (by decide) ⟨rfl, rfl, (Nat.le_of_ble_eq_true rfl), (Nat.le_of_ble_eq_true rfl)⟩ (g_recv X hI.2.1 0 12 (by decide) rfl rfl) (As := [.int (xs (nI (6 * k + 1)).toNatClampNeg), .int (xs (nI (6 * k + 2)).toNatClampNeg), .double (FP.dmul (FP.i2d (xs (nI (6 * k + 3)).toNatClampNeg)) (4593671619917905920 : UInt64))]) (rest := [.int r]) rfl rfl hl.1 (Nat.le_of_ble_eq_true rfl) d137_375 ⟨by show _ ≤ 601024; (try dsimp only); omega, by show _ ≤ 7293034; (try dsimp only); omega⟩ (hI.MAm hS.1) (fun v H1 locs1 hv hz1 hq1 hS1 => ?_)
  obtain ⟨rfl, hG⟩ := hv
  have hI := hI.mod hG hz1 hq1
  have hS := hS1
  refine lv_icmp_eq (pc := 378) (tgt := 608) hx hb d137_378 (by decide) (fun zbr => ?_) (fun zbr => absurd (rfl) zbr)
  exact W.widen (show _ ≤ 72 + (C + c1) by (try dsimp only); omega) (show _ ≤ 214664 + (S + s1) by (try dsimp only); omega) (kk _ _ _ _ _ _ _ hr' hI hS (lv_sub hl [0, 1, 2, 3, 4] rfl))
set_option maxHeartbeats 2000000 in
theorem lw_case3 {p : Program} {l : Launch} {e : Env} {s : State} {m : MethodId} {args : Array Value} {below : List Frame} {meth : Method} {c : Code} {H : Heap} {locs : List Loc} {Q : State → Prop} {ls : Array Slot} {ρ : RH} {w0 : Cond} {P : Nat → Prop} {ad am : Nat → Nat} {oo b L k C S : Nat} {xs : Nat → Int32} {cs : CS} {ms : GS} {Rel : Nat → CS → GS → Nat → Nat → Prop} (hfl : l.flags = pinnedFlags ++ [noTraceFlag]) (X : CX p s m c args "WordFunctionsLaw" code 9 ρ w0) (hx : p.tables.exec = Jvm.exec) (hb : c.code = code) (hL : L ≤ 3072) (hkL : 6 * k + 6 ≤ L) (hX : va_X b L xs s s.heap) (hbl : b < s.heap.size) (hT0 : TX ρ s.heap s) (hZ : rZa ρ 5 < s.heap.size ∧ rZa ρ 6 < s.heap.size) (hRel : LRel Rel) (hr : Rel k cs ms C S) (hS : va_S (fun q => s.heap.size ≤ q) s.heap H locs) (hI : LI ρ P ad am oo s.heap.size cs ms H) (hl : lv_has ls 9 [(4, .int (nI (6 * k))), (3, .ref oo), (2, .ref (am 0)), (1, .ref (ad 0)), (0, .ref b)]) (kk : ∀ (cs' : CS) (ms' : GS) (C' S' : Nat) (H1 : Heap) (locs1 : List Loc) (ls1 : Array Slot), Rel (k + 1) cs' ms' C' S' → LI ρ P ad am oo s.heap.size cs' ms' H1 → va_S (fun q => s.heap.size ≤ q) s.heap H1 locs1 → lv_has ls1 9 [(4, .int (nI (6 * k))), (3, .ref oo), (2, .ref (am 0)), (1, .ref (ad 0)), (0, .ref b)] → W p l e room_1 s m args below meth c H1 locs1 (72 + C') (214664 + S') Q (F0 m 608 ls1 [])) : W p l e room_1 s m args below meth c H locs (72 + C) (214664 + S) Q (F0 m 239 ls []) := by
  have hk5 : k < 512 := by omega
  have hroom := hRel.room hr
  refine lv_aload_n (pc := 239) hx hb d137_239 rfl (lv_at hl 3 rfl) ?_
  refine lv_aload_n (pc := 240) hx hb d137_240 rfl (lv_at hl 4 rfl) ?_
  refine lv_iload (pc := 241) hx hb d137_241 (lv_at hl 0 rfl) ?_
  refine lv_iconst (pc := 243) (v := 1) hx hb d137_243 (by decide) ?_
  refine lv_iadd (pc := 244) hx hb d137_244 ?_
  refine nm_i (y := nI (6 * k + 1)) ((nI_add (6 * k) 1).symm) ?_
  refine va_sld (pc := 245) X.1.1 X.1.2.1 hX hbl (Nat.not_le.mpr hbl) hS (nI_in (show 6 * k + 1 < L by omega) (by omega)) d137_245 ?_
  refine lv_aload_n (pc := 246) hx hb d137_246 rfl (lv_at hl 4 rfl) ?_
  refine lv_iload (pc := 247) hx hb d137_247 (lv_at hl 0 rfl) ?_
  refine lv_iconst (pc := 249) (v := 2) hx hb d137_249 (by decide) ?_
  refine lv_iadd (pc := 250) hx hb d137_250 ?_
  refine nm_i (y := nI (6 * k + 2)) ((nI_add (6 * k) 2).symm) ?_
  refine va_sld (pc := 251) X.1.1 X.1.2.1 hX hbl (Nat.not_le.mpr hbl) hS (nI_in (show 6 * k + 2 < L by omega) (by omega)) d137_251 ?_
  obtain ⟨ms', t, h2, h3, hcases⟩ := hRel.argument hr hk5 (xs (nI (6 * k + 1)).toNatClampNeg) (xs (nI (6 * k + 2)).toNatClampNeg)
  have hT := KPT_tx hT0 hZ hS
  have key : ∀ (H1 : Heap) (locs1 : List Loc) (cs1 : CS) (C1 S1 n1 n2 : Nat), LI ρ P ad am oo s.heap.size cs1 ms H1 → va_S (fun q => s.heap.size ≤ q) s.heap H1 locs1 → Rel (k + 1) cs1 ms' C1 S1 → n1 ≤ 72 + C1 → n2 ≤ 214664 + S1 → W p l e room_1 s m args below meth c H1 locs1 n1 n2 Q (F0 m 255 ls [.int t]) := by
    intro H locs cs1 C1 S1 n1 n2 hI hS hr' hn1 hn2
    have hroom' := hRel.room hr'
    refine lv_istore (pc := 255) (lv' := [(5, .int t), (4, .int (nI (6 * k))), (3, .ref oo), (2, .ref (am 0)), (1, .ref (ad 0)), (0, .ref b)]) hx hb d137_255 hl (by decide) rfl (fun ls hl => ?_)
    refine lv_aload_n (pc := 257) hx hb d137_257 rfl (lv_at hl 3 rfl) ?_
    refine lv_aload_n (pc := 258) hx hb d137_258 rfl (lv_at hl 5 rfl) ?_
    refine lv_iload (pc := 259) hx hb d137_259 (lv_at hl 1 rfl) ?_
    refine lv_iconst (pc := 261) (v := 1) hx hb d137_261 (by decide) ?_
    refine lv_iadd (pc := 262) hx hb d137_262 ?_
    refine nm_i (y := nI (6 * k + 1)) ((nI_add (6 * k) 1).symm) ?_
    refine va_sld (pc := 263) X.1.1 X.1.2.1 hX hbl (Nat.not_le.mpr hbl) hS (nI_in (show 6 * k + 1 < L by omega) (by omega)) d137_263 ?_
    refine lv_aload_n (pc := 264) hx hb d137_264 rfl (lv_at hl 5 rfl) ?_
    refine lv_iload (pc := 265) hx hb d137_265 (lv_at hl 1 rfl) ?_
    refine lv_iconst (pc := 267) (v := 2) hx hb d137_267 (by decide) ?_
    refine lv_iadd (pc := 268) hx hb d137_268 ?_
    refine nm_i (y := nI (6 * k + 2)) ((nI_add (6 * k) 2).symm) ?_
    refine va_sld (pc := 269) X.1.1 X.1.2.1 hX hbl (Nat.not_le.mpr hbl) hS (nI_in (show 6 * k + 2 < L by omega) (by omega)) d137_269 ?_
    refine k_callV (pc := 270) (n := 2) X hS (c_mo_argument l ρ am _ ms (xs (nI (6 * k + 1)).toNatClampNeg) (xs (nI (6 * k + 2)).toNatClampNeg) ms' hI.2.1 h2) wd1560 wd1557 wd1558 wd1559 wd11 (by decide) ⟨rfl, rfl, (Nat.le_of_ble_eq_true rfl), (Nat.le_of_ble_eq_true rfl)⟩ (g_recv X hI.2.1 0 12 (by decide) rfl rfl) (As := [.int (xs (nI (6 * k + 1)).toNatClampNeg), .int (xs (nI (6 * k + 2)).toNatClampNeg)]) (rest := []) rfl rfl hl.1 (Nat.le_of_ble_eq_true rfl) d137_270 ⟨by show _ ≤ 601024; (try dsimp only); omega, by show _ ≤ 7293034; (try dsimp only); omega⟩ (hI.MAm hS.1) (fun v H1 locs1 hv hz1 hq1 hS1 => ?_)
    obtain ⟨rfl, hG⟩ := hv
    have hI := hI.mod hG hz1 hq1
    have hS := hS1
    refine lv_aload_n (pc := 273) hx hb d137_273 rfl (lv_at hl 3 rfl) ?_
    refine k_callV (pc := 274) (n := 0) X hS (c_mo_thrown l ρ am _ ms' t hI.2.1 h3) wd1536 wd1533 wd1534 wd1535 wd11 (by decide) ⟨rfl, rfl, (Nat.le_of_ble_eq_true rfl), (Nat.le_of_ble_eq_true rfl)⟩ (g_recv X hI.2.1 0 12 (by decide) rfl rfl) (As := []) (rest := []) rfl rfl hl.1 (Nat.le_of_ble_eq_true rfl) d137_274 ⟨by show _ ≤ 601024; (try dsimp only); omega, by show _ ≤ 7293034; (try dsimp only); omega⟩ (fun q hq => hq.elim) (fun v H1 locs1 hv hz1 hq1 hS1 => ?_)
    obtain ⟨rfl, hv2⟩ := hv
    have hv3 := hv2.symm
    clear hv2
    subst hv3
    have hS := hS1
    refine lv_iload (pc := 277) hx hb d137_277 (lv_at hl 0 rfl) ?_
    refine lv_icmp_eq (pc := 279) (tgt := 284) hx hb d137_279 (by decide) (fun zbr => ?_) (fun zbr => absurd (rfl) zbr)
    refine lv_goto (pc := 284) (tgt := 608) hx hb d137_284 (by decide) ?_
    exact W.widen (show _ ≤ 72 + (C1) by (try dsimp only); omega) (show _ ≤ 214664 + (S1) by (try dsimp only); omega) (kk _ _ _ _ _ _ _ hr' hI hS (lv_sub hl [1, 2, 3, 4, 5] rfl))
  rcases hcases with ⟨cs', rfl, h1, hr'⟩ | ⟨rfl, hbad, hr'⟩ | ⟨rfl, hok, hno, hr'⟩
  all_goals have hroom' := hRel.room hr'
  · skip
    refine k_callSX (pc := 252) (n := 3) X hS (c_l_arg0 l ρ _ P ad cs (xs (nI (6 * k + 1)).toNatClampNeg) (xs (nI (6 * k + 2)).toNatClampNeg) cs' hI.1 h1) wd697 wd695 wd696 wd0 (by decide) ⟨rfl, rfl, (Nat.le_of_ble_eq_true rfl), (Nat.le_of_ble_eq_true rfl)⟩ hT (As := [.ref (ad 0), .int (xs (nI (6 * k + 1)).toNatClampNeg), .int (xs (nI (6 * k + 2)).toNatClampNeg)]) (rest := []) rfl rfl hl.1 (Nat.le_of_ble_eq_true rfl) d137_252 ⟨by show _ ≤ 601024; (try dsimp only); omega, by show _ ≤ 7293034; (try dsimp only); omega⟩ (hI.MAc hS.1) (fun v H1 locs1 hv hz1 hq1 hS1 => ?_)
    obtain ⟨rfl, hW⟩ := hv
    exact key _ _ _ _ _ _ _ (hI.cls hW hz1 hq1) hS1 hr' (by omega) (by omega)
  · skip
    refine k_callSX (pc := 252) (n := 3) X hS (c_l_arg1 l hfl ρ _ P ad cs (xs (nI (6 * k + 1)).toNatClampNeg) (xs (nI (6 * k + 2)).toNatClampNeg) hI.1 hbad) wd697 wd695 wd696 wd0 (by decide) ⟨rfl, rfl, (Nat.le_of_ble_eq_true rfl), (Nat.le_of_ble_eq_true rfl)⟩ hT (As := [.ref (ad 0), .int (xs (nI (6 * k + 1)).toNatClampNeg), .int (xs (nI (6 * k + 2)).toNatClampNeg)]) (rest := []) rfl rfl hl.1 (Nat.le_of_ble_eq_true rfl) d137_252 ⟨by show _ ≤ 601024; (try dsimp only); omega, by show _ ≤ 7293034; (try dsimp only); omega⟩ (fun q hq => Nat.le_trans hS.1 hq) (fun v H1 locs1 hv hz1 hq1 hS1 => ?_)
    obtain ⟨rfl, hW⟩ := hv
    exact key _ _ _ _ _ _ _ (hI.cls hW hz1 (fun q h1 h2 => hq1 q h1 (fun z => absurd h1 (Nat.not_lt.mpr z)))) hS1 hr' (by omega) (by omega)
  · skip
    refine k_callSX (pc := 252) (n := 3) X hS (c_l_arg2 l hfl ρ _ P ad cs (xs (nI (6 * k + 1)).toNatClampNeg) (xs (nI (6 * k + 2)).toNatClampNeg) hI.1 hok hno) wd697 wd695 wd696 wd0 (by decide) ⟨rfl, rfl, (Nat.le_of_ble_eq_true rfl), (Nat.le_of_ble_eq_true rfl)⟩ hT (As := [.ref (ad 0), .int (xs (nI (6 * k + 1)).toNatClampNeg), .int (xs (nI (6 * k + 2)).toNatClampNeg)]) (rest := []) rfl rfl hl.1 (Nat.le_of_ble_eq_true rfl) d137_252 ⟨by show _ ≤ 601024; (try dsimp only); omega, by show _ ≤ 7293034; (try dsimp only); omega⟩ (fun q hq => Nat.le_trans hS.1 hq) (fun v H1 locs1 hv hz1 hq1 hS1 => ?_)
    obtain ⟨rfl, hW⟩ := hv
    exact key _ _ _ _ _ _ _ (hI.cls hW hz1 (fun q h1 h2 => hq1 q h1 (fun z => absurd h1 (Nat.not_lt.mpr z)))) hS1 hr' (by omega) (by omega)
set_option maxHeartbeats 2000000 in
theorem lw_case7 {p : Program} {l : Launch} {e : Env} {s : State} {m : MethodId} {args : Array Value} {below : List Frame} {meth : Method} {c : Code} {H : Heap} {locs : List Loc} {Q : State → Prop} {ls : Array Slot} {ρ : RH} {w0 : Cond} {P : Nat → Prop} {ad am : Nat → Nat} {oo b L k C S : Nat} {xs : Nat → Int32} {cs : CS} {ms : GS} {Rel : Nat → CS → GS → Nat → Nat → Prop} (hfl : l.flags = pinnedFlags ++ [noTraceFlag]) (X : CX p s m c args "WordFunctionsLaw" code 9 ρ w0) (hx : p.tables.exec = Jvm.exec) (hb : c.code = code) (hL : L ≤ 3072) (hkL : 6 * k + 6 ≤ L) (hX : va_X b L xs s s.heap) (hbl : b < s.heap.size) (hT0 : TX ρ s.heap s) (hZ : rZa ρ 5 < s.heap.size ∧ rZa ρ 6 < s.heap.size) (hRel : LRel Rel) (hr : Rel k cs ms C S) (hS : va_S (fun q => s.heap.size ≤ q) s.heap H locs) (hI : LI ρ P ad am oo s.heap.size cs ms H) (hl : lv_has ls 9 [(4, .int (nI (6 * k))), (3, .ref oo), (2, .ref (am 0)), (1, .ref (ad 0)), (0, .ref b)]) (kk : ∀ (cs' : CS) (ms' : GS) (C' S' : Nat) (H1 : Heap) (locs1 : List Loc) (ls1 : Array Slot), Rel (k + 1) cs' ms' C' S' → LI ρ P ad am oo s.heap.size cs' ms' H1 → va_S (fun q => s.heap.size ≤ q) s.heap H1 locs1 → lv_has ls1 9 [(4, .int (nI (6 * k))), (3, .ref oo), (2, .ref (am 0)), (1, .ref (ad 0)), (0, .ref b)] → W p l e room_1 s m args below meth c H1 locs1 (72 + C') (214664 + S') Q (F0 m 608 ls1 [])) : W p l e room_1 s m args below meth c H locs (72 + C) (214664 + S) Q (F0 m 408 ls []) := by
  have hk5 : k < 512 := by omega
  have hroom := hRel.room hr
  refine lv_aload_n (pc := 408) hx hb d137_408 rfl (lv_at hl 3 rfl) ?_
  refine lv_aload_n (pc := 409) hx hb d137_409 rfl (lv_at hl 4 rfl) ?_
  refine lv_iload (pc := 410) hx hb d137_410 (lv_at hl 0 rfl) ?_
  refine lv_iconst (pc := 412) (v := 1) hx hb d137_412 (by decide) ?_
  refine lv_iadd (pc := 413) hx hb d137_413 ?_
  refine nm_i (y := nI (6 * k + 1)) ((nI_add (6 * k) 1).symm) ?_
  refine va_sld (pc := 414) X.1.1 X.1.2.1 hX hbl (Nat.not_le.mpr hbl) hS (nI_in (show 6 * k + 1 < L by omega) (by omega)) d137_414 ?_
  refine lv_aload_n (pc := 415) hx hb d137_415 rfl (lv_at hl 1 rfl) ?_
  obtain ⟨r, ms', t, h2, h3, hcases⟩ := hRel.call hr hk5 (xs (nI (6 * k + 1)).toNatClampNeg)
  have hT := KPT_tx hT0 hZ hS
  have key : ∀ (H1 : Heap) (locs1 : List Loc) (cs1 : CS) (C1 S1 n1 n2 : Nat), LI ρ P ad am oo s.heap.size cs1 ms H1 → va_S (fun q => s.heap.size ≤ q) s.heap H1 locs1 → Rel (k + 1) cs1 ms' C1 S1 → n1 ≤ 72 + C1 → n2 ≤ 214664 + S1 → (t = 0 → H1[oo]? = some (vp_cell (rA ρ 5) (1, .inr (.inl (fun _ => r.toInt64))))) → W p l e room_1 s m args below meth c H1 locs1 n1 n2 Q (F0 m 419 ls [.int t]) := by
    intro H locs cs1 C1 S1 n1 n2 hI hS hr' hn1 hn2 ho
    have hroom' := hRel.room hr'
    refine lv_istore (pc := 419) (lv' := [(5, .int t), (4, .int (nI (6 * k))), (3, .ref oo), (2, .ref (am 0)), (1, .ref (ad 0)), (0, .ref b)]) hx hb d137_419 hl (by decide) rfl (fun ls hl => ?_)
    refine lv_aload_n (pc := 421) hx hb d137_421 rfl (lv_at hl 3 rfl) ?_
    refine lv_aload_n (pc := 422) hx hb d137_422 rfl (lv_at hl 5 rfl) ?_
    refine lv_iload (pc := 423) hx hb d137_423 (lv_at hl 1 rfl) ?_
    refine lv_iconst (pc := 425) (v := 1) hx hb d137_425 (by decide) ?_
    refine lv_iadd (pc := 426) hx hb d137_426 ?_
    refine nm_i (y := nI (6 * k + 1)) ((nI_add (6 * k) 1).symm) ?_
    refine va_sld (pc := 427) X.1.1 X.1.2.1 hX hbl (Nat.not_le.mpr hbl) hS (nI_in (show 6 * k + 1 < L by omega) (by omega)) d137_427 ?_
    refine k_callV (pc := 428) (n := 1) X hS (c_mo_call l ρ am _ ms (xs (nI (6 * k + 1)).toNatClampNeg) (r, ms') hI.2.1 h2) wd1586 wd1583 wd1584 wd1585 wd11 (by decide) ⟨rfl, rfl, (Nat.le_of_ble_eq_true rfl), (Nat.le_of_ble_eq_true rfl)⟩ (g_recv X hI.2.1 0 12 (by decide) rfl rfl) (As := [.int (xs (nI (6 * k + 1)).toNatClampNeg)]) (rest := []) rfl rfl hl.1 (Nat.le_of_ble_eq_true rfl) d137_428 ⟨by show _ ≤ 601024; (try dsimp only); omega, by show _ ≤ 7293034; (try dsimp only); omega⟩ (hI.MAm hS.1) (fun v H1 locs1 hv hz1 hq1 hS1 => ?_)
    have ho : t = 0 → H1[oo]? = some (vp_cell (rA ρ 5) (1, .inr (.inl (fun _ => r.toInt64)))) := fun z => by rw [hq1 oo hI.oo_lt (fun g => hI.oo_m g)]; exact ho z
    obtain ⟨rfl, hG⟩ := hv
    have hI := hI.mod hG hz1 hq1
    have hS := hS1
    refine lv_istore (pc := 431) (lv' := [(6, .int r), (5, .int t), (4, .int (nI (6 * k))), (3, .ref oo), (2, .ref (am 0)), (1, .ref (ad 0)), (0, .ref b)]) hx hb d137_431 hl (by decide) rfl (fun ls hl => ?_)
    refine lv_aload_n (pc := 433) hx hb d137_433 rfl (lv_at hl 4 rfl) ?_
    refine k_callV (pc := 434) (n := 0) X hS (c_mo_thrown l ρ am _ ms' t hI.2.1 h3) wd1536 wd1533 wd1534 wd1535 wd11 (by decide) ⟨rfl, rfl, (Nat.le_of_ble_eq_true rfl), (Nat.le_of_ble_eq_true rfl)⟩ (g_recv X hI.2.1 0 12 (by decide) rfl rfl) (As := []) (rest := []) rfl rfl hl.1 (Nat.le_of_ble_eq_true rfl) d137_434 ⟨by show _ ≤ 601024; (try dsimp only); omega, by show _ ≤ 7293034; (try dsimp only); omega⟩ (fun q hq => hq.elim) (fun v H1 locs1 hv hz1 hq1 hS1 => ?_)
    obtain ⟨rfl, hv2⟩ := hv
    have hv3 := hv2.symm
    clear hv2
    subst hv3
    have hS := hS1
    refine lv_iload (pc := 437) hx hb d137_437 (lv_at hl 1 rfl) ?_
    refine lv_icmp_eq (pc := 439) (tgt := 444) hx hb d137_439 (by decide) (fun zbr => ?_) (fun zbr => absurd (rfl) zbr)
    refine lv_iload (pc := 444) hx hb d137_444 (lv_at hl 1 rfl) ?_
    refine lv_if_ne (pc := 446) (tgt := 461) hx hb d137_446 (by decide) (fun c446 => ?_) (fun c446 => ?_)
    · skip
      refine lv_goto (pc := 461) (tgt := 608) hx hb d137_461 (by decide) ?_
      exact W.widen (show _ ≤ 72 + (C1) by (try dsimp only); omega) (show _ ≤ 214664 + (S1) by (try dsimp only); omega) (kk _ _ _ _ _ _ _ hr' hI hS (lv_sub hl [2, 3, 4, 5, 6] rfl))
    · skip
      refine lv_aload_n (pc := 449) hx hb d137_449 rfl (lv_at hl 3 rfl) ?_
      refine lv_iconst (pc := 450) (v := 0) hx hb d137_450 (by decide) ?_
      refine o_lald (pc := 451) X (ho c446) d137_451 ?_
      refine lv_iload (pc := 452) hx hb d137_452 (lv_at hl 0 rfl) ?_
      refine lv_i2l (pc := 454) hx hb d137_454 rfl ?_
      refine W.lcmp (pc := 455) hx hb d137_455 ?_
      refine lv_if_eq (pc := 456) (tgt := 461) hx hb d137_456 (by decide) (fun zbr => ?_) (fun zbr => absurd (lg_cmp_self _) zbr)
      refine lv_goto (pc := 461) (tgt := 608) hx hb d137_461 (by decide) ?_
      exact W.widen (show _ ≤ 72 + (C1) by (try dsimp only); omega) (show _ ≤ 214664 + (S1) by (try dsimp only); omega) (kk _ _ _ _ _ _ _ hr' hI hS (lv_sub hl [2, 3, 4, 5, 6] rfl))
  rcases hcases with ⟨cs', c1, s1, rfl, h1, hr'⟩ | ⟨rfl, hno, hr'⟩
  all_goals have hroom' := hRel.room hr'
  · skip
    obtain ⟨fo, hoo⟩ := hI.2.2.1
    refine k_callSX (pc := 416) (n := 3) X hS (c_l_call0 l ρ _ P ad cs (xs (nI (6 * k + 1)).toNatClampNeg) ((r, cs'), c1, s1) oo fo hI.1 hoo hI.2.2.2.2.1 hI.2.2.2.2.2.2.1 h1) wd729 wd727 wd728 wd0 (by decide) ⟨rfl, rfl, (Nat.le_of_ble_eq_true rfl), (Nat.le_of_ble_eq_true rfl)⟩ hT (As := [.ref (ad 0), .int (xs (nI (6 * k + 1)).toNatClampNeg), .ref oo]) (rest := []) rfl rfl hl.1 (Nat.le_of_ble_eq_true rfl) d137_416 ⟨by show _ ≤ 601024; (try dsimp only); omega, by show _ ≤ 7293034; (try dsimp only); omega⟩ (fun q z => z.elim (hI.MAc hS.1 q) (fun z => by rw [z]; exact hI.oo_b)) (fun v H1 locs1 hv hz1 hq1 hS1 => ?_)
    obtain ⟨rfl, hW, ho⟩ := hv
    exact key _ _ _ _ _ _ _ (hI.call hW ⟨_, ho⟩ hz1 hq1) hS1 hr' (by show 72 + C + c1 ≤ _; omega) (by show 214664 + S + s1 ≤ _; omega) (fun _ => ho)
  · skip
    refine k_callSX (pc := 416) (n := 3) X hS (c_l_call1 l hfl ρ _ P ad cs (xs (nI (6 * k + 1)).toNatClampNeg) oo hI.1 hno) wd729 wd727 wd728 wd0 (by decide) ⟨rfl, rfl, (Nat.le_of_ble_eq_true rfl), (Nat.le_of_ble_eq_true rfl)⟩ hT (As := [.ref (ad 0), .int (xs (nI (6 * k + 1)).toNatClampNeg), .ref oo]) (rest := []) rfl rfl hl.1 (Nat.le_of_ble_eq_true rfl) d137_416 ⟨by show _ ≤ 601024; (try dsimp only); omega, by show _ ≤ 7293034; (try dsimp only); omega⟩ (fun q hq => Nat.le_trans hS.1 hq) (fun v H1 locs1 hv hz1 hq1 hS1 => ?_)
    obtain ⟨rfl, hW⟩ := hv
    exact key _ _ _ _ _ _ _ (hI.cls hW hz1 (fun q h1 h2 => hq1 q h1 (fun z => absurd h1 (Nat.not_lt.mpr z)))) hS1 hr' (by omega) (by omega) (fun z => absurd z (by decide))
set_option maxHeartbeats 2000000 in
theorem lw_case8 {p : Program} {l : Launch} {e : Env} {s : State} {m : MethodId} {args : Array Value} {below : List Frame} {meth : Method} {c : Code} {H : Heap} {locs : List Loc} {Q : State → Prop} {ls : Array Slot} {ρ : RH} {w0 : Cond} {P : Nat → Prop} {ad am : Nat → Nat} {oo b L k C S : Nat} {xs : Nat → Int32} {cs : CS} {ms : GS} {Rel : Nat → CS → GS → Nat → Nat → Prop} (hfl : l.flags = pinnedFlags ++ [noTraceFlag]) (X : CX p s m c args "WordFunctionsLaw" code 9 ρ w0) (hx : p.tables.exec = Jvm.exec) (hb : c.code = code) (hL : L ≤ 3072) (hkL : 6 * k + 6 ≤ L) (hX : va_X b L xs s s.heap) (hbl : b < s.heap.size) (hT0 : TX ρ s.heap s) (hZ : rZa ρ 5 < s.heap.size ∧ rZa ρ 6 < s.heap.size) (hRel : LRel Rel) (hr : Rel k cs ms C S) (hS : va_S (fun q => s.heap.size ≤ q) s.heap H locs) (hI : LI ρ P ad am oo s.heap.size cs ms H) (hl : lv_has ls 9 [(4, .int (nI (6 * k))), (3, .ref oo), (2, .ref (am 0)), (1, .ref (ad 0)), (0, .ref b)]) (kk : ∀ (cs' : CS) (ms' : GS) (C' S' : Nat) (H1 : Heap) (locs1 : List Loc) (ls1 : Array Slot), Rel (k + 1) cs' ms' C' S' → LI ρ P ad am oo s.heap.size cs' ms' H1 → va_S (fun q => s.heap.size ≤ q) s.heap H1 locs1 → lv_has ls1 9 [(4, .int (nI (6 * k))), (3, .ref oo), (2, .ref (am 0)), (1, .ref (ad 0)), (0, .ref b)] → W p l e room_1 s m args below meth c H1 locs1 (72 + C') (214664 + S') Q (F0 m 608 ls1 [])) : W p l e room_1 s m args below meth c H locs (72 + C) (214664 + S) Q (F0 m 464 ls []) := by
  have hk5 : k < 512 := by omega
  have hroom := hRel.room hr
  refine lv_aload_n (pc := 464) hx hb d137_464 rfl (lv_at hl 3 rfl) ?_
  refine lv_aload_n (pc := 465) hx hb d137_465 rfl (lv_at hl 4 rfl) ?_
  refine lv_iload (pc := 466) hx hb d137_466 (lv_at hl 0 rfl) ?_
  refine lv_iconst (pc := 468) (v := 1) hx hb d137_468 (by decide) ?_
  refine lv_iadd (pc := 469) hx hb d137_469 ?_
  refine nm_i (y := nI (6 * k + 1)) ((nI_add (6 * k) 1).symm) ?_
  refine va_sld (pc := 470) X.1.1 X.1.2.1 hX hbl (Nat.not_le.mpr hbl) hS (nI_in (show 6 * k + 1 < L by omega) (by omega)) d137_470 ?_
  refine lv_if_eq (pc := 471) (tgt := 478) hx hb d137_471 (by decide) (fun c471 => ?_) (fun c471 => ?_)
  · skip
    refine lv_iconst (pc := 478) (v := 0) hx hb d137_478 (by decide) ?_
    obtain ⟨r, ms', h1, h2, hr'⟩ := hRel.size hr hk5 0 (by decide)
    have hroom' := hRel.room hr'
    refine k_callV (pc := 479) (n := 1) X hS (c_wf_size l ρ ad _ P cs 0 r hI.1 h1) wd662 wd659 wd660 wd661 wd1 (by decide) ⟨rfl, rfl, (Nat.le_of_ble_eq_true rfl), (Nat.le_of_ble_eq_true rfl)⟩ (c_recv X hI.1 0 9 (by decide) rfl rfl) (As := [.int 0]) (rest := []) rfl rfl hl.1 (Nat.le_of_ble_eq_true rfl) d137_479 ⟨by show _ ≤ 601024; (try dsimp only); omega, by show _ ≤ 7293034; (try dsimp only); omega⟩ (fun q hq => hq.elim) (fun v H1 locs1 hv hz1 hq1 hS1 => ?_)
    obtain ⟨rfl, hv2⟩ := hv
    have hv3 := hv2.symm
    clear hv2
    subst hv3
    have hS := hS1
    refine lv_aload_n (pc := 482) hx hb d137_482 rfl (lv_at hl 2 rfl) ?_
    refine lv_aload_n (pc := 483) hx hb d137_483 rfl (lv_at hl 4 rfl) ?_
    refine lv_iload (pc := 484) hx hb d137_484 (lv_at hl 0 rfl) ?_
    refine lv_iconst (pc := 486) (v := 1) hx hb d137_486 (by decide) ?_
    refine lv_iadd (pc := 487) hx hb d137_487 ?_
    refine nm_i (y := nI (6 * k + 1)) ((nI_add (6 * k) 1).symm) ?_
    refine va_sld (pc := 488) X.1.1 X.1.2.1 hX hbl (Nat.not_le.mpr hbl) hS (nI_in (show 6 * k + 1 < L by omega) (by omega)) d137_488 ?_
    refine lv_if_eq (pc := 489) (tgt := 496) hx hb d137_489 (by decide) (fun zbr => ?_) (fun zbr => absurd (c471) zbr)
    refine lv_iconst (pc := 496) (v := 0) hx hb d137_496 (by decide) ?_
    refine k_callV (pc := 497) (n := 1) X hS (c_mo_size l ρ am _ ms 0 (r, ms') hI.2.1 h2) wd1987 wd1984 wd1985 wd1986 wd11 (by decide) ⟨rfl, rfl, (Nat.le_of_ble_eq_true rfl), (Nat.le_of_ble_eq_true rfl)⟩ (g_recv X hI.2.1 0 12 (by decide) rfl rfl) (As := [.int 0]) (rest := [.int r]) rfl rfl hl.1 (Nat.le_of_ble_eq_true rfl) d137_497 ⟨by show _ ≤ 601024; (try dsimp only); omega, by show _ ≤ 7293034; (try dsimp only); omega⟩ (hI.MAm hS.1) (fun v H1 locs1 hv hz1 hq1 hS1 => ?_)
    obtain ⟨rfl, hG⟩ := hv
    have hI := hI.mod hG hz1 hq1
    have hS := hS1
    refine lv_icmp_eq (pc := 500) (tgt := 608) hx hb d137_500 (by decide) (fun zbr => ?_) (fun zbr => absurd (rfl) zbr)
    exact W.widen (show _ ≤ 72 + (C) by (try dsimp only); omega) (show _ ≤ 214664 + (S) by (try dsimp only); omega) (kk _ _ _ _ _ _ _ hr' hI hS (lv_sub hl [0, 1, 2, 3, 4] rfl))
  · skip
    refine lv_iconst (pc := 474) (v := 1) hx hb d137_474 (by decide) ?_
    refine lv_goto (pc := 475) (tgt := 479) hx hb d137_475 (by decide) ?_
    obtain ⟨r, ms', h1, h2, hr'⟩ := hRel.size hr hk5 1 (by decide)
    have hroom' := hRel.room hr'
    refine k_callV (pc := 479) (n := 1) X hS (c_wf_size l ρ ad _ P cs 1 r hI.1 h1) wd662 wd659 wd660 wd661 wd1 (by decide) ⟨rfl, rfl, (Nat.le_of_ble_eq_true rfl), (Nat.le_of_ble_eq_true rfl)⟩ (c_recv X hI.1 0 9 (by decide) rfl rfl) (As := [.int 1]) (rest := []) rfl rfl hl.1 (Nat.le_of_ble_eq_true rfl) d137_479 ⟨by show _ ≤ 601024; (try dsimp only); omega, by show _ ≤ 7293034; (try dsimp only); omega⟩ (fun q hq => hq.elim) (fun v H1 locs1 hv hz1 hq1 hS1 => ?_)
    obtain ⟨rfl, hv2⟩ := hv
    have hv3 := hv2.symm
    clear hv2
    subst hv3
    have hS := hS1
    refine lv_aload_n (pc := 482) hx hb d137_482 rfl (lv_at hl 2 rfl) ?_
    refine lv_aload_n (pc := 483) hx hb d137_483 rfl (lv_at hl 4 rfl) ?_
    refine lv_iload (pc := 484) hx hb d137_484 (lv_at hl 0 rfl) ?_
    refine lv_iconst (pc := 486) (v := 1) hx hb d137_486 (by decide) ?_
    refine lv_iadd (pc := 487) hx hb d137_487 ?_
    refine nm_i (y := nI (6 * k + 1)) ((nI_add (6 * k) 1).symm) ?_
    refine va_sld (pc := 488) X.1.1 X.1.2.1 hX hbl (Nat.not_le.mpr hbl) hS (nI_in (show 6 * k + 1 < L by omega) (by omega)) d137_488 ?_
    refine lv_if_eq (pc := 489) (tgt := 496) hx hb d137_489 (by decide) (fun zbr => absurd zbr (c471)) (fun zbr => ?_)
    refine lv_iconst (pc := 492) (v := 1) hx hb d137_492 (by decide) ?_
    refine lv_goto (pc := 493) (tgt := 497) hx hb d137_493 (by decide) ?_
    refine k_callV (pc := 497) (n := 1) X hS (c_mo_size l ρ am _ ms 1 (r, ms') hI.2.1 h2) wd1987 wd1984 wd1985 wd1986 wd11 (by decide) ⟨rfl, rfl, (Nat.le_of_ble_eq_true rfl), (Nat.le_of_ble_eq_true rfl)⟩ (g_recv X hI.2.1 0 12 (by decide) rfl rfl) (As := [.int 1]) (rest := [.int r]) rfl rfl hl.1 (Nat.le_of_ble_eq_true rfl) d137_497 ⟨by show _ ≤ 601024; (try dsimp only); omega, by show _ ≤ 7293034; (try dsimp only); omega⟩ (hI.MAm hS.1) (fun v H1 locs1 hv hz1 hq1 hS1 => ?_)
    obtain ⟨rfl, hG⟩ := hv
    have hI := hI.mod hG hz1 hq1
    have hS := hS1
    refine lv_icmp_eq (pc := 500) (tgt := 608) hx hb d137_500 (by decide) (fun zbr => ?_) (fun zbr => absurd (rfl) zbr)
    exact W.widen (show _ ≤ 72 + (C) by (try dsimp only); omega) (show _ ≤ 214664 + (S) by (try dsimp only); omega) (kk _ _ _ _ _ _ _ hr' hI hS (lv_sub hl [0, 1, 2, 3, 4] rfl))
set_option maxHeartbeats 2000000 in
theorem lw_case10 {p : Program} {l : Launch} {e : Env} {s : State} {m : MethodId} {args : Array Value} {below : List Frame} {meth : Method} {c : Code} {H : Heap} {locs : List Loc} {Q : State → Prop} {ls : Array Slot} {ρ : RH} {w0 : Cond} {P : Nat → Prop} {ad am : Nat → Nat} {oo b L k C S : Nat} {xs : Nat → Int32} {cs : CS} {ms : GS} {Rel : Nat → CS → GS → Nat → Nat → Prop} (hfl : l.flags = pinnedFlags ++ [noTraceFlag]) (X : CX p s m c args "WordFunctionsLaw" code 9 ρ w0) (hx : p.tables.exec = Jvm.exec) (hb : c.code = code) (hL : L ≤ 3072) (hkL : 6 * k + 6 ≤ L) (hX : va_X b L xs s s.heap) (hbl : b < s.heap.size) (hT0 : TX ρ s.heap s) (hZ : rZa ρ 5 < s.heap.size ∧ rZa ρ 6 < s.heap.size) (hRel : LRel Rel) (hr : Rel k cs ms C S) (hS : va_S (fun q => s.heap.size ≤ q) s.heap H locs) (hI : LI ρ P ad am oo s.heap.size cs ms H) (hl : lv_has ls 9 [(4, .int (nI (6 * k))), (3, .ref oo), (2, .ref (am 0)), (1, .ref (ad 0)), (0, .ref b)]) (kk : ∀ (cs' : CS) (ms' : GS) (C' S' : Nat) (H1 : Heap) (locs1 : List Loc) (ls1 : Array Slot), Rel (k + 1) cs' ms' C' S' → LI ρ P ad am oo s.heap.size cs' ms' H1 → va_S (fun q => s.heap.size ≤ q) s.heap H1 locs1 → lv_has ls1 9 [(4, .int (nI (6 * k))), (3, .ref oo), (2, .ref (am 0)), (1, .ref (ad 0)), (0, .ref b)] → W p l e room_1 s m args below meth c H1 locs1 (72 + C') (214664 + S') Q (F0 m 608 ls1 [])) : W p l e room_1 s m args below meth c H locs (72 + C) (214664 + S) Q (F0 m 542 ls []) := by
  have hk5 : k < 512 := by omega
  have hroom := hRel.room hr
  refine lv_aload_n (pc := 542) hx hb d137_542 rfl (lv_at hl 3 rfl) ?_
  obtain ⟨x, y, ms', h1, h2, hxy, hr'⟩ := hRel.value hr hk5
  have hroom' := hRel.room hr'
  refine k_callV (pc := 543) (n := 0) X hS (c_wf_value l ρ ad _ P cs x hI.1 h1) wd674 wd671 wd672 wd673 wd1 (by decide) ⟨rfl, rfl, (Nat.le_of_ble_eq_true rfl), (Nat.le_of_ble_eq_true rfl)⟩ (c_recv X hI.1 0 9 (by decide) rfl rfl) (As := []) (rest := []) rfl rfl hl.1 (Nat.le_of_ble_eq_true rfl) d137_543 ⟨by show _ ≤ 601024; (try dsimp only); omega, by show _ ≤ 7293034; (try dsimp only); omega⟩ (fun q hq => hq.elim) (fun v H1 locs1 hv hz1 hq1 hS1 => ?_)
  obtain ⟨rfl, hv2⟩ := hv
  have hv3 := hv2.symm
  clear hv2
  subst hv3
  have hS := hS1
  refine lv_dstore (pc := 546) (lv' := [(5, .double x), (4, .int (nI (6 * k))), (3, .ref oo), (2, .ref (am 0)), (1, .ref (ad 0)), (0, .ref b)]) hx hb d137_546 hl (by decide) rfl (fun ls hl => ?_)
  refine lv_aload_n (pc := 548) hx hb d137_548 rfl (lv_at hl 3 rfl) ?_
  refine k_callV (pc := 549) (n := 0) X hS (c_mo_value l ρ am _ ms (y, ms') hI.2.1 h2) wd1995 wd1992 wd1993 wd1994 wd11 (by decide) ⟨rfl, rfl, (Nat.le_of_ble_eq_true rfl), (Nat.le_of_ble_eq_true rfl)⟩ (g_recv X hI.2.1 0 12 (by decide) rfl rfl) (As := []) (rest := []) rfl rfl hl.1 (Nat.le_of_ble_eq_true rfl) d137_549 ⟨by show _ ≤ 601024; (try dsimp only); omega, by show _ ≤ 7293034; (try dsimp only); omega⟩ (hI.MAm hS.1) (fun v H1 locs1 hv hz1 hq1 hS1 => ?_)
  obtain ⟨rfl, hG⟩ := hv
  have hI := hI.mod hG hz1 hq1
  have hS := hS1
  refine lv_dstore (pc := 552) (lv' := [(7, .double y), (5, .double x), (4, .int (nI (6 * k))), (3, .ref oo), (2, .ref (am 0)), (1, .ref (ad 0)), (0, .ref b)]) hx hb d137_552 hl (by decide) rfl (fun ls hl => ?_)
  refine lv_dload (pc := 554) hx hb d137_554 (lv_at hl 1 rfl) ?_
  refine lv_dload (pc := 556) hx hb d137_556 (lv_at hl 0 rfl) ?_
  refine lv_dcmp (pc := 558) hx hb d137_558 ?_
  refine lv_if_eq (pc := 559) (tgt := 580) hx hb d137_559 (by decide) (fun c559 => ?_) (fun c559 => ?_)
  · skip
    refine lv_goto (pc := 580) (tgt := 608) hx hb d137_580 (by decide) ?_
    exact W.widen (show _ ≤ 72 + (C) by (try dsimp only); omega) (show _ ≤ 214664 + (S) by (try dsimp only); omega) (kk _ _ _ _ _ _ _ hr' hI hS (lv_sub hl [2, 3, 4, 5, 6] rfl))
  · skip
    refine lv_dload (pc := 562) hx hb d137_562 (lv_at hl 1 rfl) ?_
    refine lv_dload (pc := 564) hx hb d137_564 (lv_at hl 1 rfl) ?_
    refine lv_dcmp (pc := 566) hx hb d137_566 ?_
    have hxy := hxy.resolve_right c559
    subst hxy
    refine lv_if_eq (pc := 567) (tgt := 578) hx hb d137_567 (by decide) (fun zbr => absurd zbr (c559)) (fun zbr => ?_)
    refine lv_dload (pc := 570) hx hb d137_570 (lv_at hl 0 rfl) ?_
    refine lv_dload (pc := 572) hx hb d137_572 (lv_at hl 0 rfl) ?_
    refine lv_dcmp (pc := 574) hx hb d137_574 ?_
    refine lv_if_ne (pc := 575) (tgt := 580) hx hb d137_575 (by decide) (fun zbr => ?_) (fun zbr => absurd zbr (c559))
    refine lv_goto (pc := 580) (tgt := 608) hx hb d137_580 (by decide) ?_
    exact W.widen (show _ ≤ 72 + (C) by (try dsimp only); omega) (show _ ≤ 214664 + (S) by (try dsimp only); omega) (kk _ _ _ _ _ _ _ hr' hI hS (lv_sub hl [2, 3, 4, 5, 6] rfl))
