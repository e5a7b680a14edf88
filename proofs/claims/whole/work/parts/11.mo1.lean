abbrev b140 : ByteArray := prog_13_method_78_code
theorem d140_0 : decode b140 0 = .ok ((.aload_n 0), 1) := by decide +kernel
theorem d140_1 : decode b140 1 = .ok ((.iconst 0), 1) := by decide +kernel
theorem d140_2 : decode b140 2 = .ok ((.invokevirtual 206), 3) := by decide +kernel
theorem d140_5 : decode b140 5 = .ok ((.istore_n 1), 1) := by decide +kernel
theorem d140_6 : decode b140 6 = .ok ((.aload_n 0), 1) := by decide +kernel
theorem d140_7 : decode b140 7 = .ok ((.iconst 1), 1) := by decide +kernel
theorem d140_8 : decode b140 8 = .ok ((.invokevirtual 206), 3) := by decide +kernel
theorem d140_11 : decode b140 11 = .ok ((.istore_n 2), 1) := by decide +kernel
theorem d140_12 : decode b140 12 = .ok ((.aload_n 0), 1) := by decide +kernel
theorem d140_13 : decode b140 13 = .ok ((.iconst 2), 1) := by decide +kernel
theorem d140_14 : decode b140 14 = .ok ((.iconst 1), 1) := by decide +kernel
theorem d140_15 : decode b140 15 = .ok ((.invokevirtual 274), 3) := by decide +kernel
theorem d140_18 : decode b140 18 = .ok ((.istore_n 3), 1) := by decide +kernel
theorem d140_19 : decode b140 19 = .ok ((.aload_n 0), 1) := by decide +kernel
theorem d140_20 : decode b140 20 = .ok ((.iconst 3), 1) := by decide +kernel
theorem d140_21 : decode b140 21 = .ok ((.iconst 1), 1) := by decide +kernel
theorem d140_22 : decode b140 22 = .ok ((.invokevirtual 344), 3) := by decide +kernel
theorem d140_25 : decode b140 25 = .ok ((.istore 4), 2) := by decide +kernel
theorem d140_27 : decode b140 27 = .ok ((.aload_n 0), 1) := by decide +kernel
theorem d140_28 : decode b140 28 = .ok ((.iconst 4), 1) := by decide +kernel
theorem d140_29 : decode b140 29 = .ok ((.invokevirtual 203), 3) := by decide +kernel
theorem d140_32 : decode b140 32 = .ok ((.ifCond .eq 15), 3) := by decide +kernel
theorem d140_35 : decode b140 35 = .ok ((.aload_n 0), 1) := by decide +kernel
theorem d140_36 : decode b140 36 = .ok ((.iconst 4), 1) := by decide +kernel
theorem d140_37 : decode b140 37 = .ok ((.invokevirtual 146), 3) := by decide +kernel
theorem d140_40 : decode b140 40 = .ok ((.ifCond .ne 7), 3) := by decide +kernel
theorem d140_43 : decode b140 43 = .ok ((.iconst 1), 1) := by decide +kernel
theorem d140_44 : decode b140 44 = .ok ((.goto 4), 3) := by decide +kernel
theorem d140_47 : decode b140 47 = .ok ((.iconst 0), 1) := by decide +kernel
theorem d140_48 : decode b140 48 = .ok ((.istore 5), 2) := by decide +kernel
theorem d140_50 : decode b140 50 = .ok ((.aload_n 0), 1) := by decide +kernel
theorem d140_51 : decode b140 51 = .ok ((.iconst 0), 1) := by decide +kernel
theorem d140_52 : decode b140 52 = .ok ((.putfield 157), 3) := by decide +kernel
theorem d140_55 : decode b140 55 = .ok ((.iload 5), 2) := by decide +kernel
theorem d140_57 : decode b140 57 = .ok ((.ifCond .eq 8), 3) := by decide +kernel
theorem d140_60 : decode b140 60 = .ok ((.aload_n 0), 1) := by decide +kernel
theorem d140_61 : decode b140 61 = .ok ((.iconst 4), 1) := by decide +kernel
theorem d140_62 : decode b140 62 = .ok ((.invokevirtual 268), 3) := by decide +kernel
theorem d140_65 : decode b140 65 = .ok ((.iload_n 1), 1) := by decide +kernel
theorem d140_66 : decode b140 66 = .ok ((.iload_n 2), 1) := by decide +kernel
theorem d140_67 : decode b140 67 = .ok ((.invokestatic 116), 3) := by decide +kernel
theorem d140_70 : decode b140 70 = .ok ((.ifCond .eq 13), 3) := by decide +kernel
theorem d140_73 : decode b140 73 = .ok ((.iload_n 3), 1) := by decide +kernel
theorem d140_74 : decode b140 74 = .ok ((.iconst 1), 1) := by decide +kernel
theorem d140_75 : decode b140 75 = .ok ((.if_icmp .lt 8), 3) := by decide +kernel
theorem d140_78 : decode b140 78 = .ok ((.iload_n 3), 1) := by decide +kernel
theorem d140_79 : decode b140 79 = .ok ((.iconst 4), 1) := by decide +kernel
theorem d140_80 : decode b140 80 = .ok ((.if_icmp .le 8), 3) := by decide +kernel
theorem d140_83 : decode b140 83 = .ok ((.aload_n 0), 1) := by decide +kernel
theorem d140_84 : decode b140 84 = .ok ((.iconst 3), 1) := by decide +kernel
theorem d140_85 : decode b140 85 = .ok ((.invokevirtual 176), 3) := by decide +kernel
theorem d140_88 : decode b140 88 = .ok ((.aload_n 0), 1) := by decide +kernel
theorem d140_89 : decode b140 89 = .ok ((.getfield 143), 3) := by decide +kernel
theorem d140_92 : decode b140 92 = .ok ((.ifCond .eq 4), 3) := by decide +kernel
theorem d140_95 : decode b140 95 = .ok (.return_, 1) := by decide +kernel
theorem d140_96 : decode b140 96 = .ok ((.aload_n 0), 1) := by decide +kernel
theorem d140_97 : decode b140 97 = .ok ((.aload_n 0), 1) := by decide +kernel
theorem d140_98 : decode b140 98 = .ok ((.getfield 55), 3) := by decide +kernel
theorem d140_101 : decode b140 101 = .ok ((.iconst 0), 1) := by decide +kernel
theorem d140_102 : decode b140 102 = .ok ((.aload_n 0), 1) := by decide +kernel
theorem d140_103 : decode b140 103 = .ok ((.getfield 157), 3) := by decide +kernel
theorem d140_106 : decode b140 106 = .ok ((.invokevirtual 280), 3) := by decide +kernel
theorem d140_109 : decode b140 109 = .ok ((.iload 5), 2) := by decide +kernel
theorem d140_111 : decode b140 111 = .ok ((.ifCond .eq 9), 3) := by decide +kernel
theorem d140_114 : decode b140 114 = .ok ((.aload_n 0), 1) := by decide +kernel
theorem d140_115 : decode b140 115 = .ok ((.bipush 33), 2) := by decide +kernel
theorem d140_117 : decode b140 117 = .ok ((.invokevirtual 256), 3) := by decide +kernel
theorem d140_120 : decode b140 120 = .ok ((.iload_n 3), 1) := by decide +kernel
theorem d140_121 : decode b140 121 = .ok ((.iconst 3), 1) := by decide +kernel
theorem d140_122 : decode b140 122 = .ok ((.if_icmp .ge 7), 3) := by decide +kernel
theorem d140_125 : decode b140 125 = .ok ((.iconst 1), 1) := by decide +kernel
theorem d140_126 : decode b140 126 = .ok ((.goto 4), 3) := by decide +kernel
theorem d140_129 : decode b140 129 = .ok ((.iconst 0), 1) := by decide +kernel
theorem d140_130 : decode b140 130 = .ok ((.istore 6), 2) := by decide +kernel
theorem d140_132 : decode b140 132 = .ok ((.iload_n 3), 1) := by decide +kernel
theorem d140_133 : decode b140 133 = .ok ((.iconst 2), 1) := by decide +kernel
theorem d140_134 : decode b140 134 = .ok (.irem, 1) := by decide +kernel
theorem d140_135 : decode b140 135 = .ok ((.iconst 1), 1) := by decide +kernel
theorem d140_136 : decode b140 136 = .ok ((.if_icmp .ne 7), 3) := by decide +kernel
theorem d140_139 : decode b140 139 = .ok ((.iconst 1), 1) := by decide +kernel
theorem d140_140 : decode b140 140 = .ok ((.goto 4), 3) := by decide +kernel
theorem d140_143 : decode b140 143 = .ok ((.iconst 0), 1) := by decide +kernel
theorem d140_144 : decode b140 144 = .ok ((.istore 7), 2) := by decide +kernel
theorem d140_146 : decode b140 146 = .ok ((.iload 4), 2) := by decide +kernel
theorem d140_148 : decode b140 148 = .ok ((.ifCond .eq 38), 3) := by decide +kernel
theorem d140_151 : decode b140 151 = .ok ((.iload 7), 2) := by decide +kernel
theorem d140_153 : decode b140 153 = .ok ((.ifCond .eq 9), 3) := by decide +kernel
theorem d140_156 : decode b140 156 = .ok ((.aload_n 0), 1) := by decide +kernel
theorem d140_157 : decode b140 157 = .ok ((.bipush 36), 2) := by decide +kernel
theorem d140_159 : decode b140 159 = .ok ((.invokevirtual 256), 3) := by decide +kernel
theorem d140_162 : decode b140 162 = .ok ((.aload_n 0), 1) := by decide +kernel
theorem d140_163 : decode b140 163 = .ok ((.iload_n 2), 1) := by decide +kernel
theorem d140_164 : decode b140 164 = .ok ((.invokevirtual 367), 3) := by decide +kernel
theorem d140_167 : decode b140 167 = .ok ((.iload 6), 2) := by decide +kernel
theorem d140_169 : decode b140 169 = .ok ((.ifCond .eq 9), 3) := by decide +kernel
theorem d140_172 : decode b140 172 = .ok ((.aload_n 0), 1) := by decide +kernel
theorem d140_173 : decode b140 173 = .ok ((.bipush 36), 2) := by decide +kernel
theorem d140_175 : decode b140 175 = .ok ((.invokevirtual 256), 3) := by decide +kernel
theorem d140_178 : decode b140 178 = .ok ((.aload_n 0), 1) := by decide +kernel
theorem d140_179 : decode b140 179 = .ok ((.iload_n 1), 1) := by decide +kernel
theorem d140_180 : decode b140 180 = .ok ((.invokevirtual 370), 3) := by decide +kernel
theorem d140_183 : decode b140 183 = .ok ((.goto 21), 3) := by decide +kernel
theorem d140_186 : decode b140 186 = .ok ((.aload_n 0), 1) := by decide +kernel
theorem d140_187 : decode b140 187 = .ok ((.bipush 82), 2) := by decide +kernel
theorem d140_189 : decode b140 189 = .ok ((.iload_n 1), 1) := by decide +kernel
theorem d140_190 : decode b140 190 = .ok ((.iload 6), 2) := by decide +kernel
theorem d140_192 : decode b140 192 = .ok ((.invokevirtual 373), 3) := by decide +kernel
theorem d140_195 : decode b140 195 = .ok ((.aload_n 0), 1) := by decide +kernel
theorem d140_196 : decode b140 196 = .ok ((.bipush 67), 2) := by decide +kernel
theorem d140_198 : decode b140 198 = .ok ((.iload_n 2), 1) := by decide +kernel
theorem d140_199 : decode b140 199 = .ok ((.iload 7), 2) := by decide +kernel
theorem d140_201 : decode b140 201 = .ok ((.invokevirtual 373), 3) := by decide +kernel
theorem d140_204 : decode b140 204 = .ok ((.aload_n 0), 1) := by decide +kernel
theorem d140_205 : decode b140 205 = .ok ((.invokevirtual 284), 3) := by decide +kernel
theorem d140_208 : decode b140 208 = .ok (.return_, 1) := by decide +kernel
abbrev b142 : ByteArray := prog_13_method_44_code
theorem d142_0 : decode b142 0 = .ok ((.aload_n 0), 1) := by decide +kernel
theorem d142_1 : decode b142 1 = .ok ((.iconst 1), 1) := by decide +kernel
theorem d142_2 : decode b142 2 = .ok ((.putfield 259), 3) := by decide +kernel
theorem d142_5 : decode b142 5 = .ok ((.aload_n 0), 1) := by decide +kernel
theorem d142_6 : decode b142 6 = .ok ((.dload_n 1), 1) := by decide +kernel
theorem d142_7 : decode b142 7 = .ok ((.dconst 0), 1) := by decide +kernel
theorem d142_8 : decode b142 8 = .ok ((.dcmp .l), 1) := by decide +kernel
theorem d142_9 : decode b142 9 = .ok ((.ifCond .ne 7), 3) := by decide +kernel
theorem d142_12 : decode b142 12 = .ok ((.dconst 0), 1) := by decide +kernel
theorem d142_13 : decode b142 13 = .ok ((.goto 4), 3) := by decide +kernel
theorem d142_16 : decode b142 16 = .ok ((.dload_n 1), 1) := by decide +kernel
theorem d142_17 : decode b142 17 = .ok ((.putfield 265), 3) := by decide +kernel
theorem d142_20 : decode b142 20 = .ok (.return_, 1) := by decide +kernel
abbrev b141 : ByteArray := prog_13_method_87_code
theorem d141_0 : decode b141 0 = .ok ((.lload_n 1), 1) := by decide +kernel
theorem d141_1 : decode b141 1 = .ok ((.lconst 0), 1) := by decide +kernel
theorem d141_2 : decode b141 2 = .ok (.lcmp, 1) := by decide +kernel
theorem d141_3 : decode b141 3 = .ok ((.ifCond .lt 11), 3) := by decide +kernel
theorem d141_6 : decode b141 6 = .ok ((.lload_n 1), 1) := by decide +kernel
theorem d141_7 : decode b141 7 = .ok ((.ldc2_w 410), 3) := by decide +kernel
theorem d141_10 : decode b141 10 = .ok (.lcmp, 1) := by decide +kernel
theorem d141_11 : decode b141 11 = .ok ((.ifCond .le 9), 3) := by decide +kernel
theorem d141_14 : decode b141 14 = .ok ((.aload_n 0), 1) := by decide +kernel
theorem d141_15 : decode b141 15 = .ok ((.bipush 6), 2) := by decide +kernel
theorem d141_17 : decode b141 17 = .ok ((.invokevirtual 176), 3) := by decide +kernel
theorem d141_20 : decode b141 20 = .ok ((.aload_n 0), 1) := by decide +kernel
theorem d141_21 : decode b141 21 = .ok ((.lload_n 1), 1) := by decide +kernel
theorem d141_22 : decode b141 22 = .ok (.l2d, 1) := by decide +kernel
theorem d141_23 : decode b141 23 = .ok ((.invokevirtual 305), 3) := by decide +kernel
theorem d141_26 : decode b141 26 = .ok (.return_, 1) := by decide +kernel
abbrev b146 : ByteArray := prog_13_method_69_code
theorem d146_0 : decode b146 0 = .ok ((.aload_n 0), 1) := by decide +kernel
theorem d146_1 : decode b146 1 = .ok ((.iload_n 1), 1) := by decide +kernel
theorem d146_2 : decode b146 2 = .ok ((.invokevirtual 164), 3) := by decide +kernel
theorem d146_5 : decode b146 5 = .ok ((.aload_n 0), 1) := by decide +kernel
theorem d146_6 : decode b146 6 = .ok ((.aload_n 0), 1) := by decide +kernel
theorem d146_7 : decode b146 7 = .ok ((.getfield 150), 3) := by decide +kernel
theorem d146_10 : decode b146 10 = .ok ((.putfield 259), 3) := by decide +kernel
theorem d146_13 : decode b146 13 = .ok ((.aload_n 0), 1) := by decide +kernel
theorem d146_14 : decode b146 14 = .ok ((.aload_n 0), 1) := by decide +kernel
theorem d146_15 : decode b146 15 = .ok ((.getfield 153), 3) := by decide +kernel
theorem d146_18 : decode b146 18 = .ok ((.putfield 265), 3) := by decide +kernel
theorem d146_21 : decode b146 21 = .ok ((.aload_n 0), 1) := by decide +kernel
theorem d146_22 : decode b146 22 = .ok ((.aload_n 0), 1) := by decide +kernel
theorem d146_23 : decode b146 23 = .ok ((.getfield 157), 3) := by decide +kernel
theorem d146_26 : decode b146 26 = .ok ((.putfield 262), 3) := by decide +kernel
theorem d146_29 : decode b146 29 = .ok ((.iconst 0), 1) := by decide +kernel
theorem d146_30 : decode b146 30 = .ok ((.istore_n 2), 1) := by decide +kernel
theorem d146_31 : decode b146 31 = .ok ((.iload_n 2), 1) := by decide +kernel
theorem d146_32 : decode b146 32 = .ok ((.aload_n 0), 1) := by decide +kernel
theorem d146_33 : decode b146 33 = .ok ((.getfield 157), 3) := by decide +kernel
theorem d146_36 : decode b146 36 = .ok ((.if_icmp .ge 21), 3) := by decide +kernel
theorem d146_39 : decode b146 39 = .ok ((.aload_n 0), 1) := by decide +kernel
theorem d146_40 : decode b146 40 = .ok ((.getfield 67), 3) := by decide +kernel
theorem d146_43 : decode b146 43 = .ok ((.iload_n 2), 1) := by decide +kernel
theorem d146_44 : decode b146 44 = .ok ((.aload_n 0), 1) := by decide +kernel
theorem d146_45 : decode b146 45 = .ok ((.getfield 55), 3) := by decide +kernel
theorem d146_48 : decode b146 48 = .ok ((.iload_n 2), 1) := by decide +kernel
theorem d146_49 : decode b146 49 = .ok (.iaload, 1) := by decide +kernel
theorem d146_50 : decode b146 50 = .ok (.iastore, 1) := by decide +kernel
theorem d146_51 : decode b146 51 = .ok ((.iinc 2 1), 3) := by decide +kernel
theorem d146_54 : decode b146 54 = .ok ((.goto (-23)), 3) := by decide +kernel
theorem d146_57 : decode b146 57 = .ok (.return_, 1) := by decide +kernel
abbrev b143 : ByteArray := prog_13_method_73_code
theorem d143_0 : decode b143 0 = .ok ((.iload 4), 2) := by decide +kernel
theorem d143_2 : decode b143 2 = .ok ((.iload 5), 2) := by decide +kernel
theorem d143_4 : decode b143 4 = .ok (.imul, 1) := by decide +kernel
theorem d143_5 : decode b143 5 = .ok ((.iconst 1), 1) := by decide +kernel
theorem d143_6 : decode b143 6 = .ok ((.if_icmp .ne 15), 3) := by decide +kernel
theorem d143_9 : decode b143 9 = .ok ((.aload_n 0), 1) := by decide +kernel
theorem d143_10 : decode b143 10 = .ok ((.aload_n 0), 1) := by decide +kernel
theorem d143_11 : decode b143 11 = .ok ((.iload_n 1), 1) := by decide +kernel
theorem d143_12 : decode b143 12 = .ok ((.iload_n 2), 1) := by decide +kernel
theorem d143_13 : decode b143 13 = .ok ((.iload_n 3), 1) := by decide +kernel
theorem d143_14 : decode b143 14 = .ok ((.invokevirtual 160), 3) := by decide +kernel
theorem d143_17 : decode b143 17 = .ok ((.invokevirtual 351), 3) := by decide +kernel
theorem d143_20 : decode b143 20 = .ok (.return_, 1) := by decide +kernel
theorem d143_21 : decode b143 21 = .ok ((.aload_n 0), 1) := by decide +kernel
theorem d143_22 : decode b143 22 = .ok ((.iload_n 1), 1) := by decide +kernel
theorem d143_23 : decode b143 23 = .ok ((.putfield 70), 3) := by decide +kernel
theorem d143_26 : decode b143 26 = .ok ((.aload_n 0), 1) := by decide +kernel
theorem d143_27 : decode b143 27 = .ok ((.iload_n 2), 1) := by decide +kernel
theorem d143_28 : decode b143 28 = .ok ((.putfield 354), 3) := by decide +kernel
theorem d143_31 : decode b143 31 = .ok ((.aload_n 0), 1) := by decide +kernel
theorem d143_32 : decode b143 32 = .ok ((.iload_n 3), 1) := by decide +kernel
theorem d143_33 : decode b143 33 = .ok ((.putfield 357), 3) := by decide +kernel
theorem d143_36 : decode b143 36 = .ok ((.aload_n 0), 1) := by decide +kernel
theorem d143_37 : decode b143 37 = .ok ((.iload 4), 2) := by decide +kernel
theorem d143_39 : decode b143 39 = .ok ((.putfield 73), 3) := by decide +kernel
theorem d143_42 : decode b143 42 = .ok ((.aload_n 0), 1) := by decide +kernel
theorem d143_43 : decode b143 43 = .ok ((.iload 5), 2) := by decide +kernel
theorem d143_45 : decode b143 45 = .ok ((.putfield 76), 3) := by decide +kernel
theorem d143_48 : decode b143 48 = .ok ((.aload_n 0), 1) := by decide +kernel
theorem d143_49 : decode b143 49 = .ok ((.iload 6), 2) := by decide +kernel
theorem d143_51 : decode b143 51 = .ok ((.putfield 360), 3) := by decide +kernel
theorem d143_54 : decode b143 54 = .ok (.return_, 1) := by decide +kernel
abbrev b145 : ByteArray := prog_13_method_45_code
theorem d145_0 : decode b145 0 = .ok ((.aload_n 0), 1) := by decide +kernel
theorem d145_1 : decode b145 1 = .ok ((.iconst 3), 1) := by decide +kernel
theorem d145_2 : decode b145 2 = .ok ((.putfield 259), 3) := by decide +kernel
theorem d145_5 : decode b145 5 = .ok ((.aload_n 0), 1) := by decide +kernel
theorem d145_6 : decode b145 6 = .ok ((.iload_n 1), 1) := by decide +kernel
theorem d145_7 : decode b145 7 = .ok ((.ifCond .eq 7), 3) := by decide +kernel
theorem d145_10 : decode b145 10 = .ok ((.dconst 1), 1) := by decide +kernel
theorem d145_11 : decode b145 11 = .ok ((.goto 4), 3) := by decide +kernel
theorem d145_14 : decode b145 14 = .ok ((.dconst 0), 1) := by decide +kernel
theorem d145_15 : decode b145 15 = .ok ((.putfield 265), 3) := by decide +kernel
theorem d145_18 : decode b145 18 = .ok (.return_, 1) := by decide +kernel
abbrev b147 : ByteArray := prog_13_method_8_code
theorem d147_0 : decode b147 0 = .ok ((.iload_n 1), 1) := by decide +kernel
theorem d147_1 : decode b147 1 = .ok ((.ifCond .ne 11), 3) := by decide +kernel
theorem d147_4 : decode b147 4 = .ok ((.iload_n 2), 1) := by decide +kernel
theorem d147_5 : decode b147 5 = .ok ((.ifCond .ne 7), 3) := by decide +kernel
theorem d147_8 : decode b147 8 = .ok ((.iconst 1), 1) := by decide +kernel
theorem d147_9 : decode b147 9 = .ok ((.goto 4), 3) := by decide +kernel
theorem d147_12 : decode b147 12 = .ok ((.iconst 0), 1) := by decide +kernel
theorem d147_13 : decode b147 13 = .ok ((.istore_n 3), 1) := by decide +kernel
theorem d147_14 : decode b147 14 = .ok ((.iload_n 3), 1) := by decide +kernel
theorem d147_15 : decode b147 15 = .ok ((.ifCond .ne 31), 3) := by decide +kernel
theorem d147_18 : decode b147 18 = .ok ((.iload_n 1), 1) := by decide +kernel
theorem d147_19 : decode b147 19 = .ok ((.sipush 512), 3) := by decide +kernel
theorem d147_22 : decode b147 22 = .ok ((.if_icmp .gt 28), 3) := by decide +kernel
theorem d147_25 : decode b147 25 = .ok ((.iload_n 2), 1) := by decide +kernel
theorem d147_26 : decode b147 26 = .ok ((.sipush 512), 3) := by decide +kernel
theorem d147_29 : decode b147 29 = .ok ((.if_icmp .gt 21), 3) := by decide +kernel
theorem d147_32 : decode b147 32 = .ok ((.aload_n 0), 1) := by decide +kernel
theorem d147_33 : decode b147 33 = .ok ((.getfield 120), 3) := by decide +kernel
theorem d147_36 : decode b147 36 = .ok ((.iload_n 1), 1) := by decide +kernel
theorem d147_37 : decode b147 37 = .ok ((.iload_n 2), 1) := by decide +kernel
theorem d147_38 : decode b147 38 = .ok (.imul, 1) := by decide +kernel
theorem d147_39 : decode b147 39 = .ok (.iadd, 1) := by decide +kernel
theorem d147_40 : decode b147 40 = .ok ((.sipush 512), 3) := by decide +kernel
theorem d147_43 : decode b147 43 = .ok ((.if_icmp .gt 7), 3) := by decide +kernel
theorem d147_46 : decode b147 46 = .ok ((.iconst 1), 1) := by decide +kernel
theorem d147_47 : decode b147 47 = .ok ((.goto 4), 3) := by decide +kernel
theorem d147_50 : decode b147 50 = .ok ((.iconst 0), 1) := by decide +kernel
theorem d147_51 : decode b147 51 = .ok ((.istore 4), 2) := by decide +kernel
theorem d147_53 : decode b147 53 = .ok ((.aload_n 0), 1) := by decide +kernel
theorem d147_54 : decode b147 54 = .ok ((.iload_n 3), 1) := by decide +kernel
theorem d147_55 : decode b147 55 = .ok ((.ifCond .ne 17), 3) := by decide +kernel
theorem d147_58 : decode b147 58 = .ok ((.iload_n 1), 1) := by decide +kernel
theorem d147_59 : decode b147 59 = .ok ((.iconst 1), 1) := by decide +kernel
theorem d147_60 : decode b147 60 = .ok ((.if_icmp .lt 8), 3) := by decide +kernel
theorem d147_63 : decode b147 63 = .ok ((.iload_n 2), 1) := by decide +kernel
theorem d147_64 : decode b147 64 = .ok ((.iconst 1), 1) := by decide +kernel
theorem d147_65 : decode b147 65 = .ok ((.if_icmp .ge 7), 3) := by decide +kernel
theorem d147_68 : decode b147 68 = .ok ((.iconst 1), 1) := by decide +kernel
theorem d147_69 : decode b147 69 = .ok ((.goto 22), 3) := by decide +kernel
theorem d147_72 : decode b147 72 = .ok ((.aload_n 0), 1) := by decide +kernel
theorem d147_73 : decode b147 73 = .ok ((.getfield 123), 3) := by decide +kernel
theorem d147_76 : decode b147 76 = .ok ((.bipush 30), 2) := by decide +kernel
theorem d147_78 : decode b147 78 = .ok ((.if_icmp .eq 8), 3) := by decide +kernel
theorem d147_81 : decode b147 81 = .ok ((.iload 4), 2) := by decide +kernel
theorem d147_83 : decode b147 83 = .ok ((.ifCond .ne 7), 3) := by decide +kernel
theorem d147_86 : decode b147 86 = .ok ((.iconst 2), 1) := by decide +kernel
theorem d147_87 : decode b147 87 = .ok ((.goto 4), 3) := by decide +kernel
theorem d147_90 : decode b147 90 = .ok ((.iconst 0), 1) := by decide +kernel
theorem d147_91 : decode b147 91 = .ok ((.putfield 102), 3) := by decide +kernel
theorem d147_94 : decode b147 94 = .ok ((.aload_n 0), 1) := by decide +kernel
theorem d147_95 : decode b147 95 = .ok ((.getfield 102), 3) := by decide +kernel
theorem d147_98 : decode b147 98 = .ok ((.ifCond .eq 4), 3) := by decide +kernel
theorem d147_101 : decode b147 101 = .ok (.return_, 1) := by decide +kernel
theorem d147_102 : decode b147 102 = .ok ((.aload_n 0), 1) := by decide +kernel
theorem d147_103 : decode b147 103 = .ok ((.getfield 20), 3) := by decide +kernel
theorem d147_106 : decode b147 106 = .ok ((.aload_n 0), 1) := by decide +kernel
theorem d147_107 : decode b147 107 = .ok ((.getfield 123), 3) := by decide +kernel
theorem d147_110 : decode b147 110 = .ok ((.iload_n 1), 1) := by decide +kernel
theorem d147_111 : decode b147 111 = .ok (.iastore, 1) := by decide +kernel
theorem d147_112 : decode b147 112 = .ok ((.aload_n 0), 1) := by decide +kernel
theorem d147_113 : decode b147 113 = .ok ((.getfield 23), 3) := by decide +kernel
theorem d147_116 : decode b147 116 = .ok ((.aload_n 0), 1) := by decide +kernel
theorem d147_117 : decode b147 117 = .ok ((.getfield 123), 3) := by decide +kernel
theorem d147_120 : decode b147 120 = .ok ((.iload_n 2), 1) := by decide +kernel
theorem d147_121 : decode b147 121 = .ok (.iastore, 1) := by decide +kernel
theorem d147_122 : decode b147 122 = .ok ((.aload_n 0), 1) := by decide +kernel
theorem d147_123 : decode b147 123 = .ok ((.getfield 26), 3) := by decide +kernel
theorem d147_126 : decode b147 126 = .ok ((.aload_n 0), 1) := by decide +kernel
theorem d147_127 : decode b147 127 = .ok ((.getfield 123), 3) := by decide +kernel
theorem d147_130 : decode b147 130 = .ok ((.aload_n 0), 1) := by decide +kernel
theorem d147_131 : decode b147 131 = .ok ((.getfield 120), 3) := by decide +kernel
theorem d147_134 : decode b147 134 = .ok (.iastore, 1) := by decide +kernel
theorem d147_135 : decode b147 135 = .ok ((.aload_n 0), 1) := by decide +kernel
theorem d147_136 : decode b147 136 = .ok ((.getfield 29), 3) := by decide +kernel
theorem d147_139 : decode b147 139 = .ok ((.aload_n 0), 1) := by decide +kernel
theorem d147_140 : decode b147 140 = .ok ((.getfield 123), 3) := by decide +kernel
theorem d147_143 : decode b147 143 = .ok ((.iconst 0), 1) := by decide +kernel
theorem d147_144 : decode b147 144 = .ok (.iastore, 1) := by decide +kernel
theorem d147_145 : decode b147 145 = .ok ((.aload_n 0), 1) := by decide +kernel
theorem d147_146 : decode b147 146 = .ok ((.getfield 32), 3) := by decide +kernel
theorem d147_149 : decode b147 149 = .ok ((.aload_n 0), 1) := by decide +kernel
theorem d147_150 : decode b147 150 = .ok ((.getfield 123), 3) := by decide +kernel
theorem d147_153 : decode b147 153 = .ok ((.iconst 0), 1) := by decide +kernel
theorem d147_154 : decode b147 154 = .ok (.iastore, 1) := by decide +kernel
theorem d147_155 : decode b147 155 = .ok ((.iconst 0), 1) := by decide +kernel
theorem d147_156 : decode b147 156 = .ok ((.istore 5), 2) := by decide +kernel
theorem d147_158 : decode b147 158 = .ok ((.iload 5), 2) := by decide +kernel
theorem d147_160 : decode b147 160 = .ok ((.iload_n 1), 1) := by decide +kernel
theorem d147_161 : decode b147 161 = .ok ((.iload_n 2), 1) := by decide +kernel
theorem d147_162 : decode b147 162 = .ok (.imul, 1) := by decide +kernel
theorem d147_163 : decode b147 163 = .ok ((.if_icmp .ge 22), 3) := by decide +kernel
theorem d147_166 : decode b147 166 = .ok ((.aload_n 0), 1) := by decide +kernel
theorem d147_167 : decode b147 167 = .ok ((.getfield 35), 3) := by decide +kernel
theorem d147_170 : decode b147 170 = .ok ((.aload_n 0), 1) := by decide +kernel
theorem d147_171 : decode b147 171 = .ok ((.getfield 120), 3) := by decide +kernel
theorem d147_174 : decode b147 174 = .ok ((.iload 5), 2) := by decide +kernel
theorem d147_176 : decode b147 176 = .ok (.iadd, 1) := by decide +kernel
theorem d147_177 : decode b147 177 = .ok ((.iconst 0), 1) := by decide +kernel
theorem d147_178 : decode b147 178 = .ok (.iastore, 1) := by decide +kernel
theorem d147_179 : decode b147 179 = .ok ((.iinc 5 1), 3) := by decide +kernel
theorem d147_182 : decode b147 182 = .ok ((.goto (-24)), 3) := by decide +kernel
theorem d147_185 : decode b147 185 = .ok ((.aload_n 0), 1) := by decide +kernel
theorem d147_186 : decode b147 186 = .ok (.dup, 1) := by decide +kernel
theorem d147_187 : decode b147 187 = .ok ((.getfield 120), 3) := by decide +kernel
theorem d147_190 : decode b147 190 = .ok ((.iload_n 1), 1) := by decide +kernel
theorem d147_191 : decode b147 191 = .ok ((.iload_n 2), 1) := by decide +kernel
theorem d147_192 : decode b147 192 = .ok (.imul, 1) := by decide +kernel
theorem d147_193 : decode b147 193 = .ok (.iadd, 1) := by decide +kernel
theorem d147_194 : decode b147 194 = .ok ((.putfield 120), 3) := by decide +kernel
theorem d147_197 : decode b147 197 = .ok ((.aload_n 0), 1) := by decide +kernel
theorem d147_198 : decode b147 198 = .ok (.dup, 1) := by decide +kernel
theorem d147_199 : decode b147 199 = .ok ((.getfield 123), 3) := by decide +kernel
theorem d147_202 : decode b147 202 = .ok ((.iconst 1), 1) := by decide +kernel
theorem d147_203 : decode b147 203 = .ok (.iadd, 1) := by decide +kernel
theorem d147_204 : decode b147 204 = .ok ((.putfield 123), 3) := by decide +kernel
theorem d147_207 : decode b147 207 = .ok (.return_, 1) := by decide +kernel
abbrev b148 : ByteArray := prog_13_method_104_code
theorem d148_0 : decode b148 0 = .ok ((.iload_n 0), 1) := by decide +kernel
theorem d148_1 : decode b148 1 = .ok ((.bipush 66), 2) := by decide +kernel
theorem d148_3 : decode b148 3 = .ok ((.if_icmp .lt 34), 3) := by decide +kernel
theorem d148_6 : decode b148 6 = .ok ((.iload_n 0), 1) := by decide +kernel
theorem d148_7 : decode b148 7 = .ok ((.sipush 132), 3) := by decide +kernel
theorem d148_10 : decode b148 10 = .ok ((.if_icmp .gt 27), 3) := by decide +kernel
theorem d148_13 : decode b148 13 = .ok ((.iload_n 0), 1) := by decide +kernel
theorem d148_14 : decode b148 14 = .ok ((.bipush 83), 2) := by decide +kernel
theorem d148_16 : decode b148 16 = .ok ((.if_icmp .le 9), 3) := by decide +kernel
theorem d148_19 : decode b148 19 = .ok ((.iload_n 0), 1) := by decide +kernel
theorem d148_20 : decode b148 20 = .ok ((.bipush 87), 2) := by decide +kernel
theorem d148_22 : decode b148 22 = .ok ((.if_icmp .lt 15), 3) := by decide +kernel
theorem d148_25 : decode b148 25 = .ok ((.iload_n 0), 1) := by decide +kernel
theorem d148_26 : decode b148 26 = .ok ((.bipush 117), 2) := by decide +kernel
theorem d148_28 : decode b148 28 = .ok ((.if_icmp .eq 9), 3) := by decide +kernel
theorem d148_31 : decode b148 31 = .ok ((.iload_n 0), 1) := by decide +kernel
theorem d148_32 : decode b148 32 = .ok ((.bipush 118), 2) := by decide +kernel
theorem d148_34 : decode b148 34 = .ok ((.if_icmp .ne 5), 3) := by decide +kernel
theorem d148_37 : decode b148 37 = .ok ((.iconst (-1)), 1) := by decide +kernel
theorem d148_38 : decode b148 38 = .ok (.ireturn, 1) := by decide +kernel
theorem d148_39 : decode b148 39 = .ok ((.iload_n 0), 1) := by decide +kernel
theorem d148_40 : decode b148 40 = .ok ((.tableswitch 319 67 132 #[280, 280, 283, 287, 287, 291, 295, 299, 319, 319, 319, 319, 303, 307, 299, 319, 319, 319, 319, 319, 319, 287, 299, 295, 295, 287, 287, 287, 311, 311, 319, 319, 313, 319, 283, 283, 319, 319, 319, 319, 319, 319, 280, 280, 299, 299, 299, 283, 287, 287, 319, 319, 319, 319, 319, 319, 319, 319, 319, 319, 319, 319, 317, 319, 319, 317]), 280) := by decide +kernel
theorem d148_320 : decode b148 320 = .ok ((.bipush 102), 2) := by decide +kernel
theorem d148_322 : decode b148 322 = .ok (.ireturn, 1) := by decide +kernel
theorem d148_323 : decode b148 323 = .ok ((.sipush 303), 3) := by decide +kernel
theorem d148_326 : decode b148 326 = .ok (.ireturn, 1) := by decide +kernel
theorem d148_327 : decode b148 327 = .ok ((.sipush 203), 3) := by decide +kernel
theorem d148_330 : decode b148 330 = .ok (.ireturn, 1) := by decide +kernel
theorem d148_331 : decode b148 331 = .ok ((.sipush 404), 3) := by decide +kernel
theorem d148_334 : decode b148 334 = .ok (.ireturn, 1) := by decide +kernel
theorem d148_335 : decode b148 335 = .ok ((.sipush 304), 3) := by decide +kernel
theorem d148_338 : decode b148 338 = .ok (.ireturn, 1) := by decide +kernel
theorem d148_339 : decode b148 339 = .ok ((.sipush 202), 3) := by decide +kernel
theorem d148_342 : decode b148 342 = .ok (.ireturn, 1) := by decide +kernel
theorem d148_343 : decode b148 343 = .ok ((.sipush 130), 3) := by decide +kernel
theorem d148_346 : decode b148 346 = .ok (.ireturn, 1) := by decide +kernel
theorem d148_347 : decode b148 347 = .ok ((.sipush 330), 3) := by decide +kernel
theorem d148_350 : decode b148 350 = .ok (.ireturn, 1) := by decide +kernel
theorem d148_351 : decode b148 351 = .ok ((.iconst 1), 1) := by decide +kernel
theorem d148_352 : decode b148 352 = .ok (.ireturn, 1) := by decide +kernel
theorem d148_353 : decode b148 353 = .ok ((.sipush 205), 3) := by decide +kernel
theorem d148_356 : decode b148 356 = .ok (.ireturn, 1) := by decide +kernel
theorem d148_357 : decode b148 357 = .ok ((.iconst 0), 1) := by decide +kernel
theorem d148_358 : decode b148 358 = .ok (.ireturn, 1) := by decide +kernel
theorem d148_359 : decode b148 359 = .ok ((.bipush 101), 2) := by decide +kernel
theorem d148_361 : decode b148 361 = .ok (.ireturn, 1) := by decide +kernel
abbrev b149 : ByteArray := prog_13_method_64_code
theorem d149_0 : decode b149 0 = .ok ((.aload_n 0), 1) := by decide +kernel
theorem d149_1 : decode b149 1 = .ok ((.iconst 0), 1) := by decide +kernel
theorem d149_2 : decode b149 2 = .ok ((.invokevirtual 195), 3) := by decide +kernel
theorem d149_5 : decode b149 5 = .ok ((.invokestatic 198), 3) := by decide +kernel
theorem d149_8 : decode b149 8 = .ok ((.dstore_n 1), 1) := by decide +kernel
theorem d149_9 : decode b149 9 = .ok ((.aload_n 0), 1) := by decide +kernel
theorem d149_10 : decode b149 10 = .ok ((.iconst 1), 1) := by decide +kernel
theorem d149_11 : decode b149 11 = .ok ((.invokevirtual 206), 3) := by decide +kernel
theorem d149_14 : decode b149 14 = .ok ((.istore_n 3), 1) := by decide +kernel
theorem d149_15 : decode b149 15 = .ok ((.aload_n 0), 1) := by decide +kernel
theorem d149_16 : decode b149 16 = .ok ((.iconst 2), 1) := by decide +kernel
theorem d149_17 : decode b149 17 = .ok ((.iconst 0), 1) := by decide +kernel
theorem d149_18 : decode b149 18 = .ok ((.invokevirtual 274), 3) := by decide +kernel
theorem d149_21 : decode b149 21 = .ok ((.istore 4), 2) := by decide +kernel
theorem d149_23 : decode b149 23 = .ok ((.dload_n 1), 1) := by decide +kernel
theorem d149_24 : decode b149 24 = .ok ((.dconst 0), 1) := by decide +kernel
theorem d149_25 : decode b149 25 = .ok ((.dcmp .g), 1) := by decide +kernel
theorem d149_26 : decode b149 26 = .ok ((.ifCond .lt 35), 3) := by decide +kernel
theorem d149_29 : decode b149 29 = .ok ((.dload_n 1), 1) := by decide +kernel
theorem d149_30 : decode b149 30 = .ok ((.ldc2_w 193), 3) := by decide +kernel
theorem d149_33 : decode b149 33 = .ok ((.dcmp .l), 1) := by decide +kernel
theorem d149_34 : decode b149 34 = .ok ((.ifCond .ge 27), 3) := by decide +kernel
theorem d149_37 : decode b149 37 = .ok ((.iload_n 3), 1) := by decide +kernel
theorem d149_38 : decode b149 38 = .ok ((.iconst 2), 1) := by decide +kernel
theorem d149_39 : decode b149 39 = .ok ((.if_icmp .lt 22), 3) := by decide +kernel
theorem d149_42 : decode b149 42 = .ok ((.iload_n 3), 1) := by decide +kernel
theorem d149_43 : decode b149 43 = .ok ((.bipush 36), 2) := by decide +kernel
theorem d149_45 : decode b149 45 = .ok ((.if_icmp .gt 16), 3) := by decide +kernel
theorem d149_48 : decode b149 48 = .ok ((.iload 4), 2) := by decide +kernel
theorem d149_50 : decode b149 50 = .ok ((.ifCond .lt 11), 3) := by decide +kernel
theorem d149_53 : decode b149 53 = .ok ((.iload 4), 2) := by decide +kernel
theorem d149_55 : decode b149 55 = .ok ((.sipush 255), 3) := by decide +kernel
theorem d149_58 : decode b149 58 = .ok ((.if_icmp .le 9), 3) := by decide +kernel
theorem d149_61 : decode b149 61 = .ok ((.aload_n 0), 1) := by decide +kernel
theorem d149_62 : decode b149 62 = .ok ((.bipush 6), 2) := by decide +kernel
theorem d149_64 : decode b149 64 = .ok ((.invokevirtual 176), 3) := by decide +kernel
theorem d149_67 : decode b149 67 = .ok ((.aload_n 0), 1) := by decide +kernel
theorem d149_68 : decode b149 68 = .ok ((.getfield 143), 3) := by decide +kernel
theorem d149_71 : decode b149 71 = .ok ((.ifCond .eq 4), 3) := by decide +kernel
theorem d149_74 : decode b149 74 = .ok (.return_, 1) := by decide +kernel
theorem d149_75 : decode b149 75 = .ok ((.dload_n 1), 1) := by decide +kernel
theorem d149_76 : decode b149 76 = .ok (.d2l, 1) := by decide +kernel
theorem d149_77 : decode b149 77 = .ok ((.lstore 5), 2) := by decide +kernel
theorem d149_79 : decode b149 79 = .ok ((.lload 5), 2) := by decide +kernel
theorem d149_81 : decode b149 81 = .ok ((.lconst 0), 1) := by decide +kernel
theorem d149_82 : decode b149 82 = .ok (.lcmp, 1) := by decide +kernel
theorem d149_83 : decode b149 83 = .ok ((.ifCond .ne 7), 3) := by decide +kernel
theorem d149_86 : decode b149 86 = .ok ((.iconst 1), 1) := by decide +kernel
theorem d149_87 : decode b149 87 = .ok ((.goto 4), 3) := by decide +kernel
theorem d149_90 : decode b149 90 = .ok ((.iconst 0), 1) := by decide +kernel
theorem d149_91 : decode b149 91 = .ok ((.istore 7), 2) := by decide +kernel
theorem d149_93 : decode b149 93 = .ok ((.lload 5), 2) := by decide +kernel
theorem d149_95 : decode b149 95 = .ok ((.lstore 8), 2) := by decide +kernel
theorem d149_97 : decode b149 97 = .ok ((.lload 8), 2) := by decide +kernel
theorem d149_99 : decode b149 99 = .ok ((.lconst 0), 1) := by decide +kernel
theorem d149_100 : decode b149 100 = .ok (.lcmp, 1) := by decide +kernel
theorem d149_101 : decode b149 101 = .ok ((.ifCond .le 16), 3) := by decide +kernel
theorem d149_104 : decode b149 104 = .ok ((.iinc 7 1), 3) := by decide +kernel
theorem d149_107 : decode b149 107 = .ok ((.lload 8), 2) := by decide +kernel
theorem d149_109 : decode b149 109 = .ok ((.iload_n 3), 1) := by decide +kernel
theorem d149_110 : decode b149 110 = .ok (.i2l, 1) := by decide +kernel
theorem d149_111 : decode b149 111 = .ok (.ldiv, 1) := by decide +kernel
theorem d149_112 : decode b149 112 = .ok ((.lstore 8), 2) := by decide +kernel
theorem d149_114 : decode b149 114 = .ok ((.goto (-17)), 3) := by decide +kernel
theorem d149_117 : decode b149 117 = .ok ((.iload 7), 2) := by decide +kernel
theorem d149_119 : decode b149 119 = .ok ((.istore 8), 2) := by decide +kernel
theorem d149_121 : decode b149 121 = .ok ((.iload 8), 2) := by decide +kernel
theorem d149_123 : decode b149 123 = .ok ((.iload 4), 2) := by decide +kernel
theorem d149_125 : decode b149 125 = .ok ((.if_icmp .ge 15), 3) := by decide +kernel
theorem d149_128 : decode b149 128 = .ok ((.aload_n 0), 1) := by decide +kernel
theorem d149_129 : decode b149 129 = .ok ((.bipush 48), 2) := by decide +kernel
theorem d149_131 : decode b149 131 = .ok ((.invokevirtual 256), 3) := by decide +kernel
theorem d149_134 : decode b149 134 = .ok ((.iinc 8 1), 3) := by decide +kernel
theorem d149_137 : decode b149 137 = .ok ((.goto (-16)), 3) := by decide +kernel
theorem d149_140 : decode b149 140 = .ok ((.iload 7), 2) := by decide +kernel
theorem d149_142 : decode b149 142 = .ok ((.iconst 1), 1) := by decide +kernel
theorem d149_143 : decode b149 143 = .ok (.isub, 1) := by decide +kernel
theorem d149_144 : decode b149 144 = .ok ((.istore 8), 2) := by decide +kernel
theorem d149_146 : decode b149 146 = .ok ((.iload 8), 2) := by decide +kernel
theorem d149_148 : decode b149 148 = .ok ((.ifCond .lt 71), 3) := by decide +kernel
theorem d149_151 : decode b149 151 = .ok ((.lload 5), 2) := by decide +kernel
theorem d149_153 : decode b149 153 = .ok ((.lstore 9), 2) := by decide +kernel
theorem d149_155 : decode b149 155 = .ok ((.iconst 0), 1) := by decide +kernel
theorem d149_156 : decode b149 156 = .ok ((.istore 11), 2) := by decide +kernel
theorem d149_158 : decode b149 158 = .ok ((.iload 11), 2) := by decide +kernel
theorem d149_160 : decode b149 160 = .ok ((.iload 8), 2) := by decide +kernel
theorem d149_162 : decode b149 162 = .ok ((.if_icmp .ge 16), 3) := by decide +kernel
theorem d149_165 : decode b149 165 = .ok ((.lload 9), 2) := by decide +kernel
theorem d149_167 : decode b149 167 = .ok ((.iload_n 3), 1) := by decide +kernel
theorem d149_168 : decode b149 168 = .ok (.i2l, 1) := by decide +kernel
theorem d149_169 : decode b149 169 = .ok (.ldiv, 1) := by decide +kernel
theorem d149_170 : decode b149 170 = .ok ((.lstore 9), 2) := by decide +kernel
theorem d149_172 : decode b149 172 = .ok ((.iinc 11 1), 3) := by decide +kernel
theorem d149_175 : decode b149 175 = .ok ((.goto (-17)), 3) := by decide +kernel
theorem d149_178 : decode b149 178 = .ok ((.lload 9), 2) := by decide +kernel
theorem d149_180 : decode b149 180 = .ok ((.iload_n 3), 1) := by decide +kernel
theorem d149_181 : decode b149 181 = .ok (.i2l, 1) := by decide +kernel
theorem d149_182 : decode b149 182 = .ok (.lrem, 1) := by decide +kernel
theorem d149_183 : decode b149 183 = .ok (.l2i, 1) := by decide +kernel
theorem d149_184 : decode b149 184 = .ok ((.istore 11), 2) := by decide +kernel
theorem d149_186 : decode b149 186 = .ok ((.aload_n 0), 1) := by decide +kernel
theorem d149_187 : decode b149 187 = .ok ((.iload 11), 2) := by decide +kernel
theorem d149_189 : decode b149 189 = .ok ((.bipush 10), 2) := by decide +kernel
theorem d149_191 : decode b149 191 = .ok ((.if_icmp .ge 11), 3) := by decide +kernel
theorem d149_194 : decode b149 194 = .ok ((.bipush 48), 2) := by decide +kernel
theorem d149_196 : decode b149 196 = .ok ((.iload 11), 2) := by decide +kernel
theorem d149_198 : decode b149 198 = .ok (.iadd, 1) := by decide +kernel
theorem d149_199 : decode b149 199 = .ok ((.goto 11), 3) := by decide +kernel
theorem d149_202 : decode b149 202 = .ok ((.bipush 65), 2) := by decide +kernel
theorem d149_204 : decode b149 204 = .ok ((.iload 11), 2) := by decide +kernel
theorem d149_206 : decode b149 206 = .ok (.iadd, 1) := by decide +kernel
theorem d149_207 : decode b149 207 = .ok ((.bipush 10), 2) := by decide +kernel
theorem d149_209 : decode b149 209 = .ok (.isub, 1) := by decide +kernel
theorem d149_210 : decode b149 210 = .ok ((.invokevirtual 256), 3) := by decide +kernel
theorem d149_213 : decode b149 213 = .ok ((.iinc 8 (-1)), 3) := by decide +kernel
theorem d149_216 : decode b149 216 = .ok ((.goto (-70)), 3) := by decide +kernel
theorem d149_219 : decode b149 219 = .ok ((.aload_n 0), 1) := by decide +kernel
theorem d149_220 : decode b149 220 = .ok ((.invokevirtual 284), 3) := by decide +kernel
theorem d149_223 : decode b149 223 = .ok (.return_, 1) := by decide +kernel
abbrev b231 : ByteArray := prog_13_method_39_code
theorem d231_0 : decode b231 0 = .ok ((.iconst 0), 1) := by decide +kernel
theorem d231_1 : decode b231 1 = .ok ((.istore_n 1), 1) := by decide +kernel
theorem d231_2 : decode b231 2 = .ok ((.iload_n 1), 1) := by decide +kernel
theorem d231_3 : decode b231 3 = .ok ((.aload_n 0), 1) := by decide +kernel
theorem d231_4 : decode b231 4 = .ok ((.getfield 157), 3) := by decide +kernel
theorem d231_7 : decode b231 7 = .ok ((.if_icmp .ge 21), 3) := by decide +kernel
theorem d231_10 : decode b231 10 = .ok ((.aload_n 0), 1) := by decide +kernel
theorem d231_11 : decode b231 11 = .ok ((.getfield 58), 3) := by decide +kernel
theorem d231_14 : decode b231 14 = .ok ((.iload_n 1), 1) := by decide +kernel
theorem d231_15 : decode b231 15 = .ok ((.aload_n 0), 1) := by decide +kernel
theorem d231_16 : decode b231 16 = .ok ((.getfield 55), 3) := by decide +kernel
theorem d231_19 : decode b231 19 = .ok ((.iload_n 1), 1) := by decide +kernel
theorem d231_20 : decode b231 20 = .ok (.iaload, 1) := by decide +kernel
theorem d231_21 : decode b231 21 = .ok (.iastore, 1) := by decide +kernel
theorem d231_22 : decode b231 22 = .ok ((.iinc 1 1), 3) := by decide +kernel
theorem d231_25 : decode b231 25 = .ok ((.goto (-23)), 3) := by decide +kernel
theorem d231_28 : decode b231 28 = .ok ((.aload_n 0), 1) := by decide +kernel
theorem d231_29 : decode b231 29 = .ok ((.aload_n 0), 1) := by decide +kernel
theorem d231_30 : decode b231 30 = .ok ((.getfield 157), 3) := by decide +kernel
theorem d231_33 : decode b231 33 = .ok ((.putfield 243), 3) := by decide +kernel
theorem d231_36 : decode b231 36 = .ok (.return_, 1) := by decide +kernel
abbrev b188 : ByteArray := prog_13_method_46_code
theorem d188_0 : decode b188 0 = .ok ((.iload_n 0), 1) := by decide +kernel
theorem d188_1 : decode b188 1 = .ok ((.iload_n 1), 1) := by decide +kernel
theorem d188_2 : decode b188 2 = .ok ((.if_icmp .ge 7), 3) := by decide +kernel
theorem d188_5 : decode b188 5 = .ok ((.iload_n 0), 1) := by decide +kernel
theorem d188_6 : decode b188 6 = .ok ((.goto 4), 3) := by decide +kernel
theorem d188_9 : decode b188 9 = .ok ((.iload_n 1), 1) := by decide +kernel
theorem d188_10 : decode b188 10 = .ok (.ireturn, 1) := by decide +kernel
abbrev b167 : ByteArray := prog_13_method_47_code
theorem d167_0 : decode b167 0 = .ok ((.aload_n 0), 1) := by decide +kernel
theorem d167_1 : decode b167 1 = .ok ((.iconst 0), 1) := by decide +kernel
theorem d167_2 : decode b167 2 = .ok ((.invokevirtual 268), 3) := by decide +kernel
theorem d167_5 : decode b167 5 = .ok ((.aload_n 0), 1) := by decide +kernel
theorem d167_6 : decode b167 6 = .ok ((.invokevirtual 271), 3) := by decide +kernel
theorem d167_9 : decode b167 9 = .ok ((.aload_n 0), 1) := by decide +kernel
theorem d167_10 : decode b167 10 = .ok ((.iconst 1), 1) := by decide +kernel
theorem d167_11 : decode b167 11 = .ok ((.iconst 1), 1) := by decide +kernel
theorem d167_12 : decode b167 12 = .ok ((.invokevirtual 274), 3) := by decide +kernel
theorem d167_15 : decode b167 15 = .ok ((.istore_n 2), 1) := by decide +kernel
theorem d167_16 : decode b167 16 = .ok ((.iload_n 2), 1) := by decide +kernel
theorem d167_17 : decode b167 17 = .ok ((.ifCond .ge 8), 3) := by decide +kernel
theorem d167_20 : decode b167 20 = .ok ((.aload_n 0), 1) := by decide +kernel
theorem d167_21 : decode b167 21 = .ok ((.iconst 3), 1) := by decide +kernel
theorem d167_22 : decode b167 22 = .ok ((.invokevirtual 176), 3) := by decide +kernel
theorem d167_25 : decode b167 25 = .ok ((.aload_n 0), 1) := by decide +kernel
theorem d167_26 : decode b167 26 = .ok ((.getfield 143), 3) := by decide +kernel
theorem d167_29 : decode b167 29 = .ok ((.ifCond .eq 4), 3) := by decide +kernel
theorem d167_32 : decode b167 32 = .ok (.return_, 1) := by decide +kernel
theorem d167_33 : decode b167 33 = .ok ((.iload_n 2), 1) := by decide +kernel
theorem d167_34 : decode b167 34 = .ok ((.aload_n 0), 1) := by decide +kernel
theorem d167_35 : decode b167 35 = .ok ((.getfield 243), 3) := by decide +kernel
theorem d167_38 : decode b167 38 = .ok ((.invokestatic 277), 3) := by decide +kernel
theorem d167_41 : decode b167 41 = .ok ((.istore_n 3), 1) := by decide +kernel
theorem d167_42 : decode b167 42 = .ok ((.aload_n 0), 1) := by decide +kernel
theorem d167_43 : decode b167 43 = .ok ((.aload_n 0), 1) := by decide +kernel
theorem d167_44 : decode b167 44 = .ok ((.getfield 58), 3) := by decide +kernel
theorem d167_47 : decode b167 47 = .ok ((.iload_n 1), 1) := by decide +kernel
theorem d167_48 : decode b167 48 = .ok ((.ifCond .eq 12), 3) := by decide +kernel
theorem d167_51 : decode b167 51 = .ok ((.aload_n 0), 1) := by decide +kernel
theorem d167_52 : decode b167 52 = .ok ((.getfield 243), 3) := by decide +kernel
theorem d167_55 : decode b167 55 = .ok ((.iload_n 3), 1) := by decide +kernel
theorem d167_56 : decode b167 56 = .ok (.isub, 1) := by decide +kernel
theorem d167_57 : decode b167 57 = .ok ((.goto 4), 3) := by decide +kernel
theorem d167_60 : decode b167 60 = .ok ((.iconst 0), 1) := by decide +kernel
theorem d167_61 : decode b167 61 = .ok ((.iload_n 1), 1) := by decide +kernel
theorem d167_62 : decode b167 62 = .ok ((.ifCond .eq 10), 3) := by decide +kernel
theorem d167_65 : decode b167 65 = .ok ((.aload_n 0), 1) := by decide +kernel
theorem d167_66 : decode b167 66 = .ok ((.getfield 243), 3) := by decide +kernel
theorem d167_69 : decode b167 69 = .ok ((.goto 4), 3) := by decide +kernel
theorem d167_72 : decode b167 72 = .ok ((.iload_n 3), 1) := by decide +kernel
theorem d167_73 : decode b167 73 = .ok ((.invokevirtual 280), 3) := by decide +kernel
theorem d167_76 : decode b167 76 = .ok ((.aload_n 0), 1) := by decide +kernel
theorem d167_77 : decode b167 77 = .ok ((.invokevirtual 284), 3) := by decide +kernel
theorem d167_80 : decode b167 80 = .ok (.return_, 1) := by decide +kernel
abbrev b200 : ByteArray := prog_13_method_48_code
theorem d200_0 : decode b200 0 = .ok ((.aload_n 0), 1) := by decide +kernel
theorem d200_1 : decode b200 1 = .ok ((.iconst 0), 1) := by decide +kernel
theorem d200_2 : decode b200 2 = .ok ((.invokevirtual 268), 3) := by decide +kernel
theorem d200_5 : decode b200 5 = .ok ((.aload_n 0), 1) := by decide +kernel
theorem d200_6 : decode b200 6 = .ok ((.invokevirtual 271), 3) := by decide +kernel
theorem d200_9 : decode b200 9 = .ok ((.aload_n 0), 1) := by decide +kernel
theorem d200_10 : decode b200 10 = .ok ((.iconst 1), 1) := by decide +kernel
theorem d200_11 : decode b200 11 = .ok ((.invokevirtual 206), 3) := by decide +kernel
theorem d200_14 : decode b200 14 = .ok ((.istore_n 1), 1) := by decide +kernel
theorem d200_15 : decode b200 15 = .ok ((.aload_n 0), 1) := by decide +kernel
theorem d200_16 : decode b200 16 = .ok ((.iconst 2), 1) := by decide +kernel
theorem d200_17 : decode b200 17 = .ok ((.invokevirtual 206), 3) := by decide +kernel
theorem d200_20 : decode b200 20 = .ok ((.istore_n 2), 1) := by decide +kernel
theorem d200_21 : decode b200 21 = .ok ((.iload_n 1), 1) := by decide +kernel
theorem d200_22 : decode b200 22 = .ok ((.iconst 1), 1) := by decide +kernel
theorem d200_23 : decode b200 23 = .ok ((.if_icmp .lt 7), 3) := by decide +kernel
theorem d200_26 : decode b200 26 = .ok ((.iload_n 2), 1) := by decide +kernel
theorem d200_27 : decode b200 27 = .ok ((.ifCond .ge 8), 3) := by decide +kernel
theorem d200_30 : decode b200 30 = .ok ((.aload_n 0), 1) := by decide +kernel
theorem d200_31 : decode b200 31 = .ok ((.iconst 3), 1) := by decide +kernel
theorem d200_32 : decode b200 32 = .ok ((.invokevirtual 176), 3) := by decide +kernel
theorem d200_35 : decode b200 35 = .ok ((.aload_n 0), 1) := by decide +kernel
theorem d200_36 : decode b200 36 = .ok ((.getfield 143), 3) := by decide +kernel
theorem d200_39 : decode b200 39 = .ok ((.ifCond .eq 4), 3) := by decide +kernel
theorem d200_42 : decode b200 42 = .ok (.return_, 1) := by decide +kernel
theorem d200_43 : decode b200 43 = .ok ((.iload_n 1), 1) := by decide +kernel
theorem d200_44 : decode b200 44 = .ok ((.iconst 1), 1) := by decide +kernel
theorem d200_45 : decode b200 45 = .ok (.isub, 1) := by decide +kernel
theorem d200_46 : decode b200 46 = .ok ((.aload_n 0), 1) := by decide +kernel
theorem d200_47 : decode b200 47 = .ok ((.getfield 243), 3) := by decide +kernel
theorem d200_50 : decode b200 50 = .ok ((.invokestatic 277), 3) := by decide +kernel
theorem d200_53 : decode b200 53 = .ok ((.istore_n 3), 1) := by decide +kernel
theorem d200_54 : decode b200 54 = .ok ((.aload_n 0), 1) := by decide +kernel
theorem d200_55 : decode b200 55 = .ok ((.aload_n 0), 1) := by decide +kernel
theorem d200_56 : decode b200 56 = .ok ((.getfield 58), 3) := by decide +kernel
theorem d200_59 : decode b200 59 = .ok ((.iload_n 3), 1) := by decide +kernel
theorem d200_60 : decode b200 60 = .ok ((.iload_n 3), 1) := by decide +kernel
theorem d200_61 : decode b200 61 = .ok ((.iload_n 2), 1) := by decide +kernel
theorem d200_62 : decode b200 62 = .ok ((.aload_n 0), 1) := by decide +kernel
theorem d200_63 : decode b200 63 = .ok ((.getfield 243), 3) := by decide +kernel
theorem d200_66 : decode b200 66 = .ok ((.iload_n 3), 1) := by decide +kernel
theorem d200_67 : decode b200 67 = .ok (.isub, 1) := by decide +kernel
theorem d200_68 : decode b200 68 = .ok ((.invokestatic 277), 3) := by decide +kernel
theorem d200_71 : decode b200 71 = .ok (.iadd, 1) := by decide +kernel
theorem d200_72 : decode b200 72 = .ok ((.invokevirtual 280), 3) := by decide +kernel
theorem d200_75 : decode b200 75 = .ok ((.aload_n 0), 1) := by decide +kernel
theorem d200_76 : decode b200 76 = .ok ((.invokevirtual 284), 3) := by decide +kernel
theorem d200_79 : decode b200 79 = .ok (.return_, 1) := by decide +kernel
abbrev b232 : ByteArray := prog_13_method_40_code
theorem d232_0 : decode b232 0 = .ok ((.iconst 0), 1) := by decide +kernel
theorem d232_1 : decode b232 1 = .ok ((.istore_n 1), 1) := by decide +kernel
theorem d232_2 : decode b232 2 = .ok ((.iload_n 1), 1) := by decide +kernel
theorem d232_3 : decode b232 3 = .ok ((.aload_n 0), 1) := by decide +kernel
theorem d232_4 : decode b232 4 = .ok ((.getfield 157), 3) := by decide +kernel
theorem d232_7 : decode b232 7 = .ok ((.if_icmp .ge 21), 3) := by decide +kernel
theorem d232_10 : decode b232 10 = .ok ((.aload_n 0), 1) := by decide +kernel
theorem d232_11 : decode b232 11 = .ok ((.getfield 61), 3) := by decide +kernel
theorem d232_14 : decode b232 14 = .ok ((.iload_n 1), 1) := by decide +kernel
theorem d232_15 : decode b232 15 = .ok ((.aload_n 0), 1) := by decide +kernel
theorem d232_16 : decode b232 16 = .ok ((.getfield 55), 3) := by decide +kernel
theorem d232_19 : decode b232 19 = .ok ((.iload_n 1), 1) := by decide +kernel
theorem d232_20 : decode b232 20 = .ok (.iaload, 1) := by decide +kernel
theorem d232_21 : decode b232 21 = .ok (.iastore, 1) := by decide +kernel
theorem d232_22 : decode b232 22 = .ok ((.iinc 1 1), 3) := by decide +kernel
theorem d232_25 : decode b232 25 = .ok ((.goto (-23)), 3) := by decide +kernel
theorem d232_28 : decode b232 28 = .ok ((.aload_n 0), 1) := by decide +kernel
theorem d232_29 : decode b232 29 = .ok ((.aload_n 0), 1) := by decide +kernel
theorem d232_30 : decode b232 30 = .ok ((.getfield 157), 3) := by decide +kernel
theorem d232_33 : decode b232 33 = .ok ((.putfield 246), 3) := by decide +kernel
theorem d232_36 : decode b232 36 = .ok (.return_, 1) := by decide +kernel
abbrev b180 : ByteArray := prog_13_method_50_code
theorem d180_0 : decode b180 0 = .ok ((.aload_n 0), 1) := by decide +kernel
theorem d180_1 : decode b180 1 = .ok ((.iload_n 2), 1) := by decide +kernel
theorem d180_2 : decode b180 2 = .ok (.iaload, 1) := by decide +kernel
theorem d180_3 : decode b180 3 = .ok ((.bipush 126), 2) := by decide +kernel
theorem d180_5 : decode b180 5 = .ok ((.if_icmp .ne 44), 3) := by decide +kernel
theorem d180_8 : decode b180 8 = .ok ((.iload_n 2), 1) := by decide +kernel
theorem d180_9 : decode b180 9 = .ok ((.iconst 1), 1) := by decide +kernel
theorem d180_10 : decode b180 10 = .ok (.iadd, 1) := by decide +kernel
theorem d180_11 : decode b180 11 = .ok ((.iload_n 1), 1) := by decide +kernel
theorem d180_12 : decode b180 12 = .ok ((.if_icmp .ge 37), 3) := by decide +kernel
theorem d180_15 : decode b180 15 = .ok ((.aload_n 0), 1) := by decide +kernel
theorem d180_16 : decode b180 16 = .ok ((.iload_n 2), 1) := by decide +kernel
theorem d180_17 : decode b180 17 = .ok ((.iconst 1), 1) := by decide +kernel
theorem d180_18 : decode b180 18 = .ok (.iadd, 1) := by decide +kernel
theorem d180_19 : decode b180 19 = .ok (.iaload, 1) := by decide +kernel
theorem d180_20 : decode b180 20 = .ok ((.bipush 63), 2) := by decide +kernel
theorem d180_22 : decode b180 22 = .ok ((.if_icmp .eq 23), 3) := by decide +kernel
theorem d180_25 : decode b180 25 = .ok ((.aload_n 0), 1) := by decide +kernel
theorem d180_26 : decode b180 26 = .ok ((.iload_n 2), 1) := by decide +kernel
theorem d180_27 : decode b180 27 = .ok ((.iconst 1), 1) := by decide +kernel
theorem d180_28 : decode b180 28 = .ok (.iadd, 1) := by decide +kernel
theorem d180_29 : decode b180 29 = .ok (.iaload, 1) := by decide +kernel
theorem d180_30 : decode b180 30 = .ok ((.bipush 42), 2) := by decide +kernel
theorem d180_32 : decode b180 32 = .ok ((.if_icmp .eq 13), 3) := by decide +kernel
theorem d180_35 : decode b180 35 = .ok ((.aload_n 0), 1) := by decide +kernel
theorem d180_36 : decode b180 36 = .ok ((.iload_n 2), 1) := by decide +kernel
theorem d180_37 : decode b180 37 = .ok ((.iconst 1), 1) := by decide +kernel
theorem d180_38 : decode b180 38 = .ok (.iadd, 1) := by decide +kernel
theorem d180_39 : decode b180 39 = .ok (.iaload, 1) := by decide +kernel
theorem d180_40 : decode b180 40 = .ok ((.bipush 126), 2) := by decide +kernel
theorem d180_42 : decode b180 42 = .ok ((.if_icmp .ne 7), 3) := by decide +kernel
theorem d180_45 : decode b180 45 = .ok ((.iconst 1), 1) := by decide +kernel
theorem d180_46 : decode b180 46 = .ok ((.goto 4), 3) := by decide +kernel
theorem d180_49 : decode b180 49 = .ok ((.iconst 0), 1) := by decide +kernel
theorem d180_50 : decode b180 50 = .ok (.ireturn, 1) := by decide +kernel
abbrev b175 : ByteArray := prog_13_method_32_code
theorem d175_0 : decode b175 0 = .ok ((.iload_n 0), 1) := by decide +kernel
theorem d175_1 : decode b175 1 = .ok ((.bipush 97), 2) := by decide +kernel
theorem d175_3 : decode b175 3 = .ok ((.if_icmp .lt 16), 3) := by decide +kernel
theorem d175_6 : decode b175 6 = .ok ((.iload_n 0), 1) := by decide +kernel
theorem d175_7 : decode b175 7 = .ok ((.bipush 122), 2) := by decide +kernel
theorem d175_9 : decode b175 9 = .ok ((.if_icmp .gt 10), 3) := by decide +kernel
theorem d175_12 : decode b175 12 = .ok ((.iload_n 0), 1) := by decide +kernel
theorem d175_13 : decode b175 13 = .ok ((.bipush 32), 2) := by decide +kernel
theorem d175_15 : decode b175 15 = .ok (.isub, 1) := by decide +kernel
theorem d175_16 : decode b175 16 = .ok ((.goto 4), 3) := by decide +kernel
theorem d175_19 : decode b175 19 = .ok ((.iload_n 0), 1) := by decide +kernel
theorem d175_20 : decode b175 20 = .ok (.ireturn, 1) := by decide +kernel
abbrev b199 : ByteArray := prog_13_method_51_code
theorem d199_0 : decode b199 0 = .ok ((.iload 4), 2) := by decide +kernel
theorem d199_2 : decode b199 2 = .ok ((.istore 7), 2) := by decide +kernel
theorem d199_4 : decode b199 4 = .ok ((.iload 7), 2) := by decide +kernel
theorem d199_6 : decode b199 6 = .ok ((.iload 5), 2) := by decide +kernel
theorem d199_8 : decode b199 8 = .ok ((.if_icmp .lt 39), 3) := by decide +kernel
theorem d199_11 : decode b199 11 = .ok ((.aload_n 0), 1) := by decide +kernel
theorem d199_12 : decode b199 12 = .ok ((.getfield 80), 3) := by decide +kernel
theorem d199_15 : decode b199 15 = .ok ((.sipush 256), 3) := by decide +kernel
theorem d199_18 : decode b199 18 = .ok ((.iload_n 2), 1) := by decide +kernel
theorem d199_19 : decode b199 19 = .ok (.imul, 1) := by decide +kernel
theorem d199_20 : decode b199 20 = .ok ((.iload 7), 2) := by decide +kernel
theorem d199_22 : decode b199 22 = .ok (.iadd, 1) := by decide +kernel
theorem d199_23 : decode b199 23 = .ok ((.iload 6), 2) := by decide +kernel
theorem d199_25 : decode b199 25 = .ok ((.ifCond .eq 10), 3) := by decide +kernel
theorem d199_28 : decode b199 28 = .ok ((.iload 7), 2) := by decide +kernel
theorem d199_30 : decode b199 30 = .ok ((.iload 4), 2) := by decide +kernel
theorem d199_32 : decode b199 32 = .ok ((.if_icmp .ne 7), 3) := by decide +kernel
theorem d199_35 : decode b199 35 = .ok ((.iconst 1), 1) := by decide +kernel
theorem d199_36 : decode b199 36 = .ok ((.goto 4), 3) := by decide +kernel
theorem d199_39 : decode b199 39 = .ok ((.iconst 0), 1) := by decide +kernel
theorem d199_40 : decode b199 40 = .ok (.bastore, 1) := by decide +kernel
theorem d199_41 : decode b199 41 = .ok ((.iinc 7 (-1)), 3) := by decide +kernel
theorem d199_44 : decode b199 44 = .ok ((.goto (-40)), 3) := by decide +kernel
theorem d199_47 : decode b199 47 = .ok ((.iload_n 2), 1) := by decide +kernel
theorem d199_48 : decode b199 48 = .ok ((.iconst 1), 1) := by decide +kernel
theorem d199_49 : decode b199 49 = .ok (.isub, 1) := by decide +kernel
theorem d199_50 : decode b199 50 = .ok ((.istore 7), 2) := by decide +kernel
theorem d199_52 : decode b199 52 = .ok ((.iload 7), 2) := by decide +kernel
theorem d199_54 : decode b199 54 = .ok ((.ifCond .lt 224), 3) := by decide +kernel
theorem d199_57 : decode b199 57 = .ok ((.aload_n 1), 1) := by decide +kernel
theorem d199_58 : decode b199 58 = .ok ((.iload_n 2), 1) := by decide +kernel
theorem d199_59 : decode b199 59 = .ok ((.iload 7), 2) := by decide +kernel
theorem d199_61 : decode b199 61 = .ok ((.invokestatic 287), 3) := by decide +kernel
theorem d199_64 : decode b199 64 = .ok ((.istore 8), 2) := by decide +kernel
theorem d199_66 : decode b199 66 = .ok ((.iload 8), 2) := by decide +kernel
theorem d199_68 : decode b199 68 = .ok ((.ifCond .eq 12), 3) := by decide +kernel
theorem d199_71 : decode b199 71 = .ok ((.aload_n 1), 1) := by decide +kernel
theorem d199_72 : decode b199 72 = .ok ((.iload 7), 2) := by decide +kernel
theorem d199_74 : decode b199 74 = .ok ((.iconst 1), 1) := by decide +kernel
theorem d199_75 : decode b199 75 = .ok (.iadd, 1) := by decide +kernel
theorem d199_76 : decode b199 76 = .ok (.iaload, 1) := by decide +kernel
theorem d199_77 : decode b199 77 = .ok ((.goto 7), 3) := by decide +kernel
theorem d199_80 : decode b199 80 = .ok ((.aload_n 1), 1) := by decide +kernel
theorem d199_81 : decode b199 81 = .ok ((.iload 7), 2) := by decide +kernel
theorem d199_83 : decode b199 83 = .ok (.iaload, 1) := by decide +kernel
theorem d199_84 : decode b199 84 = .ok ((.istore 9), 2) := by decide +kernel
theorem d199_86 : decode b199 86 = .ok ((.iload 8), 2) := by decide +kernel
theorem d199_88 : decode b199 88 = .ok ((.ifCond .eq 10), 3) := by decide +kernel
theorem d199_91 : decode b199 91 = .ok ((.iload 7), 2) := by decide +kernel
theorem d199_93 : decode b199 93 = .ok ((.iconst 2), 1) := by decide +kernel
theorem d199_94 : decode b199 94 = .ok (.iadd, 1) := by decide +kernel
theorem d199_95 : decode b199 95 = .ok ((.goto 7), 3) := by decide +kernel
theorem d199_98 : decode b199 98 = .ok ((.iload 7), 2) := by decide +kernel
theorem d199_100 : decode b199 100 = .ok ((.iconst 1), 1) := by decide +kernel
theorem d199_101 : decode b199 101 = .ok (.iadd, 1) := by decide +kernel
theorem d199_102 : decode b199 102 = .ok ((.istore 10), 2) := by decide +kernel
theorem d199_104 : decode b199 104 = .ok ((.iload 4), 2) := by decide +kernel
theorem d199_106 : decode b199 106 = .ok ((.istore 11), 2) := by decide +kernel
theorem d199_108 : decode b199 108 = .ok ((.iload 11), 2) := by decide +kernel
theorem d199_110 : decode b199 110 = .ok ((.iload 5), 2) := by decide +kernel
theorem d199_112 : decode b199 112 = .ok ((.if_icmp .lt 160), 3) := by decide +kernel
theorem d199_115 : decode b199 115 = .ok ((.iload 11), 2) := by decide +kernel
theorem d199_117 : decode b199 117 = .ok ((.iload 4), 2) := by decide +kernel
theorem d199_119 : decode b199 119 = .ok ((.if_icmp .ge 53), 3) := by decide +kernel
theorem d199_122 : decode b199 122 = .ok ((.iload 9), 2) := by decide +kernel
theorem d199_124 : decode b199 124 = .ok ((.bipush 63), 2) := by decide +kernel
theorem d199_126 : decode b199 126 = .ok ((.if_icmp .ne 8), 3) := by decide +kernel
theorem d199_129 : decode b199 129 = .ok ((.iload 8), 2) := by decide +kernel
theorem d199_131 : decode b199 131 = .ok ((.ifCond .eq 18), 3) := by decide +kernel
theorem d199_134 : decode b199 134 = .ok ((.iload 9), 2) := by decide +kernel
theorem d199_136 : decode b199 136 = .ok ((.invokestatic 291), 3) := by decide +kernel
theorem d199_139 : decode b199 139 = .ok ((.aload_n 3), 1) := by decide +kernel
theorem d199_140 : decode b199 140 = .ok ((.iload 11), 2) := by decide +kernel
theorem d199_142 : decode b199 142 = .ok (.iaload, 1) := by decide +kernel
theorem d199_143 : decode b199 143 = .ok ((.invokestatic 291), 3) := by decide +kernel
theorem d199_146 : decode b199 146 = .ok ((.if_icmp .ne 26), 3) := by decide +kernel
theorem d199_149 : decode b199 149 = .ok ((.aload_n 0), 1) := by decide +kernel
theorem d199_150 : decode b199 150 = .ok ((.getfield 80), 3) := by decide +kernel
theorem d199_153 : decode b199 153 = .ok ((.sipush 256), 3) := by decide +kernel
theorem d199_156 : decode b199 156 = .ok ((.iload 10), 2) := by decide +kernel
theorem d199_158 : decode b199 158 = .ok (.imul, 1) := by decide +kernel
theorem d199_159 : decode b199 159 = .ok ((.iload 11), 2) := by decide +kernel
theorem d199_161 : decode b199 161 = .ok (.iadd, 1) := by decide +kernel
theorem d199_162 : decode b199 162 = .ok ((.iconst 1), 1) := by decide +kernel
theorem d199_163 : decode b199 163 = .ok (.iadd, 1) := by decide +kernel
theorem d199_164 : decode b199 164 = .ok (.baload, 1) := by decide +kernel
theorem d199_165 : decode b199 165 = .ok ((.ifCond .eq 7), 3) := by decide +kernel
theorem d199_168 : decode b199 168 = .ok ((.iconst 1), 1) := by decide +kernel
theorem d199_169 : decode b199 169 = .ok ((.goto 4), 3) := by decide +kernel
theorem d199_172 : decode b199 172 = .ok ((.iconst 0), 1) := by decide +kernel
theorem d199_173 : decode b199 173 = .ok ((.istore 12), 2) := by decide +kernel
theorem d199_175 : decode b199 175 = .ok ((.iload 9), 2) := by decide +kernel
theorem d199_177 : decode b199 177 = .ok ((.bipush 42), 2) := by decide +kernel
theorem d199_179 : decode b199 179 = .ok ((.if_icmp .ne 12), 3) := by decide +kernel
theorem d199_182 : decode b199 182 = .ok ((.iload 8), 2) := by decide +kernel
theorem d199_184 : decode b199 184 = .ok ((.ifCond .ne 7), 3) := by decide +kernel
theorem d199_187 : decode b199 187 = .ok ((.iconst 1), 1) := by decide +kernel
theorem d199_188 : decode b199 188 = .ok ((.goto 4), 3) := by decide +kernel
theorem d199_191 : decode b199 191 = .ok ((.iconst 0), 1) := by decide +kernel
theorem d199_192 : decode b199 192 = .ok ((.istore 13), 2) := by decide +kernel
theorem d199_194 : decode b199 194 = .ok ((.aload_n 0), 1) := by decide +kernel
theorem d199_195 : decode b199 195 = .ok ((.getfield 80), 3) := by decide +kernel
theorem d199_198 : decode b199 198 = .ok ((.sipush 256), 3) := by decide +kernel
theorem d199_201 : decode b199 201 = .ok ((.iload 7), 2) := by decide +kernel
theorem d199_203 : decode b199 203 = .ok (.imul, 1) := by decide +kernel
theorem d199_204 : decode b199 204 = .ok ((.iload 11), 2) := by decide +kernel
theorem d199_206 : decode b199 206 = .ok (.iadd, 1) := by decide +kernel
theorem d199_207 : decode b199 207 = .ok ((.iload 13), 2) := by decide +kernel
theorem d199_209 : decode b199 209 = .ok ((.ifCond .eq 54), 3) := by decide +kernel
theorem d199_212 : decode b199 212 = .ok ((.aload_n 0), 1) := by decide +kernel
theorem d199_213 : decode b199 213 = .ok ((.getfield 80), 3) := by decide +kernel
theorem d199_216 : decode b199 216 = .ok ((.sipush 256), 3) := by decide +kernel
theorem d199_219 : decode b199 219 = .ok ((.iload 10), 2) := by decide +kernel
theorem d199_221 : decode b199 221 = .ok (.imul, 1) := by decide +kernel
theorem d199_222 : decode b199 222 = .ok ((.iload 11), 2) := by decide +kernel
theorem d199_224 : decode b199 224 = .ok (.iadd, 1) := by decide +kernel
theorem d199_225 : decode b199 225 = .ok (.baload, 1) := by decide +kernel
theorem d199_226 : decode b199 226 = .ok ((.ifCond .ne 29), 3) := by decide +kernel
theorem d199_229 : decode b199 229 = .ok ((.iload 11), 2) := by decide +kernel
theorem d199_231 : decode b199 231 = .ok ((.iload 4), 2) := by decide +kernel
theorem d199_233 : decode b199 233 = .ok ((.if_icmp .ge 26), 3) := by decide +kernel
theorem d199_236 : decode b199 236 = .ok ((.aload_n 0), 1) := by decide +kernel
theorem d199_237 : decode b199 237 = .ok ((.getfield 80), 3) := by decide +kernel
theorem d199_240 : decode b199 240 = .ok ((.sipush 256), 3) := by decide +kernel
theorem d199_243 : decode b199 243 = .ok ((.iload 7), 2) := by decide +kernel
theorem d199_245 : decode b199 245 = .ok (.imul, 1) := by decide +kernel
theorem d199_246 : decode b199 246 = .ok ((.iload 11), 2) := by decide +kernel
theorem d199_248 : decode b199 248 = .ok (.iadd, 1) := by decide +kernel
theorem d199_249 : decode b199 249 = .ok ((.iconst 1), 1) := by decide +kernel
theorem d199_250 : decode b199 250 = .ok (.iadd, 1) := by decide +kernel
theorem d199_251 : decode b199 251 = .ok (.baload, 1) := by decide +kernel
theorem d199_252 : decode b199 252 = .ok ((.ifCond .eq 7), 3) := by decide +kernel
theorem d199_255 : decode b199 255 = .ok ((.iconst 1), 1) := by decide +kernel
theorem d199_256 : decode b199 256 = .ok ((.goto 9), 3) := by decide +kernel
theorem d199_259 : decode b199 259 = .ok ((.iconst 0), 1) := by decide +kernel
theorem d199_260 : decode b199 260 = .ok ((.goto 5), 3) := by decide +kernel
theorem d199_263 : decode b199 263 = .ok ((.iload 12), 2) := by decide +kernel
theorem d199_265 : decode b199 265 = .ok (.bastore, 1) := by decide +kernel
theorem d199_266 : decode b199 266 = .ok ((.iinc 11 (-1)), 3) := by decide +kernel
theorem d199_269 : decode b199 269 = .ok ((.goto (-161)), 3) := by decide +kernel
theorem d199_272 : decode b199 272 = .ok ((.iinc 7 (-1)), 3) := by decide +kernel
theorem d199_275 : decode b199 275 = .ok ((.goto (-223)), 3) := by decide +kernel
theorem d199_278 : decode b199 278 = .ok ((.aload_n 0), 1) := by decide +kernel
theorem d199_279 : decode b199 279 = .ok ((.getfield 80), 3) := by decide +kernel
theorem d199_282 : decode b199 282 = .ok ((.iload 5), 2) := by decide +kernel
theorem d199_284 : decode b199 284 = .ok (.baload, 1) := by decide +kernel
theorem d199_285 : decode b199 285 = .ok (.ireturn, 1) := by decide +kernel
abbrev b221 : ByteArray := prog_13_method_49_code
theorem d221_0 : decode b221 0 = .ok ((.iload 5), 2) := by decide +kernel
theorem d221_2 : decode b221 2 = .ok ((.iload 4), 2) := by decide +kernel
theorem d221_4 : decode b221 4 = .ok (.iadd, 1) := by decide +kernel
theorem d221_5 : decode b221 5 = .ok ((.iload_n 2), 1) := by decide +kernel
theorem d221_6 : decode b221 6 = .ok ((.if_icmp .gt 7), 3) := by decide +kernel
theorem d221_9 : decode b221 9 = .ok ((.iconst 1), 1) := by decide +kernel
theorem d221_10 : decode b221 10 = .ok ((.goto 4), 3) := by decide +kernel
theorem d221_13 : decode b221 13 = .ok ((.iconst 0), 1) := by decide +kernel
theorem d221_14 : decode b221 14 = .ok ((.istore 6), 2) := by decide +kernel
theorem d221_16 : decode b221 16 = .ok ((.iconst 0), 1) := by decide +kernel
theorem d221_17 : decode b221 17 = .ok ((.istore 7), 2) := by decide +kernel
theorem d221_19 : decode b221 19 = .ok ((.iload 7), 2) := by decide +kernel
theorem d221_21 : decode b221 21 = .ok ((.iload 4), 2) := by decide +kernel
theorem d221_23 : decode b221 23 = .ok ((.if_icmp .ge 35), 3) := by decide +kernel
theorem d221_26 : decode b221 26 = .ok ((.iload 6), 2) := by decide +kernel
theorem d221_28 : decode b221 28 = .ok ((.ifCond .eq 30), 3) := by decide +kernel
theorem d221_31 : decode b221 31 = .ok ((.aload_n 1), 1) := by decide +kernel
theorem d221_32 : decode b221 32 = .ok ((.iload 5), 2) := by decide +kernel
theorem d221_34 : decode b221 34 = .ok ((.iload 7), 2) := by decide +kernel
theorem d221_36 : decode b221 36 = .ok (.iadd, 1) := by decide +kernel
theorem d221_37 : decode b221 37 = .ok (.iaload, 1) := by decide +kernel
theorem d221_38 : decode b221 38 = .ok ((.aload_n 3), 1) := by decide +kernel
theorem d221_39 : decode b221 39 = .ok ((.iload 7), 2) := by decide +kernel
theorem d221_41 : decode b221 41 = .ok (.iaload, 1) := by decide +kernel
theorem d221_42 : decode b221 42 = .ok ((.if_icmp .ne 7), 3) := by decide +kernel
theorem d221_45 : decode b221 45 = .ok ((.iconst 1), 1) := by decide +kernel
theorem d221_46 : decode b221 46 = .ok ((.goto 4), 3) := by decide +kernel
theorem d221_49 : decode b221 49 = .ok ((.iconst 0), 1) := by decide +kernel
theorem d221_50 : decode b221 50 = .ok ((.istore 6), 2) := by decide +kernel
theorem d221_52 : decode b221 52 = .ok ((.iinc 7 1), 3) := by decide +kernel
theorem d221_55 : decode b221 55 = .ok ((.goto (-36)), 3) := by decide +kernel
theorem d221_58 : decode b221 58 = .ok ((.iload 6), 2) := by decide +kernel
theorem d221_60 : decode b221 60 = .ok (.ireturn, 1) := by decide +kernel
abbrev b173 : ByteArray := prog_13_method_52_code
theorem d173_0 : decode b173 0 = .ok ((.aload_n 0), 1) := by decide +kernel
theorem d173_1 : decode b173 1 = .ok ((.iconst 0), 1) := by decide +kernel
theorem d173_2 : decode b173 2 = .ok ((.invokevirtual 268), 3) := by decide +kernel
theorem d173_5 : decode b173 5 = .ok ((.aload_n 0), 1) := by decide +kernel
theorem d173_6 : decode b173 6 = .ok ((.invokevirtual 294), 3) := by decide +kernel
theorem d173_9 : decode b173 9 = .ok ((.aload_n 0), 1) := by decide +kernel
theorem d173_10 : decode b173 10 = .ok ((.iconst 1), 1) := by decide +kernel
theorem d173_11 : decode b173 11 = .ok ((.invokevirtual 268), 3) := by decide +kernel
theorem d173_14 : decode b173 14 = .ok ((.aload_n 0), 1) := by decide +kernel
theorem d173_15 : decode b173 15 = .ok ((.invokevirtual 271), 3) := by decide +kernel
theorem d173_18 : decode b173 18 = .ok ((.aload_n 0), 1) := by decide +kernel
theorem d173_19 : decode b173 19 = .ok ((.iconst 2), 1) := by decide +kernel
theorem d173_20 : decode b173 20 = .ok ((.iconst 1), 1) := by decide +kernel
theorem d173_21 : decode b173 21 = .ok ((.invokevirtual 274), 3) := by decide +kernel
theorem d173_24 : decode b173 24 = .ok ((.istore_n 2), 1) := by decide +kernel
theorem d173_25 : decode b173 25 = .ok ((.iload_n 2), 1) := by decide +kernel
theorem d173_26 : decode b173 26 = .ok ((.iconst 1), 1) := by decide +kernel
theorem d173_27 : decode b173 27 = .ok ((.if_icmp .lt 13), 3) := by decide +kernel
theorem d173_30 : decode b173 30 = .ok ((.iload_n 2), 1) := by decide +kernel
theorem d173_31 : decode b173 31 = .ok ((.aload_n 0), 1) := by decide +kernel
theorem d173_32 : decode b173 32 = .ok ((.getfield 243), 3) := by decide +kernel
theorem d173_35 : decode b173 35 = .ok ((.iconst 1), 1) := by decide +kernel
theorem d173_36 : decode b173 36 = .ok (.iadd, 1) := by decide +kernel
theorem d173_37 : decode b173 37 = .ok ((.if_icmp .le 8), 3) := by decide +kernel
theorem d173_40 : decode b173 40 = .ok ((.aload_n 0), 1) := by decide +kernel
theorem d173_41 : decode b173 41 = .ok ((.iconst 3), 1) := by decide +kernel
theorem d173_42 : decode b173 42 = .ok ((.invokevirtual 176), 3) := by decide +kernel
theorem d173_45 : decode b173 45 = .ok ((.aload_n 0), 1) := by decide +kernel
theorem d173_46 : decode b173 46 = .ok ((.getfield 143), 3) := by decide +kernel
theorem d173_49 : decode b173 49 = .ok ((.ifCond .eq 4), 3) := by decide +kernel
theorem d173_52 : decode b173 52 = .ok (.return_, 1) := by decide +kernel
theorem d173_53 : decode b173 53 = .ok ((.iload_n 2), 1) := by decide +kernel
theorem d173_54 : decode b173 54 = .ok ((.iconst 1), 1) := by decide +kernel
theorem d173_55 : decode b173 55 = .ok (.isub, 1) := by decide +kernel
theorem d173_56 : decode b173 56 = .ok ((.istore_n 3), 1) := by decide +kernel
theorem d173_57 : decode b173 57 = .ok ((.iload_n 3), 1) := by decide +kernel
theorem d173_58 : decode b173 58 = .ok ((.aload_n 0), 1) := by decide +kernel
theorem d173_59 : decode b173 59 = .ok ((.getfield 243), 3) := by decide +kernel
theorem d173_62 : decode b173 62 = .ok ((.if_icmp .gt 65), 3) := by decide +kernel
theorem d173_65 : decode b173 65 = .ok ((.iload_n 1), 1) := by decide +kernel
theorem d173_66 : decode b173 66 = .ok ((.ifCond .eq 31), 3) := by decide +kernel
theorem d173_69 : decode b173 69 = .ok ((.aload_n 0), 1) := by decide +kernel
theorem d173_70 : decode b173 70 = .ok ((.aload_n 0), 1) := by decide +kernel
theorem d173_71 : decode b173 71 = .ok ((.getfield 61), 3) := by decide +kernel
theorem d173_74 : decode b173 74 = .ok ((.aload_n 0), 1) := by decide +kernel
theorem d173_75 : decode b173 75 = .ok ((.getfield 246), 3) := by decide +kernel
theorem d173_78 : decode b173 78 = .ok ((.aload_n 0), 1) := by decide +kernel
theorem d173_79 : decode b173 79 = .ok ((.getfield 58), 3) := by decide +kernel
theorem d173_82 : decode b173 82 = .ok ((.aload_n 0), 1) := by decide +kernel
theorem d173_83 : decode b173 83 = .ok ((.getfield 243), 3) := by decide +kernel
theorem d173_86 : decode b173 86 = .ok ((.iload_n 3), 1) := by decide +kernel
theorem d173_87 : decode b173 87 = .ok ((.iconst 0), 1) := by decide +kernel
theorem d173_88 : decode b173 88 = .ok ((.invokevirtual 297), 3) := by decide +kernel
theorem d173_91 : decode b173 91 = .ok ((.ifCond .eq 30), 3) := by decide +kernel
theorem d173_94 : decode b173 94 = .ok ((.goto 33), 3) := by decide +kernel
theorem d173_97 : decode b173 97 = .ok ((.aload_n 0), 1) := by decide +kernel
theorem d173_98 : decode b173 98 = .ok ((.aload_n 0), 1) := by decide +kernel
theorem d173_99 : decode b173 99 = .ok ((.getfield 58), 3) := by decide +kernel
theorem d173_102 : decode b173 102 = .ok ((.aload_n 0), 1) := by decide +kernel
theorem d173_103 : decode b173 103 = .ok ((.getfield 243), 3) := by decide +kernel
theorem d173_106 : decode b173 106 = .ok ((.aload_n 0), 1) := by decide +kernel
theorem d173_107 : decode b173 107 = .ok ((.getfield 61), 3) := by decide +kernel
theorem d173_110 : decode b173 110 = .ok ((.aload_n 0), 1) := by decide +kernel
theorem d173_111 : decode b173 111 = .ok ((.getfield 246), 3) := by decide +kernel
theorem d173_114 : decode b173 114 = .ok ((.iload_n 3), 1) := by decide +kernel
theorem d173_115 : decode b173 115 = .ok ((.invokevirtual 301), 3) := by decide +kernel
theorem d173_118 : decode b173 118 = .ok ((.ifCond .ne 9), 3) := by decide +kernel
theorem d173_121 : decode b173 121 = .ok ((.iinc 3 1), 3) := by decide +kernel
theorem d173_124 : decode b173 124 = .ok ((.goto (-67)), 3) := by decide +kernel
theorem d173_127 : decode b173 127 = .ok ((.iload_n 3), 1) := by decide +kernel
theorem d173_128 : decode b173 128 = .ok ((.aload_n 0), 1) := by decide +kernel
theorem d173_129 : decode b173 129 = .ok ((.getfield 243), 3) := by decide +kernel
theorem d173_132 : decode b173 132 = .ok ((.if_icmp .le 8), 3) := by decide +kernel
theorem d173_135 : decode b173 135 = .ok ((.aload_n 0), 1) := by decide +kernel
theorem d173_136 : decode b173 136 = .ok ((.iconst 3), 1) := by decide +kernel
theorem d173_137 : decode b173 137 = .ok ((.invokevirtual 176), 3) := by decide +kernel
theorem d173_140 : decode b173 140 = .ok ((.aload_n 0), 1) := by decide +kernel
theorem d173_141 : decode b173 141 = .ok ((.iload_n 3), 1) := by decide +kernel
theorem d173_142 : decode b173 142 = .ok ((.iconst 1), 1) := by decide +kernel
theorem d173_143 : decode b173 143 = .ok (.iadd, 1) := by decide +kernel
theorem d173_144 : decode b173 144 = .ok (.i2d, 1) := by decide +kernel
theorem d173_145 : decode b173 145 = .ok ((.invokevirtual 305), 3) := by decide +kernel
theorem d173_148 : decode b173 148 = .ok (.return_, 1) := by decide +kernel
abbrev b212 : ByteArray := prog_13_method_53_code
theorem d212_0 : decode b212 0 = .ok ((.aload_n 0), 1) := by decide +kernel
theorem d212_1 : decode b212 1 = .ok ((.iconst 0), 1) := by decide +kernel
theorem d212_2 : decode b212 2 = .ok ((.invokevirtual 268), 3) := by decide +kernel
theorem d212_5 : decode b212 5 = .ok ((.aload_n 0), 1) := by decide +kernel
theorem d212_6 : decode b212 6 = .ok ((.invokevirtual 271), 3) := by decide +kernel
theorem d212_9 : decode b212 9 = .ok ((.aload_n 0), 1) := by decide +kernel
theorem d212_10 : decode b212 10 = .ok ((.iconst 1), 1) := by decide +kernel
theorem d212_11 : decode b212 11 = .ok ((.invokevirtual 206), 3) := by decide +kernel
theorem d212_14 : decode b212 14 = .ok ((.istore_n 1), 1) := by decide +kernel
theorem d212_15 : decode b212 15 = .ok ((.aload_n 0), 1) := by decide +kernel
theorem d212_16 : decode b212 16 = .ok ((.iconst 2), 1) := by decide +kernel
theorem d212_17 : decode b212 17 = .ok ((.invokevirtual 206), 3) := by decide +kernel
theorem d212_20 : decode b212 20 = .ok ((.istore_n 2), 1) := by decide +kernel
theorem d212_21 : decode b212 21 = .ok ((.aload_n 0), 1) := by decide +kernel
theorem d212_22 : decode b212 22 = .ok ((.iconst 3), 1) := by decide +kernel
theorem d212_23 : decode b212 23 = .ok ((.invokevirtual 268), 3) := by decide +kernel
theorem d212_26 : decode b212 26 = .ok ((.iload_n 1), 1) := by decide +kernel
theorem d212_27 : decode b212 27 = .ok ((.iconst 1), 1) := by decide +kernel
theorem d212_28 : decode b212 28 = .ok ((.if_icmp .lt 7), 3) := by decide +kernel
theorem d212_31 : decode b212 31 = .ok ((.iload_n 2), 1) := by decide +kernel
theorem d212_32 : decode b212 32 = .ok ((.ifCond .ge 8), 3) := by decide +kernel
theorem d212_35 : decode b212 35 = .ok ((.aload_n 0), 1) := by decide +kernel
theorem d212_36 : decode b212 36 = .ok ((.iconst 3), 1) := by decide +kernel
theorem d212_37 : decode b212 37 = .ok ((.invokevirtual 176), 3) := by decide +kernel
theorem d212_40 : decode b212 40 = .ok ((.aload_n 0), 1) := by decide +kernel
theorem d212_41 : decode b212 41 = .ok ((.getfield 143), 3) := by decide +kernel
theorem d212_44 : decode b212 44 = .ok ((.ifCond .eq 4), 3) := by decide +kernel
theorem d212_47 : decode b212 47 = .ok (.return_, 1) := by decide +kernel
theorem d212_48 : decode b212 48 = .ok ((.iload_n 1), 1) := by decide +kernel
theorem d212_49 : decode b212 49 = .ok ((.iconst 1), 1) := by decide +kernel
theorem d212_50 : decode b212 50 = .ok (.isub, 1) := by decide +kernel
theorem d212_51 : decode b212 51 = .ok ((.aload_n 0), 1) := by decide +kernel
theorem d212_52 : decode b212 52 = .ok ((.getfield 243), 3) := by decide +kernel
theorem d212_55 : decode b212 55 = .ok ((.invokestatic 277), 3) := by decide +kernel
theorem d212_58 : decode b212 58 = .ok ((.istore_n 3), 1) := by decide +kernel
theorem d212_59 : decode b212 59 = .ok ((.aload_n 0), 1) := by decide +kernel
theorem d212_60 : decode b212 60 = .ok ((.aload_n 0), 1) := by decide +kernel
theorem d212_61 : decode b212 61 = .ok ((.getfield 58), 3) := by decide +kernel
theorem d212_64 : decode b212 64 = .ok ((.iconst 0), 1) := by decide +kernel
theorem d212_65 : decode b212 65 = .ok ((.iload_n 3), 1) := by decide +kernel
theorem d212_66 : decode b212 66 = .ok ((.invokevirtual 280), 3) := by decide +kernel
theorem d212_69 : decode b212 69 = .ok ((.aload_n 0), 1) := by decide +kernel
theorem d212_70 : decode b212 70 = .ok ((.aload_n 0), 1) := by decide +kernel
theorem d212_71 : decode b212 71 = .ok ((.getfield 55), 3) := by decide +kernel
theorem d212_74 : decode b212 74 = .ok ((.iconst 0), 1) := by decide +kernel
theorem d212_75 : decode b212 75 = .ok ((.aload_n 0), 1) := by decide +kernel
theorem d212_76 : decode b212 76 = .ok ((.getfield 157), 3) := by decide +kernel
theorem d212_79 : decode b212 79 = .ok ((.invokevirtual 280), 3) := by decide +kernel
theorem d212_82 : decode b212 82 = .ok ((.aload_n 0), 1) := by decide +kernel
theorem d212_83 : decode b212 83 = .ok ((.aload_n 0), 1) := by decide +kernel
theorem d212_84 : decode b212 84 = .ok ((.getfield 58), 3) := by decide +kernel
theorem d212_87 : decode b212 87 = .ok ((.iload_n 3), 1) := by decide +kernel
theorem d212_88 : decode b212 88 = .ok ((.iload_n 2), 1) := by decide +kernel
theorem d212_89 : decode b212 89 = .ok ((.aload_n 0), 1) := by decide +kernel
theorem d212_90 : decode b212 90 = .ok ((.getfield 243), 3) := by decide +kernel
theorem d212_93 : decode b212 93 = .ok ((.iload_n 3), 1) := by decide +kernel
theorem d212_94 : decode b212 94 = .ok (.isub, 1) := by decide +kernel
theorem d212_95 : decode b212 95 = .ok ((.invokestatic 277), 3) := by decide +kernel
theorem d212_98 : decode b212 98 = .ok (.iadd, 1) := by decide +kernel
theorem d212_99 : decode b212 99 = .ok ((.aload_n 0), 1) := by decide +kernel
theorem d212_100 : decode b212 100 = .ok ((.getfield 243), 3) := by decide +kernel
theorem d212_103 : decode b212 103 = .ok ((.invokevirtual 280), 3) := by decide +kernel
theorem d212_106 : decode b212 106 = .ok ((.aload_n 0), 1) := by decide +kernel
theorem d212_107 : decode b212 107 = .ok ((.invokevirtual 284), 3) := by decide +kernel
theorem d212_110 : decode b212 110 = .ok (.return_, 1) := by decide +kernel
abbrev b222 : ByteArray := prog_13_method_54_code
theorem d222_0 : decode b222 0 = .ok ((.aload_n 0), 1) := by decide +kernel
theorem d222_1 : decode b222 1 = .ok ((.iconst 0), 1) := by decide +kernel
theorem d222_2 : decode b222 2 = .ok ((.invokevirtual 268), 3) := by decide +kernel
theorem d222_5 : decode b222 5 = .ok ((.aload_n 0), 1) := by decide +kernel
theorem d222_6 : decode b222 6 = .ok ((.invokevirtual 271), 3) := by decide +kernel
theorem d222_9 : decode b222 9 = .ok ((.aload_n 0), 1) := by decide +kernel
theorem d222_10 : decode b222 10 = .ok ((.iconst 1), 1) := by decide +kernel
theorem d222_11 : decode b222 11 = .ok ((.invokevirtual 268), 3) := by decide +kernel
theorem d222_14 : decode b222 14 = .ok ((.aload_n 0), 1) := by decide +kernel
theorem d222_15 : decode b222 15 = .ok ((.invokevirtual 294), 3) := by decide +kernel
theorem d222_18 : decode b222 18 = .ok ((.aload_n 0), 1) := by decide +kernel
theorem d222_19 : decode b222 19 = .ok ((.iconst 2), 1) := by decide +kernel
theorem d222_20 : decode b222 20 = .ok ((.invokevirtual 268), 3) := by decide +kernel
theorem d222_23 : decode b222 23 = .ok ((.iconst 0), 1) := by decide +kernel
theorem d222_24 : decode b222 24 = .ok ((.istore_n 1), 1) := by decide +kernel
theorem d222_25 : decode b222 25 = .ok ((.iload_n 1), 1) := by decide +kernel
theorem d222_26 : decode b222 26 = .ok ((.aload_n 0), 1) := by decide +kernel
theorem d222_27 : decode b222 27 = .ok ((.getfield 157), 3) := by decide +kernel
theorem d222_30 : decode b222 30 = .ok ((.if_icmp .ge 21), 3) := by decide +kernel
theorem d222_33 : decode b222 33 = .ok ((.aload_n 0), 1) := by decide +kernel
theorem d222_34 : decode b222 34 = .ok ((.getfield 67), 3) := by decide +kernel
theorem d222_37 : decode b222 37 = .ok ((.iload_n 1), 1) := by decide +kernel
theorem d222_38 : decode b222 38 = .ok ((.aload_n 0), 1) := by decide +kernel
theorem d222_39 : decode b222 39 = .ok ((.getfield 55), 3) := by decide +kernel
theorem d222_42 : decode b222 42 = .ok ((.iload_n 1), 1) := by decide +kernel
theorem d222_43 : decode b222 43 = .ok (.iaload, 1) := by decide +kernel
theorem d222_44 : decode b222 44 = .ok (.iastore, 1) := by decide +kernel
theorem d222_45 : decode b222 45 = .ok ((.iinc 1 1), 3) := by decide +kernel
theorem d222_48 : decode b222 48 = .ok ((.goto (-23)), 3) := by decide +kernel
theorem d222_51 : decode b222 51 = .ok ((.aload_n 0), 1) := by decide +kernel
theorem d222_52 : decode b222 52 = .ok ((.getfield 157), 3) := by decide +kernel
theorem d222_55 : decode b222 55 = .ok ((.istore_n 1), 1) := by decide +kernel
theorem d222_56 : decode b222 56 = .ok ((.aload_n 0), 1) := by decide +kernel
theorem d222_57 : decode b222 57 = .ok ((.iconst 3), 1) := by decide +kernel
theorem d222_58 : decode b222 58 = .ok ((.invokevirtual 203), 3) := by decide +kernel
theorem d222_61 : decode b222 61 = .ok ((.ifCond .eq 11), 3) := by decide +kernel
theorem d222_64 : decode b222 64 = .ok ((.aload_n 0), 1) := by decide +kernel
theorem d222_65 : decode b222 65 = .ok ((.iconst 3), 1) := by decide +kernel
theorem d222_66 : decode b222 66 = .ok ((.invokevirtual 206), 3) := by decide +kernel
theorem d222_69 : decode b222 69 = .ok ((.goto 4), 3) := by decide +kernel
theorem d222_72 : decode b222 72 = .ok ((.iconst 0), 1) := by decide +kernel
theorem d222_73 : decode b222 73 = .ok ((.istore_n 2), 1) := by decide +kernel
theorem d222_74 : decode b222 74 = .ok ((.aload_n 0), 1) := by decide +kernel
theorem d222_75 : decode b222 75 = .ok ((.iconst 3), 1) := by decide +kernel
theorem d222_76 : decode b222 76 = .ok ((.invokevirtual 203), 3) := by decide +kernel
theorem d222_79 : decode b222 79 = .ok ((.ifCond .eq 13), 3) := by decide +kernel
theorem d222_82 : decode b222 82 = .ok ((.iload_n 2), 1) := by decide +kernel
theorem d222_83 : decode b222 83 = .ok ((.iconst 1), 1) := by decide +kernel
theorem d222_84 : decode b222 84 = .ok ((.if_icmp .ge 8), 3) := by decide +kernel
theorem d222_87 : decode b222 87 = .ok ((.aload_n 0), 1) := by decide +kernel
theorem d222_88 : decode b222 88 = .ok ((.iconst 3), 1) := by decide +kernel
theorem d222_89 : decode b222 89 = .ok ((.invokevirtual 176), 3) := by decide +kernel
theorem d222_92 : decode b222 92 = .ok ((.aload_n 0), 1) := by decide +kernel
theorem d222_93 : decode b222 93 = .ok ((.getfield 143), 3) := by decide +kernel
theorem d222_96 : decode b222 96 = .ok ((.ifCond .eq 4), 3) := by decide +kernel
theorem d222_99 : decode b222 99 = .ok (.return_, 1) := by decide +kernel
theorem d222_100 : decode b222 100 = .ok ((.iconst 0), 1) := by decide +kernel
theorem d222_101 : decode b222 101 = .ok ((.istore_n 3), 1) := by decide +kernel
theorem d222_102 : decode b222 102 = .ok ((.iconst 0), 1) := by decide +kernel
theorem d222_103 : decode b222 103 = .ok ((.istore 4), 2) := by decide +kernel
theorem d222_105 : decode b222 105 = .ok ((.iload_n 3), 1) := by decide +kernel
theorem d222_106 : decode b222 106 = .ok ((.aload_n 0), 1) := by decide +kernel
theorem d222_107 : decode b222 107 = .ok ((.getfield 243), 3) := by decide +kernel
theorem d222_110 : decode b222 110 = .ok ((.if_icmp .ge 137), 3) := by decide +kernel
theorem d222_113 : decode b222 113 = .ok ((.aload_n 0), 1) := by decide +kernel
theorem d222_114 : decode b222 114 = .ok ((.getfield 246), 3) := by decide +kernel
theorem d222_117 : decode b222 117 = .ok ((.ifCond .le 31), 3) := by decide +kernel
theorem d222_120 : decode b222 120 = .ok ((.aload_n 0), 1) := by decide +kernel
theorem d222_121 : decode b222 121 = .ok ((.aload_n 0), 1) := by decide +kernel
theorem d222_122 : decode b222 122 = .ok ((.getfield 58), 3) := by decide +kernel
theorem d222_125 : decode b222 125 = .ok ((.aload_n 0), 1) := by decide +kernel
theorem d222_126 : decode b222 126 = .ok ((.getfield 243), 3) := by decide +kernel
theorem d222_129 : decode b222 129 = .ok ((.aload_n 0), 1) := by decide +kernel
theorem d222_130 : decode b222 130 = .ok ((.getfield 61), 3) := by decide +kernel
theorem d222_133 : decode b222 133 = .ok ((.aload_n 0), 1) := by decide +kernel
theorem d222_134 : decode b222 134 = .ok ((.getfield 246), 3) := by decide +kernel
theorem d222_137 : decode b222 137 = .ok ((.iload_n 3), 1) := by decide +kernel
theorem d222_138 : decode b222 138 = .ok ((.invokevirtual 301), 3) := by decide +kernel
theorem d222_141 : decode b222 141 = .ok ((.ifCond .eq 7), 3) := by decide +kernel
theorem d222_144 : decode b222 144 = .ok ((.iconst 1), 1) := by decide +kernel
theorem d222_145 : decode b222 145 = .ok ((.goto 4), 3) := by decide +kernel
theorem d222_148 : decode b222 148 = .ok ((.iconst 0), 1) := by decide +kernel
theorem d222_149 : decode b222 149 = .ok ((.istore 5), 2) := by decide +kernel
theorem d222_151 : decode b222 151 = .ok ((.iload 4), 2) := by decide +kernel
theorem d222_153 : decode b222 153 = .ok ((.iload 5), 2) := by decide +kernel
theorem d222_155 : decode b222 155 = .ok ((.ifCond .eq 7), 3) := by decide +kernel
theorem d222_158 : decode b222 158 = .ok ((.iconst 1), 1) := by decide +kernel
theorem d222_159 : decode b222 159 = .ok ((.goto 4), 3) := by decide +kernel
theorem d222_162 : decode b222 162 = .ok ((.iconst 0), 1) := by decide +kernel
theorem d222_163 : decode b222 163 = .ok (.iadd, 1) := by decide +kernel
theorem d222_164 : decode b222 164 = .ok ((.istore 4), 2) := by decide +kernel
theorem d222_166 : decode b222 166 = .ok ((.iload 5), 2) := by decide +kernel
theorem d222_168 : decode b222 168 = .ok ((.ifCond .eq 33), 3) := by decide +kernel
theorem d222_171 : decode b222 171 = .ok ((.iload_n 2), 1) := by decide +kernel
theorem d222_172 : decode b222 172 = .ok ((.ifCond .eq 9), 3) := by decide +kernel
theorem d222_175 : decode b222 175 = .ok ((.iload_n 2), 1) := by decide +kernel
theorem d222_176 : decode b222 176 = .ok ((.iload 4), 2) := by decide +kernel
theorem d222_178 : decode b222 178 = .ok ((.if_icmp .ne 23), 3) := by decide +kernel
theorem d222_181 : decode b222 181 = .ok ((.aload_n 0), 1) := by decide +kernel
theorem d222_182 : decode b222 182 = .ok ((.aload_n 0), 1) := by decide +kernel
theorem d222_183 : decode b222 183 = .ok ((.getfield 67), 3) := by decide +kernel
theorem d222_186 : decode b222 186 = .ok ((.iconst 0), 1) := by decide +kernel
theorem d222_187 : decode b222 187 = .ok ((.iload_n 1), 1) := by decide +kernel
theorem d222_188 : decode b222 188 = .ok ((.invokevirtual 280), 3) := by decide +kernel
theorem d222_191 : decode b222 191 = .ok ((.iload_n 3), 1) := by decide +kernel
theorem d222_192 : decode b222 192 = .ok ((.aload_n 0), 1) := by decide +kernel
theorem d222_193 : decode b222 193 = .ok ((.getfield 246), 3) := by decide +kernel
theorem d222_196 : decode b222 196 = .ok (.iadd, 1) := by decide +kernel
theorem d222_197 : decode b222 197 = .ok ((.istore_n 3), 1) := by decide +kernel
theorem d222_198 : decode b222 198 = .ok ((.goto 46), 3) := by decide +kernel
theorem d222_201 : decode b222 201 = .ok ((.iload 5), 2) := by decide +kernel
theorem d222_203 : decode b222 203 = .ok ((.ifCond .eq 28), 3) := by decide +kernel
theorem d222_206 : decode b222 206 = .ok ((.aload_n 0), 1) := by decide +kernel
theorem d222_207 : decode b222 207 = .ok ((.aload_n 0), 1) := by decide +kernel
theorem d222_208 : decode b222 208 = .ok ((.getfield 58), 3) := by decide +kernel
theorem d222_211 : decode b222 211 = .ok ((.iload_n 3), 1) := by decide +kernel
theorem d222_212 : decode b222 212 = .ok ((.iload_n 3), 1) := by decide +kernel
theorem d222_213 : decode b222 213 = .ok ((.aload_n 0), 1) := by decide +kernel
theorem d222_214 : decode b222 214 = .ok ((.getfield 246), 3) := by decide +kernel
theorem d222_217 : decode b222 217 = .ok (.iadd, 1) := by decide +kernel
theorem d222_218 : decode b222 218 = .ok ((.invokevirtual 280), 3) := by decide +kernel
theorem d222_221 : decode b222 221 = .ok ((.iload_n 3), 1) := by decide +kernel
theorem d222_222 : decode b222 222 = .ok ((.aload_n 0), 1) := by decide +kernel
theorem d222_223 : decode b222 223 = .ok ((.getfield 246), 3) := by decide +kernel
theorem d222_226 : decode b222 226 = .ok (.iadd, 1) := by decide +kernel
theorem d222_227 : decode b222 227 = .ok ((.istore_n 3), 1) := by decide +kernel
theorem d222_228 : decode b222 228 = .ok ((.goto 16), 3) := by decide +kernel
theorem d222_231 : decode b222 231 = .ok ((.aload_n 0), 1) := by decide +kernel
theorem d222_232 : decode b222 232 = .ok ((.aload_n 0), 1) := by decide +kernel
theorem d222_233 : decode b222 233 = .ok ((.getfield 58), 3) := by decide +kernel
theorem d222_236 : decode b222 236 = .ok ((.iload_n 3), 1) := by decide +kernel
theorem d222_237 : decode b222 237 = .ok (.iaload, 1) := by decide +kernel
theorem d222_238 : decode b222 238 = .ok ((.invokevirtual 256), 3) := by decide +kernel
theorem d222_241 : decode b222 241 = .ok ((.iinc 3 1), 3) := by decide +kernel
theorem d222_244 : decode b222 244 = .ok ((.goto (-139)), 3) := by decide +kernel
theorem d222_247 : decode b222 247 = .ok ((.aload_n 0), 1) := by decide +kernel
theorem d222_248 : decode b222 248 = .ok ((.invokevirtual 284), 3) := by decide +kernel
theorem d222_251 : decode b222 251 = .ok (.return_, 1) := by decide +kernel
abbrev b211 : ByteArray := prog_13_method_55_code
theorem d211_0 : decode b211 0 = .ok ((.aload_n 0), 1) := by decide +kernel
theorem d211_1 : decode b211 1 = .ok ((.iconst 0), 1) := by decide +kernel
theorem d211_2 : decode b211 2 = .ok ((.invokevirtual 268), 3) := by decide +kernel
theorem d211_5 : decode b211 5 = .ok ((.aload_n 0), 1) := by decide +kernel
theorem d211_6 : decode b211 6 = .ok ((.invokevirtual 271), 3) := by decide +kernel
theorem d211_9 : decode b211 9 = .ok ((.aload_n 0), 1) := by decide +kernel
theorem d211_10 : decode b211 10 = .ok ((.iconst 1), 1) := by decide +kernel
theorem d211_11 : decode b211 11 = .ok ((.invokevirtual 206), 3) := by decide +kernel
theorem d211_14 : decode b211 14 = .ok ((.istore_n 1), 1) := by decide +kernel
theorem d211_15 : decode b211 15 = .ok ((.iload_n 1), 1) := by decide +kernel
theorem d211_16 : decode b211 16 = .ok ((.ifCond .ge 8), 3) := by decide +kernel
theorem d211_19 : decode b211 19 = .ok ((.aload_n 0), 1) := by decide +kernel
theorem d211_20 : decode b211 20 = .ok ((.iconst 3), 1) := by decide +kernel
theorem d211_21 : decode b211 21 = .ok ((.invokevirtual 176), 3) := by decide +kernel
theorem d211_24 : decode b211 24 = .ok ((.aload_n 0), 1) := by decide +kernel
theorem d211_25 : decode b211 25 = .ok ((.getfield 143), 3) := by decide +kernel
theorem d211_28 : decode b211 28 = .ok ((.ifCond .eq 4), 3) := by decide +kernel
theorem d211_31 : decode b211 31 = .ok (.return_, 1) := by decide +kernel
theorem d211_32 : decode b211 32 = .ok ((.iconst 0), 1) := by decide +kernel
theorem d211_33 : decode b211 33 = .ok ((.istore_n 2), 1) := by decide +kernel
theorem d211_34 : decode b211 34 = .ok ((.iload_n 2), 1) := by decide +kernel
theorem d211_35 : decode b211 35 = .ok ((.iload_n 1), 1) := by decide +kernel
theorem d211_36 : decode b211 36 = .ok ((.if_icmp .ge 36), 3) := by decide +kernel
theorem d211_39 : decode b211 39 = .ok ((.aload_n 0), 1) := by decide +kernel
theorem d211_40 : decode b211 40 = .ok ((.getfield 249), 3) := by decide +kernel
theorem d211_43 : decode b211 43 = .ok ((.ifCond .ne 29), 3) := by decide +kernel
theorem d211_46 : decode b211 46 = .ok ((.aload_n 0), 1) := by decide +kernel
theorem d211_47 : decode b211 47 = .ok ((.getfield 243), 3) := by decide +kernel
theorem d211_50 : decode b211 50 = .ok ((.ifCond .le 22), 3) := by decide +kernel
theorem d211_53 : decode b211 53 = .ok ((.aload_n 0), 1) := by decide +kernel
theorem d211_54 : decode b211 54 = .ok ((.aload_n 0), 1) := by decide +kernel
theorem d211_55 : decode b211 55 = .ok ((.getfield 58), 3) := by decide +kernel
theorem d211_58 : decode b211 58 = .ok ((.iconst 0), 1) := by decide +kernel
theorem d211_59 : decode b211 59 = .ok ((.aload_n 0), 1) := by decide +kernel
theorem d211_60 : decode b211 60 = .ok ((.getfield 243), 3) := by decide +kernel
theorem d211_63 : decode b211 63 = .ok ((.invokevirtual 280), 3) := by decide +kernel
theorem d211_66 : decode b211 66 = .ok ((.iinc 2 1), 3) := by decide +kernel
theorem d211_69 : decode b211 69 = .ok ((.goto (-35)), 3) := by decide +kernel
theorem d211_72 : decode b211 72 = .ok ((.aload_n 0), 1) := by decide +kernel
theorem d211_73 : decode b211 73 = .ok ((.invokevirtual 284), 3) := by decide +kernel
theorem d211_76 : decode b211 76 = .ok (.return_, 1) := by decide +kernel
abbrev b219 : ByteArray := prog_13_method_33_code
theorem d219_0 : decode b219 0 = .ok ((.iload_n 0), 1) := by decide +kernel
theorem d219_1 : decode b219 1 = .ok ((.bipush 65), 2) := by decide +kernel
theorem d219_3 : decode b219 3 = .ok ((.if_icmp .lt 16), 3) := by decide +kernel
theorem d219_6 : decode b219 6 = .ok ((.iload_n 0), 1) := by decide +kernel
theorem d219_7 : decode b219 7 = .ok ((.bipush 90), 2) := by decide +kernel
theorem d219_9 : decode b219 9 = .ok ((.if_icmp .gt 10), 3) := by decide +kernel
theorem d219_12 : decode b219 12 = .ok ((.iload_n 0), 1) := by decide +kernel
theorem d219_13 : decode b219 13 = .ok ((.bipush 32), 2) := by decide +kernel
theorem d219_15 : decode b219 15 = .ok (.iadd, 1) := by decide +kernel
theorem d219_16 : decode b219 16 = .ok ((.goto 4), 3) := by decide +kernel
theorem d219_19 : decode b219 19 = .ok ((.iload_n 0), 1) := by decide +kernel
theorem d219_20 : decode b219 20 = .ok (.ireturn, 1) := by decide +kernel
abbrev b218 : ByteArray := prog_13_method_56_code
theorem d218_0 : decode b218 0 = .ok ((.aload_n 0), 1) := by decide +kernel
theorem d218_1 : decode b218 1 = .ok ((.iconst 0), 1) := by decide +kernel
theorem d218_2 : decode b218 2 = .ok ((.invokevirtual 268), 3) := by decide +kernel
theorem d218_5 : decode b218 5 = .ok ((.aload_n 0), 1) := by decide +kernel
theorem d218_6 : decode b218 6 = .ok ((.getfield 143), 3) := by decide +kernel
theorem d218_9 : decode b218 9 = .ok ((.ifCond .eq 4), 3) := by decide +kernel
theorem d218_12 : decode b218 12 = .ok (.return_, 1) := by decide +kernel
theorem d218_13 : decode b218 13 = .ok ((.iconst 0), 1) := by decide +kernel
theorem d218_14 : decode b218 14 = .ok ((.istore_n 2), 1) := by decide +kernel
theorem d218_15 : decode b218 15 = .ok ((.iconst 0), 1) := by decide +kernel
theorem d218_16 : decode b218 16 = .ok ((.istore_n 3), 1) := by decide +kernel
theorem d218_17 : decode b218 17 = .ok ((.iload_n 3), 1) := by decide +kernel
theorem d218_18 : decode b218 18 = .ok ((.aload_n 0), 1) := by decide +kernel
theorem d218_19 : decode b218 19 = .ok ((.getfield 157), 3) := by decide +kernel
theorem d218_22 : decode b218 22 = .ok ((.if_icmp .ge 88), 3) := by decide +kernel
theorem d218_25 : decode b218 25 = .ok ((.aload_n 0), 1) := by decide +kernel
theorem d218_26 : decode b218 26 = .ok ((.getfield 55), 3) := by decide +kernel
theorem d218_29 : decode b218 29 = .ok ((.iload_n 3), 1) := by decide +kernel
theorem d218_30 : decode b218 30 = .ok (.iaload, 1) := by decide +kernel
theorem d218_31 : decode b218 31 = .ok ((.invokestatic 291), 3) := by decide +kernel
theorem d218_34 : decode b218 34 = .ok ((.bipush 65), 2) := by decide +kernel
theorem d218_36 : decode b218 36 = .ok ((.if_icmp .lt 21), 3) := by decide +kernel
theorem d218_39 : decode b218 39 = .ok ((.aload_n 0), 1) := by decide +kernel
theorem d218_40 : decode b218 40 = .ok ((.getfield 55), 3) := by decide +kernel
theorem d218_43 : decode b218 43 = .ok ((.iload_n 3), 1) := by decide +kernel
theorem d218_44 : decode b218 44 = .ok (.iaload, 1) := by decide +kernel
theorem d218_45 : decode b218 45 = .ok ((.invokestatic 291), 3) := by decide +kernel
theorem d218_48 : decode b218 48 = .ok ((.bipush 90), 2) := by decide +kernel
theorem d218_50 : decode b218 50 = .ok ((.if_icmp .gt 7), 3) := by decide +kernel
theorem d218_53 : decode b218 53 = .ok ((.iconst 1), 1) := by decide +kernel
theorem d218_54 : decode b218 54 = .ok ((.goto 4), 3) := by decide +kernel
theorem d218_57 : decode b218 57 = .ok ((.iconst 0), 1) := by decide +kernel
theorem d218_58 : decode b218 58 = .ok ((.istore 4), 2) := by decide +kernel
theorem d218_60 : decode b218 60 = .ok ((.aload_n 0), 1) := by decide +kernel
theorem d218_61 : decode b218 61 = .ok ((.iload_n 1), 1) := by decide +kernel
theorem d218_62 : decode b218 62 = .ok ((.bipush 75), 2) := by decide +kernel
theorem d218_64 : decode b218 64 = .ok ((.if_icmp .eq 13), 3) := by decide +kernel
theorem d218_67 : decode b218 67 = .ok ((.iload_n 1), 1) := by decide +kernel
theorem d218_68 : decode b218 68 = .ok ((.bipush 77), 2) := by decide +kernel
theorem d218_70 : decode b218 70 = .ok ((.if_icmp .ne 19), 3) := by decide +kernel
theorem d218_73 : decode b218 73 = .ok ((.iload_n 2), 1) := by decide +kernel
theorem d218_74 : decode b218 74 = .ok ((.ifCond .ne 15), 3) := by decide +kernel
theorem d218_77 : decode b218 77 = .ok ((.aload_n 0), 1) := by decide +kernel
theorem d218_78 : decode b218 78 = .ok ((.getfield 55), 3) := by decide +kernel
theorem d218_81 : decode b218 81 = .ok ((.iload_n 3), 1) := by decide +kernel
theorem d218_82 : decode b218 82 = .ok (.iaload, 1) := by decide +kernel
theorem d218_83 : decode b218 83 = .ok ((.invokestatic 291), 3) := by decide +kernel
theorem d218_86 : decode b218 86 = .ok ((.goto 12), 3) := by decide +kernel
theorem d218_89 : decode b218 89 = .ok ((.aload_n 0), 1) := by decide +kernel
theorem d218_90 : decode b218 90 = .ok ((.getfield 55), 3) := by decide +kernel
theorem d218_93 : decode b218 93 = .ok ((.iload_n 3), 1) := by decide +kernel
theorem d218_94 : decode b218 94 = .ok (.iaload, 1) := by decide +kernel
theorem d218_95 : decode b218 95 = .ok ((.invokestatic 309), 3) := by decide +kernel
theorem d218_98 : decode b218 98 = .ok ((.invokevirtual 256), 3) := by decide +kernel
theorem d218_101 : decode b218 101 = .ok ((.iload 4), 2) := by decide +kernel
theorem d218_103 : decode b218 103 = .ok ((.istore_n 2), 1) := by decide +kernel
theorem d218_104 : decode b218 104 = .ok ((.iinc 3 1), 3) := by decide +kernel
theorem d218_107 : decode b218 107 = .ok ((.goto (-90)), 3) := by decide +kernel
theorem d218_110 : decode b218 110 = .ok ((.aload_n 0), 1) := by decide +kernel
theorem d218_111 : decode b218 111 = .ok ((.invokevirtual 284), 3) := by decide +kernel
theorem d218_114 : decode b218 114 = .ok (.return_, 1) := by decide +kernel
abbrev b233 : ByteArray := prog_13_method_57_code
theorem d233_0 : decode b233 0 = .ok ((.aload_n 0), 1) := by decide +kernel
theorem d233_1 : decode b233 1 = .ok ((.iconst 0), 1) := by decide +kernel
theorem d233_2 : decode b233 2 = .ok ((.invokevirtual 268), 3) := by decide +kernel
theorem d233_5 : decode b233 5 = .ok ((.aload_n 0), 1) := by decide +kernel
theorem d233_6 : decode b233 6 = .ok ((.getfield 143), 3) := by decide +kernel
theorem d233_9 : decode b233 9 = .ok ((.ifCond .eq 4), 3) := by decide +kernel
theorem d233_12 : decode b233 12 = .ok (.return_, 1) := by decide +kernel
theorem d233_13 : decode b233 13 = .ok ((.iconst 0), 1) := by decide +kernel
theorem d233_14 : decode b233 14 = .ok ((.istore_n 1), 1) := by decide +kernel
theorem d233_15 : decode b233 15 = .ok ((.iconst 0), 1) := by decide +kernel
theorem d233_16 : decode b233 16 = .ok ((.istore_n 2), 1) := by decide +kernel
theorem d233_17 : decode b233 17 = .ok ((.iload_n 2), 1) := by decide +kernel
theorem d233_18 : decode b233 18 = .ok ((.aload_n 0), 1) := by decide +kernel
theorem d233_19 : decode b233 19 = .ok ((.getfield 157), 3) := by decide +kernel
theorem d233_22 : decode b233 22 = .ok ((.if_icmp .ge 55), 3) := by decide +kernel
theorem d233_25 : decode b233 25 = .ok ((.aload_n 0), 1) := by decide +kernel
theorem d233_26 : decode b233 26 = .ok ((.getfield 55), 3) := by decide +kernel
theorem d233_29 : decode b233 29 = .ok ((.iload_n 2), 1) := by decide +kernel
theorem d233_30 : decode b233 30 = .ok (.iaload, 1) := by decide +kernel
theorem d233_31 : decode b233 31 = .ok ((.bipush 32), 2) := by decide +kernel
theorem d233_33 : decode b233 33 = .ok ((.if_icmp .ne 9), 3) := by decide +kernel
theorem d233_36 : decode b233 36 = .ok ((.iinc 1 1), 3) := by decide +kernel
theorem d233_39 : decode b233 39 = .ok ((.goto 32), 3) := by decide +kernel
theorem d233_42 : decode b233 42 = .ok ((.iload_n 1), 1) := by decide +kernel
theorem d233_43 : decode b233 43 = .ok ((.ifCond .le 16), 3) := by decide +kernel
theorem d233_46 : decode b233 46 = .ok ((.aload_n 0), 1) := by decide +kernel
theorem d233_47 : decode b233 47 = .ok ((.getfield 253), 3) := by decide +kernel
theorem d233_50 : decode b233 50 = .ok ((.ifCond .le 9), 3) := by decide +kernel
theorem d233_53 : decode b233 53 = .ok ((.aload_n 0), 1) := by decide +kernel
theorem d233_54 : decode b233 54 = .ok ((.bipush 32), 2) := by decide +kernel
theorem d233_56 : decode b233 56 = .ok ((.invokevirtual 256), 3) := by decide +kernel
theorem d233_59 : decode b233 59 = .ok ((.iconst 0), 1) := by decide +kernel
theorem d233_60 : decode b233 60 = .ok ((.istore_n 1), 1) := by decide +kernel
theorem d233_61 : decode b233 61 = .ok ((.aload_n 0), 1) := by decide +kernel
theorem d233_62 : decode b233 62 = .ok ((.aload_n 0), 1) := by decide +kernel
theorem d233_63 : decode b233 63 = .ok ((.getfield 55), 3) := by decide +kernel
theorem d233_66 : decode b233 66 = .ok ((.iload_n 2), 1) := by decide +kernel
theorem d233_67 : decode b233 67 = .ok (.iaload, 1) := by decide +kernel
theorem d233_68 : decode b233 68 = .ok ((.invokevirtual 256), 3) := by decide +kernel
theorem d233_71 : decode b233 71 = .ok ((.iinc 2 1), 3) := by decide +kernel
theorem d233_74 : decode b233 74 = .ok ((.goto (-57)), 3) := by decide +kernel
theorem d233_77 : decode b233 77 = .ok ((.aload_n 0), 1) := by decide +kernel
theorem d233_78 : decode b233 78 = .ok ((.invokevirtual 284), 3) := by decide +kernel
theorem d233_81 : decode b233 81 = .ok (.return_, 1) := by decide +kernel
abbrev b155 : ByteArray := prog_13_method_58_code
theorem d155_0 : decode b155 0 = .ok ((.iconst 0), 1) := by decide +kernel
theorem d155_1 : decode b155 1 = .ok ((.istore_n 1), 1) := by decide +kernel
theorem d155_2 : decode b155 2 = .ok ((.iload_n 1), 1) := by decide +kernel
theorem d155_3 : decode b155 3 = .ok ((.aload_n 0), 1) := by decide +kernel
theorem d155_4 : decode b155 4 = .ok ((.getfield 123), 3) := by decide +kernel
theorem d155_7 : decode b155 7 = .ok ((.if_icmp .ge 27), 3) := by decide +kernel
theorem d155_10 : decode b155 10 = .ok ((.aload_n 0), 1) := by decide +kernel
theorem d155_11 : decode b155 11 = .ok ((.iload_n 1), 1) := by decide +kernel
theorem d155_12 : decode b155 12 = .ok ((.invokevirtual 268), 3) := by decide +kernel
theorem d155_15 : decode b155 15 = .ok ((.aload_n 0), 1) := by decide +kernel
theorem d155_16 : decode b155 16 = .ok ((.aload_n 0), 1) := by decide +kernel
theorem d155_17 : decode b155 17 = .ok ((.getfield 55), 3) := by decide +kernel
theorem d155_20 : decode b155 20 = .ok ((.iconst 0), 1) := by decide +kernel
theorem d155_21 : decode b155 21 = .ok ((.aload_n 0), 1) := by decide +kernel
theorem d155_22 : decode b155 22 = .ok ((.getfield 157), 3) := by decide +kernel
theorem d155_25 : decode b155 25 = .ok ((.invokevirtual 280), 3) := by decide +kernel
theorem d155_28 : decode b155 28 = .ok ((.iinc 1 1), 3) := by decide +kernel
theorem d155_31 : decode b155 31 = .ok ((.goto (-29)), 3) := by decide +kernel
theorem d155_34 : decode b155 34 = .ok ((.aload_n 0), 1) := by decide +kernel
theorem d155_35 : decode b155 35 = .ok ((.invokevirtual 284), 3) := by decide +kernel
theorem d155_38 : decode b155 38 = .ok (.return_, 1) := by decide +kernel
abbrev b215 : ByteArray := prog_13_method_17_code
theorem d215_0 : decode b215 0 = .ok ((.aload_n 0), 1) := by decide +kernel
theorem d215_1 : decode b215 1 = .ok ((.iload_n 1), 1) := by decide +kernel
theorem d215_2 : decode b215 2 = .ok ((.invokevirtual 146), 3) := by decide +kernel
theorem d215_5 : decode b215 5 = .ok ((.ifCond .eq 7), 3) := by decide +kernel
theorem d215_8 : decode b215 8 = .ok ((.iconst 1), 1) := by decide +kernel
theorem d215_9 : decode b215 9 = .ok ((.goto 9), 3) := by decide +kernel
theorem d215_12 : decode b215 12 = .ok ((.aload_n 0), 1) := by decide +kernel
theorem d215_13 : decode b215 13 = .ok ((.getfield 20), 3) := by decide +kernel
theorem d215_16 : decode b215 16 = .ok ((.iload_n 1), 1) := by decide +kernel
theorem d215_17 : decode b215 17 = .ok (.iaload, 1) := by decide +kernel
theorem d215_18 : decode b215 18 = .ok (.ireturn, 1) := by decide +kernel
abbrev b154 : ByteArray := prog_13_method_18_code
theorem d154_0 : decode b154 0 = .ok ((.aload_n 0), 1) := by decide +kernel
theorem d154_1 : decode b154 1 = .ok ((.iload_n 1), 1) := by decide +kernel
theorem d154_2 : decode b154 2 = .ok ((.invokevirtual 146), 3) := by decide +kernel
theorem d154_5 : decode b154 5 = .ok ((.ifCond .eq 7), 3) := by decide +kernel
theorem d154_8 : decode b154 8 = .ok ((.iconst 1), 1) := by decide +kernel
theorem d154_9 : decode b154 9 = .ok ((.goto 9), 3) := by decide +kernel
theorem d154_12 : decode b154 12 = .ok ((.aload_n 0), 1) := by decide +kernel
theorem d154_13 : decode b154 13 = .ok ((.getfield 23), 3) := by decide +kernel
theorem d154_16 : decode b154 16 = .ok ((.iload_n 1), 1) := by decide +kernel
theorem d154_17 : decode b154 17 = .ok (.iaload, 1) := by decide +kernel
theorem d154_18 : decode b154 18 = .ok (.ireturn, 1) := by decide +kernel
def mo_address_204  (st : GS)  : Option (GS) := jc (f_mo_answerText st) (fun q1 => some q1)
def mo_address_178  (st : GS) (x1 : Int32) : Option (GS) := jc (f_mo_makeNumber st x1) (fun q2 => mo_address_204  q2)
def mo_address_162  (st : GS) (x1 : Int32) (x2 : Int32) (x6 : Int32) : Option (GS) := jc (f_mo_columnLetters st x2) (fun q3 => jb (x6 = 0) (mo_address_178  q3 x1) (jc (f_mo_make q3 36) (fun q4 => mo_address_178  q4 x1)))
def mo_address_144  (st : GS) (x1 : Int32) (x2 : Int32) (x4 : Int32) (x6 : Int32) (z0 : Int32) : Option (GS) := jb (x4 = 0) (jc (f_mo_bracketed st 82 x1 x6) (fun q5 => jc (f_mo_bracketed q5 67 x2 z0) (fun q6 => mo_address_204  q6))) (jb (z0 = 0) (mo_address_162  st x1 x2 x6) (jc (f_mo_make st 36) (fun q7 => mo_address_162  q7 x1 x2 x6)))
def mo_address_130  (st : GS) (x1 : Int32) (x2 : Int32) (x3 : Int32) (x4 : Int32) (z0 : Int32) : Option (GS) := jb ((x3 - x3 / 2 * 2) = 1) (mo_address_144  st x1 x2 x4 z0 1) (mo_address_144  st x1 x2 x4 z0 0)
def mo_address_120  (st : GS) (x1 : Int32) (x2 : Int32) (x3 : Int32) (x4 : Int32) : Option (GS) := jb (3 ≤ x3) (mo_address_130  st x1 x2 x3 x4 0) (mo_address_130  st x1 x2 x3 x4 1)
def mo_address_88  (st : GS) (x1 : Int32) (x2 : Int32) (x3 : Int32) (x4 : Int32) (x5 : Int32) : Option (GS) := jb ((st.1 0 22) = 0) (jc (f_mo_makeOf st 13 0 (st.1 0 27)) (fun q8 => jb (x5 = 0) (mo_address_120  q8 x1 x2 x3 x4) (jc (f_mo_make q8 33) (fun q9 => mo_address_120  q9 x1 x2 x3 x4)))) (some st)
def mo_address_83  (st : GS) (x1 : Int32) (x2 : Int32) (x3 : Int32) (x4 : Int32) (x5 : Int32) : Option (GS) := jc (f_mo_fail st 3) (fun q10 => mo_address_88  q10 x1 x2 x3 x4 x5)
def mo_address_65  (st : GS) (x1 : Int32) (x2 : Int32) (x3 : Int32) (x4 : Int32) (x5 : Int32) : Option (GS) := jc (f_mo_isCell x1 x2) (fun q11 => jb (q11 = 0) (mo_address_83  st x1 x2 x3 x4 x5) (jb (x3 < 1) (mo_address_83  st x1 x2 x3 x4 x5) (jb (x3 ≤ 4) (mo_address_88  st x1 x2 x3 x4 x5) (mo_address_83  st x1 x2 x3 x4 x5))))
def mo_address_48  (st : GS) (x1 : Int32) (x2 : Int32) (x3 : Int32) (x4 : Int32) (z0 : Int32) : Option (GS) := jn (uI st 0 27 0) (fun st12 => jb (z0 = 0) (mo_address_65  st12 x1 x2 x3 x4 z0) (jc (f_mo_textOf st12 4) (fun q13 => mo_address_65  q13 x1 x2 x3 x4 z0)))
def mo_address_47  (st : GS) (x1 : Int32) (x2 : Int32) (x3 : Int32) (x4 : Int32) : Option (GS) := mo_address_48  st x1 x2 x3 x4 0
def f_mo_address (st : GS) : Option (GS) := jc (f_mo_whole1 st 0) (fun q14 => jc (f_mo_whole1 q14.2 1) (fun q15 => jc (f_mo_whole2 q15.2 2 1) (fun q16 => jc (f_mo_truth2 q16.2 3 1) (fun q17 => jc (f_mo_isGiven q17.2 4) (fun q18 => jb (q18 = 0) (mo_address_47  q17.2 q14.1 q15.1 q16.1 q17.1) (jc (f_mo_isOut q17.2 4) (fun q19 => jb (q19 = 0) (mo_address_48  q17.2 q14.1 q15.1 q16.1 q17.1 1) (mo_address_47  q17.2 q14.1 q15.1 q16.1 q17.1))))))))
set_option maxHeartbeats 4000000 in
set_option maxRecDepth 100000 in
theorem c_mo_address (l : Launch) (ρ : RH) (ad : Nat → Nat) (H : Heap) (st : GS) (res : GS) (hW : GW ρ wM ad st H) (h : f_mo_address st = some res) : Met l y140 (wsOf y140 b140 8 none) ({ frames := 6, cells := 0, slots := 0, locals := 132 } : Room) (va_Pc [.ref (ad 0)] (KP ρ H)) (mQ (fun v H1 => v = none ∧ GW ρ wM ad res H1) (MA wM ad H.size)) 0 0 (MA wM ad H.size) := by
  refine m_ofW (own := "WordFunctionsModel") (plainFor_of_name rfl) rfl (Nat.le_of_ble_eq_true rfl) fun p e s m args below meth c ls hx hb hr hlk _ X hs hl => ?_
  subst hs
  have hS : va_S (MA wM ad s.heap.size) s.heap s.heap [] := va_S.rf
  have hl : lv_has ls 8 [(0, .ref (ad 0))] := hl
  have kc204 : ∀ (st : GS)  (H : Heap) (locs : List Loc) (ls : Array Slot), GW ρ wM ad st H → va_S (MA wM ad s.heap.size) s.heap H locs → lv_has ls 8 [(0, .ref (ad 0))] → mo_address_204 st = some res → W p l e ({ frames := 6, cells := 0, slots := 0, locals := 132 } : Room) s m args below meth c H locs 0 0 (MQ below (mQ (fun v H1 => v = none ∧ GW ρ wM ad res H1) (MA wM ad s.heap.size)) args s 0 0 (MA wM ad s.heap.size)) (F0 m 204 ls []) := by
    intro st  H locs ls hW hS hl h
    unfold mo_address_204 at h
    refine lv_aload_n (pc := 204) hx hb d140_204 rfl (lv_at hl 0 rfl) ?_
    obtain ⟨q1, hq1, h⟩ := jc_some h
    refine k_callV (pc := 205) (n := 0) X hS (c_mo_answerText l ρ ad _ st q1 hW hq1) wd1707 wd1704 wd1706 sl144 wd11 (by decide) ⟨rfl, rfl, by decide, by decide⟩ (m_recv X hW) (As := []) (rest := []) rfl rfl hl.1 (Nat.le_of_ble_eq_true rfl) d140_205 ⟨by decide, by decide⟩ (fun q hq => MA.mono hS.1 hq) (fun v H1 locs1 hv _ _ hSq1 => ?_)
    obtain ⟨rfl, hW⟩ := hv
    have hS := hSq1
    obtain rfl := Option.some.inj h
    exact m_vret (pc := 208) hx hb hr hlk hS ⟨rfl, hW⟩ (by decide) (by decide) d140_208
  have kc178 : ∀ (st : GS) (x1 : Int32) (H : Heap) (locs : List Loc) (ls : Array Slot), GW ρ wM ad st H → va_S (MA wM ad s.heap.size) s.heap H locs → lv_has ls 8 [(0, .ref (ad 0)), (1, .int x1)] → mo_address_178 st x1 = some res → W p l e ({ frames := 6, cells := 0, slots := 0, locals := 132 } : Room) s m args below meth c H locs 0 0 (MQ below (mQ (fun v H1 => v = none ∧ GW ρ wM ad res H1) (MA wM ad s.heap.size)) args s 0 0 (MA wM ad s.heap.size)) (F0 m 178 ls []) := by
    intro st x1 H locs ls hW hS hl h
    unfold mo_address_178 at h
    refine lv_aload_n (pc := 178) hx hb d140_178 rfl (lv_at hl 0 rfl) ?_
    refine lv_iload_n (pc := 179) hx hb d140_179 rfl (lv_at hl 1 rfl) ?_
    obtain ⟨q2, hq2, h⟩ := jc_some h
    refine k_callV (pc := 180) (n := 1) X hS (c_mo_makeNumber l ρ ad _ st x1 q2 hW hq2) wd1865 wd1862 wd1864 sl196 wd11 (by decide) ⟨rfl, rfl, by decide, by decide⟩ (m_recv X hW) (As := [.int x1]) (rest := []) rfl rfl hl.1 (Nat.le_of_ble_eq_true rfl) d140_180 ⟨by decide, by decide⟩ (fun q hq => MA.mono hS.1 hq) (fun v H1 locs1 hv _ _ hSq2 => ?_)
    obtain ⟨rfl, hW⟩ := hv
    have hS := hSq2
    refine lv_goto (pc := 183) (tgt := 204) hx hb d140_183 (by decide) ?_
    exact kc204  q2 _ _ _ hW hS (lv_sub hl [0] rfl) h
  have kc162 : ∀ (st : GS) (x1 : Int32) (x2 : Int32) (x6 : Int32) (H : Heap) (locs : List Loc) (ls : Array Slot), GW ρ wM ad st H → va_S (MA wM ad s.heap.size) s.heap H locs → lv_has ls 8 [(0, .ref (ad 0)), (1, .int x1), (2, .int x2), (6, .int x6)] → mo_address_162 st x1 x2 x6 = some res → W p l e ({ frames := 6, cells := 0, slots := 0, locals := 132 } : Room) s m args below meth c H locs 0 0 (MQ below (mQ (fun v H1 => v = none ∧ GW ρ wM ad res H1) (MA wM ad s.heap.size)) args s 0 0 (MA wM ad s.heap.size)) (F0 m 162 ls []) := by
    intro st x1 x2 x6 H locs ls hW hS hl h
    unfold mo_address_162 at h
    refine lv_aload_n (pc := 162) hx hb d140_162 rfl (lv_at hl 0 rfl) ?_
    refine lv_iload_n (pc := 163) hx hb d140_163 rfl (lv_at hl 2 rfl) ?_
    obtain ⟨q3, hq3, h⟩ := jc_some h
    refine k_callV (pc := 164) (n := 1) X hS (c_mo_columnLetters l ρ ad _ st x2 q3 hW hq3) wd1861 wd1858 wd1860 sl153 wd11 (by decide) ⟨rfl, rfl, by decide, by decide⟩ (m_recv X hW) (As := [.int x2]) (rest := []) rfl rfl hl.1 (Nat.le_of_ble_eq_true rfl) d140_164 ⟨by decide, by decide⟩ (fun q hq => MA.mono hS.1 hq) (fun v H1 locs1 hv _ _ hSq3 => ?_)
    obtain ⟨rfl, hW⟩ := hv
    have hS := hSq3
    refine lv_iload (pc := 167) hx hb d140_167 (lv_at hl 3 rfl) ?_
    refine lv_if_eq (pc := 169) (tgt := 178) hx hb d140_169 (by decide) (fun c169 => ?_) (fun c169 => ?_)
    · have h := jb_t c169 h
      exact kc178  q3 x1 _ _ _ hW hS (lv_sub hl [0, 1] rfl) h
    · have h := jb_f c169 h
      refine lv_aload_n (pc := 172) hx hb d140_172 rfl (lv_at hl 0 rfl) ?_
      refine lv_bipush (pc := 173) (v := 36) hx hb d140_173 (by decide) ?_
      obtain ⟨q4, hq4, h⟩ := jc_some h
      refine k_callV (pc := 175) (n := 1) X hS (c_mo_make l ρ ad _ q3 36 q4 hW hq4) wd1703 wd1700 wd1702 sl195 wd11 (by decide) ⟨rfl, rfl, by decide, by decide⟩ (m_recv X hW) (As := [.int 36]) (rest := []) rfl rfl hl.1 (Nat.le_of_ble_eq_true rfl) d140_175 ⟨by decide, by decide⟩ (fun q hq => MA.mono hS.1 hq) (fun v H1 locs1 hv _ _ hSq4 => ?_)
      obtain ⟨rfl, hW⟩ := hv
      have hS := hSq4
      exact kc178  q4 x1 _ _ _ hW hS (lv_sub hl [0, 1] rfl) h
  have kc144 : ∀ (st : GS) (x1 : Int32) (x2 : Int32) (x4 : Int32) (x6 : Int32) (z0 : Int32) (H : Heap) (locs : List Loc) (ls : Array Slot), GW ρ wM ad st H → va_S (MA wM ad s.heap.size) s.heap H locs → lv_has ls 8 [(0, .ref (ad 0)), (1, .int x1), (2, .int x2), (4, .int x4), (6, .int x6)] → mo_address_144 st x1 x2 x4 x6 z0 = some res → W p l e ({ frames := 6, cells := 0, slots := 0, locals := 132 } : Room) s m args below meth c H locs 0 0 (MQ below (mQ (fun v H1 => v = none ∧ GW ρ wM ad res H1) (MA wM ad s.heap.size)) args s 0 0 (MA wM ad s.heap.size)) (F0 m 144 ls [.int z0]) := by
    intro st x1 x2 x4 x6 z0 H locs ls hW hS hl h
    unfold mo_address_144 at h
    refine lv_istore (pc := 144) (lv' := [(7, .int z0), (0, .ref (ad 0)), (1, .int x1), (2, .int x2), (4, .int x4), (6, .int x6)]) hx hb d140_144 hl (by decide) rfl (fun ls hl => ?_)
    refine lv_iload (pc := 146) hx hb d140_146 (lv_at hl 4 rfl) ?_
    refine lv_if_eq (pc := 148) (tgt := 186) hx hb d140_148 (by decide) (fun c148 => ?_) (fun c148 => ?_)
    · have h := jb_t c148 h
      refine lv_aload_n (pc := 186) hx hb d140_186 rfl (lv_at hl 1 rfl) ?_
      refine lv_bipush (pc := 187) (v := 82) hx hb d140_187 (by decide) ?_
      refine lv_iload_n (pc := 189) hx hb d140_189 rfl (lv_at hl 2 rfl) ?_
      refine lv_iload (pc := 190) hx hb d140_190 (lv_at hl 5 rfl) ?_
      obtain ⟨q5, hq5, h⟩ := jc_some h
      refine k_callV (pc := 192) (n := 3) X hS (c_mo_bracketed l ρ ad _ st 82 x1 x6 q5 hW hq5) wd1869 wd1866 wd1868 sl150 wd11 (by decide) ⟨rfl, rfl, by decide, by decide⟩ (m_recv X hW) (As := [.int 82, .int x1, .int x6]) (rest := []) rfl rfl hl.1 (Nat.le_of_ble_eq_true rfl) d140_192 ⟨by decide, by decide⟩ (fun q hq => MA.mono hS.1 hq) (fun v H1 locs1 hv _ _ hSq5 => ?_)
      obtain ⟨rfl, hW⟩ := hv
      have hS := hSq5
      refine lv_aload_n (pc := 195) hx hb d140_195 rfl (lv_at hl 1 rfl) ?_
      refine lv_bipush (pc := 196) (v := 67) hx hb d140_196 (by decide) ?_
      refine lv_iload_n (pc := 198) hx hb d140_198 rfl (lv_at hl 3 rfl) ?_
      refine lv_iload (pc := 199) hx hb d140_199 (lv_at hl 0 rfl) ?_
      obtain ⟨q6, hq6, h⟩ := jc_some h
      refine k_callV (pc := 201) (n := 3) X hS (c_mo_bracketed l ρ ad _ q5 67 x2 z0 q6 hW hq6) wd1869 wd1866 wd1868 sl150 wd11 (by decide) ⟨rfl, rfl, by decide, by decide⟩ (m_recv X hW) (As := [.int 67, .int x2, .int z0]) (rest := []) rfl rfl hl.1 (Nat.le_of_ble_eq_true rfl) d140_201 ⟨by decide, by decide⟩ (fun q hq => MA.mono hS.1 hq) (fun v H1 locs1 hv _ _ hSq6 => ?_)
      obtain ⟨rfl, hW⟩ := hv
      have hS := hSq6
      exact kc204  q6 _ _ _ hW hS (lv_sub hl [1] rfl) h
    · have h := jb_f c148 h
      refine lv_iload (pc := 151) hx hb d140_151 (lv_at hl 0 rfl) ?_
      refine lv_if_eq (pc := 153) (tgt := 162) hx hb d140_153 (by decide) (fun c153 => ?_) (fun c153 => ?_)
      · have h := jb_t c153 h
        exact kc162  st x1 x2 x6 _ _ _ hW hS (lv_sub hl [1, 2, 3, 5] rfl) h
      · have h := jb_f c153 h
        refine lv_aload_n (pc := 156) hx hb d140_156 rfl (lv_at hl 1 rfl) ?_
        refine lv_bipush (pc := 157) (v := 36) hx hb d140_157 (by decide) ?_
        obtain ⟨q7, hq7, h⟩ := jc_some h
        refine k_callV (pc := 159) (n := 1) X hS (c_mo_make l ρ ad _ st 36 q7 hW hq7) wd1703 wd1700 wd1702 sl195 wd11 (by decide) ⟨rfl, rfl, by decide, by decide⟩ (m_recv X hW) (As := [.int 36]) (rest := []) rfl rfl hl.1 (Nat.le_of_ble_eq_true rfl) d140_159 ⟨by decide, by decide⟩ (fun q hq => MA.mono hS.1 hq) (fun v H1 locs1 hv _ _ hSq7 => ?_)
        obtain ⟨rfl, hW⟩ := hv
        have hS := hSq7
        exact kc162  q7 x1 x2 x6 _ _ _ hW hS (lv_sub hl [1, 2, 3, 5] rfl) h
  have kc130 : ∀ (st : GS) (x1 : Int32) (x2 : Int32) (x3 : Int32) (x4 : Int32) (z0 : Int32) (H : Heap) (locs : List Loc) (ls : Array Slot), GW ρ wM ad st H → va_S (MA wM ad s.heap.size) s.heap H locs → lv_has ls 8 [(0, .ref (ad 0)), (1, .int x1), (2, .int x2), (3, .int x3), (4, .int x4)] → mo_address_130 st x1 x2 x3 x4 z0 = some res → W p l e ({ frames := 6, cells := 0, slots := 0, locals := 132 } : Room) s m args below meth c H locs 0 0 (MQ below (mQ (fun v H1 => v = none ∧ GW ρ wM ad res H1) (MA wM ad s.heap.size)) args s 0 0 (MA wM ad s.heap.size)) (F0 m 130 ls [.int z0]) := by
    intro st x1 x2 x3 x4 z0 H locs ls hW hS hl h
    unfold mo_address_130 at h
    refine lv_istore (pc := 130) (lv' := [(6, .int z0), (0, .ref (ad 0)), (1, .int x1), (2, .int x2), (3, .int x3), (4, .int x4)]) hx hb d140_130 hl (by decide) rfl (fun ls hl => ?_)
    refine lv_iload_n (pc := 132) hx hb d140_132 rfl (lv_at hl 4 rfl) ?_
    refine lv_iconst (pc := 133) (v := 2) hx hb d140_133 (by decide) ?_
    refine lv_irem (pc := 134) hx hb d140_134 (by decide) ?_
    refine lv_iconst (pc := 135) (v := 1) hx hb d140_135 (by decide) ?_
    refine lv_icmp_ne (pc := 136) (tgt := 143) hx hb d140_136 (by decide) (fun c136 => ?_) (fun c136 => ?_)
    · have h := jb_f c136 h
      refine lv_iconst (pc := 143) (v := 0) hx hb d140_143 (by decide) ?_
      exact kc144  st x1 x2 x4 z0 0 _ _ _ hW hS (lv_sub hl [1, 2, 3, 5, 0] rfl) h
    · have h := jb_t c136 h
      refine lv_iconst (pc := 139) (v := 1) hx hb d140_139 (by decide) ?_
      refine lv_goto (pc := 140) (tgt := 144) hx hb d140_140 (by decide) ?_
      exact kc144  st x1 x2 x4 z0 1 _ _ _ hW hS (lv_sub hl [1, 2, 3, 5, 0] rfl) h
  have kc120 : ∀ (st : GS) (x1 : Int32) (x2 : Int32) (x3 : Int32) (x4 : Int32) (H : Heap) (locs : List Loc) (ls : Array Slot), GW ρ wM ad st H → va_S (MA wM ad s.heap.size) s.heap H locs → lv_has ls 8 [(0, .ref (ad 0)), (1, .int x1), (2, .int x2), (3, .int x3), (4, .int x4)] → mo_address_120 st x1 x2 x3 x4 = some res → W p l e ({ frames := 6, cells := 0, slots := 0, locals := 132 } : Room) s m args below meth c H locs 0 0 (MQ below (mQ (fun v H1 => v = none ∧ GW ρ wM ad res H1) (MA wM ad s.heap.size)) args s 0 0 (MA wM ad s.heap.size)) (F0 m 120 ls []) := by
    intro st x1 x2 x3 x4 H locs ls hW hS hl h
    unfold mo_address_120 at h
    refine lv_iload_n (pc := 120) hx hb d140_120 rfl (lv_at hl 3 rfl) ?_
    refine lv_iconst (pc := 121) (v := 3) hx hb d140_121 (by decide) ?_
    refine lv_icmp_ge (pc := 122) (tgt := 129) hx hb d140_122 (by decide) (fun c122 => ?_) (fun c122 => ?_)
    · have h := jb_t c122 h
      refine lv_iconst (pc := 129) (v := 0) hx hb d140_129 (by decide) ?_
      exact kc130  st x1 x2 x3 x4 0 _ _ _ hW hS (lv_sub hl [0, 1, 2, 3, 4] rfl) h
    · have h := jb_f c122 h
      refine lv_iconst (pc := 125) (v := 1) hx hb d140_125 (by decide) ?_
      refine lv_goto (pc := 126) (tgt := 130) hx hb d140_126 (by decide) ?_
      exact kc130  st x1 x2 x3 x4 1 _ _ _ hW hS (lv_sub hl [0, 1, 2, 3, 4] rfl) h
  have kc88 : ∀ (st : GS) (x1 : Int32) (x2 : Int32) (x3 : Int32) (x4 : Int32) (x5 : Int32) (H : Heap) (locs : List Loc) (ls : Array Slot), GW ρ wM ad st H → va_S (MA wM ad s.heap.size) s.heap H locs → lv_has ls 8 [(0, .ref (ad 0)), (1, .int x1), (2, .int x2), (3, .int x3), (4, .int x4), (5, .int x5)] → mo_address_88 st x1 x2 x3 x4 x5 = some res → W p l e ({ frames := 6, cells := 0, slots := 0, locals := 132 } : Room) s m args below meth c H locs 0 0 (MQ below (mQ (fun v H1 => v = none ∧ GW ρ wM ad res H1) (MA wM ad s.heap.size)) args s 0 0 (MA wM ad s.heap.size)) (F0 m 88 ls []) := by
    intro st x1 x2 x3 x4 x5 H locs ls hW hS hl h
    unfold mo_address_88 at h
    refine lv_aload_n (pc := 88) hx hb d140_88 rfl (lv_at hl 0 rfl) ?_
    refine m_get (pc := 89) X hW 22 (v := .int (st.1 0 22)) wd1388 rfl rfl d140_89 ?_
    refine lv_if_eq (pc := 92) (tgt := 96) hx hb d140_92 (by decide) (fun c92 => ?_) (fun c92 => ?_)
    · have h := jb_t c92 h
      refine lv_aload_n (pc := 96) hx hb d140_96 rfl (lv_at hl 0 rfl) ?_
      refine lv_aload_n (pc := 97) hx hb d140_97 rfl (lv_at hl 0 rfl) ?_
      refine m_get (pc := 98) X hW 23 (v := .ref (ad 13)) wd1389 rfl rfl d140_98 ?_
      refine lv_iconst (pc := 101) (v := 0) hx hb d140_101 (by decide) ?_
      refine lv_aload_n (pc := 102) hx hb d140_102 rfl (lv_at hl 0 rfl) ?_
      refine m_get (pc := 103) X hW 27 (v := .int (st.1 0 27)) wd1393 rfl rfl d140_103 ?_
      obtain ⟨q8, hq8, h⟩ := jc_some h
      refine k_callV (pc := 106) (n := 3) X hS (c_mo_makeOf l ρ ad _ st 13 0 (st.1 0 27) q8 hW ⟨by decide, rfl⟩ hq8) wd1699 wd1696 wd1698 sl197 wd11 (by decide) ⟨rfl, rfl, by decide, by decide⟩ (m_recv X hW) (As := [.ref (ad 13), .int 0, .int (st.1 0 27)]) (rest := []) rfl rfl hl.1 (Nat.le_of_ble_eq_true rfl) d140_106 ⟨by decide, by decide⟩ (fun q hq => MA.mono hS.1 hq) (fun v H1 locs1 hv _ _ hSq8 => ?_)
      obtain ⟨rfl, hW⟩ := hv
      have hS := hSq8
      refine lv_iload (pc := 109) hx hb d140_109 (lv_at hl 5 rfl) ?_
      refine lv_if_eq (pc := 111) (tgt := 120) hx hb d140_111 (by decide) (fun c111 => ?_) (fun c111 => ?_)
      · have h := jb_t c111 h
        exact kc120  q8 x1 x2 x3 x4 _ _ _ hW hS (lv_sub hl [0, 1, 2, 3, 4] rfl) h
      · have h := jb_f c111 h
        refine lv_aload_n (pc := 114) hx hb d140_114 rfl (lv_at hl 0 rfl) ?_
        refine lv_bipush (pc := 115) (v := 33) hx hb d140_115 (by decide) ?_
        obtain ⟨q9, hq9, h⟩ := jc_some h
        refine k_callV (pc := 117) (n := 1) X hS (c_mo_make l ρ ad _ q8 33 q9 hW hq9) wd1703 wd1700 wd1702 sl195 wd11 (by decide) ⟨rfl, rfl, by decide, by decide⟩ (m_recv X hW) (As := [.int 33]) (rest := []) rfl rfl hl.1 (Nat.le_of_ble_eq_true rfl) d140_117 ⟨by decide, by decide⟩ (fun q hq => MA.mono hS.1 hq) (fun v H1 locs1 hv _ _ hSq9 => ?_)
        obtain ⟨rfl, hW⟩ := hv
        have hS := hSq9
        exact kc120  q9 x1 x2 x3 x4 _ _ _ hW hS (lv_sub hl [0, 1, 2, 3, 4] rfl) h
    · have h := jb_f c92 h
      obtain rfl := Option.some.inj h
      exact m_vret (pc := 95) hx hb hr hlk hS ⟨rfl, hW⟩ (by decide) (by decide) d140_95
  have kc83 : ∀ (st : GS) (x1 : Int32) (x2 : Int32) (x3 : Int32) (x4 : Int32) (x5 : Int32) (H : Heap) (locs : List Loc) (ls : Array Slot), GW ρ wM ad st H → va_S (MA wM ad s.heap.size) s.heap H locs → lv_has ls 8 [(0, .ref (ad 0)), (1, .int x1), (2, .int x2), (3, .int x3), (4, .int x4), (5, .int x5)] → mo_address_83 st x1 x2 x3 x4 x5 = some res → W p l e ({ frames := 6, cells := 0, slots := 0, locals := 132 } : Room) s m args below meth c H locs 0 0 (MQ below (mQ (fun v H1 => v = none ∧ GW ρ wM ad res H1) (MA wM ad s.heap.size)) args s 0 0 (MA wM ad s.heap.size)) (F0 m 83 ls []) := by
    intro st x1 x2 x3 x4 x5 H locs ls hW hS hl h
    unfold mo_address_83 at h
    refine lv_aload_n (pc := 83) hx hb d140_83 rfl (lv_at hl 0 rfl) ?_
    refine lv_iconst (pc := 84) (v := 3) hx hb d140_84 (by decide) ?_
    obtain ⟨q10, hq10, h⟩ := jc_some h
    refine k_callV (pc := 85) (n := 1) X hS (c_mo_fail l ρ ad _ st 3 q10 hW hq10) wd1621 wd1618 wd1620 sl170 wd11 (by decide) ⟨rfl, rfl, by decide, by decide⟩ (m_recv X hW) (As := [.int 3]) (rest := []) rfl rfl hl.1 (Nat.le_of_ble_eq_true rfl) d140_85 ⟨by decide, by decide⟩ (fun q hq => MA.mono hS.1 hq) (fun v H1 locs1 hv _ _ hSq10 => ?_)
    obtain ⟨rfl, hW⟩ := hv
    have hS := hSq10
    exact kc88  q10 x1 x2 x3 x4 x5 _ _ _ hW hS (lv_sub hl [0, 1, 2, 3, 4, 5] rfl) h
  have kc65 : ∀ (st : GS) (x1 : Int32) (x2 : Int32) (x3 : Int32) (x4 : Int32) (x5 : Int32) (H : Heap) (locs : List Loc) (ls : Array Slot), GW ρ wM ad st H → va_S (MA wM ad s.heap.size) s.heap H locs → lv_has ls 8 [(0, .ref (ad 0)), (1, .int x1), (2, .int x2), (3, .int x3), (4, .int x4), (5, .int x5)] → mo_address_65 st x1 x2 x3 x4 x5 = some res → W p l e ({ frames := 6, cells := 0, slots := 0, locals := 132 } : Room) s m args below meth c H locs 0 0 (MQ below (mQ (fun v H1 => v = none ∧ GW ρ wM ad res H1) (MA wM ad s.heap.size)) args s 0 0 (MA wM ad s.heap.size)) (F0 m 65 ls []) := by
    intro st x1 x2 x3 x4 x5 H locs ls hW hS hl h
    unfold mo_address_65 at h
    refine lv_iload_n (pc := 65) hx hb d140_65 rfl (lv_at hl 1 rfl) ?_
    refine lv_iload_n (pc := 66) hx hb d140_66 rfl (lv_at hl 2 rfl) ?_
    obtain ⟨q11, hq11, h⟩ := jc_some h
    refine k_callS (pc := 67) (n := 2) X hS (c_mo_isCell l ρ _ x1 x2 q11 hq11) wd1555 wd1553 wd1554 wd11 (by decide) ⟨rfl, rfl, by decide, by decide⟩ (As := [.int x1, .int x2]) (rest := []) rfl rfl hl.1 (Nat.le_of_ble_eq_true rfl) d140_67 ⟨by decide, by decide⟩ (fun q hq => False.elim hq) (fun v H1 locs1 hv _ _ hSq11 => ?_)
    obtain ⟨rfl, rfl⟩ := hv
    have hS := hSq11
    refine lv_if_eq (pc := 70) (tgt := 83) hx hb d140_70 (by decide) (fun c70 => ?_) (fun c70 => ?_)
    · have h := jb_t c70 h
      exact kc83  st x1 x2 x3 x4 x5 _ _ _ hW hS (lv_sub hl [0, 1, 2, 3, 4, 5] rfl) h
    · have h := jb_f c70 h
      refine lv_iload_n (pc := 73) hx hb d140_73 rfl (lv_at hl 3 rfl) ?_
      refine lv_iconst (pc := 74) (v := 1) hx hb d140_74 (by decide) ?_
      refine lv_icmp_lt (pc := 75) (tgt := 83) hx hb d140_75 (by decide) (fun c75 => ?_) (fun c75 => ?_)
      · have h := jb_t c75 h
        exact kc83  st x1 x2 x3 x4 x5 _ _ _ hW hS (lv_sub hl [0, 1, 2, 3, 4, 5] rfl) h
      · have h := jb_f c75 h
        refine lv_iload_n (pc := 78) hx hb d140_78 rfl (lv_at hl 3 rfl) ?_
        refine lv_iconst (pc := 79) (v := 4) hx hb d140_79 (by decide) ?_
        refine lv_icmp_le (pc := 80) (tgt := 88) hx hb d140_80 (by decide) (fun c80 => ?_) (fun c80 => ?_)
        · have h := jb_t c80 h
          exact kc88  st x1 x2 x3 x4 x5 _ _ _ hW hS (lv_sub hl [0, 1, 2, 3, 4, 5] rfl) h
        · have h := jb_f c80 h
          exact kc83  st x1 x2 x3 x4 x5 _ _ _ hW hS (lv_sub hl [0, 1, 2, 3, 4, 5] rfl) h
  have kc48 : ∀ (st : GS) (x1 : Int32) (x2 : Int32) (x3 : Int32) (x4 : Int32) (z0 : Int32) (H : Heap) (locs : List Loc) (ls : Array Slot), GW ρ wM ad st H → va_S (MA wM ad s.heap.size) s.heap H locs → lv_has ls 8 [(0, .ref (ad 0)), (1, .int x1), (2, .int x2), (3, .int x3), (4, .int x4)] → mo_address_48 st x1 x2 x3 x4 z0 = some res → W p l e ({ frames := 6, cells := 0, slots := 0, locals := 132 } : Room) s m args below meth c H locs 0 0 (MQ below (mQ (fun v H1 => v = none ∧ GW ρ wM ad res H1) (MA wM ad s.heap.size)) args s 0 0 (MA wM ad s.heap.size)) (F0 m 48 ls [.int z0]) := by
    intro st x1 x2 x3 x4 z0 H locs ls hW hS hl h
    unfold mo_address_48 at h
    refine lv_istore (pc := 48) (lv' := [(5, .int z0), (0, .ref (ad 0)), (1, .int x1), (2, .int x2), (3, .int x3), (4, .int x4)]) hx hb d140_48 hl (by decide) rfl (fun ls hl => ?_)
    refine lv_aload_n (pc := 50) hx hb d140_50 rfl (lv_at hl 1 rfl) ?_
    refine lv_iconst (pc := 51) (v := 0) hx hb d140_51 (by decide) ?_
    obtain ⟨st12, est12, h⟩ := jn_ex h
    refine m_putI (pc := 52) X hW hS 27 est12 wd1393 rfl rfl rfl rfl rfl d140_52 (fun H locs hW hS => ?_)
    refine lv_iload (pc := 55) hx hb d140_55 (lv_at hl 0 rfl) ?_
    refine lv_if_eq (pc := 57) (tgt := 65) hx hb d140_57 (by decide) (fun c57 => ?_) (fun c57 => ?_)
    · have h := jb_t c57 h
      exact kc65  st12 x1 x2 x3 x4 z0 _ _ _ hW hS (lv_sub hl [1, 2, 3, 4, 5, 0] rfl) h
    · have h := jb_f c57 h
      refine lv_aload_n (pc := 60) hx hb d140_60 rfl (lv_at hl 1 rfl) ?_
      refine lv_iconst (pc := 61) (v := 4) hx hb d140_61 (by decide) ?_
      obtain ⟨q13, hq13, h⟩ := jc_some h
      refine k_callV (pc := 62) (n := 1) X hS (c_mo_textOf l ρ ad _ st12 4 q13 hW hq13) wd1597 wd1594 wd1596 sl226 wd11 (by decide) ⟨rfl, rfl, by decide, by decide⟩ (m_recv X hW) (As := [.int 4]) (rest := []) rfl rfl hl.1 (Nat.le_of_ble_eq_true rfl) d140_62 ⟨by decide, by decide⟩ (fun q hq => MA.mono hS.1 hq) (fun v H1 locs1 hv _ _ hSq13 => ?_)
      obtain ⟨rfl, hW⟩ := hv
      have hS := hSq13
      exact kc65  q13 x1 x2 x3 x4 z0 _ _ _ hW hS (lv_sub hl [1, 2, 3, 4, 5, 0] rfl) h
  have kc47 : ∀ (st : GS) (x1 : Int32) (x2 : Int32) (x3 : Int32) (x4 : Int32) (H : Heap) (locs : List Loc) (ls : Array Slot), GW ρ wM ad st H → va_S (MA wM ad s.heap.size) s.heap H locs → lv_has ls 8 [(0, .ref (ad 0)), (1, .int x1), (2, .int x2), (3, .int x3), (4, .int x4)] → mo_address_47 st x1 x2 x3 x4 = some res → W p l e ({ frames := 6, cells := 0, slots := 0, locals := 132 } : Room) s m args below meth c H locs 0 0 (MQ below (mQ (fun v H1 => v = none ∧ GW ρ wM ad res H1) (MA wM ad s.heap.size)) args s 0 0 (MA wM ad s.heap.size)) (F0 m 47 ls []) := by
    intro st x1 x2 x3 x4 H locs ls hW hS hl h
    unfold mo_address_47 at h
    refine lv_iconst (pc := 47) (v := 0) hx hb d140_47 (by decide) ?_
    exact kc48  st x1 x2 x3 x4 0 _ _ _ hW hS (lv_sub hl [0, 1, 2, 3, 4] rfl) h
  unfold f_mo_address at h
  refine lv_aload_n (pc := 0) hx hb d140_0 rfl (lv_at hl 0 rfl) ?_
  refine lv_iconst (pc := 1) (v := 0) hx hb d140_1 (by decide) ?_
  obtain ⟨q14, hq14, h⟩ := jc_some h
  refine k_callV (pc := 2) (n := 1) X hS (c_mo_whole1 l ρ ad _ st 0 q14 hW hq14) wd1671 wd1668 wd1670 sl241 wd11 (by decide) ⟨rfl, rfl, by decide, by decide⟩ (m_recv X hW) (As := [.int 0]) (rest := []) rfl rfl hl.1 (Nat.le_of_ble_eq_true rfl) d140_2 ⟨by decide, by decide⟩ (fun q hq => MA.mono hS.1 hq) (fun v H1 locs1 hv _ _ hSq14 => ?_)
  obtain ⟨rfl, hW⟩ := hv
  have hS := hSq14
  refine lv_istore_n (pc := 5) (lv' := [(1, .int q14.1), (0, .ref (ad 0))]) hx hb d140_5 rfl hl (by decide) rfl (fun ls hl => ?_)
  refine lv_aload_n (pc := 6) hx hb d140_6 rfl (lv_at hl 1 rfl) ?_
  refine lv_iconst (pc := 7) (v := 1) hx hb d140_7 (by decide) ?_
  obtain ⟨q15, hq15, h⟩ := jc_some h
  refine k_callV (pc := 8) (n := 1) X hS (c_mo_whole1 l ρ ad _ q14.2 1 q15 hW hq15) wd1671 wd1668 wd1670 sl241 wd11 (by decide) ⟨rfl, rfl, by decide, by decide⟩ (m_recv X hW) (As := [.int 1]) (rest := []) rfl rfl hl.1 (Nat.le_of_ble_eq_true rfl) d140_8 ⟨by decide, by decide⟩ (fun q hq => MA.mono hS.1 hq) (fun v H1 locs1 hv _ _ hSq15 => ?_)
  obtain ⟨rfl, hW⟩ := hv
  have hS := hSq15
  refine lv_istore_n (pc := 11) (lv' := [(2, .int q15.1), (1, .int q14.1), (0, .ref (ad 0))]) hx hb d140_11 rfl hl (by decide) rfl (fun ls hl => ?_)
  refine lv_aload_n (pc := 12) hx hb d140_12 rfl (lv_at hl 2 rfl) ?_
  refine lv_iconst (pc := 13) (v := 2) hx hb d140_13 (by decide) ?_
  refine lv_iconst (pc := 14) (v := 1) hx hb d140_14 (by decide) ?_
  obtain ⟨q16, hq16, h⟩ := jc_some h
  refine k_callV (pc := 15) (n := 2) X hS (c_mo_whole2 l ρ ad _ q15.2 2 1 q16 hW hq16) wd1663 wd1660 wd1662 sl242 wd11 (by decide) ⟨rfl, rfl, by decide, by decide⟩ (m_recv X hW) (As := [.int 2, .int 1]) (rest := []) rfl rfl hl.1 (Nat.le_of_ble_eq_true rfl) d140_15 ⟨by decide, by decide⟩ (fun q hq => MA.mono hS.1 hq) (fun v H1 locs1 hv _ _ hSq16 => ?_)
  obtain ⟨rfl, hW⟩ := hv
  have hS := hSq16
  refine lv_istore_n (pc := 18) (lv' := [(3, .int q16.1), (2, .int q15.1), (1, .int q14.1), (0, .ref (ad 0))]) hx hb d140_18 rfl hl (by decide) rfl (fun ls hl => ?_)
  refine lv_aload_n (pc := 19) hx hb d140_19 rfl (lv_at hl 3 rfl) ?_
  refine lv_iconst (pc := 20) (v := 3) hx hb d140_20 (by decide) ?_
  refine lv_iconst (pc := 21) (v := 1) hx hb d140_21 (by decide) ?_
  obtain ⟨q17, hq17, h⟩ := jc_some h
  refine k_callV (pc := 22) (n := 2) X hS (c_mo_truth2 l ρ ad _ q16.2 3 1 q17 hW hq17) wd1821 wd1818 wd1820 sl235 wd11 (by decide) ⟨rfl, rfl, by decide, by decide⟩ (m_recv X hW) (As := [.int 3, .int 1]) (rest := []) rfl rfl hl.1 (Nat.le_of_ble_eq_true rfl) d140_22 ⟨by decide, by decide⟩ (fun q hq => MA.mono hS.1 hq) (fun v H1 locs1 hv _ _ hSq17 => ?_)
  obtain ⟨rfl, hW⟩ := hv
  have hS := hSq17
  refine lv_istore (pc := 25) (lv' := [(4, .int q17.1), (3, .int q16.1), (2, .int q15.1), (1, .int q14.1), (0, .ref (ad 0))]) hx hb d140_25 hl (by decide) rfl (fun ls hl => ?_)
  refine lv_aload_n (pc := 27) hx hb d140_27 rfl (lv_at hl 4 rfl) ?_
  refine lv_iconst (pc := 28) (v := 4) hx hb d140_28 (by decide) ?_
  obtain ⟨q18, hq18, h⟩ := jc_some h
  refine k_callV (pc := 29) (n := 1) X hS (c_mo_isGiven l ρ ad _ q17.2 4 q18 hW hq18) wd1667 wd1664 wd1666 sl181 wd11 (by decide) ⟨rfl, rfl, by decide, by decide⟩ (m_recv X hW) (As := [.int 4]) (rest := []) rfl rfl hl.1 (Nat.le_of_ble_eq_true rfl) d140_29 ⟨by decide, by decide⟩ (fun q hq => False.elim hq) (fun v H1 locs1 hv _ _ hSq18 => ?_)
  obtain ⟨rfl, rfl⟩ := hv
  have hS := hSq18
  refine lv_if_eq (pc := 32) (tgt := 47) hx hb d140_32 (by decide) (fun c32 => ?_) (fun c32 => ?_)
  · have h := jb_t c32 h
    exact kc47  q17.2 q14.1 q15.1 q16.1 q17.1 _ _ _ hW hS (lv_sub hl [4, 3, 2, 1, 0] rfl) h
  · have h := jb_f c32 h
    refine lv_aload_n (pc := 35) hx hb d140_35 rfl (lv_at hl 4 rfl) ?_
    refine lv_iconst (pc := 36) (v := 4) hx hb d140_36 (by decide) ?_
    obtain ⟨q19, hq19, h⟩ := jc_some h
    refine k_callV (pc := 37) (n := 1) X hS (c_mo_isOut l ρ ad _ q17.2 4 q19 hW hq19) wd1609 wd1606 wd1608 sl183 wd11 (by decide) ⟨rfl, rfl, by decide, by decide⟩ (m_recv X hW) (As := [.int 4]) (rest := []) rfl rfl hl.1 (Nat.le_of_ble_eq_true rfl) d140_37 ⟨by decide, by decide⟩ (fun q hq => False.elim hq) (fun v H1 locs1 hv _ _ hSq19 => ?_)
    obtain ⟨rfl, rfl⟩ := hv
    have hS := hSq19
    refine lv_if_ne (pc := 40) (tgt := 47) hx hb d140_40 (by decide) (fun c40 => ?_) (fun c40 => ?_)
    · have h := jb_f c40 h
      exact kc47  q17.2 q14.1 q15.1 q16.1 q17.1 _ _ _ hW hS (lv_sub hl [4, 3, 2, 1, 0] rfl) h
    · have h := jb_t c40 h
      refine lv_iconst (pc := 43) (v := 1) hx hb d140_43 (by decide) ?_
      refine lv_goto (pc := 44) (tgt := 48) hx hb d140_44 (by decide) ?_
      exact kc48  q17.2 q14.1 q15.1 q16.1 q17.1 1 _ _ _ hW hS (lv_sub hl [4, 3, 2, 1, 0] rfl) h
def mo_answerNumber_17  (st : GS) (z1 : UInt64) : Option (GS) := jn (uD st 0 34 z1) (fun st1 => some st1)
def f_mo_answerNumber (st : GS) (p0 : UInt64) : Option (GS) := jn (uI st 0 32 1) (fun st2 => jb ((Op.cmpValue (FP.dcmp p0 FP.dconst0) .l) = 0) (mo_answerNumber_17  st2 FP.dconst0) (mo_answerNumber_17  st2 p0))
set_option maxHeartbeats 4000000 in
set_option maxRecDepth 100000 in
theorem c_mo_answerNumber (l : Launch) (ρ : RH) (ad : Nat → Nat) (H : Heap) (st : GS) (p0 : UInt64) (res : GS) (hW : GW ρ wM ad st H) (h : f_mo_answerNumber st p0 = some res) : Met l y142 (wsOf y142 b142 3 none) ({ frames := 0, cells := 0, slots := 0, locals := 0 } : Room) (va_Pc [.ref (ad 0), .double p0] (KP ρ H)) (mQ (fun v H1 => v = none ∧ GW ρ wM ad res H1) (MA wM ad H.size)) 0 0 (MA wM ad H.size) := by
  refine m_ofW (own := "WordFunctionsModel") (plainFor_of_name rfl) rfl (Nat.le_of_ble_eq_true rfl) fun p e s m args below meth c ls hx hb hr hlk _ X hs hl => ?_
  subst hs
  have hS : va_S (MA wM ad s.heap.size) s.heap s.heap [] := va_S.rf
  have hl : lv_has ls 3 [(0, .ref (ad 0)), (1, .double p0)] := hl
  have kc17 : ∀ (st : GS) (z1 : UInt64) (H : Heap) (locs : List Loc) (ls : Array Slot), GW ρ wM ad st H → va_S (MA wM ad s.heap.size) s.heap H locs → lv_has ls 3 [] → mo_answerNumber_17 st z1 = some res → W p l e ({ frames := 0, cells := 0, slots := 0, locals := 0 } : Room) s m args below meth c H locs 0 0 (MQ below (mQ (fun v H1 => v = none ∧ GW ρ wM ad res H1) (MA wM ad s.heap.size)) args s 0 0 (MA wM ad s.heap.size)) (F0 m 17 ls [.double z1, .ref (ad 0)]) := by
    intro st z1 H locs ls hW hS hl h
    unfold mo_answerNumber_17 at h
    obtain ⟨st1, est1, h⟩ := jn_ex h
    refine m_putD (pc := 17) X hW hS 34 est1 wd1400 rfl rfl rfl rfl rfl d142_17 (fun H locs hW hS => ?_)
    obtain rfl := Option.some.inj h
    exact m_vret (pc := 20) hx hb hr hlk hS ⟨rfl, hW⟩ (by decide) (by decide) d142_20
  unfold f_mo_answerNumber at h
  refine lv_aload_n (pc := 0) hx hb d142_0 rfl (lv_at hl 0 rfl) ?_
  refine lv_iconst (pc := 1) (v := 1) hx hb d142_1 (by decide) ?_
  obtain ⟨st2, est2, h⟩ := jn_ex h
  refine m_putI (pc := 2) X hW hS 32 est2 wd1398 rfl rfl rfl rfl rfl d142_2 (fun H locs hW hS => ?_)
  refine lv_aload_n (pc := 5) hx hb d142_5 rfl (lv_at hl 0 rfl) ?_
  refine lv_dload_n (pc := 6) hx hb d142_6 rfl (lv_at hl 1 rfl) ?_
  refine lv_dconst0 (pc := 7) hx hb d142_7 ?_
  refine lv_dcmp (pc := 8) hx hb d142_8 ?_
  refine lv_if_ne (pc := 9) (tgt := 16) hx hb d142_9 (by decide) (fun c9 => ?_) (fun c9 => ?_)
  · have h := jb_f c9 h
    refine lv_dload_n (pc := 16) hx hb d142_16 rfl (lv_at hl 1 rfl) ?_
    exact kc17  st2 p0 _ _ _ hW hS (lv_sub hl [] rfl) h
  · have h := jb_t c9 h
    refine lv_dconst0 (pc := 12) hx hb d142_12 ?_
    refine lv_goto (pc := 13) (tgt := 17) hx hb d142_13 (by decide) ?_
    exact kc17  st2 FP.dconst0 _ _ _ hW hS (lv_sub hl [] rfl) h
def mo_answerDay_20  (st : GS) (x1 : Int64) : Option (GS) := jc (f_mo_answerNumber st (FP.l2d x1)) (fun q1 => some q1)
def mo_answerDay_14  (st : GS) (x1 : Int64) : Option (GS) := jc (f_mo_fail st 6) (fun q2 => mo_answerDay_20  q2 x1)
def f_mo_answerDay (st : GS) (p0 : Int64) : Option (GS) := jb ((lg_cmp p0 0) < 0) (mo_answerDay_14  st p0) (jb ((lg_cmp p0 (2958465 : Int64)) ≤ 0) (mo_answerDay_20  st p0) (mo_answerDay_14  st p0))
set_option maxHeartbeats 4000000 in
set_option maxRecDepth 100000 in
theorem c_mo_answerDay (l : Launch) (ρ : RH) (ad : Nat → Nat) (H : Heap) (st : GS) (p0 : Int64) (res : GS) (hW : GW ρ wM ad st H) (h : f_mo_answerDay st p0 = some res) : Met l y141 (wsOf y141 b141 3 none) ({ frames := 1, cells := 0, slots := 0, locals := 22 } : Room) (va_Pc [.ref (ad 0), .long p0] (KP ρ H)) (mQ (fun v H1 => v = none ∧ GW ρ wM ad res H1) (MA wM ad H.size)) 0 0 (MA wM ad H.size) := by
  refine m_ofW (own := "WordFunctionsModel") (plainFor_of_name rfl) rfl (Nat.le_of_ble_eq_true rfl) fun p e s m args below meth c ls hx hb hr hlk _ X hs hl => ?_
  subst hs
  have hS : va_S (MA wM ad s.heap.size) s.heap s.heap [] := va_S.rf
  have hl : lv_has ls 3 [(0, .ref (ad 0)), (1, .long p0)] := hl
  have kc20 : ∀ (st : GS) (x1 : Int64) (H : Heap) (locs : List Loc) (ls : Array Slot), GW ρ wM ad st H → va_S (MA wM ad s.heap.size) s.heap H locs → lv_has ls 3 [(0, .ref (ad 0)), (1, .long x1)] → mo_answerDay_20 st x1 = some res → W p l e ({ frames := 1, cells := 0, slots := 0, locals := 22 } : Room) s m args below meth c H locs 0 0 (MQ below (mQ (fun v H1 => v = none ∧ GW ρ wM ad res H1) (MA wM ad s.heap.size)) args s 0 0 (MA wM ad s.heap.size)) (F0 m 20 ls []) := by
    intro st x1 H locs ls hW hS hl h
    unfold mo_answerDay_20 at h
    refine lv_aload_n (pc := 20) hx hb d141_20 rfl (lv_at hl 0 rfl) ?_
    refine lv_lload_n (pc := 21) hx hb d141_21 rfl (lv_at hl 1 rfl) ?_
    refine lv_l2d (pc := 22) hx hb d141_22 ?_
    obtain ⟨q1, hq1, h⟩ := jc_some h
    refine k_callV (pc := 23) (n := 1) X hS (c_mo_answerNumber l ρ ad _ st (FP.l2d x1) q1 hW hq1) wd1651 wd1648 wd1650 sl142 wd11 (by decide) ⟨rfl, rfl, by decide, by decide⟩ (m_recv X hW) (As := [.double (FP.l2d x1)]) (rest := []) rfl rfl hl.1 (Nat.le_of_ble_eq_true rfl) d141_23 ⟨by decide, by decide⟩ (fun q hq => MA.mono hS.1 hq) (fun v H1 locs1 hv _ _ hSq1 => ?_)
    obtain ⟨rfl, hW⟩ := hv
    have hS := hSq1
    obtain rfl := Option.some.inj h
    exact m_vret (pc := 26) hx hb hr hlk hS ⟨rfl, hW⟩ (by decide) (by decide) d141_26
  have kc14 : ∀ (st : GS) (x1 : Int64) (H : Heap) (locs : List Loc) (ls : Array Slot), GW ρ wM ad st H → va_S (MA wM ad s.heap.size) s.heap H locs → lv_has ls 3 [(0, .ref (ad 0)), (1, .long x1)] → mo_answerDay_14 st x1 = some res → W p l e ({ frames := 1, cells := 0, slots := 0, locals := 22 } : Room) s m args below meth c H locs 0 0 (MQ below (mQ (fun v H1 => v = none ∧ GW ρ wM ad res H1) (MA wM ad s.heap.size)) args s 0 0 (MA wM ad s.heap.size)) (F0 m 14 ls []) := by
    intro st x1 H locs ls hW hS hl h
    unfold mo_answerDay_14 at h
    refine lv_aload_n (pc := 14) hx hb d141_14 rfl (lv_at hl 0 rfl) ?_
    refine lv_bipush (pc := 15) (v := 6) hx hb d141_15 (by decide) ?_
    obtain ⟨q2, hq2, h⟩ := jc_some h
    refine k_callV (pc := 17) (n := 1) X hS (c_mo_fail l ρ ad _ st 6 q2 hW hq2) wd1621 wd1618 wd1620 sl170 wd11 (by decide) ⟨rfl, rfl, by decide, by decide⟩ (m_recv X hW) (As := [.int 6]) (rest := []) rfl rfl hl.1 (Nat.le_of_ble_eq_true rfl) d141_17 ⟨by decide, by decide⟩ (fun q hq => MA.mono hS.1 hq) (fun v H1 locs1 hv _ _ hSq2 => ?_)
    obtain ⟨rfl, hW⟩ := hv
    have hS := hSq2
    exact kc20  q2 x1 _ _ _ hW hS (lv_sub hl [0, 1] rfl) h
  unfold f_mo_answerDay at h
  refine lv_lload_n (pc := 0) hx hb d141_0 rfl (lv_at hl 1 rfl) ?_
  refine lv_lconst (pc := 1) (v := 0) hx hb d141_1 rfl ?_
  refine W.lcmp (pc := 2) hx hb d141_2 ?_
  refine lv_if_lt (pc := 3) (tgt := 14) hx hb d141_3 (by decide) (fun c3 => ?_) (fun c3 => ?_)
  · have h := jb_t c3 h
    exact kc14  st p0 _ _ _ hW hS (lv_sub hl [0, 1] rfl) h
  · have h := jb_f c3 h
    refine lv_lload_n (pc := 6) hx hb d141_6 rfl (lv_at hl 1 rfl) ?_
    refine lv_ldc2 (pc := 7) hx hb X.1.2.2.2.1 (X.ts wd1899) d141_7 ?_
    refine W.lcmp (pc := 10) hx hb d141_10 ?_
    refine lv_if_le (pc := 11) (tgt := 20) hx hb d141_11 (by decide) (fun c11 => ?_) (fun c11 => ?_)
    · have h := jb_t c11 h
      exact kc20  st p0 _ _ _ hW hS (lv_sub hl [0, 1] rfl) h
    · have h := jb_f c11 h
      exact kc14  st p0 _ _ _ hW hS (lv_sub hl [0, 1] rfl) h
def mo_answerValue_31  : Nat → GS → Int32 → Option (GS)
  | 0, _, _ => none
  | fu + 1, st, x2 => jb ((st.1 0 27) ≤ x2) (some st) (jg (inb x2 256) (jg (inb x2 256) (jn (uI st 17 x2.toNatClampNeg (st.1 13 x2.toNatClampNeg)) (fun st3 => jn (x2 + 1) (fun v4 => mo_answerValue_31 fu st3 v4)))))
def f_mo_answerValue (st : GS) (p0 : Int32) : Option (GS) := jc (f_mo_take st p0) (fun q5 => jn (uI q5 0 32 (q5.1 0 20)) (fun st6 => jn (uD st6 0 34 (st6.2.1 0 21)) (fun st7 => jn (uI st7 0 33 (st7.1 0 27)) (fun st8 => mo_answerValue_31 FU st8 0))))
set_option maxHeartbeats 4000000 in
set_option maxRecDepth 100000 in
theorem c_mo_answerValue (l : Launch) (ρ : RH) (ad : Nat → Nat) (H : Heap) (st : GS) (p0 : Int32) (res : GS) (hW : GW ρ wM ad st H) (h : f_mo_answerValue st p0 = some res) : Met l y146 (wsOf y146 b146 3 none) ({ frames := 1, cells := 0, slots := 0, locals := 22 } : Room) (va_Pc [.ref (ad 0), .int p0] (KP ρ H)) (mQ (fun v H1 => v = none ∧ GW ρ wM ad res H1) (MA wM ad H.size)) 0 0 (MA wM ad H.size) := by
  refine m_ofW (own := "WordFunctionsModel") (plainFor_of_name rfl) rfl (Nat.le_of_ble_eq_true rfl) fun p e s m args below meth c ls hx hb hr hlk _ X hs hl => ?_
  subst hs
  have hS : va_S (MA wM ad s.heap.size) s.heap s.heap [] := va_S.rf
  have hl : lv_has ls 3 [(0, .ref (ad 0)), (1, .int p0)] := hl
  have kc31 : ∀ (fu : Nat), ∀ (st : GS) (x2 : Int32) (H : Heap) (locs : List Loc) (ls : Array Slot), GW ρ wM ad st H → va_S (MA wM ad s.heap.size) s.heap H locs → lv_has ls 3 [(0, .ref (ad 0)), (2, .int x2)] → mo_answerValue_31 fu st x2 = some res → W p l e ({ frames := 1, cells := 0, slots := 0, locals := 22 } : Room) s m args below meth c H locs 0 0 (MQ below (mQ (fun v H1 => v = none ∧ GW ρ wM ad res H1) (MA wM ad s.heap.size)) args s 0 0 (MA wM ad s.heap.size)) (F0 m 31 ls []) := by
    intro  fu
    induction fu with
    | zero => intro st x2 H locs ls hW hS hl h; cases h
    | succ fu hK31 =>
      intro st x2 H locs ls hW hS hl h
      unfold mo_answerValue_31 at h
      refine lv_iload_n (pc := 31) hx hb d146_31 rfl (lv_at hl 1 rfl) ?_
      refine lv_aload_n (pc := 32) hx hb d146_32 rfl (lv_at hl 0 rfl) ?_
      refine m_get (pc := 33) X hW 27 (v := .int (st.1 0 27)) wd1393 rfl rfl d146_33 ?_
      refine lv_icmp_ge (pc := 36) (tgt := 57) hx hb d146_36 (by decide) (fun c36 => ?_) (fun c36 => ?_)
      · have h := jb_t c36 h
        obtain rfl := Option.some.inj h
        exact m_vret (pc := 57) hx hb hr hlk hS ⟨rfl, hW⟩ (by decide) (by decide) d146_57
      · have h := jb_f c36 h
        refine lv_aload_n (pc := 39) hx hb d146_39 rfl (lv_at hl 0 rfl) ?_
        refine m_get (pc := 40) X hW 35 (v := .ref (ad 17)) wd1401 rfl rfl d146_40 ?_
        refine lv_iload_n (pc := 43) hx hb d146_43 rfl (lv_at hl 1 rfl) ?_
        refine lv_aload_n (pc := 44) hx hb d146_44 rfl (lv_at hl 0 rfl) ?_
        refine m_get (pc := 45) X hW 23 (v := .ref (ad 13)) wd1389 rfl rfl d146_45 ?_
        refine lv_iload_n (pc := 48) hx hb d146_48 rfl (lv_at hl 1 rfl) ?_
        obtain ⟨g1, h⟩ := jg_some h
        refine r_iald (pc := 49) X hW 13 (by decide) rfl (inb_in g1) d146_49 ?_
        obtain ⟨g2, h⟩ := jg_some h
        obtain ⟨st3, est3, h⟩ := jn_ex h
        refine m_iast (pc := 50) X hW hS 17 (by decide) rfl g2 est3 d146_50 (fun H locs hW hS => ?_)
        obtain ⟨v4, ev4, h⟩ := jn_ex h
        refine lv_iinc (pc := 51) (v := v4) (lv' := [(2, .int v4), (0, .ref (ad 0))]) hx hb d146_51 hl (k := 1) rfl (by rw [ev4]; rfl) (by decide) rfl (fun ls hl => ?_)
        refine lv_goto (pc := 54) (tgt := 31) hx hb d146_54 (by decide) ?_
        exact hK31 st3 v4 _ _ _ hW hS (lv_sub hl [1, 0] rfl) h
  unfold f_mo_answerValue at h
  refine lv_aload_n (pc := 0) hx hb d146_0 rfl (lv_at hl 0 rfl) ?_
  refine lv_iload_n (pc := 1) hx hb d146_1 rfl (lv_at hl 1 rfl) ?_
  obtain ⟨q5, hq5, h⟩ := jc_some h
  refine k_callV (pc := 2) (n := 1) X hS (c_mo_take l ρ ad _ st p0 q5 hW hq5) wd1613 wd1610 wd1612 sl223 wd11 (by decide) ⟨rfl, rfl, by decide, by decide⟩ (m_recv X hW) (As := [.int p0]) (rest := []) rfl rfl hl.1 (Nat.le_of_ble_eq_true rfl) d146_2 ⟨by decide, by decide⟩ (fun q hq => MA.mono hS.1 hq) (fun v H1 locs1 hv _ _ hSq5 => ?_)
  obtain ⟨rfl, hW⟩ := hv
  have hS := hSq5
  refine lv_aload_n (pc := 5) hx hb d146_5 rfl (lv_at hl 0 rfl) ?_
  refine lv_aload_n (pc := 6) hx hb d146_6 rfl (lv_at hl 0 rfl) ?_
  refine m_get (pc := 7) X hW 20 (v := .int (q5.1 0 20)) wd1386 rfl rfl d146_7 ?_
  obtain ⟨st6, est6, h⟩ := jn_ex h
  refine m_putI (pc := 10) X hW hS 32 est6 wd1398 rfl rfl rfl rfl rfl d146_10 (fun H locs hW hS => ?_)
  refine lv_aload_n (pc := 13) hx hb d146_13 rfl (lv_at hl 0 rfl) ?_
  refine lv_aload_n (pc := 14) hx hb d146_14 rfl (lv_at hl 0 rfl) ?_
  refine m_get (pc := 15) X hW 21 (v := .double (st6.2.1 0 21)) wd1387 rfl rfl d146_15 ?_
  obtain ⟨st7, est7, h⟩ := jn_ex h
  refine m_putD (pc := 18) X hW hS 34 est7 wd1400 rfl rfl rfl rfl rfl d146_18 (fun H locs hW hS => ?_)
  refine lv_aload_n (pc := 21) hx hb d146_21 rfl (lv_at hl 0 rfl) ?_
  refine lv_aload_n (pc := 22) hx hb d146_22 rfl (lv_at hl 0 rfl) ?_
  refine m_get (pc := 23) X hW 27 (v := .int (st7.1 0 27)) wd1393 rfl rfl d146_23 ?_
  obtain ⟨st8, est8, h⟩ := jn_ex h
  refine m_putI (pc := 26) X hW hS 33 est8 wd1399 rfl rfl rfl rfl rfl d146_26 (fun H locs hW hS => ?_)
  refine lv_iconst (pc := 29) (v := 0) hx hb d146_29 (by decide) ?_
  refine lv_istore_n (pc := 30) (lv' := [(2, .int 0), (0, .ref (ad 0)), (1, .int p0)]) hx hb d146_30 rfl hl (by decide) rfl (fun ls hl => ?_)
  exact kc31  FU st8 0 _ _ _ hW hS (lv_sub hl [1, 0] rfl) h
def f_mo_answerPart (st : GS) (p0 : Int32) (p1 : Int32) (p2 : Int32) (p3 : Int32) (p4 : Int32) (p5 : Int32) : Option (GS) := jb ((p3 * p4) = 1) (jc (f_mo_valueAt st p0 p1 p2) (fun q8 => jc (f_mo_answerValue st q8) (fun q9 => some q9))) (jn (uI st 0 36 p0) (fun st1 => jn (uI st1 0 37 p1) (fun st2 => jn (uI st2 0 38 p2) (fun st3 => jn (uI st3 0 39 p3) (fun st4 => jn (uI st4 0 40 p4) (fun st5 => jg (isB p5) (jn (uI st5 0 41 p5) (fun st7 => some st7))))))))
set_option maxHeartbeats 4000000 in
set_option maxRecDepth 100000 in
theorem c_mo_answerPart (l : Launch) (ρ : RH) (ad : Nat → Nat) (H : Heap) (st : GS) (p0 : Int32) (p1 : Int32) (p2 : Int32) (p3 : Int32) (p4 : Int32) (p5 : Int32) (res : GS) (hW : GW ρ wM ad st H) (h : f_mo_answerPart st p0 p1 p2 p3 p4 p5 = some res) : Met l y143 (wsOf y143 b143 7 none) ({ frames := 2, cells := 0, slots := 0, locals := 44 } : Room) (va_Pc [.ref (ad 0), .int p0, .int p1, .int p2, .int p3, .int p4, .int p5] (KP ρ H)) (mQ (fun v H1 => v = none ∧ GW ρ wM ad res H1) (MA wM ad H.size)) 0 0 (MA wM ad H.size) := by
  refine m_ofW (own := "WordFunctionsModel") (plainFor_of_name rfl) rfl (Nat.le_of_ble_eq_true rfl) fun p e s m args below meth c ls hx hb hr hlk _ X hs hl => ?_
  subst hs
  have hS : va_S (MA wM ad s.heap.size) s.heap s.heap [] := va_S.rf
  have hl : lv_has ls 7 [(0, .ref (ad 0)), (1, .int p0), (2, .int p1), (3, .int p2), (4, .int p3), (5, .int p4), (6, .int p5)] := hl
  unfold f_mo_answerPart at h
  refine lv_iload (pc := 0) hx hb d143_0 (lv_at hl 4 rfl) ?_
  refine lv_iload (pc := 2) hx hb d143_2 (lv_at hl 5 rfl) ?_
  refine lv_imul (pc := 4) hx hb d143_4 ?_
  refine lv_iconst (pc := 5) (v := 1) hx hb d143_5 (by decide) ?_
  refine lv_icmp_ne (pc := 6) (tgt := 21) hx hb d143_6 (by decide) (fun c6 => ?_) (fun c6 => ?_)
  · have h := jb_f c6 h
    refine lv_aload_n (pc := 21) hx hb d143_21 rfl (lv_at hl 0 rfl) ?_
    refine lv_iload_n (pc := 22) hx hb d143_22 rfl (lv_at hl 1 rfl) ?_
    obtain ⟨st1, est1, h⟩ := jn_ex h
    refine m_putI (pc := 23) X hW hS 36 est1 wd1402 rfl rfl rfl rfl rfl d143_23 (fun H locs hW hS => ?_)
    refine lv_aload_n (pc := 26) hx hb d143_26 rfl (lv_at hl 0 rfl) ?_
    refine lv_iload_n (pc := 27) hx hb d143_27 rfl (lv_at hl 2 rfl) ?_
    obtain ⟨st2, est2, h⟩ := jn_ex h
    refine m_putI (pc := 28) X hW hS 37 est2 wd1403 rfl rfl rfl rfl rfl d143_28 (fun H locs hW hS => ?_)
    refine lv_aload_n (pc := 31) hx hb d143_31 rfl (lv_at hl 0 rfl) ?_
    refine lv_iload_n (pc := 32) hx hb d143_32 rfl (lv_at hl 3 rfl) ?_
    obtain ⟨st3, est3, h⟩ := jn_ex h
    refine m_putI (pc := 33) X hW hS 38 est3 wd1404 rfl rfl rfl rfl rfl d143_33 (fun H locs hW hS => ?_)
    refine lv_aload_n (pc := 36) hx hb d143_36 rfl (lv_at hl 0 rfl) ?_
    refine lv_iload (pc := 37) hx hb d143_37 (lv_at hl 4 rfl) ?_
    obtain ⟨st4, est4, h⟩ := jn_ex h
    refine m_putI (pc := 39) X hW hS 39 est4 wd1405 rfl rfl rfl rfl rfl d143_39 (fun H locs hW hS => ?_)
    refine lv_aload_n (pc := 42) hx hb d143_42 rfl (lv_at hl 0 rfl) ?_
    refine lv_iload (pc := 43) hx hb d143_43 (lv_at hl 5 rfl) ?_
    obtain ⟨st5, est5, h⟩ := jn_ex h
    refine m_putI (pc := 45) X hW hS 40 est5 wd1406 rfl rfl rfl rfl rfl d143_45 (fun H locs hW hS => ?_)
    refine lv_aload_n (pc := 48) hx hb d143_48 rfl (lv_at hl 0 rfl) ?_
    refine lv_iload (pc := 49) hx hb d143_49 (lv_at hl 6 rfl) ?_
    obtain ⟨g6, h⟩ := jg_some h
    obtain ⟨st7, est7, h⟩ := jn_ex h
    refine m_putI (pc := 51) X hW hS 41 est7 wd1407 rfl rfl rfl (isB_nar g6) (isB_fit g6) d143_51 (fun H locs hW hS => ?_)
    obtain rfl := Option.some.inj h
    exact m_vret (pc := 54) hx hb hr hlk hS ⟨rfl, hW⟩ (by decide) (by decide) d143_54
  · have h := jb_t c6 h
    refine lv_aload_n (pc := 9) hx hb d143_9 rfl (lv_at hl 0 rfl) ?_
    refine lv_aload_n (pc := 10) hx hb d143_10 rfl (lv_at hl 0 rfl) ?_
    refine lv_iload_n (pc := 11) hx hb d143_11 rfl (lv_at hl 1 rfl) ?_
    refine lv_iload_n (pc := 12) hx hb d143_12 rfl (lv_at hl 2 rfl) ?_
    refine lv_iload_n (pc := 13) hx hb d143_13 rfl (lv_at hl 3 rfl) ?_
    obtain ⟨q8, hq8, h⟩ := jc_some h
    refine k_callV (pc := 14) (n := 3) X hS (c_mo_valueAt l ρ ad _ st p0 p1 p2 q8 hW hq8) wd1605 wd1602 wd1604 sl237 wd11 (by decide) ⟨rfl, rfl, by decide, by decide⟩ (m_recv X hW) (As := [.int p0, .int p1, .int p2]) (rest := [.ref (ad 0)]) rfl rfl hl.1 (Nat.le_of_ble_eq_true rfl) d143_14 ⟨by decide, by decide⟩ (fun q hq => False.elim hq) (fun v H1 locs1 hv _ _ hSq8 => ?_)
    obtain ⟨rfl, rfl⟩ := hv
    have hS := hSq8
    obtain ⟨q9, hq9, h⟩ := jc_some h
    refine k_callV (pc := 17) (n := 1) X hS (c_mo_answerValue l ρ ad _ st q8 q9 hW hq9) wd1833 wd1830 wd1832 sl146 wd11 (by decide) ⟨rfl, rfl, by decide, by decide⟩ (m_recv X hW) (As := [.int q8]) (rest := []) rfl rfl hl.1 (Nat.le_of_ble_eq_true rfl) d143_17 ⟨by decide, by decide⟩ (fun q hq => MA.mono hS.1 hq) (fun v H1 locs1 hv _ _ hSq9 => ?_)
    obtain ⟨rfl, hW⟩ := hv
    have hS := hSq9
    obtain rfl := Option.some.inj h
    exact m_vret (pc := 20) hx hb hr hlk hS ⟨rfl, hW⟩ (by decide) (by decide) d143_20
def mo_answerTruth_15  (st : GS) (z1 : UInt64) : Option (GS) := jn (uD st 0 34 z1) (fun st1 => some st1)
def f_mo_answerTruth (st : GS) (p0 : Int32) : Option (GS) := jn (uI st 0 32 3) (fun st2 => jb (p0 = 0) (mo_answerTruth_15  st2 FP.dconst0) (mo_answerTruth_15  st2 FP.dconst1))
set_option maxHeartbeats 4000000 in
set_option maxRecDepth 100000 in
theorem c_mo_answerTruth (l : Launch) (ρ : RH) (ad : Nat → Nat) (H : Heap) (st : GS) (p0 : Int32) (res : GS) (hW : GW ρ wM ad st H) (h : f_mo_answerTruth st p0 = some res) : Met l y145 (wsOf y145 b145 2 none) ({ frames := 0, cells := 0, slots := 0, locals := 0 } : Room) (va_Pc [.ref (ad 0), .int p0] (KP ρ H)) (mQ (fun v H1 => v = none ∧ GW ρ wM ad res H1) (MA wM ad H.size)) 0 0 (MA wM ad H.size) := by
  refine m_ofW (own := "WordFunctionsModel") (plainFor_of_name rfl) rfl (Nat.le_of_ble_eq_true rfl) fun p e s m args below meth c ls hx hb hr hlk _ X hs hl => ?_
  subst hs
  have hS : va_S (MA wM ad s.heap.size) s.heap s.heap [] := va_S.rf
  have hl : lv_has ls 2 [(0, .ref (ad 0)), (1, .int p0)] := hl
  have kc15 : ∀ (st : GS) (z1 : UInt64) (H : Heap) (locs : List Loc) (ls : Array Slot), GW ρ wM ad st H → va_S (MA wM ad s.heap.size) s.heap H locs → lv_has ls 2 [] → mo_answerTruth_15 st z1 = some res → W p l e ({ frames := 0, cells := 0, slots := 0, locals := 0 } : Room) s m args below meth c H locs 0 0 (MQ below (mQ (fun v H1 => v = none ∧ GW ρ wM ad res H1) (MA wM ad s.heap.size)) args s 0 0 (MA wM ad s.heap.size)) (F0 m 15 ls [.double z1, .ref (ad 0)]) := by
    intro st z1 H locs ls hW hS hl h
    unfold mo_answerTruth_15 at h
    obtain ⟨st1, est1, h⟩ := jn_ex h
    refine m_putD (pc := 15) X hW hS 34 est1 wd1400 rfl rfl rfl rfl rfl d145_15 (fun H locs hW hS => ?_)
    obtain rfl := Option.some.inj h
    exact m_vret (pc := 18) hx hb hr hlk hS ⟨rfl, hW⟩ (by decide) (by decide) d145_18
  unfold f_mo_answerTruth at h
  refine lv_aload_n (pc := 0) hx hb d145_0 rfl (lv_at hl 0 rfl) ?_
  refine lv_iconst (pc := 1) (v := 3) hx hb d145_1 (by decide) ?_
  obtain ⟨st2, est2, h⟩ := jn_ex h
  refine m_putI (pc := 2) X hW hS 32 est2 wd1398 rfl rfl rfl rfl rfl d145_2 (fun H locs hW hS => ?_)
  refine lv_aload_n (pc := 5) hx hb d145_5 rfl (lv_at hl 0 rfl) ?_
  refine lv_iload_n (pc := 6) hx hb d145_6 rfl (lv_at hl 1 rfl) ?_
  refine lv_if_eq (pc := 7) (tgt := 14) hx hb d145_7 (by decide) (fun c7 => ?_) (fun c7 => ?_)
  · have h := jb_t c7 h
    refine lv_dconst0 (pc := 14) hx hb d145_14 ?_
    exact kc15  st2 FP.dconst0 _ _ _ hW hS (lv_sub hl [] rfl) h
  · have h := jb_f c7 h
    refine lv_dconst1 (pc := 10) hx hb d145_10 ?_
    refine lv_goto (pc := 11) (tgt := 15) hx hb d145_11 (by decide) ?_
    exact kc15  st2 FP.dconst1 _ _ _ hW hS (lv_sub hl [] rfl) h
def mo_argument_158  : Nat → GS → Int32 → Int32 → Int32 → Option (GS)
  | 0, _, _, _, _ => none
  | fu + 1, st, x1, x2, x5 => jb ((x1 * x2) ≤ x5) (jn (uI st 0 8 ((st.1 0 8) + (x1 * x2))) (fun st1 => jn (uI st1 0 7 ((st1.1 0 7) + 1)) (fun st2 => some st2))) (jg (inb ((st.1 0 8) + x5) 513) (jn (uI st 9 ((st.1 0 8) + x5).toNatClampNeg 0) (fun st4 => jn (x5 + 1) (fun v5 => mo_argument_158 fu st4 x1 x2 v5))))
def mo_argument_91  (st : GS) (x1 : Int32) (x2 : Int32) (z1 : Int32) : Option (GS) := jn (uI st 0 0 z1) (fun st6 => jb ((st6.1 0 0) = 0) (jg (inb (st6.1 0 7) 30) (jn (uI st6 4 (st6.1 0 7).toNatClampNeg x1) (fun st8 => jg (inb (st8.1 0 7) 30) (jn (uI st8 5 (st8.1 0 7).toNatClampNeg x2) (fun st10 => jg (inb (st10.1 0 7) 30) (jn (uI st10 6 (st10.1 0 7).toNatClampNeg (st10.1 0 8)) (fun st12 => jg (inb (st12.1 0 7) 30) (jn (uI st12 7 (st12.1 0 7).toNatClampNeg 0) (fun st14 => jg (inb (st14.1 0 7) 30) (jn (uI st14 8 (st14.1 0 7).toNatClampNeg 0) (fun st16 => mo_argument_158 FU st16 x1 x2 0))))))))))) (some st6))
def mo_argument_86  (st : GS) (x1 : Int32) (x2 : Int32) : Option (GS) := mo_argument_91  st x1 x2 2
def mo_argument_72  (st : GS) (x1 : Int32) (x2 : Int32) (x4 : Int32) : Option (GS) := jb ((st.1 0 7) = 30) (mo_argument_86  st x1 x2) (jb (x4 = 0) (mo_argument_86  st x1 x2) (mo_argument_91  st x1 x2 0))
def mo_argument_68  (st : GS) (x1 : Int32) (x2 : Int32) : Option (GS) := mo_argument_91  st x1 x2 1
def mo_argument_51  (st : GS) (x1 : Int32) (x2 : Int32) (x3 : Int32) (z0 : Int32) : Option (GS) := jb (x3 = 0) (jb (x1 < 1) (mo_argument_68  st x1 x2) (jb (1 ≤ x2) (mo_argument_72  st x1 x2 z0) (mo_argument_68  st x1 x2))) (mo_argument_72  st x1 x2 z0)
def mo_argument_50  (st : GS) (x1 : Int32) (x2 : Int32) (x3 : Int32) : Option (GS) := mo_argument_51  st x1 x2 x3 0
def mo_argument_46  (st : GS) (x1 : Int32) (x2 : Int32) (x3 : Int32) : Option (GS) := mo_argument_51  st x1 x2 x3 1
def mo_argument_13  (st : GS) (x1 : Int32) (x2 : Int32) (z0 : Int32) : Option (GS) := jb (z0 = 0) (jb (512 < x1) (mo_argument_50  st x1 x2 z0) (jb (512 < x2) (mo_argument_50  st x1 x2 z0) (jb (512 < ((st.1 0 8) + (x1 * x2))) (mo_argument_50  st x1 x2 z0) (mo_argument_46  st x1 x2 z0)))) (mo_argument_46  st x1 x2 z0)
def mo_argument_12  (st : GS) (x1 : Int32) (x2 : Int32) : Option (GS) := mo_argument_13  st x1 x2 0
def f_mo_argument (st : GS) (p0 : Int32) (p1 : Int32) : Option (GS) := jb (p0 = 0) (jb (p1 = 0) (mo_argument_13  st p0 p1 1) (mo_argument_12  st p0 p1)) (mo_argument_12  st p0 p1)
set_option maxHeartbeats 4000000 in
set_option maxRecDepth 100000 in
theorem c_mo_argument (l : Launch) (ρ : RH) (ad : Nat → Nat) (H : Heap) (st : GS) (p0 : Int32) (p1 : Int32) (res : GS) (hW : GW ρ wM ad st H) (h : f_mo_argument st p0 p1 = some res) : Met l y147 (wsOf y147 b147 6 none) ({ frames := 0, cells := 0, slots := 0, locals := 0 } : Room) (va_Pc [.ref (ad 0), .int p0, .int p1] (KP ρ H)) (mQ (fun v H1 => v = none ∧ GW ρ wM ad res H1) (MA wM ad H.size)) 0 0 (MA wM ad H.size) := by
  refine m_ofW (own := "WordFunctionsModel") (plainFor_of_name rfl) rfl (Nat.le_of_ble_eq_true rfl) fun p e s m args below meth c ls hx hb hr hlk _ X hs hl => ?_
  subst hs
  have hS : va_S (MA wM ad s.heap.size) s.heap s.heap [] := va_S.rf
  have hl : lv_has ls 6 [(0, .ref (ad 0)), (1, .int p0), (2, .int p1)] := hl
  have kc158 : ∀ (fu : Nat), ∀ (st : GS) (x1 : Int32) (x2 : Int32) (x5 : Int32) (H : Heap) (locs : List Loc) (ls : Array Slot), GW ρ wM ad st H → va_S (MA wM ad s.heap.size) s.heap H locs → lv_has ls 6 [(0, .ref (ad 0)), (1, .int x1), (2, .int x2), (5, .int x5)] → mo_argument_158 fu st x1 x2 x5 = some res → W p l e ({ frames := 0, cells := 0, slots := 0, locals := 0 } : Room) s m args below meth c H locs 0 0 (MQ below (mQ (fun v H1 => v = none ∧ GW ρ wM ad res H1) (MA wM ad s.heap.size)) args s 0 0 (MA wM ad s.heap.size)) (F0 m 158 ls []) := by
    intro  fu
    induction fu with
    | zero => intro st x1 x2 x5 H locs ls hW hS hl h; cases h
    | succ fu hK158 =>
      intro st x1 x2 x5 H locs ls hW hS hl h
      unfold mo_argument_158 at h
      refine lv_iload (pc := 158) hx hb d147_158 (lv_at hl 3 rfl) ?_
      refine lv_iload_n (pc := 160) hx hb d147_160 rfl (lv_at hl 1 rfl) ?_
      refine lv_iload_n (pc := 161) hx hb d147_161 rfl (lv_at hl 2 rfl) ?_
      refine lv_imul (pc := 162) hx hb d147_162 ?_
      refine lv_icmp_ge (pc := 163) (tgt := 185) hx hb d147_163 (by decide) (fun c163 => ?_) (fun c163 => ?_)
      · have h := jb_t c163 h
        refine lv_aload_n (pc := 185) hx hb d147_185 rfl (lv_at hl 0 rfl) ?_
        refine lv_dup (pc := 186) hx hb d147_186 rfl ?_
        refine m_get (pc := 187) X hW 8 (v := .int (st.1 0 8)) wd1374 rfl rfl d147_187 ?_
        refine lv_iload_n (pc := 190) hx hb d147_190 rfl (lv_at hl 1 rfl) ?_
        refine lv_iload_n (pc := 191) hx hb d147_191 rfl (lv_at hl 2 rfl) ?_
        refine lv_imul (pc := 192) hx hb d147_192 ?_
        refine lv_iadd (pc := 193) hx hb d147_193 ?_
        obtain ⟨st1, est1, h⟩ := jn_ex h
        refine m_putI (pc := 194) X hW hS 8 est1 wd1374 rfl rfl rfl rfl rfl d147_194 (fun H locs hW hS => ?_)
        refine lv_aload_n (pc := 197) hx hb d147_197 rfl (lv_at hl 0 rfl) ?_
        refine lv_dup (pc := 198) hx hb d147_198 rfl ?_
        refine m_get (pc := 199) X hW 7 (v := .int (st1.1 0 7)) wd1373 rfl rfl d147_199 ?_
        refine lv_iconst (pc := 202) (v := 1) hx hb d147_202 (by decide) ?_
        refine lv_iadd (pc := 203) hx hb d147_203 ?_
        obtain ⟨st2, est2, h⟩ := jn_ex h
        refine m_putI (pc := 204) X hW hS 7 est2 wd1373 rfl rfl rfl rfl rfl d147_204 (fun H locs hW hS => ?_)
        obtain rfl := Option.some.inj h
        exact m_vret (pc := 207) hx hb hr hlk hS ⟨rfl, hW⟩ (by decide) (by decide) d147_207
      · have h := jb_f c163 h
        refine lv_aload_n (pc := 166) hx hb d147_166 rfl (lv_at hl 0 rfl) ?_
        refine m_get (pc := 167) X hW 14 (v := .ref (ad 9)) wd1380 rfl rfl d147_167 ?_
        refine lv_aload_n (pc := 170) hx hb d147_170 rfl (lv_at hl 0 rfl) ?_
        refine m_get (pc := 171) X hW 8 (v := .int (st.1 0 8)) wd1374 rfl rfl d147_171 ?_
        refine lv_iload (pc := 174) hx hb d147_174 (lv_at hl 3 rfl) ?_
        refine lv_iadd (pc := 176) hx hb d147_176 ?_
        refine lv_iconst (pc := 177) (v := 0) hx hb d147_177 (by decide) ?_
        obtain ⟨g3, h⟩ := jg_some h
        obtain ⟨st4, est4, h⟩ := jn_ex h
        refine m_iast (pc := 178) X hW hS 9 (by decide) rfl g3 est4 d147_178 (fun H locs hW hS => ?_)
        obtain ⟨v5, ev5, h⟩ := jn_ex h
        refine lv_iinc (pc := 179) (v := v5) (lv' := [(5, .int v5), (0, .ref (ad 0)), (1, .int x1), (2, .int x2)]) hx hb d147_179 hl (k := 3) rfl (by rw [ev5]; rfl) (by decide) rfl (fun ls hl => ?_)
        refine lv_goto (pc := 182) (tgt := 158) hx hb d147_182 (by decide) ?_
        exact hK158 st4 x1 x2 v5 _ _ _ hW hS (lv_sub hl [1, 2, 3, 0] rfl) h
  have kc91 : ∀ (st : GS) (x1 : Int32) (x2 : Int32) (z1 : Int32) (H : Heap) (locs : List Loc) (ls : Array Slot), GW ρ wM ad st H → va_S (MA wM ad s.heap.size) s.heap H locs → lv_has ls 6 [(0, .ref (ad 0)), (1, .int x1), (2, .int x2)] → mo_argument_91 st x1 x2 z1 = some res → W p l e ({ frames := 0, cells := 0, slots := 0, locals := 0 } : Room) s m args below meth c H locs 0 0 (MQ below (mQ (fun v H1 => v = none ∧ GW ρ wM ad res H1) (MA wM ad s.heap.size)) args s 0 0 (MA wM ad s.heap.size)) (F0 m 91 ls [.int z1, .ref (ad 0)]) := by
    intro st x1 x2 z1 H locs ls hW hS hl h
    unfold mo_argument_91 at h
    obtain ⟨st6, est6, h⟩ := jn_ex h
    refine m_putI (pc := 91) X hW hS 0 est6 wd1366 rfl rfl rfl rfl rfl d147_91 (fun H locs hW hS => ?_)
    refine lv_aload_n (pc := 94) hx hb d147_94 rfl (lv_at hl 0 rfl) ?_
    refine m_get (pc := 95) X hW 0 (v := .int (st6.1 0 0)) wd1366 rfl rfl d147_95 ?_
    refine lv_if_eq (pc := 98) (tgt := 102) hx hb d147_98 (by decide) (fun c98 => ?_) (fun c98 => ?_)
    · have h := jb_t c98 h
      refine lv_aload_n (pc := 102) hx hb d147_102 rfl (lv_at hl 0 rfl) ?_
      refine m_get (pc := 103) X hW 9 (v := .ref (ad 4)) wd1375 rfl rfl d147_103 ?_
      refine lv_aload_n (pc := 106) hx hb d147_106 rfl (lv_at hl 0 rfl) ?_
      refine m_get (pc := 107) X hW 7 (v := .int (st6.1 0 7)) wd1373 rfl rfl d147_107 ?_
      refine lv_iload_n (pc := 110) hx hb d147_110 rfl (lv_at hl 1 rfl) ?_
      obtain ⟨g7, h⟩ := jg_some h
      obtain ⟨st8, est8, h⟩ := jn_ex h
      refine m_iast (pc := 111) X hW hS 4 (by decide) rfl g7 est8 d147_111 (fun H locs hW hS => ?_)
      refine lv_aload_n (pc := 112) hx hb d147_112 rfl (lv_at hl 0 rfl) ?_
      refine m_get (pc := 113) X hW 10 (v := .ref (ad 5)) wd1376 rfl rfl d147_113 ?_
      refine lv_aload_n (pc := 116) hx hb d147_116 rfl (lv_at hl 0 rfl) ?_
      refine m_get (pc := 117) X hW 7 (v := .int (st8.1 0 7)) wd1373 rfl rfl d147_117 ?_
      refine lv_iload_n (pc := 120) hx hb d147_120 rfl (lv_at hl 2 rfl) ?_
      obtain ⟨g9, h⟩ := jg_some h
      obtain ⟨st10, est10, h⟩ := jn_ex h
      refine m_iast (pc := 121) X hW hS 5 (by decide) rfl g9 est10 d147_121 (fun H locs hW hS => ?_)
      refine lv_aload_n (pc := 122) hx hb d147_122 rfl (lv_at hl 0 rfl) ?_
      refine m_get (pc := 123) X hW 11 (v := .ref (ad 6)) wd1377 rfl rfl d147_123 ?_
      refine lv_aload_n (pc := 126) hx hb d147_126 rfl (lv_at hl 0 rfl) ?_
      refine m_get (pc := 127) X hW 7 (v := .int (st10.1 0 7)) wd1373 rfl rfl d147_127 ?_
      refine lv_aload_n (pc := 130) hx hb d147_130 rfl (lv_at hl 0 rfl) ?_
      refine m_get (pc := 131) X hW 8 (v := .int (st10.1 0 8)) wd1374 rfl rfl d147_131 ?_
      obtain ⟨g11, h⟩ := jg_some h
      obtain ⟨st12, est12, h⟩ := jn_ex h
      refine m_iast (pc := 134) X hW hS 6 (by decide) rfl g11 est12 d147_134 (fun H locs hW hS => ?_)
      refine lv_aload_n (pc := 135) hx hb d147_135 rfl (lv_at hl 0 rfl) ?_
      refine m_get (pc := 136) X hW 12 (v := .ref (ad 7)) wd1378 rfl rfl d147_136 ?_
      refine lv_aload_n (pc := 139) hx hb d147_139 rfl (lv_at hl 0 rfl) ?_
      refine m_get (pc := 140) X hW 7 (v := .int (st12.1 0 7)) wd1373 rfl rfl d147_140 ?_
      refine lv_iconst (pc := 143) (v := 0) hx hb d147_143 (by decide) ?_
      obtain ⟨g13, h⟩ := jg_some h
      obtain ⟨st14, est14, h⟩ := jn_ex h
      refine m_iast (pc := 144) X hW hS 7 (by decide) rfl g13 est14 d147_144 (fun H locs hW hS => ?_)
      refine lv_aload_n (pc := 145) hx hb d147_145 rfl (lv_at hl 0 rfl) ?_
      refine m_get (pc := 146) X hW 13 (v := .ref (ad 8)) wd1379 rfl rfl d147_146 ?_
      refine lv_aload_n (pc := 149) hx hb d147_149 rfl (lv_at hl 0 rfl) ?_
      refine m_get (pc := 150) X hW 7 (v := .int (st14.1 0 7)) wd1373 rfl rfl d147_150 ?_
      refine lv_iconst (pc := 153) (v := 0) hx hb d147_153 (by decide) ?_
      obtain ⟨g15, h⟩ := jg_some h
      obtain ⟨st16, est16, h⟩ := jn_ex h
      refine m_iast (pc := 154) X hW hS 8 (by decide) rfl g15 est16 d147_154 (fun H locs hW hS => ?_)
      refine lv_iconst (pc := 155) (v := 0) hx hb d147_155 (by decide) ?_
      refine lv_istore (pc := 156) (lv' := [(5, .int 0), (0, .ref (ad 0)), (1, .int x1), (2, .int x2)]) hx hb d147_156 hl (by decide) rfl (fun ls hl => ?_)
      exact kc158  FU st16 x1 x2 0 _ _ _ hW hS (lv_sub hl [1, 2, 3, 0] rfl) h
    · have h := jb_f c98 h
      obtain rfl := Option.some.inj h
      exact m_vret (pc := 101) hx hb hr hlk hS ⟨rfl, hW⟩ (by decide) (by decide) d147_101
  have kc86 : ∀ (st : GS) (x1 : Int32) (x2 : Int32) (H : Heap) (locs : List Loc) (ls : Array Slot), GW ρ wM ad st H → va_S (MA wM ad s.heap.size) s.heap H locs → lv_has ls 6 [(0, .ref (ad 0)), (1, .int x1), (2, .int x2)] → mo_argument_86 st x1 x2 = some res → W p l e ({ frames := 0, cells := 0, slots := 0, locals := 0 } : Room) s m args below meth c H locs 0 0 (MQ below (mQ (fun v H1 => v = none ∧ GW ρ wM ad res H1) (MA wM ad s.heap.size)) args s 0 0 (MA wM ad s.heap.size)) (F0 m 86 ls [.ref (ad 0)]) := by
    intro st x1 x2 H locs ls hW hS hl h
    unfold mo_argument_86 at h
    refine lv_iconst (pc := 86) (v := 2) hx hb d147_86 (by decide) ?_
    refine lv_goto (pc := 87) (tgt := 91) hx hb d147_87 (by decide) ?_
    exact kc91  st x1 x2 2 _ _ _ hW hS (lv_sub hl [0, 1, 2] rfl) h
  have kc72 : ∀ (st : GS) (x1 : Int32) (x2 : Int32) (x4 : Int32) (H : Heap) (locs : List Loc) (ls : Array Slot), GW ρ wM ad st H → va_S (MA wM ad s.heap.size) s.heap H locs → lv_has ls 6 [(0, .ref (ad 0)), (1, .int x1), (2, .int x2), (4, .int x4)] → mo_argument_72 st x1 x2 x4 = some res → W p l e ({ frames := 0, cells := 0, slots := 0, locals := 0 } : Room) s m args below meth c H locs 0 0 (MQ below (mQ (fun v H1 => v = none ∧ GW ρ wM ad res H1) (MA wM ad s.heap.size)) args s 0 0 (MA wM ad s.heap.size)) (F0 m 72 ls [.ref (ad 0)]) := by
    intro st x1 x2 x4 H locs ls hW hS hl h
    unfold mo_argument_72 at h
    refine lv_aload_n (pc := 72) hx hb d147_72 rfl (lv_at hl 0 rfl) ?_
    refine m_get (pc := 73) X hW 7 (v := .int (st.1 0 7)) wd1373 rfl rfl d147_73 ?_
    refine lv_bipush (pc := 76) (v := 30) hx hb d147_76 (by decide) ?_
    refine lv_icmp_eq (pc := 78) (tgt := 86) hx hb d147_78 (by decide) (fun c78 => ?_) (fun c78 => ?_)
    · have h := jb_t c78 h
      exact kc86  st x1 x2 _ _ _ hW hS (lv_sub hl [0, 1, 2] rfl) h
    · have h := jb_f c78 h
      refine lv_iload (pc := 81) hx hb d147_81 (lv_at hl 3 rfl) ?_
      refine lv_if_ne (pc := 83) (tgt := 90) hx hb d147_83 (by decide) (fun c83 => ?_) (fun c83 => ?_)
      · have h := jb_f c83 h
        refine lv_iconst (pc := 90) (v := 0) hx hb d147_90 (by decide) ?_
        exact kc91  st x1 x2 0 _ _ _ hW hS (lv_sub hl [0, 1, 2] rfl) h
      · have h := jb_t c83 h
        exact kc86  st x1 x2 _ _ _ hW hS (lv_sub hl [0, 1, 2] rfl) h
  have kc68 : ∀ (st : GS) (x1 : Int32) (x2 : Int32) (H : Heap) (locs : List Loc) (ls : Array Slot), GW ρ wM ad st H → va_S (MA wM ad s.heap.size) s.heap H locs → lv_has ls 6 [(0, .ref (ad 0)), (1, .int x1), (2, .int x2)] → mo_argument_68 st x1 x2 = some res → W p l e ({ frames := 0, cells := 0, slots := 0, locals := 0 } : Room) s m args below meth c H locs 0 0 (MQ below (mQ (fun v H1 => v = none ∧ GW ρ wM ad res H1) (MA wM ad s.heap.size)) args s 0 0 (MA wM ad s.heap.size)) (F0 m 68 ls [.ref (ad 0)]) := by
    intro st x1 x2 H locs ls hW hS hl h
    unfold mo_argument_68 at h
    refine lv_iconst (pc := 68) (v := 1) hx hb d147_68 (by decide) ?_
    refine lv_goto (pc := 69) (tgt := 91) hx hb d147_69 (by decide) ?_
    exact kc91  st x1 x2 1 _ _ _ hW hS (lv_sub hl [0, 1, 2] rfl) h
  have kc51 : ∀ (st : GS) (x1 : Int32) (x2 : Int32) (x3 : Int32) (z0 : Int32) (H : Heap) (locs : List Loc) (ls : Array Slot), GW ρ wM ad st H → va_S (MA wM ad s.heap.size) s.heap H locs → lv_has ls 6 [(0, .ref (ad 0)), (1, .int x1), (2, .int x2), (3, .int x3)] → mo_argument_51 st x1 x2 x3 z0 = some res → W p l e ({ frames := 0, cells := 0, slots := 0, locals := 0 } : Room) s m args below meth c H locs 0 0 (MQ below (mQ (fun v H1 => v = none ∧ GW ρ wM ad res H1) (MA wM ad s.heap.size)) args s 0 0 (MA wM ad s.heap.size)) (F0 m 51 ls [.int z0]) := by
    intro st x1 x2 x3 z0 H locs ls hW hS hl h
    unfold mo_argument_51 at h
    refine lv_istore (pc := 51) (lv' := [(4, .int z0), (0, .ref (ad 0)), (1, .int x1), (2, .int x2), (3, .int x3)]) hx hb d147_51 hl (by decide) rfl (fun ls hl => ?_)
    refine lv_aload_n (pc := 53) hx hb d147_53 rfl (lv_at hl 1 rfl) ?_
    refine lv_iload_n (pc := 54) hx hb d147_54 rfl (lv_at hl 4 rfl) ?_
    refine lv_if_ne (pc := 55) (tgt := 72) hx hb d147_55 (by decide) (fun c55 => ?_) (fun c55 => ?_)
    · have h := jb_f c55 h
      exact kc72  st x1 x2 z0 _ _ _ hW hS (lv_sub hl [1, 2, 3, 0] rfl) h
    · have h := jb_t c55 h
      refine lv_iload_n (pc := 58) hx hb d147_58 rfl (lv_at hl 2 rfl) ?_
      refine lv_iconst (pc := 59) (v := 1) hx hb d147_59 (by decide) ?_
      refine lv_icmp_lt (pc := 60) (tgt := 68) hx hb d147_60 (by decide) (fun c60 => ?_) (fun c60 => ?_)
      · have h := jb_t c60 h
        exact kc68  st x1 x2 _ _ _ hW hS (lv_sub hl [1, 2, 3] rfl) h
      · have h := jb_f c60 h
        refine lv_iload_n (pc := 63) hx hb d147_63 rfl (lv_at hl 3 rfl) ?_
        refine lv_iconst (pc := 64) (v := 1) hx hb d147_64 (by decide) ?_
        refine lv_icmp_ge (pc := 65) (tgt := 72) hx hb d147_65 (by decide) (fun c65 => ?_) (fun c65 => ?_)
        · have h := jb_t c65 h
          exact kc72  st x1 x2 z0 _ _ _ hW hS (lv_sub hl [1, 2, 3, 0] rfl) h
        · have h := jb_f c65 h
          exact kc68  st x1 x2 _ _ _ hW hS (lv_sub hl [1, 2, 3] rfl) h
  have kc50 : ∀ (st : GS) (x1 : Int32) (x2 : Int32) (x3 : Int32) (H : Heap) (locs : List Loc) (ls : Array Slot), GW ρ wM ad st H → va_S (MA wM ad s.heap.size) s.heap H locs → lv_has ls 6 [(0, .ref (ad 0)), (1, .int x1), (2, .int x2), (3, .int x3)] → mo_argument_50 st x1 x2 x3 = some res → W p l e ({ frames := 0, cells := 0, slots := 0, locals := 0 } : Room) s m args below meth c H locs 0 0 (MQ below (mQ (fun v H1 => v = none ∧ GW ρ wM ad res H1) (MA wM ad s.heap.size)) args s 0 0 (MA wM ad s.heap.size)) (F0 m 50 ls []) := by
    intro st x1 x2 x3 H locs ls hW hS hl h
    unfold mo_argument_50 at h
    refine lv_iconst (pc := 50) (v := 0) hx hb d147_50 (by decide) ?_
    exact kc51  st x1 x2 x3 0 _ _ _ hW hS (lv_sub hl [0, 1, 2, 3] rfl) h
  have kc46 : ∀ (st : GS) (x1 : Int32) (x2 : Int32) (x3 : Int32) (H : Heap) (locs : List Loc) (ls : Array Slot), GW ρ wM ad st H → va_S (MA wM ad s.heap.size) s.heap H locs → lv_has ls 6 [(0, .ref (ad 0)), (1, .int x1), (2, .int x2), (3, .int x3)] → mo_argument_46 st x1 x2 x3 = some res → W p l e ({ frames := 0, cells := 0, slots := 0, locals := 0 } : Room) s m args below meth c H locs 0 0 (MQ below (mQ (fun v H1 => v = none ∧ GW ρ wM ad res H1) (MA wM ad s.heap.size)) args s 0 0 (MA wM ad s.heap.size)) (F0 m 46 ls []) := by
    intro st x1 x2 x3 H locs ls hW hS hl h
    unfold mo_argument_46 at h
    refine lv_iconst (pc := 46) (v := 1) hx hb d147_46 (by decide) ?_
    refine lv_goto (pc := 47) (tgt := 51) hx hb d147_47 (by decide) ?_
    exact kc51  st x1 x2 x3 1 _ _ _ hW hS (lv_sub hl [0, 1, 2, 3] rfl) h
  have kc13 : ∀ (st : GS) (x1 : Int32) (x2 : Int32) (z0 : Int32) (H : Heap) (locs : List Loc) (ls : Array Slot), GW ρ wM ad st H → va_S (MA wM ad s.heap.size) s.heap H locs → lv_has ls 6 [(0, .ref (ad 0)), (1, .int x1), (2, .int x2)] → mo_argument_13 st x1 x2 z0 = some res → W p l e ({ frames := 0, cells := 0, slots := 0, locals := 0 } : Room) s m args below meth c H locs 0 0 (MQ below (mQ (fun v H1 => v = none ∧ GW ρ wM ad res H1) (MA wM ad s.heap.size)) args s 0 0 (MA wM ad s.heap.size)) (F0 m 13 ls [.int z0]) := by
    intro st x1 x2 z0 H locs ls hW hS hl h
    unfold mo_argument_13 at h
    refine lv_istore_n (pc := 13) (lv' := [(3, .int z0), (0, .ref (ad 0)), (1, .int x1), (2, .int x2)]) hx hb d147_13 rfl hl (by decide) rfl (fun ls hl => ?_)
    refine lv_iload_n (pc := 14) hx hb d147_14 rfl (lv_at hl 0 rfl) ?_
    refine lv_if_ne (pc := 15) (tgt := 46) hx hb d147_15 (by decide) (fun c15 => ?_) (fun c15 => ?_)
    · have h := jb_f c15 h
      exact kc46  st x1 x2 z0 _ _ _ hW hS (lv_sub hl [1, 2, 3, 0] rfl) h
    · have h := jb_t c15 h
      refine lv_iload_n (pc := 18) hx hb d147_18 rfl (lv_at hl 2 rfl) ?_
      refine lv_sipush (pc := 19) (v := 512) hx hb d147_19 (by decide) ?_
      refine lv_icmp_gt (pc := 22) (tgt := 50) hx hb d147_22 (by decide) (fun c22 => ?_) (fun c22 => ?_)
      · have h := jb_t c22 h
        exact kc50  st x1 x2 z0 _ _ _ hW hS (lv_sub hl [1, 2, 3, 0] rfl) h
      · have h := jb_f c22 h
        refine lv_iload_n (pc := 25) hx hb d147_25 rfl (lv_at hl 3 rfl) ?_
        refine lv_sipush (pc := 26) (v := 512) hx hb d147_26 (by decide) ?_
        refine lv_icmp_gt (pc := 29) (tgt := 50) hx hb d147_29 (by decide) (fun c29 => ?_) (fun c29 => ?_)
        · have h := jb_t c29 h
          exact kc50  st x1 x2 z0 _ _ _ hW hS (lv_sub hl [1, 2, 3, 0] rfl) h
        · have h := jb_f c29 h
          refine lv_aload_n (pc := 32) hx hb d147_32 rfl (lv_at hl 1 rfl) ?_
          refine m_get (pc := 33) X hW 8 (v := .int (st.1 0 8)) wd1374 rfl rfl d147_33 ?_
          refine lv_iload_n (pc := 36) hx hb d147_36 rfl (lv_at hl 2 rfl) ?_
          refine lv_iload_n (pc := 37) hx hb d147_37 rfl (lv_at hl 3 rfl) ?_
          refine lv_imul (pc := 38) hx hb d147_38 ?_
          refine lv_iadd (pc := 39) hx hb d147_39 ?_
          refine lv_sipush (pc := 40) (v := 512) hx hb d147_40 (by decide) ?_
          refine lv_icmp_gt (pc := 43) (tgt := 50) hx hb d147_43 (by decide) (fun c43 => ?_) (fun c43 => ?_)
          · have h := jb_t c43 h
            exact kc50  st x1 x2 z0 _ _ _ hW hS (lv_sub hl [1, 2, 3, 0] rfl) h
          · have h := jb_f c43 h
            exact kc46  st x1 x2 z0 _ _ _ hW hS (lv_sub hl [1, 2, 3, 0] rfl) h
  have kc12 : ∀ (st : GS) (x1 : Int32) (x2 : Int32) (H : Heap) (locs : List Loc) (ls : Array Slot), GW ρ wM ad st H → va_S (MA wM ad s.heap.size) s.heap H locs → lv_has ls 6 [(0, .ref (ad 0)), (1, .int x1), (2, .int x2)] → mo_argument_12 st x1 x2 = some res → W p l e ({ frames := 0, cells := 0, slots := 0, locals := 0 } : Room) s m args below meth c H locs 0 0 (MQ below (mQ (fun v H1 => v = none ∧ GW ρ wM ad res H1) (MA wM ad s.heap.size)) args s 0 0 (MA wM ad s.heap.size)) (F0 m 12 ls []) := by
    intro st x1 x2 H locs ls hW hS hl h
    unfold mo_argument_12 at h
    refine lv_iconst (pc := 12) (v := 0) hx hb d147_12 (by decide) ?_
    exact kc13  st x1 x2 0 _ _ _ hW hS (lv_sub hl [0, 1, 2] rfl) h
  unfold f_mo_argument at h
  refine lv_iload_n (pc := 0) hx hb d147_0 rfl (lv_at hl 1 rfl) ?_
  refine lv_if_ne (pc := 1) (tgt := 12) hx hb d147_1 (by decide) (fun c1 => ?_) (fun c1 => ?_)
  · have h := jb_f c1 h
    exact kc12  st p0 p1 _ _ _ hW hS (lv_sub hl [0, 1, 2] rfl) h
  · have h := jb_t c1 h
    refine lv_iload_n (pc := 4) hx hb d147_4 rfl (lv_at hl 2 rfl) ?_
    refine lv_if_ne (pc := 5) (tgt := 12) hx hb d147_5 (by decide) (fun c5 => ?_) (fun c5 => ?_)
    · have h := jb_f c5 h
      exact kc12  st p0 p1 _ _ _ hW hS (lv_sub hl [0, 1, 2] rfl) h
    · have h := jb_t c5 h
      refine lv_iconst (pc := 8) (v := 1) hx hb d147_8 (by decide) ?_
      refine lv_goto (pc := 9) (tgt := 13) hx hb d147_9 (by decide) ?_
      exact kc13  st p0 p1 1 _ _ _ hW hS (lv_sub hl [0, 1, 2] rfl) h
def mo_arity_25   (x0 : Int32) : Option (Int32) := jb (x0 = 117) (some (-1)) (jb (x0 = 118) (some (-1)) (jb (x0 = 67) (some 102) (jb (x0 = 68) (some 102) (jb (x0 = 69) (some 303) (jb (x0 = 70) (some 203) (jb (x0 = 71) (some 203) (jb (x0 = 72) (some 404) (jb (x0 = 73) (some 304) (jb (x0 = 74) (some 202) (jb (x0 = 75) (some 101) (jb (x0 = 76) (some 101) (jb (x0 = 77) (some 101) (jb (x0 = 78) (some 101) (jb (x0 = 79) (some 130) (jb (x0 = 80) (some 330) (jb (x0 = 81) (some 202) (jb (x0 = 82) (some 101) (jb (x0 = 83) (some 101) (jb (x0 = 84) (some 101) (jb (x0 = 85) (some 101) (jb (x0 = 86) (some 101) (jb (x0 = 87) (some 101) (jb (x0 = 88) (some 203) (jb (x0 = 89) (some 202) (jb (x0 = 90) (some 304) (jb (x0 = 91) (some 304) (jb (x0 = 92) (some 203) (jb (x0 = 93) (some 203) (jb (x0 = 94) (some 203) (jb (x0 = 95) (some 1) (jb (x0 = 96) (some 1) (jb (x0 = 97) (some 101) (jb (x0 = 98) (some 101) (jb (x0 = 99) (some 205) (jb (x0 = 100) (some 101) (jb (x0 = 101) (some 303) (jb (x0 = 102) (some 303) (jb (x0 = 103) (some 101) (jb (x0 = 104) (some 101) (jb (x0 = 105) (some 101) (jb (x0 = 106) (some 101) (jb (x0 = 107) (some 101) (jb (x0 = 108) (some 101) (jb (x0 = 109) (some 102) (jb (x0 = 110) (some 102) (jb (x0 = 111) (some 202) (jb (x0 = 112) (some 202) (jb (x0 = 113) (some 202) (jb (x0 = 114) (some 303) (jb (x0 = 115) (some 203) (jb (x0 = 116) (some 203) (jb (x0 = 117) (some 101) (jb (x0 = 118) (some 101) (jb (x0 = 119) (some 101) (jb (x0 = 120) (some 101) (jb (x0 = 121) (some 101) (jb (x0 = 122) (some 101) (jb (x0 = 123) (some 101) (jb (x0 = 124) (some 101) (jb (x0 = 125) (some 101) (jb (x0 = 126) (some 101) (jb (x0 = 127) (some 101) (jb (x0 = 128) (some 101) (jb (x0 = 129) (some 0) (jb (x0 = 130) (some 101) (jb (x0 = 131) (some 101) (jb (x0 = 132) (some 0) (some 101))))))))))))))))))))))))))))))))))))))))))))))))))))))))))))))))))))
def f_mo_arity  (p0 : Int32) : Option (Int32) := jb (p0 < 66) (some (-1)) (jb (132 < p0) (some (-1)) (jb (p0 ≤ 83) (mo_arity_25  p0) (jb (p0 < 87) (some (-1)) (mo_arity_25  p0))))
set_option maxHeartbeats 4000000 in
set_option maxRecDepth 100000 in
theorem c_mo_arity (l : Launch) (ρ : RH) (H : Heap) (p0 : Int32) (res : Int32) (h : f_mo_arity p0 = some res) : Met l y148 (wsOf y148 b148 1 (some .int)) ({ frames := 0, cells := 0, slots := 0, locals := 0 } : Room) (va_Pc [.int p0] (KP ρ H)) (mQ (fun v H1 => v = some (.int res) ∧ H1 = H) (fun _ => False)) 0 0 (fun _ => False) := by
  refine m_ofW (own := "WordFunctionsModel") (plainFor_of_name rfl) rfl (Nat.le_of_ble_eq_true rfl) fun p e s m args below meth c ls hx hb hr hlk _ X hs hl => ?_
  subst hs
  have hS : va_S (fun _ => False) s.heap s.heap [] := va_S.rf
  have hl : lv_has ls 1 [(0, .int p0)] := hl
  have kc25 : ∀ (x0 : Int32) (locs : List Loc) (ls : Array Slot), va_S (fun _ => False) s.heap s.heap locs → lv_has ls 1 [(0, .int x0)] → mo_arity_25 x0 = some res → W p l e ({ frames := 0, cells := 0, slots := 0, locals := 0 } : Room) s m args below meth c s.heap locs 0 0 (MQ below (mQ (fun v H1 => v = some (.int res) ∧ H1 = s.heap) (fun _ => False)) args s 0 0 (fun _ => False)) (F0 m 25 ls []) := by
    intro x0 locs ls hS hl h
    unfold mo_arity_25 at h
    refine lv_iload_n (pc := 25) hx hb d148_25 rfl (lv_at hl 0 rfl) ?_
    refine lv_bipush (pc := 26) (v := 117) hx hb d148_26 (by decide) ?_
    refine lv_icmp_eq (pc := 28) (tgt := 37) hx hb d148_28 (by decide) (fun c28 => ?_) (fun c28 => ?_)
    · have h := jb_t c28 h
      refine lv_iconst (pc := 37) (v := (-1)) hx hb d148_37 (by decide) ?_
      obtain rfl := Option.some.inj h
      exact m_iret (pc := 38) hx hb hr hlk hS ⟨rfl, rfl⟩ (by decide) (by decide) d148_38
    · have h := jb_f c28 h
      refine lv_iload_n (pc := 31) hx hb d148_31 rfl (lv_at hl 0 rfl) ?_
      refine lv_bipush (pc := 32) (v := 118) hx hb d148_32 (by decide) ?_
      refine lv_icmp_ne (pc := 34) (tgt := 39) hx hb d148_34 (by decide) (fun c34 => ?_) (fun c34 => ?_)
      · have h := jb_f c34 h
        refine lv_iload_n (pc := 39) hx hb d148_39 rfl (lv_at hl 0 rfl) ?_
        by_cases c40_67 : x0 = 67
        · have h := jb_t c40_67 h
          refine lv_tableIn (pc := 40) (off := 280) (tgt := 320) hx hb d148_40 (by rw [c40_67]; decide) (by rw [c40_67]; decide) (by rw [c40_67]; rfl) (by decide) ?_
          refine lv_bipush (pc := 320) (v := 102) hx hb d148_320 (by decide) ?_
          obtain rfl := Option.some.inj h
          exact m_iret (pc := 322) hx hb hr hlk hS ⟨rfl, rfl⟩ (by decide) (by decide) d148_322
        have h := jb_f c40_67 h
        by_cases c40_68 : x0 = 68
        · have h := jb_t c40_68 h
          refine lv_tableIn (pc := 40) (off := 280) (tgt := 320) hx hb d148_40 (by rw [c40_68]; decide) (by rw [c40_68]; decide) (by rw [c40_68]; rfl) (by decide) ?_
          refine lv_bipush (pc := 320) (v := 102) hx hb d148_320 (by decide) ?_
          obtain rfl := Option.some.inj h
          exact m_iret (pc := 322) hx hb hr hlk hS ⟨rfl, rfl⟩ (by decide) (by decide) d148_322
        have h := jb_f c40_68 h
        by_cases c40_69 : x0 = 69
        · have h := jb_t c40_69 h
          refine lv_tableIn (pc := 40) (off := 283) (tgt := 323) hx hb d148_40 (by rw [c40_69]; decide) (by rw [c40_69]; decide) (by rw [c40_69]; rfl) (by decide) ?_
          refine lv_sipush (pc := 323) (v := 303) hx hb d148_323 (by decide) ?_
          obtain rfl := Option.some.inj h
          exact m_iret (pc := 326) hx hb hr hlk hS ⟨rfl, rfl⟩ (by decide) (by decide) d148_326
        have h := jb_f c40_69 h
        by_cases c40_70 : x0 = 70
        · have h := jb_t c40_70 h
          refine lv_tableIn (pc := 40) (off := 287) (tgt := 327) hx hb d148_40 (by rw [c40_70]; decide) (by rw [c40_70]; decide) (by rw [c40_70]; rfl) (by decide) ?_
          refine lv_sipush (pc := 327) (v := 203) hx hb d148_327 (by decide) ?_
          obtain rfl := Option.some.inj h
          exact m_iret (pc := 330) hx hb hr hlk hS ⟨rfl, rfl⟩ (by decide) (by decide) d148_330
        have h := jb_f c40_70 h
        by_cases c40_71 : x0 = 71
        · have h := jb_t c40_71 h
          refine lv_tableIn (pc := 40) (off := 287) (tgt := 327) hx hb d148_40 (by rw [c40_71]; decide) (by rw [c40_71]; decide) (by rw [c40_71]; rfl) (by decide) ?_
          refine lv_sipush (pc := 327) (v := 203) hx hb d148_327 (by decide) ?_
          obtain rfl := Option.some.inj h
          exact m_iret (pc := 330) hx hb hr hlk hS ⟨rfl, rfl⟩ (by decide) (by decide) d148_330
        have h := jb_f c40_71 h
        by_cases c40_72 : x0 = 72
        · have h := jb_t c40_72 h
          refine lv_tableIn (pc := 40) (off := 291) (tgt := 331) hx hb d148_40 (by rw [c40_72]; decide) (by rw [c40_72]; decide) (by rw [c40_72]; rfl) (by decide) ?_
          refine lv_sipush (pc := 331) (v := 404) hx hb d148_331 (by decide) ?_
          obtain rfl := Option.some.inj h
          exact m_iret (pc := 334) hx hb hr hlk hS ⟨rfl, rfl⟩ (by decide) (by decide) d148_334
        have h := jb_f c40_72 h
        by_cases c40_73 : x0 = 73
        · have h := jb_t c40_73 h
          refine lv_tableIn (pc := 40) (off := 295) (tgt := 335) hx hb d148_40 (by rw [c40_73]; decide) (by rw [c40_73]; decide) (by rw [c40_73]; rfl) (by decide) ?_
          refine lv_sipush (pc := 335) (v := 304) hx hb d148_335 (by decide) ?_
          obtain rfl := Option.some.inj h
          exact m_iret (pc := 338) hx hb hr hlk hS ⟨rfl, rfl⟩ (by decide) (by decide) d148_338
        have h := jb_f c40_73 h
        by_cases c40_74 : x0 = 74
        · have h := jb_t c40_74 h
          refine lv_tableIn (pc := 40) (off := 299) (tgt := 339) hx hb d148_40 (by rw [c40_74]; decide) (by rw [c40_74]; decide) (by rw [c40_74]; rfl) (by decide) ?_
          refine lv_sipush (pc := 339) (v := 202) hx hb d148_339 (by decide) ?_
          obtain rfl := Option.some.inj h
          exact m_iret (pc := 342) hx hb hr hlk hS ⟨rfl, rfl⟩ (by decide) (by decide) d148_342
        have h := jb_f c40_74 h
        by_cases c40_75 : x0 = 75
        · have h := jb_t c40_75 h
          refine lv_tableIn (pc := 40) (off := 319) (tgt := 359) hx hb d148_40 (by rw [c40_75]; decide) (by rw [c40_75]; decide) (by rw [c40_75]; rfl) (by decide) ?_
          refine lv_bipush (pc := 359) (v := 101) hx hb d148_359 (by decide) ?_
          obtain rfl := Option.some.inj h
          exact m_iret (pc := 361) hx hb hr hlk hS ⟨rfl, rfl⟩ (by decide) (by decide) d148_361
        have h := jb_f c40_75 h
        by_cases c40_76 : x0 = 76
        · have h := jb_t c40_76 h
          refine lv_tableIn (pc := 40) (off := 319) (tgt := 359) hx hb d148_40 (by rw [c40_76]; decide) (by rw [c40_76]; decide) (by rw [c40_76]; rfl) (by decide) ?_
          refine lv_bipush (pc := 359) (v := 101) hx hb d148_359 (by decide) ?_
          obtain rfl := Option.some.inj h
          exact m_iret (pc := 361) hx hb hr hlk hS ⟨rfl, rfl⟩ (by decide) (by decide) d148_361
        have h := jb_f c40_76 h
        by_cases c40_77 : x0 = 77
        · have h := jb_t c40_77 h
          refine lv_tableIn (pc := 40) (off := 319) (tgt := 359) hx hb d148_40 (by rw [c40_77]; decide) (by rw [c40_77]; decide) (by rw [c40_77]; rfl) (by decide) ?_
          refine lv_bipush (pc := 359) (v := 101) hx hb d148_359 (by decide) ?_
          obtain rfl := Option.some.inj h
          exact m_iret (pc := 361) hx hb hr hlk hS ⟨rfl, rfl⟩ (by decide) (by decide) d148_361
        have h := jb_f c40_77 h
        by_cases c40_78 : x0 = 78
        · have h := jb_t c40_78 h
          refine lv_tableIn (pc := 40) (off := 319) (tgt := 359) hx hb d148_40 (by rw [c40_78]; decide) (by rw [c40_78]; decide) (by rw [c40_78]; rfl) (by decide) ?_
          refine lv_bipush (pc := 359) (v := 101) hx hb d148_359 (by decide) ?_
          obtain rfl := Option.some.inj h
          exact m_iret (pc := 361) hx hb hr hlk hS ⟨rfl, rfl⟩ (by decide) (by decide) d148_361
        have h := jb_f c40_78 h
        by_cases c40_79 : x0 = 79
        · have h := jb_t c40_79 h
          refine lv_tableIn (pc := 40) (off := 303) (tgt := 343) hx hb d148_40 (by rw [c40_79]; decide) (by rw [c40_79]; decide) (by rw [c40_79]; rfl) (by decide) ?_
          refine lv_sipush (pc := 343) (v := 130) hx hb d148_343 (by decide) ?_
          obtain rfl := Option.some.inj h
          exact m_iret (pc := 346) hx hb hr hlk hS ⟨rfl, rfl⟩ (by decide) (by decide) d148_346
        have h := jb_f c40_79 h
        by_cases c40_80 : x0 = 80
        · have h := jb_t c40_80 h
          refine lv_tableIn (pc := 40) (off := 307) (tgt := 347) hx hb d148_40 (by rw [c40_80]; decide) (by rw [c40_80]; decide) (by rw [c40_80]; rfl) (by decide) ?_
          refine lv_sipush (pc := 347) (v := 330) hx hb d148_347 (by decide) ?_
          obtain rfl := Option.some.inj h
          exact m_iret (pc := 350) hx hb hr hlk hS ⟨rfl, rfl⟩ (by decide) (by decide) d148_350
        have h := jb_f c40_80 h
        by_cases c40_81 : x0 = 81
        · have h := jb_t c40_81 h
          refine lv_tableIn (pc := 40) (off := 299) (tgt := 339) hx hb d148_40 (by rw [c40_81]; decide) (by rw [c40_81]; decide) (by rw [c40_81]; rfl) (by decide) ?_
          refine lv_sipush (pc := 339) (v := 202) hx hb d148_339 (by decide) ?_
          obtain rfl := Option.some.inj h
          exact m_iret (pc := 342) hx hb hr hlk hS ⟨rfl, rfl⟩ (by decide) (by decide) d148_342
        have h := jb_f c40_81 h
        by_cases c40_82 : x0 = 82
        · have h := jb_t c40_82 h
          refine lv_tableIn (pc := 40) (off := 319) (tgt := 359) hx hb d148_40 (by rw [c40_82]; decide) (by rw [c40_82]; decide) (by rw [c40_82]; rfl) (by decide) ?_
          refine lv_bipush (pc := 359) (v := 101) hx hb d148_359 (by decide) ?_
          obtain rfl := Option.some.inj h
          exact m_iret (pc := 361) hx hb hr hlk hS ⟨rfl, rfl⟩ (by decide) (by decide) d148_361
        have h := jb_f c40_82 h
        by_cases c40_83 : x0 = 83
        · have h := jb_t c40_83 h
          refine lv_tableIn (pc := 40) (off := 319) (tgt := 359) hx hb d148_40 (by rw [c40_83]; decide) (by rw [c40_83]; decide) (by rw [c40_83]; rfl) (by decide) ?_
          refine lv_bipush (pc := 359) (v := 101) hx hb d148_359 (by decide) ?_
          obtain rfl := Option.some.inj h
          exact m_iret (pc := 361) hx hb hr hlk hS ⟨rfl, rfl⟩ (by decide) (by decide) d148_361
        have h := jb_f c40_83 h
        by_cases c40_84 : x0 = 84
        · have h := jb_t c40_84 h
          refine lv_tableIn (pc := 40) (off := 319) (tgt := 359) hx hb d148_40 (by rw [c40_84]; decide) (by rw [c40_84]; decide) (by rw [c40_84]; rfl) (by decide) ?_
          refine lv_bipush (pc := 359) (v := 101) hx hb d148_359 (by decide) ?_
          obtain rfl := Option.some.inj h
          exact m_iret (pc := 361) hx hb hr hlk hS ⟨rfl, rfl⟩ (by decide) (by decide) d148_361
        have h := jb_f c40_84 h
        by_cases c40_85 : x0 = 85
        · have h := jb_t c40_85 h
          refine lv_tableIn (pc := 40) (off := 319) (tgt := 359) hx hb d148_40 (by rw [c40_85]; decide) (by rw [c40_85]; decide) (by rw [c40_85]; rfl) (by decide) ?_
          refine lv_bipush (pc := 359) (v := 101) hx hb d148_359 (by decide) ?_
          obtain rfl := Option.some.inj h
          exact m_iret (pc := 361) hx hb hr hlk hS ⟨rfl, rfl⟩ (by decide) (by decide) d148_361
        have h := jb_f c40_85 h
        by_cases c40_86 : x0 = 86
        · have h := jb_t c40_86 h
          refine lv_tableIn (pc := 40) (off := 319) (tgt := 359) hx hb d148_40 (by rw [c40_86]; decide) (by rw [c40_86]; decide) (by rw [c40_86]; rfl) (by decide) ?_
          refine lv_bipush (pc := 359) (v := 101) hx hb d148_359 (by decide) ?_
          obtain rfl := Option.some.inj h
          exact m_iret (pc := 361) hx hb hr hlk hS ⟨rfl, rfl⟩ (by decide) (by decide) d148_361
        have h := jb_f c40_86 h
        by_cases c40_87 : x0 = 87
        · have h := jb_t c40_87 h
          refine lv_tableIn (pc := 40) (off := 319) (tgt := 359) hx hb d148_40 (by rw [c40_87]; decide) (by rw [c40_87]; decide) (by rw [c40_87]; rfl) (by decide) ?_
          refine lv_bipush (pc := 359) (v := 101) hx hb d148_359 (by decide) ?_
          obtain rfl := Option.some.inj h
          exact m_iret (pc := 361) hx hb hr hlk hS ⟨rfl, rfl⟩ (by decide) (by decide) d148_361
        have h := jb_f c40_87 h
        by_cases c40_88 : x0 = 88
        · have h := jb_t c40_88 h
          refine lv_tableIn (pc := 40) (off := 287) (tgt := 327) hx hb d148_40 (by rw [c40_88]; decide) (by rw [c40_88]; decide) (by rw [c40_88]; rfl) (by decide) ?_
          refine lv_sipush (pc := 327) (v := 203) hx hb d148_327 (by decide) ?_
          obtain rfl := Option.some.inj h
          exact m_iret (pc := 330) hx hb hr hlk hS ⟨rfl, rfl⟩ (by decide) (by decide) d148_330
        have h := jb_f c40_88 h
        by_cases c40_89 : x0 = 89
        · have h := jb_t c40_89 h
          refine lv_tableIn (pc := 40) (off := 299) (tgt := 339) hx hb d148_40 (by rw [c40_89]; decide) (by rw [c40_89]; decide) (by rw [c40_89]; rfl) (by decide) ?_
          refine lv_sipush (pc := 339) (v := 202) hx hb d148_339 (by decide) ?_
          obtain rfl := Option.some.inj h
          exact m_iret (pc := 342) hx hb hr hlk hS ⟨rfl, rfl⟩ (by decide) (by decide) d148_342
        have h := jb_f c40_89 h
        by_cases c40_90 : x0 = 90
        · have h := jb_t c40_90 h
          refine lv_tableIn (pc := 40) (off := 295) (tgt := 335) hx hb d148_40 (by rw [c40_90]; decide) (by rw [c40_90]; decide) (by rw [c40_90]; rfl) (by decide) ?_
          refine lv_sipush (pc := 335) (v := 304) hx hb d148_335 (by decide) ?_
          obtain rfl := Option.some.inj h
          exact m_iret (pc := 338) hx hb hr hlk hS ⟨rfl, rfl⟩ (by decide) (by decide) d148_338
        have h := jb_f c40_90 h
        by_cases c40_91 : x0 = 91
        · have h := jb_t c40_91 h
          refine lv_tableIn (pc := 40) (off := 295) (tgt := 335) hx hb d148_40 (by rw [c40_91]; decide) (by rw [c40_91]; decide) (by rw [c40_91]; rfl) (by decide) ?_
          refine lv_sipush (pc := 335) (v := 304) hx hb d148_335 (by decide) ?_
          obtain rfl := Option.some.inj h
          exact m_iret (pc := 338) hx hb hr hlk hS ⟨rfl, rfl⟩ (by decide) (by decide) d148_338
        have h := jb_f c40_91 h
        by_cases c40_92 : x0 = 92
        · have h := jb_t c40_92 h
          refine lv_tableIn (pc := 40) (off := 287) (tgt := 327) hx hb d148_40 (by rw [c40_92]; decide) (by rw [c40_92]; decide) (by rw [c40_92]; rfl) (by decide) ?_
          refine lv_sipush (pc := 327) (v := 203) hx hb d148_327 (by decide) ?_
          obtain rfl := Option.some.inj h
          exact m_iret (pc := 330) hx hb hr hlk hS ⟨rfl, rfl⟩ (by decide) (by decide) d148_330
        have h := jb_f c40_92 h
        by_cases c40_93 : x0 = 93
        · have h := jb_t c40_93 h
          refine lv_tableIn (pc := 40) (off := 287) (tgt := 327) hx hb d148_40 (by rw [c40_93]; decide) (by rw [c40_93]; decide) (by rw [c40_93]; rfl) (by decide) ?_
          refine lv_sipush (pc := 327) (v := 203) hx hb d148_327 (by decide) ?_
          obtain rfl := Option.some.inj h
          exact m_iret (pc := 330) hx hb hr hlk hS ⟨rfl, rfl⟩ (by decide) (by decide) d148_330
        have h := jb_f c40_93 h
        by_cases c40_94 : x0 = 94
        · have h := jb_t c40_94 h
          refine lv_tableIn (pc := 40) (off := 287) (tgt := 327) hx hb d148_40 (by rw [c40_94]; decide) (by rw [c40_94]; decide) (by rw [c40_94]; rfl) (by decide) ?_
          refine lv_sipush (pc := 327) (v := 203) hx hb d148_327 (by decide) ?_
          obtain rfl := Option.some.inj h
          exact m_iret (pc := 330) hx hb hr hlk hS ⟨rfl, rfl⟩ (by decide) (by decide) d148_330
        have h := jb_f c40_94 h
        by_cases c40_95 : x0 = 95
        · have h := jb_t c40_95 h
          refine lv_tableIn (pc := 40) (off := 311) (tgt := 351) hx hb d148_40 (by rw [c40_95]; decide) (by rw [c40_95]; decide) (by rw [c40_95]; rfl) (by decide) ?_
          refine lv_iconst (pc := 351) (v := 1) hx hb d148_351 (by decide) ?_
          obtain rfl := Option.some.inj h
          exact m_iret (pc := 352) hx hb hr hlk hS ⟨rfl, rfl⟩ (by decide) (by decide) d148_352
        have h := jb_f c40_95 h
        by_cases c40_96 : x0 = 96
        · have h := jb_t c40_96 h
          refine lv_tableIn (pc := 40) (off := 311) (tgt := 351) hx hb d148_40 (by rw [c40_96]; decide) (by rw [c40_96]; decide) (by rw [c40_96]; rfl) (by decide) ?_
          refine lv_iconst (pc := 351) (v := 1) hx hb d148_351 (by decide) ?_
          obtain rfl := Option.some.inj h
          exact m_iret (pc := 352) hx hb hr hlk hS ⟨rfl, rfl⟩ (by decide) (by decide) d148_352
        have h := jb_f c40_96 h
        by_cases c40_97 : x0 = 97
        · have h := jb_t c40_97 h
          refine lv_tableIn (pc := 40) (off := 319) (tgt := 359) hx hb d148_40 (by rw [c40_97]; decide) (by rw [c40_97]; decide) (by rw [c40_97]; rfl) (by decide) ?_
          refine lv_bipush (pc := 359) (v := 101) hx hb d148_359 (by decide) ?_
          obtain rfl := Option.some.inj h
          exact m_iret (pc := 361) hx hb hr hlk hS ⟨rfl, rfl⟩ (by decide) (by decide) d148_361
        have h := jb_f c40_97 h
        by_cases c40_98 : x0 = 98
        · have h := jb_t c40_98 h
          refine lv_tableIn (pc := 40) (off := 319) (tgt := 359) hx hb d148_40 (by rw [c40_98]; decide) (by rw [c40_98]; decide) (by rw [c40_98]; rfl) (by decide) ?_
          refine lv_bipush (pc := 359) (v := 101) hx hb d148_359 (by decide) ?_
          obtain rfl := Option.some.inj h
          exact m_iret (pc := 361) hx hb hr hlk hS ⟨rfl, rfl⟩ (by decide) (by decide) d148_361
        have h := jb_f c40_98 h
        by_cases c40_99 : x0 = 99
        · have h := jb_t c40_99 h
          refine lv_tableIn (pc := 40) (off := 313) (tgt := 353) hx hb d148_40 (by rw [c40_99]; decide) (by rw [c40_99]; decide) (by rw [c40_99]; rfl) (by decide) ?_
          refine lv_sipush (pc := 353) (v := 205) hx hb d148_353 (by decide) ?_
          obtain rfl := Option.some.inj h
          exact m_iret (pc := 356) hx hb hr hlk hS ⟨rfl, rfl⟩ (by decide) (by decide) d148_356
        have h := jb_f c40_99 h
        by_cases c40_100 : x0 = 100
        · have h := jb_t c40_100 h
          refine lv_tableIn (pc := 40) (off := 319) (tgt := 359) hx hb d148_40 (by rw [c40_100]; decide) (by rw [c40_100]; decide) (by rw [c40_100]; rfl) (by decide) ?_
          refine lv_bipush (pc := 359) (v := 101) hx hb d148_359 (by decide) ?_
          obtain rfl := Option.some.inj h
          exact m_iret (pc := 361) hx hb hr hlk hS ⟨rfl, rfl⟩ (by decide) (by decide) d148_361
        have h := jb_f c40_100 h
        by_cases c40_101 : x0 = 101
        · have h := jb_t c40_101 h
          refine lv_tableIn (pc := 40) (off := 283) (tgt := 323) hx hb d148_40 (by rw [c40_101]; decide) (by rw [c40_101]; decide) (by rw [c40_101]; rfl) (by decide) ?_
          refine lv_sipush (pc := 323) (v := 303) hx hb d148_323 (by decide) ?_
          obtain rfl := Option.some.inj h
          exact m_iret (pc := 326) hx hb hr hlk hS ⟨rfl, rfl⟩ (by decide) (by decide) d148_326
        have h := jb_f c40_101 h
        by_cases c40_102 : x0 = 102
        · have h := jb_t c40_102 h
          refine lv_tableIn (pc := 40) (off := 283) (tgt := 323) hx hb d148_40 (by rw [c40_102]; decide) (by rw [c40_102]; decide) (by rw [c40_102]; rfl) (by decide) ?_
          refine lv_sipush (pc := 323) (v := 303) hx hb d148_323 (by decide) ?_
          obtain rfl := Option.some.inj h
          exact m_iret (pc := 326) hx hb hr hlk hS ⟨rfl, rfl⟩ (by decide) (by decide) d148_326
        have h := jb_f c40_102 h
        by_cases c40_103 : x0 = 103
        · have h := jb_t c40_103 h
          refine lv_tableIn (pc := 40) (off := 319) (tgt := 359) hx hb d148_40 (by rw [c40_103]; decide) (by rw [c40_103]; decide) (by rw [c40_103]; rfl) (by decide) ?_
          refine lv_bipush (pc := 359) (v := 101) hx hb d148_359 (by decide) ?_
          obtain rfl := Option.some.inj h
          exact m_iret (pc := 361) hx hb hr hlk hS ⟨rfl, rfl⟩ (by decide) (by decide) d148_361
        have h := jb_f c40_103 h
        by_cases c40_104 : x0 = 104
        · have h := jb_t c40_104 h
          refine lv_tableIn (pc := 40) (off := 319) (tgt := 359) hx hb d148_40 (by rw [c40_104]; decide) (by rw [c40_104]; decide) (by rw [c40_104]; rfl) (by decide) ?_
          refine lv_bipush (pc := 359) (v := 101) hx hb d148_359 (by decide) ?_
          obtain rfl := Option.some.inj h
          exact m_iret (pc := 361) hx hb hr hlk hS ⟨rfl, rfl⟩ (by decide) (by decide) d148_361
        have h := jb_f c40_104 h
        by_cases c40_105 : x0 = 105
        · have h := jb_t c40_105 h
          refine lv_tableIn (pc := 40) (off := 319) (tgt := 359) hx hb d148_40 (by rw [c40_105]; decide) (by rw [c40_105]; decide) (by rw [c40_105]; rfl) (by decide) ?_
          refine lv_bipush (pc := 359) (v := 101) hx hb d148_359 (by decide) ?_
          obtain rfl := Option.some.inj h
          exact m_iret (pc := 361) hx hb hr hlk hS ⟨rfl, rfl⟩ (by decide) (by decide) d148_361
        have h := jb_f c40_105 h
        by_cases c40_106 : x0 = 106
        · have h := jb_t c40_106 h
          refine lv_tableIn (pc := 40) (off := 319) (tgt := 359) hx hb d148_40 (by rw [c40_106]; decide) (by rw [c40_106]; decide) (by rw [c40_106]; rfl) (by decide) ?_
          refine lv_bipush (pc := 359) (v := 101) hx hb d148_359 (by decide) ?_
          obtain rfl := Option.some.inj h
          exact m_iret (pc := 361) hx hb hr hlk hS ⟨rfl, rfl⟩ (by decide) (by decide) d148_361
        have h := jb_f c40_106 h
        by_cases c40_107 : x0 = 107
        · have h := jb_t c40_107 h
          refine lv_tableIn (pc := 40) (off := 319) (tgt := 359) hx hb d148_40 (by rw [c40_107]; decide) (by rw [c40_107]; decide) (by rw [c40_107]; rfl) (by decide) ?_
          refine lv_bipush (pc := 359) (v := 101) hx hb d148_359 (by decide) ?_
          obtain rfl := Option.some.inj h
          exact m_iret (pc := 361) hx hb hr hlk hS ⟨rfl, rfl⟩ (by decide) (by decide) d148_361
        have h := jb_f c40_107 h
        by_cases c40_108 : x0 = 108
        · have h := jb_t c40_108 h
          refine lv_tableIn (pc := 40) (off := 319) (tgt := 359) hx hb d148_40 (by rw [c40_108]; decide) (by rw [c40_108]; decide) (by rw [c40_108]; rfl) (by decide) ?_
          refine lv_bipush (pc := 359) (v := 101) hx hb d148_359 (by decide) ?_
          obtain rfl := Option.some.inj h
          exact m_iret (pc := 361) hx hb hr hlk hS ⟨rfl, rfl⟩ (by decide) (by decide) d148_361
        have h := jb_f c40_108 h
        by_cases c40_109 : x0 = 109
        · have h := jb_t c40_109 h
          refine lv_tableIn (pc := 40) (off := 280) (tgt := 320) hx hb d148_40 (by rw [c40_109]; decide) (by rw [c40_109]; decide) (by rw [c40_109]; rfl) (by decide) ?_
          refine lv_bipush (pc := 320) (v := 102) hx hb d148_320 (by decide) ?_
          obtain rfl := Option.some.inj h
          exact m_iret (pc := 322) hx hb hr hlk hS ⟨rfl, rfl⟩ (by decide) (by decide) d148_322
        have h := jb_f c40_109 h
        by_cases c40_110 : x0 = 110
        · have h := jb_t c40_110 h
          refine lv_tableIn (pc := 40) (off := 280) (tgt := 320) hx hb d148_40 (by rw [c40_110]; decide) (by rw [c40_110]; decide) (by rw [c40_110]; rfl) (by decide) ?_
          refine lv_bipush (pc := 320) (v := 102) hx hb d148_320 (by decide) ?_
          obtain rfl := Option.some.inj h
          exact m_iret (pc := 322) hx hb hr hlk hS ⟨rfl, rfl⟩ (by decide) (by decide) d148_322
        have h := jb_f c40_110 h
        by_cases c40_111 : x0 = 111
        · have h := jb_t c40_111 h
          refine lv_tableIn (pc := 40) (off := 299) (tgt := 339) hx hb d148_40 (by rw [c40_111]; decide) (by rw [c40_111]; decide) (by rw [c40_111]; rfl) (by decide) ?_
          refine lv_sipush (pc := 339) (v := 202) hx hb d148_339 (by decide) ?_
          obtain rfl := Option.some.inj h
          exact m_iret (pc := 342) hx hb hr hlk hS ⟨rfl, rfl⟩ (by decide) (by decide) d148_342
        have h := jb_f c40_111 h
        by_cases c40_112 : x0 = 112
        · have h := jb_t c40_112 h
          refine lv_tableIn (pc := 40) (off := 299) (tgt := 339) hx hb d148_40 (by rw [c40_112]; decide) (by rw [c40_112]; decide) (by rw [c40_112]; rfl) (by decide) ?_
          refine lv_sipush (pc := 339) (v := 202) hx hb d148_339 (by decide) ?_
          obtain rfl := Option.some.inj h
          exact m_iret (pc := 342) hx hb hr hlk hS ⟨rfl, rfl⟩ (by decide) (by decide) d148_342
        have h := jb_f c40_112 h
        by_cases c40_113 : x0 = 113
        · have h := jb_t c40_113 h
          refine lv_tableIn (pc := 40) (off := 299) (tgt := 339) hx hb d148_40 (by rw [c40_113]; decide) (by rw [c40_113]; decide) (by rw [c40_113]; rfl) (by decide) ?_
          refine lv_sipush (pc := 339) (v := 202) hx hb d148_339 (by decide) ?_
          obtain rfl := Option.some.inj h
          exact m_iret (pc := 342) hx hb hr hlk hS ⟨rfl, rfl⟩ (by decide) (by decide) d148_342
        have h := jb_f c40_113 h
        by_cases c40_114 : x0 = 114
        · have h := jb_t c40_114 h
          refine lv_tableIn (pc := 40) (off := 283) (tgt := 323) hx hb d148_40 (by rw [c40_114]; decide) (by rw [c40_114]; decide) (by rw [c40_114]; rfl) (by decide) ?_
          refine lv_sipush (pc := 323) (v := 303) hx hb d148_323 (by decide) ?_
          obtain rfl := Option.some.inj h
          exact m_iret (pc := 326) hx hb hr hlk hS ⟨rfl, rfl⟩ (by decide) (by decide) d148_326
        have h := jb_f c40_114 h
        by_cases c40_115 : x0 = 115
        · have h := jb_t c40_115 h
          refine lv_tableIn (pc := 40) (off := 287) (tgt := 327) hx hb d148_40 (by rw [c40_115]; decide) (by rw [c40_115]; decide) (by rw [c40_115]; rfl) (by decide) ?_
          refine lv_sipush (pc := 327) (v := 203) hx hb d148_327 (by decide) ?_
          obtain rfl := Option.some.inj h
          exact m_iret (pc := 330) hx hb hr hlk hS ⟨rfl, rfl⟩ (by decide) (by decide) d148_330
        have h := jb_f c40_115 h
        by_cases c40_116 : x0 = 116
        · have h := jb_t c40_116 h
          refine lv_tableIn (pc := 40) (off := 287) (tgt := 327) hx hb d148_40 (by rw [c40_116]; decide) (by rw [c40_116]; decide) (by rw [c40_116]; rfl) (by decide) ?_
          refine lv_sipush (pc := 327) (v := 203) hx hb d148_327 (by decide) ?_
          obtain rfl := Option.some.inj h
          exact m_iret (pc := 330) hx hb hr hlk hS ⟨rfl, rfl⟩ (by decide) (by decide) d148_330
        have h := jb_f c40_116 h
        by_cases c40_117 : x0 = 117
        · have h := jb_t c40_117 h
          refine lv_tableIn (pc := 40) (off := 319) (tgt := 359) hx hb d148_40 (by rw [c40_117]; decide) (by rw [c40_117]; decide) (by rw [c40_117]; rfl) (by decide) ?_
          refine lv_bipush (pc := 359) (v := 101) hx hb d148_359 (by decide) ?_
          obtain rfl := Option.some.inj h
          exact m_iret (pc := 361) hx hb hr hlk hS ⟨rfl, rfl⟩ (by decide) (by decide) d148_361
        have h := jb_f c40_117 h
        by_cases c40_118 : x0 = 118
        · have h := jb_t c40_118 h
          refine lv_tableIn (pc := 40) (off := 319) (tgt := 359) hx hb d148_40 (by rw [c40_118]; decide) (by rw [c40_118]; decide) (by rw [c40_118]; rfl) (by decide) ?_
          refine lv_bipush (pc := 359) (v := 101) hx hb d148_359 (by decide) ?_
          obtain rfl := Option.some.inj h
          exact m_iret (pc := 361) hx hb hr hlk hS ⟨rfl, rfl⟩ (by decide) (by decide) d148_361
        have h := jb_f c40_118 h
        by_cases c40_119 : x0 = 119
        · have h := jb_t c40_119 h
          refine lv_tableIn (pc := 40) (off := 319) (tgt := 359) hx hb d148_40 (by rw [c40_119]; decide) (by rw [c40_119]; decide) (by rw [c40_119]; rfl) (by decide) ?_
          refine lv_bipush (pc := 359) (v := 101) hx hb d148_359 (by decide) ?_
          obtain rfl := Option.some.inj h
          exact m_iret (pc := 361) hx hb hr hlk hS ⟨rfl, rfl⟩ (by decide) (by decide) d148_361
        have h := jb_f c40_119 h
        by_cases c40_120 : x0 = 120
        · have h := jb_t c40_120 h
          refine lv_tableIn (pc := 40) (off := 319) (tgt := 359) hx hb d148_40 (by rw [c40_120]; decide) (by rw [c40_120]; decide) (by rw [c40_120]; rfl) (by decide) ?_
          refine lv_bipush (pc := 359) (v := 101) hx hb d148_359 (by decide) ?_
          obtain rfl := Option.some.inj h
          exact m_iret (pc := 361) hx hb hr hlk hS ⟨rfl, rfl⟩ (by decide) (by decide) d148_361
        have h := jb_f c40_120 h
        by_cases c40_121 : x0 = 121
        · have h := jb_t c40_121 h
          refine lv_tableIn (pc := 40) (off := 319) (tgt := 359) hx hb d148_40 (by rw [c40_121]; decide) (by rw [c40_121]; decide) (by rw [c40_121]; rfl) (by decide) ?_
          refine lv_bipush (pc := 359) (v := 101) hx hb d148_359 (by decide) ?_
          obtain rfl := Option.some.inj h
          exact m_iret (pc := 361) hx hb hr hlk hS ⟨rfl, rfl⟩ (by decide) (by decide) d148_361
        have h := jb_f c40_121 h
        by_cases c40_122 : x0 = 122
        · have h := jb_t c40_122 h
          refine lv_tableIn (pc := 40) (off := 319) (tgt := 359) hx hb d148_40 (by rw [c40_122]; decide) (by rw [c40_122]; decide) (by rw [c40_122]; rfl) (by decide) ?_
          refine lv_bipush (pc := 359) (v := 101) hx hb d148_359 (by decide) ?_
          obtain rfl := Option.some.inj h
          exact m_iret (pc := 361) hx hb hr hlk hS ⟨rfl, rfl⟩ (by decide) (by decide) d148_361
        have h := jb_f c40_122 h
        by_cases c40_123 : x0 = 123
        · have h := jb_t c40_123 h
          refine lv_tableIn (pc := 40) (off := 319) (tgt := 359) hx hb d148_40 (by rw [c40_123]; decide) (by rw [c40_123]; decide) (by rw [c40_123]; rfl) (by decide) ?_
          refine lv_bipush (pc := 359) (v := 101) hx hb d148_359 (by decide) ?_
          obtain rfl := Option.some.inj h
          exact m_iret (pc := 361) hx hb hr hlk hS ⟨rfl, rfl⟩ (by decide) (by decide) d148_361
        have h := jb_f c40_123 h
        by_cases c40_124 : x0 = 124
        · have h := jb_t c40_124 h
          refine lv_tableIn (pc := 40) (off := 319) (tgt := 359) hx hb d148_40 (by rw [c40_124]; decide) (by rw [c40_124]; decide) (by rw [c40_124]; rfl) (by decide) ?_
          refine lv_bipush (pc := 359) (v := 101) hx hb d148_359 (by decide) ?_
          obtain rfl := Option.some.inj h
          exact m_iret (pc := 361) hx hb hr hlk hS ⟨rfl, rfl⟩ (by decide) (by decide) d148_361
        have h := jb_f c40_124 h
        by_cases c40_125 : x0 = 125
        · have h := jb_t c40_125 h
          refine lv_tableIn (pc := 40) (off := 319) (tgt := 359) hx hb d148_40 (by rw [c40_125]; decide) (by rw [c40_125]; decide) (by rw [c40_125]; rfl) (by decide) ?_
          refine lv_bipush (pc := 359) (v := 101) hx hb d148_359 (by decide) ?_
          obtain rfl := Option.some.inj h
          exact m_iret (pc := 361) hx hb hr hlk hS ⟨rfl, rfl⟩ (by decide) (by decide) d148_361
        have h := jb_f c40_125 h
        by_cases c40_126 : x0 = 126
        · have h := jb_t c40_126 h
          refine lv_tableIn (pc := 40) (off := 319) (tgt := 359) hx hb d148_40 (by rw [c40_126]; decide) (by rw [c40_126]; decide) (by rw [c40_126]; rfl) (by decide) ?_
          refine lv_bipush (pc := 359) (v := 101) hx hb d148_359 (by decide) ?_
          obtain rfl := Option.some.inj h
          exact m_iret (pc := 361) hx hb hr hlk hS ⟨rfl, rfl⟩ (by decide) (by decide) d148_361
        have h := jb_f c40_126 h
        by_cases c40_127 : x0 = 127
        · have h := jb_t c40_127 h
          refine lv_tableIn (pc := 40) (off := 319) (tgt := 359) hx hb d148_40 (by rw [c40_127]; decide) (by rw [c40_127]; decide) (by rw [c40_127]; rfl) (by decide) ?_
          refine lv_bipush (pc := 359) (v := 101) hx hb d148_359 (by decide) ?_
          obtain rfl := Option.some.inj h
          exact m_iret (pc := 361) hx hb hr hlk hS ⟨rfl, rfl⟩ (by decide) (by decide) d148_361
        have h := jb_f c40_127 h
        by_cases c40_128 : x0 = 128
        · have h := jb_t c40_128 h
          refine lv_tableIn (pc := 40) (off := 319) (tgt := 359) hx hb d148_40 (by rw [c40_128]; decide) (by rw [c40_128]; decide) (by rw [c40_128]; rfl) (by decide) ?_
          refine lv_bipush (pc := 359) (v := 101) hx hb d148_359 (by decide) ?_
          obtain rfl := Option.some.inj h
          exact m_iret (pc := 361) hx hb hr hlk hS ⟨rfl, rfl⟩ (by decide) (by decide) d148_361
        have h := jb_f c40_128 h
        by_cases c40_129 : x0 = 129
        · have h := jb_t c40_129 h
          refine lv_tableIn (pc := 40) (off := 317) (tgt := 357) hx hb d148_40 (by rw [c40_129]; decide) (by rw [c40_129]; decide) (by rw [c40_129]; rfl) (by decide) ?_
          refine lv_iconst (pc := 357) (v := 0) hx hb d148_357 (by decide) ?_
          obtain rfl := Option.some.inj h
          exact m_iret (pc := 358) hx hb hr hlk hS ⟨rfl, rfl⟩ (by decide) (by decide) d148_358
        have h := jb_f c40_129 h
        by_cases c40_130 : x0 = 130
        · have h := jb_t c40_130 h
          refine lv_tableIn (pc := 40) (off := 319) (tgt := 359) hx hb d148_40 (by rw [c40_130]; decide) (by rw [c40_130]; decide) (by rw [c40_130]; rfl) (by decide) ?_
          refine lv_bipush (pc := 359) (v := 101) hx hb d148_359 (by decide) ?_
          obtain rfl := Option.some.inj h
          exact m_iret (pc := 361) hx hb hr hlk hS ⟨rfl, rfl⟩ (by decide) (by decide) d148_361
        have h := jb_f c40_130 h
        by_cases c40_131 : x0 = 131
        · have h := jb_t c40_131 h
          refine lv_tableIn (pc := 40) (off := 319) (tgt := 359) hx hb d148_40 (by rw [c40_131]; decide) (by rw [c40_131]; decide) (by rw [c40_131]; rfl) (by decide) ?_
          refine lv_bipush (pc := 359) (v := 101) hx hb d148_359 (by decide) ?_
          obtain rfl := Option.some.inj h
          exact m_iret (pc := 361) hx hb hr hlk hS ⟨rfl, rfl⟩ (by decide) (by decide) d148_361
        have h := jb_f c40_131 h
        by_cases c40_132 : x0 = 132
        · have h := jb_t c40_132 h
          refine lv_tableIn (pc := 40) (off := 317) (tgt := 357) hx hb d148_40 (by rw [c40_132]; decide) (by rw [c40_132]; decide) (by rw [c40_132]; rfl) (by decide) ?_
          refine lv_iconst (pc := 357) (v := 0) hx hb d148_357 (by decide) ?_
          obtain rfl := Option.some.inj h
          exact m_iret (pc := 358) hx hb hr hlk hS ⟨rfl, rfl⟩ (by decide) (by decide) d148_358
        have h := jb_f c40_132 h
        refine lv_tableOut (pc := 40) (tgt := 359) hx hb d148_40 (sw_out 66 (by decide) (by
          intro i hi
          match i, hi with
          | 0, _ => exact fun z => c40_67 (Int32.toInt_inj.mp (by rw [z]; decide))
          | 1, _ => exact fun z => c40_68 (Int32.toInt_inj.mp (by rw [z]; decide))
          | 2, _ => exact fun z => c40_69 (Int32.toInt_inj.mp (by rw [z]; decide))
          | 3, _ => exact fun z => c40_70 (Int32.toInt_inj.mp (by rw [z]; decide))
          | 4, _ => exact fun z => c40_71 (Int32.toInt_inj.mp (by rw [z]; decide))
          | 5, _ => exact fun z => c40_72 (Int32.toInt_inj.mp (by rw [z]; decide))
          | 6, _ => exact fun z => c40_73 (Int32.toInt_inj.mp (by rw [z]; decide))
          | 7, _ => exact fun z => c40_74 (Int32.toInt_inj.mp (by rw [z]; decide))
          | 8, _ => exact fun z => c40_75 (Int32.toInt_inj.mp (by rw [z]; decide))
          | 9, _ => exact fun z => c40_76 (Int32.toInt_inj.mp (by rw [z]; decide))
          | 10, _ => exact fun z => c40_77 (Int32.toInt_inj.mp (by rw [z]; decide))
          | 11, _ => exact fun z => c40_78 (Int32.toInt_inj.mp (by rw [z]; decide))
          | 12, _ => exact fun z => c40_79 (Int32.toInt_inj.mp (by rw [z]; decide))
          | 13, _ => exact fun z => c40_80 (Int32.toInt_inj.mp (by rw [z]; decide))
          | 14, _ => exact fun z => c40_81 (Int32.toInt_inj.mp (by rw [z]; decide))
          | 15, _ => exact fun z => c40_82 (Int32.toInt_inj.mp (by rw [z]; decide))
          | 16, _ => exact fun z => c40_83 (Int32.toInt_inj.mp (by rw [z]; decide))
          | 17, _ => exact fun z => c40_84 (Int32.toInt_inj.mp (by rw [z]; decide))
          | 18, _ => exact fun z => c40_85 (Int32.toInt_inj.mp (by rw [z]; decide))
          | 19, _ => exact fun z => c40_86 (Int32.toInt_inj.mp (by rw [z]; decide))
          | 20, _ => exact fun z => c40_87 (Int32.toInt_inj.mp (by rw [z]; decide))
          | 21, _ => exact fun z => c40_88 (Int32.toInt_inj.mp (by rw [z]; decide))
          | 22, _ => exact fun z => c40_89 (Int32.toInt_inj.mp (by rw [z]; decide))
          | 23, _ => exact fun z => c40_90 (Int32.toInt_inj.mp (by rw [z]; decide))
          | 24, _ => exact fun z => c40_91 (Int32.toInt_inj.mp (by rw [z]; decide))
          | 25, _ => exact fun z => c40_92 (Int32.toInt_inj.mp (by rw [z]; decide))
          | 26, _ => exact fun z => c40_93 (Int32.toInt_inj.mp (by rw [z]; decide))
          | 27, _ => exact fun z => c40_94 (Int32.toInt_inj.mp (by rw [z]; decide))
          | 28, _ => exact fun z => c40_95 (Int32.toInt_inj.mp (by rw [z]; decide))
          | 29, _ => exact fun z => c40_96 (Int32.toInt_inj.mp (by rw [z]; decide))
          | 30, _ => exact fun z => c40_97 (Int32.toInt_inj.mp (by rw [z]; decide))
          | 31, _ => exact fun z => c40_98 (Int32.toInt_inj.mp (by rw [z]; decide))
          | 32, _ => exact fun z => c40_99 (Int32.toInt_inj.mp (by rw [z]; decide))
          | 33, _ => exact fun z => c40_100 (Int32.toInt_inj.mp (by rw [z]; decide))
          | 34, _ => exact fun z => c40_101 (Int32.toInt_inj.mp (by rw [z]; decide))
          | 35, _ => exact fun z => c40_102 (Int32.toInt_inj.mp (by rw [z]; decide))
          | 36, _ => exact fun z => c40_103 (Int32.toInt_inj.mp (by rw [z]; decide))
          | 37, _ => exact fun z => c40_104 (Int32.toInt_inj.mp (by rw [z]; decide))
          | 38, _ => exact fun z => c40_105 (Int32.toInt_inj.mp (by rw [z]; decide))
          | 39, _ => exact fun z => c40_106 (Int32.toInt_inj.mp (by rw [z]; decide))
          | 40, _ => exact fun z => c40_107 (Int32.toInt_inj.mp (by rw [z]; decide))
          | 41, _ => exact fun z => c40_108 (Int32.toInt_inj.mp (by rw [z]; decide))
          | 42, _ => exact fun z => c40_109 (Int32.toInt_inj.mp (by rw [z]; decide))
          | 43, _ => exact fun z => c40_110 (Int32.toInt_inj.mp (by rw [z]; decide))
          | 44, _ => exact fun z => c40_111 (Int32.toInt_inj.mp (by rw [z]; decide))
          | 45, _ => exact fun z => c40_112 (Int32.toInt_inj.mp (by rw [z]; decide))
          | 46, _ => exact fun z => c40_113 (Int32.toInt_inj.mp (by rw [z]; decide))
          | 47, _ => exact fun z => c40_114 (Int32.toInt_inj.mp (by rw [z]; decide))
          | 48, _ => exact fun z => c40_115 (Int32.toInt_inj.mp (by rw [z]; decide))
          | 49, _ => exact fun z => c40_116 (Int32.toInt_inj.mp (by rw [z]; decide))
          | 50, _ => exact fun z => c40_117 (Int32.toInt_inj.mp (by rw [z]; decide))
          | 51, _ => exact fun z => c40_118 (Int32.toInt_inj.mp (by rw [z]; decide))
          | 52, _ => exact fun z => c40_119 (Int32.toInt_inj.mp (by rw [z]; decide))
          | 53, _ => exact fun z => c40_120 (Int32.toInt_inj.mp (by rw [z]; decide))
          | 54, _ => exact fun z => c40_121 (Int32.toInt_inj.mp (by rw [z]; decide))
          | 55, _ => exact fun z => c40_122 (Int32.toInt_inj.mp (by rw [z]; decide))
          | 56, _ => exact fun z => c40_123 (Int32.toInt_inj.mp (by rw [z]; decide))
          | 57, _ => exact fun z => c40_124 (Int32.toInt_inj.mp (by rw [z]; decide))
          | 58, _ => exact fun z => c40_125 (Int32.toInt_inj.mp (by rw [z]; decide))
          | 59, _ => exact fun z => c40_126 (Int32.toInt_inj.mp (by rw [z]; decide))
          | 60, _ => exact fun z => c40_127 (Int32.toInt_inj.mp (by rw [z]; decide))
          | 61, _ => exact fun z => c40_128 (Int32.toInt_inj.mp (by rw [z]; decide))
          | 62, _ => exact fun z => c40_129 (Int32.toInt_inj.mp (by rw [z]; decide))
          | 63, _ => exact fun z => c40_130 (Int32.toInt_inj.mp (by rw [z]; decide))
          | 64, _ => exact fun z => c40_131 (Int32.toInt_inj.mp (by rw [z]; decide))
          | 65, _ => exact fun z => c40_132 (Int32.toInt_inj.mp (by rw [z]; decide))
          | i + 66, q => exact absurd q (by omega))) (by decide) ?_
        refine lv_bipush (pc := 359) (v := 101) hx hb d148_359 (by decide) ?_
        obtain rfl := Option.some.inj h
        exact m_iret (pc := 361) hx hb hr hlk hS ⟨rfl, rfl⟩ (by decide) (by decide) d148_361
      · have h := jb_t c34 h
        refine lv_iconst (pc := 37) (v := (-1)) hx hb d148_37 (by decide) ?_
        obtain rfl := Option.some.inj h
        exact m_iret (pc := 38) hx hb hr hlk hS ⟨rfl, rfl⟩ (by decide) (by decide) d148_38
  unfold f_mo_arity at h
  refine lv_iload_n (pc := 0) hx hb d148_0 rfl (lv_at hl 0 rfl) ?_
  refine lv_bipush (pc := 1) (v := 66) hx hb d148_1 (by decide) ?_
  refine lv_icmp_lt (pc := 3) (tgt := 37) hx hb d148_3 (by decide) (fun c3 => ?_) (fun c3 => ?_)
  · have h := jb_t c3 h
    refine lv_iconst (pc := 37) (v := (-1)) hx hb d148_37 (by decide) ?_
    obtain rfl := Option.some.inj h
    exact m_iret (pc := 38) hx hb hr hlk hS ⟨rfl, rfl⟩ (by decide) (by decide) d148_38
  · have h := jb_f c3 h
    refine lv_iload_n (pc := 6) hx hb d148_6 rfl (lv_at hl 0 rfl) ?_
    refine lv_sipush (pc := 7) (v := 132) hx hb d148_7 (by decide) ?_
    refine lv_icmp_gt (pc := 10) (tgt := 37) hx hb d148_10 (by decide) (fun c10 => ?_) (fun c10 => ?_)
    · have h := jb_t c10 h
      refine lv_iconst (pc := 37) (v := (-1)) hx hb d148_37 (by decide) ?_
      obtain rfl := Option.some.inj h
      exact m_iret (pc := 38) hx hb hr hlk hS ⟨rfl, rfl⟩ (by decide) (by decide) d148_38
    · have h := jb_f c10 h
      refine lv_iload_n (pc := 13) hx hb d148_13 rfl (lv_at hl 0 rfl) ?_
      refine lv_bipush (pc := 14) (v := 83) hx hb d148_14 (by decide) ?_
      refine lv_icmp_le (pc := 16) (tgt := 25) hx hb d148_16 (by decide) (fun c16 => ?_) (fun c16 => ?_)
      · have h := jb_t c16 h
        exact kc25  p0 _ _ hS (lv_sub hl [0] rfl) h
      · have h := jb_f c16 h
        refine lv_iload_n (pc := 19) hx hb d148_19 rfl (lv_at hl 0 rfl) ?_
        refine lv_bipush (pc := 20) (v := 87) hx hb d148_20 (by decide) ?_
        refine lv_icmp_lt (pc := 22) (tgt := 37) hx hb d148_22 (by decide) (fun c22 => ?_) (fun c22 => ?_)
        · have h := jb_t c22 h
          refine lv_iconst (pc := 37) (v := (-1)) hx hb d148_37 (by decide) ?_
          obtain rfl := Option.some.inj h
          exact m_iret (pc := 38) hx hb hr hlk hS ⟨rfl, rfl⟩ (by decide) (by decide) d148_38
        · have h := jb_f c22 h
          exact kc25  p0 _ _ hS (lv_sub hl [0] rfl) h
def mo_base_210 (K146 : GS → Int32 → Int64 → Int32 → Option (GS)) (st : GS) (x3 : Int32) (x5 : Int64) (x8 : Int32) (z1 : Int32) : Option (GS) := jc (f_mo_make st z1) (fun q1 => jn (x8 + (-1)) (fun v2 => K146 q1 x3 x5 v2))
def mo_base_158 (K146 : GS → Int32 → Int64 → Int32 → Option (GS)) : Nat → GS → Int32 → Int64 → Int32 → Int64 → Int32 → Option (GS)
  | 0, _, _, _, _, _, _ => none
  | fu + 1, st, x3, x5, x8, x9, x11 => jb (x8 ≤ x11) (jg (nzl x3.toInt64) (jn ((x9 - x9 / x3.toInt64 * x3.toInt64).toInt32) (fun v4 => jb (10 ≤ v4) (mo_base_210 K146  st x3 x5 x8 ((65 + v4) - 10)) (mo_base_210 K146  st x3 x5 x8 (48 + v4))))) (jg (nzl x3.toInt64) (jn (x9 / x3.toInt64) (fun v6 => jn (x11 + 1) (fun v7 => mo_base_158 K146 fu st x3 x5 x8 v6 v7))))
def mo_base_146  : Nat → GS → Int32 → Int64 → Int32 → Option (GS)
  | 0, _, _, _, _ => none
  | fu + 1, st, x3, x5, x8 => jb (x8 < 0) (jc (f_mo_answerText st) (fun q8 => some q8)) (mo_base_158 (mo_base_146 fu) FU st x3 x5 x8 x5 0)
def mo_base_121  : Nat → GS → Int32 → Int32 → Int64 → Int32 → Int32 → Option (GS)
  | 0, _, _, _, _, _, _ => none
  | fu + 1, st, x3, x4, x5, x7, x8 => jb (x4 ≤ x8) (jn (x7 - 1) (fun v9 => mo_base_146 FU st x3 x5 v9)) (jc (f_mo_make st 48) (fun q10 => jn (x8 + 1) (fun v11 => mo_base_121 fu q10 x3 x4 x5 x7 v11)))
def mo_base_97  : Nat → GS → Int32 → Int32 → Int64 → Int32 → Int64 → Option (GS)
  | 0, _, _, _, _, _, _ => none
  | fu + 1, st, x3, x4, x5, x7, x8 => jb ((lg_cmp x8 0) ≤ 0) (mo_base_121 FU st x3 x4 x5 x7 x7) (jn (x7 + 1) (fun v12 => jg (nzl x3.toInt64) (jn (x8 / x3.toInt64) (fun v14 => mo_base_97 fu st x3 x4 x5 v12 v14))))
def mo_base_91  (st : GS) (x3 : Int32) (x4 : Int32) (x5 : Int64) (z0 : Int32) : Option (GS) := mo_base_97 FU st x3 x4 x5 z0 x5
def mo_base_67  (st : GS) (x1 : UInt64) (x3 : Int32) (x4 : Int32) : Option (GS) := jb ((st.1 0 22) = 0) (jn (FP.d2l x1) (fun v15 => jb ((lg_cmp v15 0) = 0) (mo_base_91  st x3 x4 v15 1) (mo_base_91  st x3 x4 v15 0))) (some st)
def mo_base_61  (st : GS) (x1 : UInt64) (x3 : Int32) (x4 : Int32) : Option (GS) := jc (f_mo_fail st 6) (fun q16 => mo_base_67  q16 x1 x3 x4)
def f_mo_base (st : GS) : Option (GS) := jc (f_mo_number st 0) (fun q17 => jc (f_mo_cut q17.1) (fun q18 => jc (f_mo_whole1 q17.2 1) (fun q19 => jc (f_mo_whole2 q19.2 2 0) (fun q20 => jb ((Op.cmpValue (FP.dcmp q18 FP.dconst0) .g) < 0) (mo_base_61  q20.2 q18 q19.1 q20.1) (jb (0 ≤ (Op.cmpValue (FP.dcmp q18 (4845873199050653696 : UInt64)) .l)) (mo_base_61  q20.2 q18 q19.1 q20.1) (jb (q19.1 < 2) (mo_base_61  q20.2 q18 q19.1 q20.1) (jb (36 < q19.1) (mo_base_61  q20.2 q18 q19.1 q20.1) (jb (q20.1 < 0) (mo_base_61  q20.2 q18 q19.1 q20.1) (jb (q20.1 ≤ 255) (mo_base_67  q20.2 q18 q19.1 q20.1) (mo_base_61  q20.2 q18 q19.1 q20.1))))))))))
set_option maxHeartbeats 4000000 in
set_option maxRecDepth 100000 in
theorem c_mo_base (l : Launch) (ρ : RH) (ad : Nat → Nat) (H : Heap) (st : GS) (res : GS) (hW : GW ρ wM ad st H) (h : f_mo_base st = some res) : Met l y149 (wsOf y149 b149 12 none) ({ frames := 6, cells := 0, slots := 0, locals := 132 } : Room) (va_Pc [.ref (ad 0)] (KP ρ H)) (mQ (fun v H1 => v = none ∧ GW ρ wM ad res H1) (MA wM ad H.size)) 0 0 (MA wM ad H.size) := by
  refine m_ofW (own := "WordFunctionsModel") (plainFor_of_name rfl) rfl (Nat.le_of_ble_eq_true rfl) fun p e s m args below meth c ls hx hb hr hlk _ X hs hl => ?_
  subst hs
  have hS : va_S (MA wM ad s.heap.size) s.heap s.heap [] := va_S.rf
  have hl : lv_has ls 12 [(0, .ref (ad 0))] := hl
  have kc210 : ∀ (K146 : GS → Int32 → Int64 → Int32 → Option (GS)) (hK146 : ∀ (st : GS) (x3 : Int32) (x5 : Int64) (x8 : Int32) (H : Heap) (locs : List Loc) (ls : Array Slot), GW ρ wM ad st H → va_S (MA wM ad s.heap.size) s.heap H locs → lv_has ls 12 [(0, .ref (ad 0)), (3, .int x3), (5, .long x5), (8, .int x8)] → K146 st x3 x5 x8 = some res → W p l e ({ frames := 6, cells := 0, slots := 0, locals := 132 } : Room) s m args below meth c H locs 0 0 (MQ below (mQ (fun v H1 => v = none ∧ GW ρ wM ad res H1) (MA wM ad s.heap.size)) args s 0 0 (MA wM ad s.heap.size)) (F0 m 146 ls [])), ∀ (st : GS) (x3 : Int32) (x5 : Int64) (x8 : Int32) (z1 : Int32) (H : Heap) (locs : List Loc) (ls : Array Slot), GW ρ wM ad st H → va_S (MA wM ad s.heap.size) s.heap H locs → lv_has ls 12 [(0, .ref (ad 0)), (3, .int x3), (5, .long x5), (8, .int x8)] → mo_base_210 K146 st x3 x5 x8 z1 = some res → W p l e ({ frames := 6, cells := 0, slots := 0, locals := 132 } : Room) s m args below meth c H locs 0 0 (MQ below (mQ (fun v H1 => v = none ∧ GW ρ wM ad res H1) (MA wM ad s.heap.size)) args s 0 0 (MA wM ad s.heap.size)) (F0 m 210 ls [.int z1, .ref (ad 0)]) := by
    intro K146 hK146
    intro st x3 x5 x8 z1 H locs ls hW hS hl h
    unfold mo_base_210 at h
    obtain ⟨q1, hq1, h⟩ := jc_some h
    refine k_callV (pc := 210) (n := 1) X hS (c_mo_make l ρ ad _ st z1 q1 hW hq1) wd1703 wd1700 wd1702 sl195 wd11 (by decide) ⟨rfl, rfl, by decide, by decide⟩ (m_recv X hW) (As := [.int z1]) (rest := []) rfl rfl hl.1 (Nat.le_of_ble_eq_true rfl) d149_210 ⟨by decide, by decide⟩ (fun q hq => MA.mono hS.1 hq) (fun v H1 locs1 hv _ _ hSq1 => ?_)
    obtain ⟨rfl, hW⟩ := hv
    have hS := hSq1
    obtain ⟨v2, ev2, h⟩ := jn_ex h
    refine lv_iinc (pc := 213) (v := v2) (lv' := [(8, .int v2), (0, .ref (ad 0)), (3, .int x3), (5, .long x5)]) hx hb d149_213 hl (k := 3) rfl (by rw [ev2]; rfl) (by decide) rfl (fun ls hl => ?_)
    refine lv_goto (pc := 216) (tgt := 146) hx hb d149_216 (by decide) ?_
    exact hK146 q1 x3 x5 v2 _ _ _ hW hS (lv_sub hl [1, 2, 3, 0] rfl) h
  have kc158 : ∀ (K146 : GS → Int32 → Int64 → Int32 → Option (GS)) (hK146 : ∀ (st : GS) (x3 : Int32) (x5 : Int64) (x8 : Int32) (H : Heap) (locs : List Loc) (ls : Array Slot), GW ρ wM ad st H → va_S (MA wM ad s.heap.size) s.heap H locs → lv_has ls 12 [(0, .ref (ad 0)), (3, .int x3), (5, .long x5), (8, .int x8)] → K146 st x3 x5 x8 = some res → W p l e ({ frames := 6, cells := 0, slots := 0, locals := 132 } : Room) s m args below meth c H locs 0 0 (MQ below (mQ (fun v H1 => v = none ∧ GW ρ wM ad res H1) (MA wM ad s.heap.size)) args s 0 0 (MA wM ad s.heap.size)) (F0 m 146 ls [])) (fu : Nat), ∀ (st : GS) (x3 : Int32) (x5 : Int64) (x8 : Int32) (x9 : Int64) (x11 : Int32) (H : Heap) (locs : List Loc) (ls : Array Slot), GW ρ wM ad st H → va_S (MA wM ad s.heap.size) s.heap H locs → lv_has ls 12 [(0, .ref (ad 0)), (3, .int x3), (5, .long x5), (8, .int x8), (9, .long x9), (11, .int x11)] → mo_base_158 K146 fu st x3 x5 x8 x9 x11 = some res → W p l e ({ frames := 6, cells := 0, slots := 0, locals := 132 } : Room) s m args below meth c H locs 0 0 (MQ below (mQ (fun v H1 => v = none ∧ GW ρ wM ad res H1) (MA wM ad s.heap.size)) args s 0 0 (MA wM ad s.heap.size)) (F0 m 158 ls []) := by
    intro K146 hK146 fu
    induction fu with
    | zero => intro st x3 x5 x8 x9 x11 H locs ls hW hS hl h; cases h
    | succ fu hK158 =>
      intro st x3 x5 x8 x9 x11 H locs ls hW hS hl h
      unfold mo_base_158 at h
      refine lv_iload (pc := 158) hx hb d149_158 (lv_at hl 5 rfl) ?_
      refine lv_iload (pc := 160) hx hb d149_160 (lv_at hl 3 rfl) ?_
      refine lv_icmp_ge (pc := 162) (tgt := 178) hx hb d149_162 (by decide) (fun c162 => ?_) (fun c162 => ?_)
      · have h := jb_t c162 h
        refine lv_lload (pc := 178) hx hb d149_178 (lv_at hl 4 rfl) ?_
        refine lv_iload_n (pc := 180) hx hb d149_180 rfl (lv_at hl 1 rfl) ?_
        refine lv_i2l (pc := 181) hx hb d149_181 rfl ?_
        obtain ⟨g3, h⟩ := jg_some h
        refine lv_lrem (pc := 182) hx hb d149_182 (nzl_ne g3) ?_
        refine lv_l2i (pc := 183) hx hb d149_183 rfl ?_
        obtain ⟨v4, ev4, h⟩ := jn_ex h
        refine nm_i ev4 ?_
        refine lv_istore (pc := 184) (lv' := [(11, .int v4), (0, .ref (ad 0)), (3, .int x3), (5, .long x5), (8, .int x8), (9, .long x9)]) hx hb d149_184 hl (by decide) rfl (fun ls hl => ?_)
        refine lv_aload_n (pc := 186) hx hb d149_186 rfl (lv_at hl 1 rfl) ?_
        refine lv_iload (pc := 187) hx hb d149_187 (lv_at hl 0 rfl) ?_
        refine lv_bipush (pc := 189) (v := 10) hx hb d149_189 (by decide) ?_
        refine lv_icmp_ge (pc := 191) (tgt := 202) hx hb d149_191 (by decide) (fun c191 => ?_) (fun c191 => ?_)
        · have h := jb_t c191 h
          refine lv_bipush (pc := 202) (v := 65) hx hb d149_202 (by decide) ?_
          refine lv_iload (pc := 204) hx hb d149_204 (lv_at hl 0 rfl) ?_
          refine lv_iadd (pc := 206) hx hb d149_206 ?_
          refine lv_bipush (pc := 207) (v := 10) hx hb d149_207 (by decide) ?_
          refine lv_isub (pc := 209) hx hb d149_209 ?_
          exact kc210 _ hK146 st x3 x5 x8 ((65 + v4) - 10) _ _ _ hW hS (lv_sub hl [1, 2, 3, 4] rfl) h
        · have h := jb_f c191 h
          refine lv_bipush (pc := 194) (v := 48) hx hb d149_194 (by decide) ?_
          refine lv_iload (pc := 196) hx hb d149_196 (lv_at hl 0 rfl) ?_
          refine lv_iadd (pc := 198) hx hb d149_198 ?_
          refine lv_goto (pc := 199) (tgt := 210) hx hb d149_199 (by decide) ?_
          exact kc210 _ hK146 st x3 x5 x8 (48 + v4) _ _ _ hW hS (lv_sub hl [1, 2, 3, 4] rfl) h
      · have h := jb_f c162 h
        refine lv_lload (pc := 165) hx hb d149_165 (lv_at hl 4 rfl) ?_
        refine lv_iload_n (pc := 167) hx hb d149_167 rfl (lv_at hl 1 rfl) ?_
        refine lv_i2l (pc := 168) hx hb d149_168 rfl ?_
        obtain ⟨g5, h⟩ := jg_some h
        refine lv_ldiv (pc := 169) hx hb d149_169 (nzl_ne g5) ?_
        obtain ⟨v6, ev6, h⟩ := jn_ex h
        refine nm_l ev6 ?_
        refine lv_lstore (pc := 170) (lv' := [(9, .long v6), (0, .ref (ad 0)), (3, .int x3), (5, .long x5), (8, .int x8), (11, .int x11)]) hx hb d149_170 hl (by decide) rfl (fun ls hl => ?_)
        obtain ⟨v7, ev7, h⟩ := jn_ex h
        refine lv_iinc (pc := 172) (v := v7) (lv' := [(11, .int v7), (9, .long v6), (0, .ref (ad 0)), (3, .int x3), (5, .long x5), (8, .int x8)]) hx hb d149_172 hl (k := 5) rfl (by rw [ev7]; rfl) (by decide) rfl (fun ls hl => ?_)
        refine lv_goto (pc := 175) (tgt := 158) hx hb d149_175 (by decide) ?_
        exact hK158 st x3 x5 x8 v6 v7 _ _ _ hW hS (lv_sub hl [2, 3, 4, 5, 1, 0] rfl) h
  have kc146 : ∀ (fu : Nat), ∀ (st : GS) (x3 : Int32) (x5 : Int64) (x8 : Int32) (H : Heap) (locs : List Loc) (ls : Array Slot), GW ρ wM ad st H → va_S (MA wM ad s.heap.size) s.heap H locs → lv_has ls 12 [(0, .ref (ad 0)), (3, .int x3), (5, .long x5), (8, .int x8)] → mo_base_146 fu st x3 x5 x8 = some res → W p l e ({ frames := 6, cells := 0, slots := 0, locals := 132 } : Room) s m args below meth c H locs 0 0 (MQ below (mQ (fun v H1 => v = none ∧ GW ρ wM ad res H1) (MA wM ad s.heap.size)) args s 0 0 (MA wM ad s.heap.size)) (F0 m 146 ls []) := by
    intro  fu
    induction fu with
    | zero => intro st x3 x5 x8 H locs ls hW hS hl h; cases h
    | succ fu hK146 =>
      intro st x3 x5 x8 H locs ls hW hS hl h
      unfold mo_base_146 at h
      refine lv_iload (pc := 146) hx hb d149_146 (lv_at hl 3 rfl) ?_
      refine lv_if_lt (pc := 148) (tgt := 219) hx hb d149_148 (by decide) (fun c148 => ?_) (fun c148 => ?_)
      · have h := jb_t c148 h
        refine lv_aload_n (pc := 219) hx hb d149_219 rfl (lv_at hl 0 rfl) ?_
        obtain ⟨q8, hq8, h⟩ := jc_some h
        refine k_callV (pc := 220) (n := 0) X hS (c_mo_answerText l ρ ad _ st q8 hW hq8) wd1707 wd1704 wd1706 sl144 wd11 (by decide) ⟨rfl, rfl, by decide, by decide⟩ (m_recv X hW) (As := []) (rest := []) rfl rfl hl.1 (Nat.le_of_ble_eq_true rfl) d149_220 ⟨by decide, by decide⟩ (fun q hq => MA.mono hS.1 hq) (fun v H1 locs1 hv _ _ hSq8 => ?_)
        obtain ⟨rfl, hW⟩ := hv
        have hS := hSq8
        obtain rfl := Option.some.inj h
        exact m_vret (pc := 223) hx hb hr hlk hS ⟨rfl, hW⟩ (by decide) (by decide) d149_223
      · have h := jb_f c148 h
        refine lv_lload (pc := 151) hx hb d149_151 (lv_at hl 2 rfl) ?_
        refine lv_lstore (pc := 153) (lv' := [(9, .long x5), (0, .ref (ad 0)), (3, .int x3), (5, .long x5), (8, .int x8)]) hx hb d149_153 hl (by decide) rfl (fun ls hl => ?_)
        refine lv_iconst (pc := 155) (v := 0) hx hb d149_155 (by decide) ?_
        refine lv_istore (pc := 156) (lv' := [(11, .int 0), (9, .long x5), (0, .ref (ad 0)), (3, .int x3), (5, .long x5), (8, .int x8)]) hx hb d149_156 hl (by decide) rfl (fun ls hl => ?_)
        exact kc158 _ hK146 FU st x3 x5 x8 x5 0 _ _ _ hW hS (lv_sub hl [2, 3, 4, 5, 1, 0] rfl) h
  have kc121 : ∀ (fu : Nat), ∀ (st : GS) (x3 : Int32) (x4 : Int32) (x5 : Int64) (x7 : Int32) (x8 : Int32) (H : Heap) (locs : List Loc) (ls : Array Slot), GW ρ wM ad st H → va_S (MA wM ad s.heap.size) s.heap H locs → lv_has ls 12 [(0, .ref (ad 0)), (3, .int x3), (4, .int x4), (5, .long x5), (7, .int x7), (8, .int x8)] → mo_base_121 fu st x3 x4 x5 x7 x8 = some res → W p l e ({ frames := 6, cells := 0, slots := 0, locals := 132 } : Room) s m args below meth c H locs 0 0 (MQ below (mQ (fun v H1 => v = none ∧ GW ρ wM ad res H1) (MA wM ad s.heap.size)) args s 0 0 (MA wM ad s.heap.size)) (F0 m 121 ls []) := by
    intro  fu
    induction fu with
    | zero => intro st x3 x4 x5 x7 x8 H locs ls hW hS hl h; cases h
    | succ fu hK121 =>
      intro st x3 x4 x5 x7 x8 H locs ls hW hS hl h
      unfold mo_base_121 at h
      refine lv_iload (pc := 121) hx hb d149_121 (lv_at hl 5 rfl) ?_
      refine lv_iload (pc := 123) hx hb d149_123 (lv_at hl 2 rfl) ?_
      refine lv_icmp_ge (pc := 125) (tgt := 140) hx hb d149_125 (by decide) (fun c125 => ?_) (fun c125 => ?_)
      · have h := jb_t c125 h
        refine lv_iload (pc := 140) hx hb d149_140 (lv_at hl 4 rfl) ?_
        refine lv_iconst (pc := 142) (v := 1) hx hb d149_142 (by decide) ?_
        refine lv_isub (pc := 143) hx hb d149_143 ?_
        obtain ⟨v9, ev9, h⟩ := jn_ex h
        refine nm_i ev9 ?_
        refine lv_istore (pc := 144) (lv' := [(8, .int v9), (0, .ref (ad 0)), (3, .int x3), (4, .int x4), (5, .long x5), (7, .int x7)]) hx hb d149_144 hl (by decide) rfl (fun ls hl => ?_)
        exact kc146  FU st x3 x5 v9 _ _ _ hW hS (lv_sub hl [1, 2, 4, 0] rfl) h
      · have h := jb_f c125 h
        refine lv_aload_n (pc := 128) hx hb d149_128 rfl (lv_at hl 0 rfl) ?_
        refine lv_bipush (pc := 129) (v := 48) hx hb d149_129 (by decide) ?_
        obtain ⟨q10, hq10, h⟩ := jc_some h
        refine k_callV (pc := 131) (n := 1) X hS (c_mo_make l ρ ad _ st 48 q10 hW hq10) wd1703 wd1700 wd1702 sl195 wd11 (by decide) ⟨rfl, rfl, by decide, by decide⟩ (m_recv X hW) (As := [.int 48]) (rest := []) rfl rfl hl.1 (Nat.le_of_ble_eq_true rfl) d149_131 ⟨by decide, by decide⟩ (fun q hq => MA.mono hS.1 hq) (fun v H1 locs1 hv _ _ hSq10 => ?_)
        obtain ⟨rfl, hW⟩ := hv
        have hS := hSq10
        obtain ⟨v11, ev11, h⟩ := jn_ex h
        refine lv_iinc (pc := 134) (v := v11) (lv' := [(8, .int v11), (0, .ref (ad 0)), (3, .int x3), (4, .int x4), (5, .long x5), (7, .int x7)]) hx hb d149_134 hl (k := 5) rfl (by rw [ev11]; rfl) (by decide) rfl (fun ls hl => ?_)
        refine lv_goto (pc := 137) (tgt := 121) hx hb d149_137 (by decide) ?_
        exact hK121 q10 x3 x4 x5 x7 v11 _ _ _ hW hS (lv_sub hl [1, 2, 3, 4, 5, 0] rfl) h
  have kc97 : ∀ (fu : Nat), ∀ (st : GS) (x3 : Int32) (x4 : Int32) (x5 : Int64) (x7 : Int32) (x8 : Int64) (H : Heap) (locs : List Loc) (ls : Array Slot), GW ρ wM ad st H → va_S (MA wM ad s.heap.size) s.heap H locs → lv_has ls 12 [(0, .ref (ad 0)), (3, .int x3), (4, .int x4), (5, .long x5), (7, .int x7), (8, .long x8)] → mo_base_97 fu st x3 x4 x5 x7 x8 = some res → W p l e ({ frames := 6, cells := 0, slots := 0, locals := 132 } : Room) s m args below meth c H locs 0 0 (MQ below (mQ (fun v H1 => v = none ∧ GW ρ wM ad res H1) (MA wM ad s.heap.size)) args s 0 0 (MA wM ad s.heap.size)) (F0 m 97 ls []) := by
    intro  fu
    induction fu with
    | zero => intro st x3 x4 x5 x7 x8 H locs ls hW hS hl h; cases h
    | succ fu hK97 =>
      intro st x3 x4 x5 x7 x8 H locs ls hW hS hl h
      unfold mo_base_97 at h
      refine lv_lload (pc := 97) hx hb d149_97 (lv_at hl 5 rfl) ?_
      refine lv_lconst (pc := 99) (v := 0) hx hb d149_99 rfl ?_
      refine W.lcmp (pc := 100) hx hb d149_100 ?_
      refine lv_if_le (pc := 101) (tgt := 117) hx hb d149_101 (by decide) (fun c101 => ?_) (fun c101 => ?_)
      · have h := jb_t c101 h
        refine lv_iload (pc := 117) hx hb d149_117 (lv_at hl 4 rfl) ?_
        refine lv_istore (pc := 119) (lv' := [(8, .int x7), (0, .ref (ad 0)), (3, .int x3), (4, .int x4), (5, .long x5), (7, .int x7)]) hx hb d149_119 hl (by decide) rfl (fun ls hl => ?_)
        exact kc121  FU st x3 x4 x5 x7 x7 _ _ _ hW hS (lv_sub hl [1, 2, 3, 4, 5, 0] rfl) h
      · have h := jb_f c101 h
        obtain ⟨v12, ev12, h⟩ := jn_ex h
        refine lv_iinc (pc := 104) (v := v12) (lv' := [(7, .int v12), (0, .ref (ad 0)), (3, .int x3), (4, .int x4), (5, .long x5), (8, .long x8)]) hx hb d149_104 hl (k := 4) rfl (by rw [ev12]; rfl) (by decide) rfl (fun ls hl => ?_)
        refine lv_lload (pc := 107) hx hb d149_107 (lv_at hl 5 rfl) ?_
        refine lv_iload_n (pc := 109) hx hb d149_109 rfl (lv_at hl 2 rfl) ?_
        refine lv_i2l (pc := 110) hx hb d149_110 rfl ?_
        obtain ⟨g13, h⟩ := jg_some h
        refine lv_ldiv (pc := 111) hx hb d149_111 (nzl_ne g13) ?_
        obtain ⟨v14, ev14, h⟩ := jn_ex h
        refine nm_l ev14 ?_
        refine lv_lstore (pc := 112) (lv' := [(8, .long v14), (7, .int v12), (0, .ref (ad 0)), (3, .int x3), (4, .int x4), (5, .long x5)]) hx hb d149_112 hl (by decide) rfl (fun ls hl => ?_)
        refine lv_goto (pc := 114) (tgt := 97) hx hb d149_114 (by decide) ?_
        exact hK97 st x3 x4 x5 v12 v14 _ _ _ hW hS (lv_sub hl [2, 3, 4, 5, 1, 0] rfl) h
  have kc91 : ∀ (st : GS) (x3 : Int32) (x4 : Int32) (x5 : Int64) (z0 : Int32) (H : Heap) (locs : List Loc) (ls : Array Slot), GW ρ wM ad st H → va_S (MA wM ad s.heap.size) s.heap H locs → lv_has ls 12 [(0, .ref (ad 0)), (3, .int x3), (4, .int x4), (5, .long x5)] → mo_base_91 st x3 x4 x5 z0 = some res → W p l e ({ frames := 6, cells := 0, slots := 0, locals := 132 } : Room) s m args below meth c H locs 0 0 (MQ below (mQ (fun v H1 => v = none ∧ GW ρ wM ad res H1) (MA wM ad s.heap.size)) args s 0 0 (MA wM ad s.heap.size)) (F0 m 91 ls [.int z0]) := by
    intro st x3 x4 x5 z0 H locs ls hW hS hl h
    unfold mo_base_91 at h
    refine lv_istore (pc := 91) (lv' := [(7, .int z0), (0, .ref (ad 0)), (3, .int x3), (4, .int x4), (5, .long x5)]) hx hb d149_91 hl (by decide) rfl (fun ls hl => ?_)
    refine lv_lload (pc := 93) hx hb d149_93 (lv_at hl 4 rfl) ?_
    refine lv_lstore (pc := 95) (lv' := [(8, .long x5), (7, .int z0), (0, .ref (ad 0)), (3, .int x3), (4, .int x4), (5, .long x5)]) hx hb d149_95 hl (by decide) rfl (fun ls hl => ?_)
    exact kc97  FU st x3 x4 x5 z0 x5 _ _ _ hW hS (lv_sub hl [2, 3, 4, 5, 1, 0] rfl) h
  have kc67 : ∀ (st : GS) (x1 : UInt64) (x3 : Int32) (x4 : Int32) (H : Heap) (locs : List Loc) (ls : Array Slot), GW ρ wM ad st H → va_S (MA wM ad s.heap.size) s.heap H locs → lv_has ls 12 [(0, .ref (ad 0)), (1, .double x1), (3, .int x3), (4, .int x4)] → mo_base_67 st x1 x3 x4 = some res → W p l e ({ frames := 6, cells := 0, slots := 0, locals := 132 } : Room) s m args below meth c H locs 0 0 (MQ below (mQ (fun v H1 => v = none ∧ GW ρ wM ad res H1) (MA wM ad s.heap.size)) args s 0 0 (MA wM ad s.heap.size)) (F0 m 67 ls []) := by
    intro st x1 x3 x4 H locs ls hW hS hl h
    unfold mo_base_67 at h
    refine lv_aload_n (pc := 67) hx hb d149_67 rfl (lv_at hl 0 rfl) ?_
    refine m_get (pc := 68) X hW 22 (v := .int (st.1 0 22)) wd1388 rfl rfl d149_68 ?_
    refine lv_if_eq (pc := 71) (tgt := 75) hx hb d149_71 (by decide) (fun c71 => ?_) (fun c71 => ?_)
    · have h := jb_t c71 h
      refine lv_dload_n (pc := 75) hx hb d149_75 rfl (lv_at hl 1 rfl) ?_
      refine lv_d2l (pc := 76) hx hb d149_76 ?_
      obtain ⟨v15, ev15, h⟩ := jn_ex h
      refine nm_l ev15 ?_
      refine lv_lstore (pc := 77) (lv' := [(5, .long v15), (0, .ref (ad 0)), (1, .double x1), (3, .int x3), (4, .int x4)]) hx hb d149_77 hl (by decide) rfl (fun ls hl => ?_)
      refine lv_lload (pc := 79) hx hb d149_79 (lv_at hl 0 rfl) ?_
      refine lv_lconst (pc := 81) (v := 0) hx hb d149_81 rfl ?_
      refine W.lcmp (pc := 82) hx hb d149_82 ?_
      refine lv_if_ne (pc := 83) (tgt := 90) hx hb d149_83 (by decide) (fun c83 => ?_) (fun c83 => ?_)
      · have h := jb_f c83 h
        refine lv_iconst (pc := 90) (v := 0) hx hb d149_90 (by decide) ?_
        exact kc91  st x3 x4 v15 0 _ _ _ hW hS (lv_sub hl [1, 3, 4, 0] rfl) h
      · have h := jb_t c83 h
        refine lv_iconst (pc := 86) (v := 1) hx hb d149_86 (by decide) ?_
        refine lv_goto (pc := 87) (tgt := 91) hx hb d149_87 (by decide) ?_
        exact kc91  st x3 x4 v15 1 _ _ _ hW hS (lv_sub hl [1, 3, 4, 0] rfl) h
    · have h := jb_f c71 h
      obtain rfl := Option.some.inj h
      exact m_vret (pc := 74) hx hb hr hlk hS ⟨rfl, hW⟩ (by decide) (by decide) d149_74
  have kc61 : ∀ (st : GS) (x1 : UInt64) (x3 : Int32) (x4 : Int32) (H : Heap) (locs : List Loc) (ls : Array Slot), GW ρ wM ad st H → va_S (MA wM ad s.heap.size) s.heap H locs → lv_has ls 12 [(0, .ref (ad 0)), (1, .double x1), (3, .int x3), (4, .int x4)] → mo_base_61 st x1 x3 x4 = some res → W p l e ({ frames := 6, cells := 0, slots := 0, locals := 132 } : Room) s m args below meth c H locs 0 0 (MQ below (mQ (fun v H1 => v = none ∧ GW ρ wM ad res H1) (MA wM ad s.heap.size)) args s 0 0 (MA wM ad s.heap.size)) (F0 m 61 ls []) := by
    intro st x1 x3 x4 H locs ls hW hS hl h
    unfold mo_base_61 at h
    refine lv_aload_n (pc := 61) hx hb d149_61 rfl (lv_at hl 0 rfl) ?_
    refine lv_bipush (pc := 62) (v := 6) hx hb d149_62 (by decide) ?_
    obtain ⟨q16, hq16, h⟩ := jc_some h
    refine k_callV (pc := 64) (n := 1) X hS (c_mo_fail l ρ ad _ st 6 q16 hW hq16) wd1621 wd1618 wd1620 sl170 wd11 (by decide) ⟨rfl, rfl, by decide, by decide⟩ (m_recv X hW) (As := [.int 6]) (rest := []) rfl rfl hl.1 (Nat.le_of_ble_eq_true rfl) d149_64 ⟨by decide, by decide⟩ (fun q hq => MA.mono hS.1 hq) (fun v H1 locs1 hv _ _ hSq16 => ?_)
    obtain ⟨rfl, hW⟩ := hv
    have hS := hSq16
    exact kc67  q16 x1 x3 x4 _ _ _ hW hS (lv_sub hl [0, 1, 2, 3] rfl) h
  unfold f_mo_base at h
  refine lv_aload_n (pc := 0) hx hb d149_0 rfl (lv_at hl 0 rfl) ?_
  refine lv_iconst (pc := 1) (v := 0) hx hb d149_1 (by decide) ?_
  obtain ⟨q17, hq17, h⟩ := jc_some h
  refine k_callV (pc := 2) (n := 1) X hS (c_mo_number l ρ ad _ st 0 q17 hW hq17) wd1675 wd1672 wd1674 sl204 wd11 (by decide) ⟨rfl, rfl, by decide, by decide⟩ (m_recv X hW) (As := [.int 0]) (rest := []) rfl rfl hl.1 (Nat.le_of_ble_eq_true rfl) d149_2 ⟨by decide, by decide⟩ (fun q hq => MA.mono hS.1 hq) (fun v H1 locs1 hv _ _ hSq17 => ?_)
  obtain ⟨rfl, hW⟩ := hv
  have hS := hSq17
  obtain ⟨q18, hq18, h⟩ := jc_some h
  refine k_callS (pc := 5) (n := 1) X hS (c_mo_cut l ρ _ q17.1 q18 hq18) wd1690 wd1688 wd1689 wd11 (by decide) ⟨rfl, rfl, by decide, by decide⟩ (As := [.double q17.1]) (rest := []) rfl rfl hl.1 (Nat.le_of_ble_eq_true rfl) d149_5 ⟨by decide, by decide⟩ (fun q hq => False.elim hq) (fun v H1 locs1 hv _ _ hSq18 => ?_)
  obtain ⟨rfl, rfl⟩ := hv
  have hS := hSq18
  refine lv_dstore_n (pc := 8) (lv' := [(1, .double q18), (0, .ref (ad 0))]) hx hb d149_8 rfl hl (by decide) rfl (fun ls hl => ?_)
  refine lv_aload_n (pc := 9) hx hb d149_9 rfl (lv_at hl 1 rfl) ?_
  refine lv_iconst (pc := 10) (v := 1) hx hb d149_10 (by decide) ?_
  obtain ⟨q19, hq19, h⟩ := jc_some h
  refine k_callV (pc := 11) (n := 1) X hS (c_mo_whole1 l ρ ad _ q17.2 1 q19 hW hq19) wd1671 wd1668 wd1670 sl241 wd11 (by decide) ⟨rfl, rfl, by decide, by decide⟩ (m_recv X hW) (As := [.int 1]) (rest := []) rfl rfl hl.1 (Nat.le_of_ble_eq_true rfl) d149_11 ⟨by decide, by decide⟩ (fun q hq => MA.mono hS.1 hq) (fun v H1 locs1 hv _ _ hSq19 => ?_)
  obtain ⟨rfl, hW⟩ := hv
  have hS := hSq19
  refine lv_istore_n (pc := 14) (lv' := [(3, .int q19.1), (1, .double q18), (0, .ref (ad 0))]) hx hb d149_14 rfl hl (by decide) rfl (fun ls hl => ?_)
  refine lv_aload_n (pc := 15) hx hb d149_15 rfl (lv_at hl 2 rfl) ?_
  refine lv_iconst (pc := 16) (v := 2) hx hb d149_16 (by decide) ?_
  refine lv_iconst (pc := 17) (v := 0) hx hb d149_17 (by decide) ?_
  obtain ⟨q20, hq20, h⟩ := jc_some h
  refine k_callV (pc := 18) (n := 2) X hS (c_mo_whole2 l ρ ad _ q19.2 2 0 q20 hW hq20) wd1663 wd1660 wd1662 sl242 wd11 (by decide) ⟨rfl, rfl, by decide, by decide⟩ (m_recv X hW) (As := [.int 2, .int 0]) (rest := []) rfl rfl hl.1 (Nat.le_of_ble_eq_true rfl) d149_18 ⟨by decide, by decide⟩ (fun q hq => MA.mono hS.1 hq) (fun v H1 locs1 hv _ _ hSq20 => ?_)
  obtain ⟨rfl, hW⟩ := hv
  have hS := hSq20
  refine lv_istore (pc := 21) (lv' := [(4, .int q20.1), (3, .int q19.1), (1, .double q18), (0, .ref (ad 0))]) hx hb d149_21 hl (by decide) rfl (fun ls hl => ?_)
  refine lv_dload_n (pc := 23) hx hb d149_23 rfl (lv_at hl 2 rfl) ?_
  refine lv_dconst0 (pc := 24) hx hb d149_24 ?_
  refine lv_dcmp (pc := 25) hx hb d149_25 ?_
  refine lv_if_lt (pc := 26) (tgt := 61) hx hb d149_26 (by decide) (fun c26 => ?_) (fun c26 => ?_)
  · have h := jb_t c26 h
    exact kc61  q20.2 q18 q19.1 q20.1 _ _ _ hW hS (lv_sub hl [3, 2, 1, 0] rfl) h
  · have h := jb_f c26 h
    refine lv_dload_n (pc := 29) hx hb d149_29 rfl (lv_at hl 2 rfl) ?_
    refine lv_ldc2d (pc := 30) hx hb X.1.2.2.2.1 (X.ts wd1691) d149_30 ?_
    refine lv_dcmp (pc := 33) hx hb d149_33 ?_
    refine lv_if_ge (pc := 34) (tgt := 61) hx hb d149_34 (by decide) (fun c34 => ?_) (fun c34 => ?_)
    · have h := jb_t c34 h
      exact kc61  q20.2 q18 q19.1 q20.1 _ _ _ hW hS (lv_sub hl [3, 2, 1, 0] rfl) h
    · have h := jb_f c34 h
      refine lv_iload_n (pc := 37) hx hb d149_37 rfl (lv_at hl 1 rfl) ?_
      refine lv_iconst (pc := 38) (v := 2) hx hb d149_38 (by decide) ?_
      refine lv_icmp_lt (pc := 39) (tgt := 61) hx hb d149_39 (by decide) (fun c39 => ?_) (fun c39 => ?_)
      · have h := jb_t c39 h
        exact kc61  q20.2 q18 q19.1 q20.1 _ _ _ hW hS (lv_sub hl [3, 2, 1, 0] rfl) h
      · have h := jb_f c39 h
        refine lv_iload_n (pc := 42) hx hb d149_42 rfl (lv_at hl 1 rfl) ?_
        refine lv_bipush (pc := 43) (v := 36) hx hb d149_43 (by decide) ?_
        refine lv_icmp_gt (pc := 45) (tgt := 61) hx hb d149_45 (by decide) (fun c45 => ?_) (fun c45 => ?_)
        · have h := jb_t c45 h
          exact kc61  q20.2 q18 q19.1 q20.1 _ _ _ hW hS (lv_sub hl [3, 2, 1, 0] rfl) h
        · have h := jb_f c45 h
          refine lv_iload (pc := 48) hx hb d149_48 (lv_at hl 0 rfl) ?_
          refine lv_if_lt (pc := 50) (tgt := 61) hx hb d149_50 (by decide) (fun c50 => ?_) (fun c50 => ?_)
          · have h := jb_t c50 h
            exact kc61  q20.2 q18 q19.1 q20.1 _ _ _ hW hS (lv_sub hl [3, 2, 1, 0] rfl) h
          · have h := jb_f c50 h
            refine lv_iload (pc := 53) hx hb d149_53 (lv_at hl 0 rfl) ?_
            refine lv_sipush (pc := 55) (v := 255) hx hb d149_55 (by decide) ?_
            refine lv_icmp_le (pc := 58) (tgt := 67) hx hb d149_58 (by decide) (fun c58 => ?_) (fun c58 => ?_)
            · have h := jb_t c58 h
              exact kc67  q20.2 q18 q19.1 q20.1 _ _ _ hW hS (lv_sub hl [3, 2, 1, 0] rfl) h
            · have h := jb_f c58 h
              exact kc61  q20.2 q18 q19.1 q20.1 _ _ _ hW hS (lv_sub hl [3, 2, 1, 0] rfl) h
def mo_toB_2  : Nat → GS → Int32 → Option (GS)
  | 0, _, _ => none
  | fu + 1, st, x1 => jb ((st.1 0 27) ≤ x1) (jn (uI st 0 28 (st.1 0 27)) (fun st1 => some st1)) (jg (inb x1 256) (jg (inb x1 256) (jn (uI st 14 x1.toNatClampNeg (st.1 13 x1.toNatClampNeg)) (fun st4 => jn (x1 + 1) (fun v5 => mo_toB_2 fu st4 v5)))))
def f_mo_toB (st : GS) : Option (GS) := mo_toB_2 FU st 0
set_option maxHeartbeats 4000000 in
set_option maxRecDepth 100000 in
theorem c_mo_toB (l : Launch) (ρ : RH) (ad : Nat → Nat) (H : Heap) (st : GS) (res : GS) (hW : GW ρ wM ad st H) (h : f_mo_toB st = some res) : Met l y231 (wsOf y231 b231 2 none) ({ frames := 0, cells := 0, slots := 0, locals := 0 } : Room) (va_Pc [.ref (ad 0)] (KP ρ H)) (mQ (fun v H1 => v = none ∧ GW ρ wM ad res H1) (MA wM ad H.size)) 0 0 (MA wM ad H.size) := by
  refine m_ofW (own := "WordFunctionsModel") (plainFor_of_name rfl) rfl (Nat.le_of_ble_eq_true rfl) fun p e s m args below meth c ls hx hb hr hlk _ X hs hl => ?_
  subst hs
  have hS : va_S (MA wM ad s.heap.size) s.heap s.heap [] := va_S.rf
  have hl : lv_has ls 2 [(0, .ref (ad 0))] := hl
  have kc2 : ∀ (fu : Nat), ∀ (st : GS) (x1 : Int32) (H : Heap) (locs : List Loc) (ls : Array Slot), GW ρ wM ad st H → va_S (MA wM ad s.heap.size) s.heap H locs → lv_has ls 2 [(0, .ref (ad 0)), (1, .int x1)] → mo_toB_2 fu st x1 = some res → W p l e ({ frames := 0, cells := 0, slots := 0, locals := 0 } : Room) s m args below meth c H locs 0 0 (MQ below (mQ (fun v H1 => v = none ∧ GW ρ wM ad res H1) (MA wM ad s.heap.size)) args s 0 0 (MA wM ad s.heap.size)) (F0 m 2 ls []) := by
    intro  fu
    induction fu with
    | zero => intro st x1 H locs ls hW hS hl h; cases h
    | succ fu hK2 =>
      intro st x1 H locs ls hW hS hl h
      unfold mo_toB_2 at h
      refine lv_iload_n (pc := 2) hx hb d231_2 rfl (lv_at hl 1 rfl) ?_
      refine lv_aload_n (pc := 3) hx hb d231_3 rfl (lv_at hl 0 rfl) ?_
      refine m_get (pc := 4) X hW 27 (v := .int (st.1 0 27)) wd1393 rfl rfl d231_4 ?_
      refine lv_icmp_ge (pc := 7) (tgt := 28) hx hb d231_7 (by decide) (fun c7 => ?_) (fun c7 => ?_)
      · have h := jb_t c7 h
        refine lv_aload_n (pc := 28) hx hb d231_28 rfl (lv_at hl 0 rfl) ?_
        refine lv_aload_n (pc := 29) hx hb d231_29 rfl (lv_at hl 0 rfl) ?_
        refine m_get (pc := 30) X hW 27 (v := .int (st.1 0 27)) wd1393 rfl rfl d231_30 ?_
        obtain ⟨st1, est1, h⟩ := jn_ex h
        refine m_putI (pc := 33) X hW hS 28 est1 wd1394 rfl rfl rfl rfl rfl d231_33 (fun H locs hW hS => ?_)
        obtain rfl := Option.some.inj h
        exact m_vret (pc := 36) hx hb hr hlk hS ⟨rfl, hW⟩ (by decide) (by decide) d231_36
      · have h := jb_f c7 h
        refine lv_aload_n (pc := 10) hx hb d231_10 rfl (lv_at hl 0 rfl) ?_
        refine m_get (pc := 11) X hW 24 (v := .ref (ad 14)) wd1390 rfl rfl d231_11 ?_
        refine lv_iload_n (pc := 14) hx hb d231_14 rfl (lv_at hl 1 rfl) ?_
        refine lv_aload_n (pc := 15) hx hb d231_15 rfl (lv_at hl 0 rfl) ?_
        refine m_get (pc := 16) X hW 23 (v := .ref (ad 13)) wd1389 rfl rfl d231_16 ?_
        refine lv_iload_n (pc := 19) hx hb d231_19 rfl (lv_at hl 1 rfl) ?_
        obtain ⟨g2, h⟩ := jg_some h
        refine r_iald (pc := 20) X hW 13 (by decide) rfl (inb_in g2) d231_20 ?_
        obtain ⟨g3, h⟩ := jg_some h
        obtain ⟨st4, est4, h⟩ := jn_ex h
        refine m_iast (pc := 21) X hW hS 14 (by decide) rfl g3 est4 d231_21 (fun H locs hW hS => ?_)
        obtain ⟨v5, ev5, h⟩ := jn_ex h
        refine lv_iinc (pc := 22) (v := v5) (lv' := [(1, .int v5), (0, .ref (ad 0))]) hx hb d231_22 hl (k := 1) rfl (by rw [ev5]; rfl) (by decide) rfl (fun ls hl => ?_)
        refine lv_goto (pc := 25) (tgt := 2) hx hb d231_25 (by decide) ?_
        exact hK2 st4 v5 _ _ _ hW hS (lv_sub hl [1, 0] rfl) h
  unfold f_mo_toB at h
  refine lv_iconst (pc := 0) (v := 0) hx hb d231_0 (by decide) ?_
  refine lv_istore_n (pc := 1) (lv' := [(1, .int 0), (0, .ref (ad 0))]) hx hb d231_1 rfl hl (by decide) rfl (fun ls hl => ?_)
  exact kc2  FU st 0 _ _ _ hW hS (lv_sub hl [1, 0] rfl) h
def f_mo_lesser  (p0 : Int32) (p1 : Int32) : Option (Int32) := jb (p1 ≤ p0) (some p1) (some p0)
set_option maxHeartbeats 4000000 in
set_option maxRecDepth 100000 in
theorem c_mo_lesser (l : Launch) (ρ : RH) (H : Heap) (p0 : Int32) (p1 : Int32) (res : Int32) (h : f_mo_lesser p0 p1 = some res) : Met l y188 (wsOf y188 b188 2 (some .int)) ({ frames := 0, cells := 0, slots := 0, locals := 0 } : Room) (va_Pc [.int p0, .int p1] (KP ρ H)) (mQ (fun v H1 => v = some (.int res) ∧ H1 = H) (fun _ => False)) 0 0 (fun _ => False) := by
  refine m_ofW (own := "WordFunctionsModel") (plainFor_of_name rfl) rfl (Nat.le_of_ble_eq_true rfl) fun p e s m args below meth c ls hx hb hr hlk _ X hs hl => ?_
  subst hs
  have hS : va_S (fun _ => False) s.heap s.heap [] := va_S.rf
  have hl : lv_has ls 2 [(0, .int p0), (1, .int p1)] := hl
  unfold f_mo_lesser at h
  refine lv_iload_n (pc := 0) hx hb d188_0 rfl (lv_at hl 0 rfl) ?_
  refine lv_iload_n (pc := 1) hx hb d188_1 rfl (lv_at hl 1 rfl) ?_
  refine lv_icmp_ge (pc := 2) (tgt := 9) hx hb d188_2 (by decide) (fun c2 => ?_) (fun c2 => ?_)
  · have h := jb_t c2 h
    refine lv_iload_n (pc := 9) hx hb d188_9 rfl (lv_at hl 1 rfl) ?_
    obtain rfl := Option.some.inj h
    exact m_iret (pc := 10) hx hb hr hlk hS ⟨rfl, rfl⟩ (by decide) (by decide) d188_10
  · have h := jb_f c2 h
    refine lv_iload_n (pc := 5) hx hb d188_5 rfl (lv_at hl 0 rfl) ?_
    refine lv_goto (pc := 6) (tgt := 10) hx hb d188_6 (by decide) ?_
    obtain rfl := Option.some.inj h
    exact m_iret (pc := 10) hx hb hr hlk hS ⟨rfl, rfl⟩ (by decide) (by decide) d188_10
def mo_ends_73  (st : GS) (z2 : Int32) (z3 : Int32) : Option (GS) := jc (f_mo_makeOf st 14 z2 z3) (fun q1 => jc (f_mo_answerText q1) (fun q2 => some q2))
def mo_ends_61  (st : GS) (x1 : Int32) (x3 : Int32) (z2 : Int32) : Option (GS) := jb (x1 = 0) (mo_ends_73  st z2 x3) (mo_ends_73  st z2 (st.1 0 28))
def mo_ends_25  (st : GS) (x1 : Int32) (x2 : Int32) : Option (GS) := jb ((st.1 0 22) = 0) (jc (f_mo_lesser x2 (st.1 0 28)) (fun q3 => jb (x1 = 0) (mo_ends_61  st x1 q3 0) (mo_ends_61  st x1 q3 ((st.1 0 28) - q3)))) (some st)
def f_mo_ends (st : GS) (p0 : Int32) : Option (GS) := jc (f_mo_textOf st 0) (fun q4 => jc (f_mo_toB q4) (fun q5 => jc (f_mo_whole2 q5 1 1) (fun q6 => jb (0 ≤ q6.1) (mo_ends_25  q6.2 p0 q6.1) (jc (f_mo_fail q6.2 3) (fun q7 => mo_ends_25  q7 p0 q6.1)))))
set_option maxHeartbeats 4000000 in
set_option maxRecDepth 100000 in
theorem c_mo_ends (l : Launch) (ρ : RH) (ad : Nat → Nat) (H : Heap) (st : GS) (p0 : Int32) (res : GS) (hW : GW ρ wM ad st H) (h : f_mo_ends st p0 = some res) : Met l y167 (wsOf y167 b167 4 none) ({ frames := 6, cells := 0, slots := 0, locals := 132 } : Room) (va_Pc [.ref (ad 0), .int p0] (KP ρ H)) (mQ (fun v H1 => v = none ∧ GW ρ wM ad res H1) (MA wM ad H.size)) 0 0 (MA wM ad H.size) := by
  refine m_ofW (own := "WordFunctionsModel") (plainFor_of_name rfl) rfl (Nat.le_of_ble_eq_true rfl) fun p e s m args below meth c ls hx hb hr hlk _ X hs hl => ?_
  subst hs
  have hS : va_S (MA wM ad s.heap.size) s.heap s.heap [] := va_S.rf
  have hl : lv_has ls 4 [(0, .ref (ad 0)), (1, .int p0)] := hl
  have kc73 : ∀ (st : GS) (z2 : Int32) (z3 : Int32) (H : Heap) (locs : List Loc) (ls : Array Slot), GW ρ wM ad st H → va_S (MA wM ad s.heap.size) s.heap H locs → lv_has ls 4 [(0, .ref (ad 0))] → mo_ends_73 st z2 z3 = some res → W p l e ({ frames := 6, cells := 0, slots := 0, locals := 132 } : Room) s m args below meth c H locs 0 0 (MQ below (mQ (fun v H1 => v = none ∧ GW ρ wM ad res H1) (MA wM ad s.heap.size)) args s 0 0 (MA wM ad s.heap.size)) (F0 m 73 ls [.int z3, .int z2, .ref (ad 14), .ref (ad 0)]) := by
    intro st z2 z3 H locs ls hW hS hl h
    unfold mo_ends_73 at h
    obtain ⟨q1, hq1, h⟩ := jc_some h
    refine k_callV (pc := 73) (n := 3) X hS (c_mo_makeOf l ρ ad _ st 14 z2 z3 q1 hW ⟨by decide, rfl⟩ hq1) wd1699 wd1696 wd1698 sl197 wd11 (by decide) ⟨rfl, rfl, by decide, by decide⟩ (m_recv X hW) (As := [.ref (ad 14), .int z2, .int z3]) (rest := []) rfl rfl hl.1 (Nat.le_of_ble_eq_true rfl) d167_73 ⟨by decide, by decide⟩ (fun q hq => MA.mono hS.1 hq) (fun v H1 locs1 hv _ _ hSq1 => ?_)
    obtain ⟨rfl, hW⟩ := hv
    have hS := hSq1
    refine lv_aload_n (pc := 76) hx hb d167_76 rfl (lv_at hl 0 rfl) ?_
    obtain ⟨q2, hq2, h⟩ := jc_some h
    refine k_callV (pc := 77) (n := 0) X hS (c_mo_answerText l ρ ad _ q1 q2 hW hq2) wd1707 wd1704 wd1706 sl144 wd11 (by decide) ⟨rfl, rfl, by decide, by decide⟩ (m_recv X hW) (As := []) (rest := []) rfl rfl hl.1 (Nat.le_of_ble_eq_true rfl) d167_77 ⟨by decide, by decide⟩ (fun q hq => MA.mono hS.1 hq) (fun v H1 locs1 hv _ _ hSq2 => ?_)
    obtain ⟨rfl, hW⟩ := hv
    have hS := hSq2
    obtain rfl := Option.some.inj h
    exact m_vret (pc := 80) hx hb hr hlk hS ⟨rfl, hW⟩ (by decide) (by decide) d167_80
  have kc61 : ∀ (st : GS) (x1 : Int32) (x3 : Int32) (z2 : Int32) (H : Heap) (locs : List Loc) (ls : Array Slot), GW ρ wM ad st H → va_S (MA wM ad s.heap.size) s.heap H locs → lv_has ls 4 [(0, .ref (ad 0)), (1, .int x1), (3, .int x3)] → mo_ends_61 st x1 x3 z2 = some res → W p l e ({ frames := 6, cells := 0, slots := 0, locals := 132 } : Room) s m args below meth c H locs 0 0 (MQ below (mQ (fun v H1 => v = none ∧ GW ρ wM ad res H1) (MA wM ad s.heap.size)) args s 0 0 (MA wM ad s.heap.size)) (F0 m 61 ls [.int z2, .ref (ad 14), .ref (ad 0)]) := by
    intro st x1 x3 z2 H locs ls hW hS hl h
    unfold mo_ends_61 at h
    refine lv_iload_n (pc := 61) hx hb d167_61 rfl (lv_at hl 1 rfl) ?_
    refine lv_if_eq (pc := 62) (tgt := 72) hx hb d167_62 (by decide) (fun c62 => ?_) (fun c62 => ?_)
    · have h := jb_t c62 h
      refine lv_iload_n (pc := 72) hx hb d167_72 rfl (lv_at hl 2 rfl) ?_
      exact kc73  st z2 x3 _ _ _ hW hS (lv_sub hl [0] rfl) h
    · have h := jb_f c62 h
      refine lv_aload_n (pc := 65) hx hb d167_65 rfl (lv_at hl 0 rfl) ?_
      refine m_get (pc := 66) X hW 28 (v := .int (st.1 0 28)) wd1394 rfl rfl d167_66 ?_
      refine lv_goto (pc := 69) (tgt := 73) hx hb d167_69 (by decide) ?_
      exact kc73  st z2 (st.1 0 28) _ _ _ hW hS (lv_sub hl [0] rfl) h
  have kc25 : ∀ (st : GS) (x1 : Int32) (x2 : Int32) (H : Heap) (locs : List Loc) (ls : Array Slot), GW ρ wM ad st H → va_S (MA wM ad s.heap.size) s.heap H locs → lv_has ls 4 [(0, .ref (ad 0)), (1, .int x1), (2, .int x2)] → mo_ends_25 st x1 x2 = some res → W p l e ({ frames := 6, cells := 0, slots := 0, locals := 132 } : Room) s m args below meth c H locs 0 0 (MQ below (mQ (fun v H1 => v = none ∧ GW ρ wM ad res H1) (MA wM ad s.heap.size)) args s 0 0 (MA wM ad s.heap.size)) (F0 m 25 ls []) := by
    intro st x1 x2 H locs ls hW hS hl h
    unfold mo_ends_25 at h
    refine lv_aload_n (pc := 25) hx hb d167_25 rfl (lv_at hl 0 rfl) ?_
    refine m_get (pc := 26) X hW 22 (v := .int (st.1 0 22)) wd1388 rfl rfl d167_26 ?_
    refine lv_if_eq (pc := 29) (tgt := 33) hx hb d167_29 (by decide) (fun c29 => ?_) (fun c29 => ?_)
    · have h := jb_t c29 h
      refine lv_iload_n (pc := 33) hx hb d167_33 rfl (lv_at hl 2 rfl) ?_
      refine lv_aload_n (pc := 34) hx hb d167_34 rfl (lv_at hl 0 rfl) ?_
      refine m_get (pc := 35) X hW 28 (v := .int (st.1 0 28)) wd1394 rfl rfl d167_35 ?_
      obtain ⟨q3, hq3, h⟩ := jc_some h
      refine k_callS (pc := 38) (n := 2) X hS (c_mo_lesser l ρ _ x2 (st.1 0 28) q3 hq3) wd1695 wd1693 wd1694 wd11 (by decide) ⟨rfl, rfl, by decide, by decide⟩ (As := [.int x2, .int (st.1 0 28)]) (rest := []) rfl rfl hl.1 (Nat.le_of_ble_eq_true rfl) d167_38 ⟨by decide, by decide⟩ (fun q hq => False.elim hq) (fun v H1 locs1 hv _ _ hSq3 => ?_)
      obtain ⟨rfl, rfl⟩ := hv
      have hS := hSq3
      refine lv_istore_n (pc := 41) (lv' := [(3, .int q3), (0, .ref (ad 0)), (1, .int x1), (2, .int x2)]) hx hb d167_41 rfl hl (by decide) rfl (fun ls hl => ?_)
      refine lv_aload_n (pc := 42) hx hb d167_42 rfl (lv_at hl 1 rfl) ?_
      refine lv_aload_n (pc := 43) hx hb d167_43 rfl (lv_at hl 1 rfl) ?_
      refine m_get (pc := 44) X hW 24 (v := .ref (ad 14)) wd1390 rfl rfl d167_44 ?_
      refine lv_iload_n (pc := 47) hx hb d167_47 rfl (lv_at hl 2 rfl) ?_
      refine lv_if_eq (pc := 48) (tgt := 60) hx hb d167_48 (by decide) (fun c48 => ?_) (fun c48 => ?_)
      · have h := jb_t c48 h
        refine lv_iconst (pc := 60) (v := 0) hx hb d167_60 (by decide) ?_
        exact kc61  st x1 q3 0 _ _ _ hW hS (lv_sub hl [1, 2, 0] rfl) h
      · have h := jb_f c48 h
        refine lv_aload_n (pc := 51) hx hb d167_51 rfl (lv_at hl 1 rfl) ?_
        refine m_get (pc := 52) X hW 28 (v := .int (st.1 0 28)) wd1394 rfl rfl d167_52 ?_
        refine lv_iload_n (pc := 55) hx hb d167_55 rfl (lv_at hl 0 rfl) ?_
        refine lv_isub (pc := 56) hx hb d167_56 ?_
        refine lv_goto (pc := 57) (tgt := 61) hx hb d167_57 (by decide) ?_
        exact kc61  st x1 q3 ((st.1 0 28) - q3) _ _ _ hW hS (lv_sub hl [1, 2, 0] rfl) h
    · have h := jb_f c29 h
      obtain rfl := Option.some.inj h
      exact m_vret (pc := 32) hx hb hr hlk hS ⟨rfl, hW⟩ (by decide) (by decide) d167_32
  unfold f_mo_ends at h
  refine lv_aload_n (pc := 0) hx hb d167_0 rfl (lv_at hl 0 rfl) ?_
  refine lv_iconst (pc := 1) (v := 0) hx hb d167_1 (by decide) ?_
  obtain ⟨q4, hq4, h⟩ := jc_some h
  refine k_callV (pc := 2) (n := 1) X hS (c_mo_textOf l ρ ad _ st 0 q4 hW hq4) wd1597 wd1594 wd1596 sl226 wd11 (by decide) ⟨rfl, rfl, by decide, by decide⟩ (m_recv X hW) (As := [.int 0]) (rest := []) rfl rfl hl.1 (Nat.le_of_ble_eq_true rfl) d167_2 ⟨by decide, by decide⟩ (fun q hq => MA.mono hS.1 hq) (fun v H1 locs1 hv _ _ hSq4 => ?_)
  obtain ⟨rfl, hW⟩ := hv
  have hS := hSq4
  refine lv_aload_n (pc := 5) hx hb d167_5 rfl (lv_at hl 0 rfl) ?_
  obtain ⟨q5, hq5, h⟩ := jc_some h
  refine k_callV (pc := 6) (n := 0) X hS (c_mo_toB l ρ ad _ q4 q5 hW hq5) wd1659 wd1656 wd1658 sl231 wd11 (by decide) ⟨rfl, rfl, by decide, by decide⟩ (m_recv X hW) (As := []) (rest := []) rfl rfl hl.1 (Nat.le_of_ble_eq_true rfl) d167_6 ⟨by decide, by decide⟩ (fun q hq => MA.mono hS.1 hq) (fun v H1 locs1 hv _ _ hSq5 => ?_)
  obtain ⟨rfl, hW⟩ := hv
  have hS := hSq5
  refine lv_aload_n (pc := 9) hx hb d167_9 rfl (lv_at hl 0 rfl) ?_
  refine lv_iconst (pc := 10) (v := 1) hx hb d167_10 (by decide) ?_
  refine lv_iconst (pc := 11) (v := 1) hx hb d167_11 (by decide) ?_
  obtain ⟨q6, hq6, h⟩ := jc_some h
  refine k_callV (pc := 12) (n := 2) X hS (c_mo_whole2 l ρ ad _ q5 1 1 q6 hW hq6) wd1663 wd1660 wd1662 sl242 wd11 (by decide) ⟨rfl, rfl, by decide, by decide⟩ (m_recv X hW) (As := [.int 1, .int 1]) (rest := []) rfl rfl hl.1 (Nat.le_of_ble_eq_true rfl) d167_12 ⟨by decide, by decide⟩ (fun q hq => MA.mono hS.1 hq) (fun v H1 locs1 hv _ _ hSq6 => ?_)
  obtain ⟨rfl, hW⟩ := hv
  have hS := hSq6
  refine lv_istore_n (pc := 15) (lv' := [(2, .int q6.1), (0, .ref (ad 0)), (1, .int p0)]) hx hb d167_15 rfl hl (by decide) rfl (fun ls hl => ?_)
  refine lv_iload_n (pc := 16) hx hb d167_16 rfl (lv_at hl 0 rfl) ?_
  refine lv_if_ge (pc := 17) (tgt := 25) hx hb d167_17 (by decide) (fun c17 => ?_) (fun c17 => ?_)
  · have h := jb_t c17 h
    exact kc25  q6.2 p0 q6.1 _ _ _ hW hS (lv_sub hl [1, 2, 0] rfl) h
  · have h := jb_f c17 h
    refine lv_aload_n (pc := 20) hx hb d167_20 rfl (lv_at hl 1 rfl) ?_
    refine lv_iconst (pc := 21) (v := 3) hx hb d167_21 (by decide) ?_
    obtain ⟨q7, hq7, h⟩ := jc_some h
    refine k_callV (pc := 22) (n := 1) X hS (c_mo_fail l ρ ad _ q6.2 3 q7 hW hq7) wd1621 wd1618 wd1620 sl170 wd11 (by decide) ⟨rfl, rfl, by decide, by decide⟩ (m_recv X hW) (As := [.int 3]) (rest := []) rfl rfl hl.1 (Nat.le_of_ble_eq_true rfl) d167_22 ⟨by decide, by decide⟩ (fun q hq => MA.mono hS.1 hq) (fun v H1 locs1 hv _ _ hSq7 => ?_)
    obtain ⟨rfl, hW⟩ := hv
    have hS := hSq7
    exact kc25  q7 p0 q6.1 _ _ _ hW hS (lv_sub hl [1, 2, 0] rfl) h
def mo_middle_35  (st : GS) (x1 : Int32) (x2 : Int32) : Option (GS) := jb ((st.1 0 22) = 0) (jc (f_mo_lesser (x1 - 1) (st.1 0 28)) (fun q1 => jc (f_mo_lesser x2 ((st.1 0 28) - q1)) (fun q2 => jc (f_mo_makeOf st 14 q1 (q1 + q2)) (fun q3 => jc (f_mo_answerText q3) (fun q4 => some q4))))) (some st)
def mo_middle_30  (st : GS) (x1 : Int32) (x2 : Int32) : Option (GS) := jc (f_mo_fail st 3) (fun q5 => mo_middle_35  q5 x1 x2)
def f_mo_middle (st : GS) : Option (GS) := jc (f_mo_textOf st 0) (fun q6 => jc (f_mo_toB q6) (fun q7 => jc (f_mo_whole1 q7 1) (fun q8 => jc (f_mo_whole1 q8.2 2) (fun q9 => jb (q8.1 < 1) (mo_middle_30  q9.2 q8.1 q9.1) (jb (0 ≤ q9.1) (mo_middle_35  q9.2 q8.1 q9.1) (mo_middle_30  q9.2 q8.1 q9.1))))))
set_option maxHeartbeats 4000000 in
set_option maxRecDepth 100000 in
theorem c_mo_middle (l : Launch) (ρ : RH) (ad : Nat → Nat) (H : Heap) (st : GS) (res : GS) (hW : GW ρ wM ad st H) (h : f_mo_middle st = some res) : Met l y200 (wsOf y200 b200 4 none) ({ frames := 5, cells := 0, slots := 0, locals := 110 } : Room) (va_Pc [.ref (ad 0)] (KP ρ H)) (mQ (fun v H1 => v = none ∧ GW ρ wM ad res H1) (MA wM ad H.size)) 0 0 (MA wM ad H.size) := by
  refine m_ofW (own := "WordFunctionsModel") (plainFor_of_name rfl) rfl (Nat.le_of_ble_eq_true rfl) fun p e s m args below meth c ls hx hb hr hlk _ X hs hl => ?_
  subst hs
  have hS : va_S (MA wM ad s.heap.size) s.heap s.heap [] := va_S.rf
  have hl : lv_has ls 4 [(0, .ref (ad 0))] := hl
  have kc35 : ∀ (st : GS) (x1 : Int32) (x2 : Int32) (H : Heap) (locs : List Loc) (ls : Array Slot), GW ρ wM ad st H → va_S (MA wM ad s.heap.size) s.heap H locs → lv_has ls 4 [(0, .ref (ad 0)), (1, .int x1), (2, .int x2)] → mo_middle_35 st x1 x2 = some res → W p l e ({ frames := 5, cells := 0, slots := 0, locals := 110 } : Room) s m args below meth c H locs 0 0 (MQ below (mQ (fun v H1 => v = none ∧ GW ρ wM ad res H1) (MA wM ad s.heap.size)) args s 0 0 (MA wM ad s.heap.size)) (F0 m 35 ls []) := by
    intro st x1 x2 H locs ls hW hS hl h
    unfold mo_middle_35 at h
    refine lv_aload_n (pc := 35) hx hb d200_35 rfl (lv_at hl 0 rfl) ?_
    refine m_get (pc := 36) X hW 22 (v := .int (st.1 0 22)) wd1388 rfl rfl d200_36 ?_
    refine lv_if_eq (pc := 39) (tgt := 43) hx hb d200_39 (by decide) (fun c39 => ?_) (fun c39 => ?_)
    · have h := jb_t c39 h
      refine lv_iload_n (pc := 43) hx hb d200_43 rfl (lv_at hl 1 rfl) ?_
      refine lv_iconst (pc := 44) (v := 1) hx hb d200_44 (by decide) ?_
      refine lv_isub (pc := 45) hx hb d200_45 ?_
      refine lv_aload_n (pc := 46) hx hb d200_46 rfl (lv_at hl 0 rfl) ?_
      refine m_get (pc := 47) X hW 28 (v := .int (st.1 0 28)) wd1394 rfl rfl d200_47 ?_
      obtain ⟨q1, hq1, h⟩ := jc_some h
      refine k_callS (pc := 50) (n := 2) X hS (c_mo_lesser l ρ _ (x1 - 1) (st.1 0 28) q1 hq1) wd1695 wd1693 wd1694 wd11 (by decide) ⟨rfl, rfl, by decide, by decide⟩ (As := [.int (x1 - 1), .int (st.1 0 28)]) (rest := []) rfl rfl hl.1 (Nat.le_of_ble_eq_true rfl) d200_50 ⟨by decide, by decide⟩ (fun q hq => False.elim hq) (fun v H1 locs1 hv _ _ hSq1 => ?_)
      obtain ⟨rfl, rfl⟩ := hv
      have hS := hSq1
      refine lv_istore_n (pc := 53) (lv' := [(3, .int q1), (0, .ref (ad 0)), (1, .int x1), (2, .int x2)]) hx hb d200_53 rfl hl (by decide) rfl (fun ls hl => ?_)
      refine lv_aload_n (pc := 54) hx hb d200_54 rfl (lv_at hl 1 rfl) ?_
      refine lv_aload_n (pc := 55) hx hb d200_55 rfl (lv_at hl 1 rfl) ?_
      refine m_get (pc := 56) X hW 24 (v := .ref (ad 14)) wd1390 rfl rfl d200_56 ?_
      refine lv_iload_n (pc := 59) hx hb d200_59 rfl (lv_at hl 0 rfl) ?_
      refine lv_iload_n (pc := 60) hx hb d200_60 rfl (lv_at hl 0 rfl) ?_
      refine lv_iload_n (pc := 61) hx hb d200_61 rfl (lv_at hl 3 rfl) ?_
      refine lv_aload_n (pc := 62) hx hb d200_62 rfl (lv_at hl 1 rfl) ?_
      refine m_get (pc := 63) X hW 28 (v := .int (st.1 0 28)) wd1394 rfl rfl d200_63 ?_
      refine lv_iload_n (pc := 66) hx hb d200_66 rfl (lv_at hl 0 rfl) ?_
      refine lv_isub (pc := 67) hx hb d200_67 ?_
      obtain ⟨q2, hq2, h⟩ := jc_some h
      refine k_callS (pc := 68) (n := 2) X hS (c_mo_lesser l ρ _ x2 ((st.1 0 28) - q1) q2 hq2) wd1695 wd1693 wd1694 wd11 (by decide) ⟨rfl, rfl, by decide, by decide⟩ (As := [.int x2, .int ((st.1 0 28) - q1)]) (rest := [.int q1, .int q1, .ref (ad 14), .ref (ad 0)]) rfl rfl hl.1 (Nat.le_of_ble_eq_true rfl) d200_68 ⟨by decide, by decide⟩ (fun q hq => False.elim hq) (fun v H1 locs1 hv _ _ hSq2 => ?_)
      obtain ⟨rfl, rfl⟩ := hv
      have hS := hSq2
      refine lv_iadd (pc := 71) hx hb d200_71 ?_
      obtain ⟨q3, hq3, h⟩ := jc_some h
      refine k_callV (pc := 72) (n := 3) X hS (c_mo_makeOf l ρ ad _ st 14 q1 (q1 + q2) q3 hW ⟨by decide, rfl⟩ hq3) wd1699 wd1696 wd1698 sl197 wd11 (by decide) ⟨rfl, rfl, by decide, by decide⟩ (m_recv X hW) (As := [.ref (ad 14), .int q1, .int (q1 + q2)]) (rest := []) rfl rfl hl.1 (Nat.le_of_ble_eq_true rfl) d200_72 ⟨by decide, by decide⟩ (fun q hq => MA.mono hS.1 hq) (fun v H1 locs1 hv _ _ hSq3 => ?_)
      obtain ⟨rfl, hW⟩ := hv
      have hS := hSq3
      refine lv_aload_n (pc := 75) hx hb d200_75 rfl (lv_at hl 1 rfl) ?_
      obtain ⟨q4, hq4, h⟩ := jc_some h
      refine k_callV (pc := 76) (n := 0) X hS (c_mo_answerText l ρ ad _ q3 q4 hW hq4) wd1707 wd1704 wd1706 sl144 wd11 (by decide) ⟨rfl, rfl, by decide, by decide⟩ (m_recv X hW) (As := []) (rest := []) rfl rfl hl.1 (Nat.le_of_ble_eq_true rfl) d200_76 ⟨by decide, by decide⟩ (fun q hq => MA.mono hS.1 hq) (fun v H1 locs1 hv _ _ hSq4 => ?_)
      obtain ⟨rfl, hW⟩ := hv
      have hS := hSq4
      obtain rfl := Option.some.inj h
      exact m_vret (pc := 79) hx hb hr hlk hS ⟨rfl, hW⟩ (by decide) (by decide) d200_79
    · have h := jb_f c39 h
      obtain rfl := Option.some.inj h
      exact m_vret (pc := 42) hx hb hr hlk hS ⟨rfl, hW⟩ (by decide) (by decide) d200_42
  have kc30 : ∀ (st : GS) (x1 : Int32) (x2 : Int32) (H : Heap) (locs : List Loc) (ls : Array Slot), GW ρ wM ad st H → va_S (MA wM ad s.heap.size) s.heap H locs → lv_has ls 4 [(0, .ref (ad 0)), (1, .int x1), (2, .int x2)] → mo_middle_30 st x1 x2 = some res → W p l e ({ frames := 5, cells := 0, slots := 0, locals := 110 } : Room) s m args below meth c H locs 0 0 (MQ below (mQ (fun v H1 => v = none ∧ GW ρ wM ad res H1) (MA wM ad s.heap.size)) args s 0 0 (MA wM ad s.heap.size)) (F0 m 30 ls []) := by
    intro st x1 x2 H locs ls hW hS hl h
    unfold mo_middle_30 at h
    refine lv_aload_n (pc := 30) hx hb d200_30 rfl (lv_at hl 0 rfl) ?_
    refine lv_iconst (pc := 31) (v := 3) hx hb d200_31 (by decide) ?_
    obtain ⟨q5, hq5, h⟩ := jc_some h
    refine k_callV (pc := 32) (n := 1) X hS (c_mo_fail l ρ ad _ st 3 q5 hW hq5) wd1621 wd1618 wd1620 sl170 wd11 (by decide) ⟨rfl, rfl, by decide, by decide⟩ (m_recv X hW) (As := [.int 3]) (rest := []) rfl rfl hl.1 (Nat.le_of_ble_eq_true rfl) d200_32 ⟨by decide, by decide⟩ (fun q hq => MA.mono hS.1 hq) (fun v H1 locs1 hv _ _ hSq5 => ?_)
    obtain ⟨rfl, hW⟩ := hv
    have hS := hSq5
    exact kc35  q5 x1 x2 _ _ _ hW hS (lv_sub hl [0, 1, 2] rfl) h
  unfold f_mo_middle at h
  refine lv_aload_n (pc := 0) hx hb d200_0 rfl (lv_at hl 0 rfl) ?_
  refine lv_iconst (pc := 1) (v := 0) hx hb d200_1 (by decide) ?_
  obtain ⟨q6, hq6, h⟩ := jc_some h
  refine k_callV (pc := 2) (n := 1) X hS (c_mo_textOf l ρ ad _ st 0 q6 hW hq6) wd1597 wd1594 wd1596 sl226 wd11 (by decide) ⟨rfl, rfl, by decide, by decide⟩ (m_recv X hW) (As := [.int 0]) (rest := []) rfl rfl hl.1 (Nat.le_of_ble_eq_true rfl) d200_2 ⟨by decide, by decide⟩ (fun q hq => MA.mono hS.1 hq) (fun v H1 locs1 hv _ _ hSq6 => ?_)
  obtain ⟨rfl, hW⟩ := hv
  have hS := hSq6
  refine lv_aload_n (pc := 5) hx hb d200_5 rfl (lv_at hl 0 rfl) ?_
  obtain ⟨q7, hq7, h⟩ := jc_some h
  refine k_callV (pc := 6) (n := 0) X hS (c_mo_toB l ρ ad _ q6 q7 hW hq7) wd1659 wd1656 wd1658 sl231 wd11 (by decide) ⟨rfl, rfl, by decide, by decide⟩ (m_recv X hW) (As := []) (rest := []) rfl rfl hl.1 (Nat.le_of_ble_eq_true rfl) d200_6 ⟨by decide, by decide⟩ (fun q hq => MA.mono hS.1 hq) (fun v H1 locs1 hv _ _ hSq7 => ?_)
  obtain ⟨rfl, hW⟩ := hv
  have hS := hSq7
  refine lv_aload_n (pc := 9) hx hb d200_9 rfl (lv_at hl 0 rfl) ?_
  refine lv_iconst (pc := 10) (v := 1) hx hb d200_10 (by decide) ?_
  obtain ⟨q8, hq8, h⟩ := jc_some h
  refine k_callV (pc := 11) (n := 1) X hS (c_mo_whole1 l ρ ad _ q7 1 q8 hW hq8) wd1671 wd1668 wd1670 sl241 wd11 (by decide) ⟨rfl, rfl, by decide, by decide⟩ (m_recv X hW) (As := [.int 1]) (rest := []) rfl rfl hl.1 (Nat.le_of_ble_eq_true rfl) d200_11 ⟨by decide, by decide⟩ (fun q hq => MA.mono hS.1 hq) (fun v H1 locs1 hv _ _ hSq8 => ?_)
  obtain ⟨rfl, hW⟩ := hv
  have hS := hSq8
  refine lv_istore_n (pc := 14) (lv' := [(1, .int q8.1), (0, .ref (ad 0))]) hx hb d200_14 rfl hl (by decide) rfl (fun ls hl => ?_)
  refine lv_aload_n (pc := 15) hx hb d200_15 rfl (lv_at hl 1 rfl) ?_
  refine lv_iconst (pc := 16) (v := 2) hx hb d200_16 (by decide) ?_
  obtain ⟨q9, hq9, h⟩ := jc_some h
  refine k_callV (pc := 17) (n := 1) X hS (c_mo_whole1 l ρ ad _ q8.2 2 q9 hW hq9) wd1671 wd1668 wd1670 sl241 wd11 (by decide) ⟨rfl, rfl, by decide, by decide⟩ (m_recv X hW) (As := [.int 2]) (rest := []) rfl rfl hl.1 (Nat.le_of_ble_eq_true rfl) d200_17 ⟨by decide, by decide⟩ (fun q hq => MA.mono hS.1 hq) (fun v H1 locs1 hv _ _ hSq9 => ?_)
  obtain ⟨rfl, hW⟩ := hv
  have hS := hSq9
  refine lv_istore_n (pc := 20) (lv' := [(2, .int q9.1), (1, .int q8.1), (0, .ref (ad 0))]) hx hb d200_20 rfl hl (by decide) rfl (fun ls hl => ?_)
  refine lv_iload_n (pc := 21) hx hb d200_21 rfl (lv_at hl 1 rfl) ?_
  refine lv_iconst (pc := 22) (v := 1) hx hb d200_22 (by decide) ?_
  refine lv_icmp_lt (pc := 23) (tgt := 30) hx hb d200_23 (by decide) (fun c23 => ?_) (fun c23 => ?_)
  · have h := jb_t c23 h
    exact kc30  q9.2 q8.1 q9.1 _ _ _ hW hS (lv_sub hl [2, 1, 0] rfl) h
  · have h := jb_f c23 h
    refine lv_iload_n (pc := 26) hx hb d200_26 rfl (lv_at hl 0 rfl) ?_
    refine lv_if_ge (pc := 27) (tgt := 35) hx hb d200_27 (by decide) (fun c27 => ?_) (fun c27 => ?_)
    · have h := jb_t c27 h
      exact kc35  q9.2 q8.1 q9.1 _ _ _ hW hS (lv_sub hl [2, 1, 0] rfl) h
    · have h := jb_f c27 h
      exact kc30  q9.2 q8.1 q9.1 _ _ _ hW hS (lv_sub hl [2, 1, 0] rfl) h
def mo_toC_2  : Nat → GS → Int32 → Option (GS)
  | 0, _, _ => none
  | fu + 1, st, x1 => jb ((st.1 0 27) ≤ x1) (jn (uI st 0 29 (st.1 0 27)) (fun st1 => some st1)) (jg (inb x1 256) (jg (inb x1 256) (jn (uI st 15 x1.toNatClampNeg (st.1 13 x1.toNatClampNeg)) (fun st4 => jn (x1 + 1) (fun v5 => mo_toC_2 fu st4 v5)))))
def f_mo_toC (st : GS) : Option (GS) := mo_toC_2 FU st 0
set_option maxHeartbeats 4000000 in
set_option maxRecDepth 100000 in
theorem c_mo_toC (l : Launch) (ρ : RH) (ad : Nat → Nat) (H : Heap) (st : GS) (res : GS) (hW : GW ρ wM ad st H) (h : f_mo_toC st = some res) : Met l y232 (wsOf y232 b232 2 none) ({ frames := 0, cells := 0, slots := 0, locals := 0 } : Room) (va_Pc [.ref (ad 0)] (KP ρ H)) (mQ (fun v H1 => v = none ∧ GW ρ wM ad res H1) (MA wM ad H.size)) 0 0 (MA wM ad H.size) := by
  refine m_ofW (own := "WordFunctionsModel") (plainFor_of_name rfl) rfl (Nat.le_of_ble_eq_true rfl) fun p e s m args below meth c ls hx hb hr hlk _ X hs hl => ?_
  subst hs
  have hS : va_S (MA wM ad s.heap.size) s.heap s.heap [] := va_S.rf
  have hl : lv_has ls 2 [(0, .ref (ad 0))] := hl
  have kc2 : ∀ (fu : Nat), ∀ (st : GS) (x1 : Int32) (H : Heap) (locs : List Loc) (ls : Array Slot), GW ρ wM ad st H → va_S (MA wM ad s.heap.size) s.heap H locs → lv_has ls 2 [(0, .ref (ad 0)), (1, .int x1)] → mo_toC_2 fu st x1 = some res → W p l e ({ frames := 0, cells := 0, slots := 0, locals := 0 } : Room) s m args below meth c H locs 0 0 (MQ below (mQ (fun v H1 => v = none ∧ GW ρ wM ad res H1) (MA wM ad s.heap.size)) args s 0 0 (MA wM ad s.heap.size)) (F0 m 2 ls []) := by
    intro  fu
    induction fu with
    | zero => intro st x1 H locs ls hW hS hl h; cases h
    | succ fu hK2 =>
      intro st x1 H locs ls hW hS hl h
      unfold mo_toC_2 at h
      refine lv_iload_n (pc := 2) hx hb d232_2 rfl (lv_at hl 1 rfl) ?_
      refine lv_aload_n (pc := 3) hx hb d232_3 rfl (lv_at hl 0 rfl) ?_
      refine m_get (pc := 4) X hW 27 (v := .int (st.1 0 27)) wd1393 rfl rfl d232_4 ?_
      refine lv_icmp_ge (pc := 7) (tgt := 28) hx hb d232_7 (by decide) (fun c7 => ?_) (fun c7 => ?_)
      · have h := jb_t c7 h
        refine lv_aload_n (pc := 28) hx hb d232_28 rfl (lv_at hl 0 rfl) ?_
        refine lv_aload_n (pc := 29) hx hb d232_29 rfl (lv_at hl 0 rfl) ?_
        refine m_get (pc := 30) X hW 27 (v := .int (st.1 0 27)) wd1393 rfl rfl d232_30 ?_
        obtain ⟨st1, est1, h⟩ := jn_ex h
        refine m_putI (pc := 33) X hW hS 29 est1 wd1395 rfl rfl rfl rfl rfl d232_33 (fun H locs hW hS => ?_)
        obtain rfl := Option.some.inj h
        exact m_vret (pc := 36) hx hb hr hlk hS ⟨rfl, hW⟩ (by decide) (by decide) d232_36
      · have h := jb_f c7 h
        refine lv_aload_n (pc := 10) hx hb d232_10 rfl (lv_at hl 0 rfl) ?_
        refine m_get (pc := 11) X hW 25 (v := .ref (ad 15)) wd1391 rfl rfl d232_11 ?_
        refine lv_iload_n (pc := 14) hx hb d232_14 rfl (lv_at hl 1 rfl) ?_
        refine lv_aload_n (pc := 15) hx hb d232_15 rfl (lv_at hl 0 rfl) ?_
        refine m_get (pc := 16) X hW 23 (v := .ref (ad 13)) wd1389 rfl rfl d232_16 ?_
        refine lv_iload_n (pc := 19) hx hb d232_19 rfl (lv_at hl 1 rfl) ?_
        obtain ⟨g2, h⟩ := jg_some h
        refine r_iald (pc := 20) X hW 13 (by decide) rfl (inb_in g2) d232_20 ?_
        obtain ⟨g3, h⟩ := jg_some h
        obtain ⟨st4, est4, h⟩ := jn_ex h
        refine m_iast (pc := 21) X hW hS 15 (by decide) rfl g3 est4 d232_21 (fun H locs hW hS => ?_)
        obtain ⟨v5, ev5, h⟩ := jn_ex h
        refine lv_iinc (pc := 22) (v := v5) (lv' := [(1, .int v5), (0, .ref (ad 0))]) hx hb d232_22 hl (k := 1) rfl (by rw [ev5]; rfl) (by decide) rfl (fun ls hl => ?_)
        refine lv_goto (pc := 25) (tgt := 2) hx hb d232_25 (by decide) ?_
        exact hK2 st4 v5 _ _ _ hW hS (lv_sub hl [1, 0] rfl) h
  unfold f_mo_toC at h
  refine lv_iconst (pc := 0) (v := 0) hx hb d232_0 (by decide) ?_
  refine lv_istore_n (pc := 1) (lv' := [(1, .int 0), (0, .ref (ad 0))]) hx hb d232_1 rfl hl (by decide) rfl (fun ls hl => ?_)
  exact kc2  FU st 0 _ _ _ hW hS (lv_sub hl [1, 0] rfl) h
def mo_isEscape_45  (st : GS)  : Option (Int32) := some 1
def f_mo_isEscape (st : GS) (p0 : Nat) (p1 : Int32) (p2 : Int32) : Option (Int32) := jg (inb p2 256) (jb ((st.1 p0 p2.toNatClampNeg) = 126) (jb (p1 ≤ (p2 + 1)) (some 0) (jg (inb (p2 + 1) 256) (jb ((st.1 p0 (p2 + 1).toNatClampNeg) = 63) (mo_isEscape_45  st) (jg (inb (p2 + 1) 256) (jb ((st.1 p0 (p2 + 1).toNatClampNeg) = 42) (mo_isEscape_45  st) (jg (inb (p2 + 1) 256) (jb ((st.1 p0 (p2 + 1).toNatClampNeg) = 126) (mo_isEscape_45  st) (some 0)))))))) (some 0))
set_option maxHeartbeats 4000000 in
set_option maxRecDepth 100000 in
theorem c_mo_isEscape (l : Launch) (ρ : RH) (ad : Nat → Nat) (H : Heap) (st : GS) (p0 : Nat) (p1 : Int32) (p2 : Int32) (res : Int32) (hW : GW ρ wM ad st H) (hp0 : p0 < 23 ∧ tabM p0 = (1, 256)) (h : f_mo_isEscape st p0 p1 p2 = some res) : Met l y180 (wsOf y180 b180 3 (some .boolean)) ({ frames := 0, cells := 0, slots := 0, locals := 0 } : Room) (va_Pc [.ref (ad p0), .int p1, .int p2] (KP ρ H)) (mQ (fun v H1 => v = some (.int res) ∧ H1 = H) (fun _ => False)) 0 0 (fun _ => False) := by
  refine m_ofW (own := "WordFunctionsModel") (plainFor_of_name rfl) rfl (Nat.le_of_ble_eq_true rfl) fun p e s m args below meth c ls hx hb hr hlk _ X hs hl => ?_
  subst hs
  have hS : va_S (fun _ => False) s.heap s.heap [] := va_S.rf
  have hl : lv_has ls 3 [(0, .ref (ad p0)), (1, .int p1), (2, .int p2)] := hl
  have kc45 : ∀  (locs : List Loc) (ls : Array Slot), va_S (fun _ => False) s.heap s.heap locs → lv_has ls 3 [] → mo_isEscape_45 st = some res → W p l e ({ frames := 0, cells := 0, slots := 0, locals := 0 } : Room) s m args below meth c s.heap locs 0 0 (MQ below (mQ (fun v H1 => v = some (.int res) ∧ H1 = s.heap) (fun _ => False)) args s 0 0 (fun _ => False)) (F0 m 45 ls []) := by
    intro  locs ls hS hl h
    unfold mo_isEscape_45 at h
    refine lv_iconst (pc := 45) (v := 1) hx hb d180_45 (by decide) ?_
    refine lv_goto (pc := 46) (tgt := 50) hx hb d180_46 (by decide) ?_
    obtain rfl := Option.some.inj h
    exact m_zret (pc := 50) hx hb hr hlk hS ⟨rfl, rfl⟩ (by decide) (by decide) d180_50 (by decide)
  unfold f_mo_isEscape at h
  refine lv_aload_n (pc := 0) hx hb d180_0 rfl (lv_at hl 0 rfl) ?_
  refine lv_iload_n (pc := 1) hx hb d180_1 rfl (lv_at hl 2 rfl) ?_
  obtain ⟨g1, h⟩ := jg_some h
  refine r_iald (pc := 2) X hW p0 hp0.1 hp0.2 (inb_in g1) d180_2 ?_
  refine lv_bipush (pc := 3) (v := 126) hx hb d180_3 (by decide) ?_
  refine lv_icmp_ne (pc := 5) (tgt := 49) hx hb d180_5 (by decide) (fun c5 => ?_) (fun c5 => ?_)
  · have h := jb_f c5 h
    refine lv_iconst (pc := 49) (v := 0) hx hb d180_49 (by decide) ?_
    obtain rfl := Option.some.inj h
    exact m_zret (pc := 50) hx hb hr hlk hS ⟨rfl, rfl⟩ (by decide) (by decide) d180_50 (by decide)
  · have h := jb_t c5 h
    refine lv_iload_n (pc := 8) hx hb d180_8 rfl (lv_at hl 2 rfl) ?_
    refine lv_iconst (pc := 9) (v := 1) hx hb d180_9 (by decide) ?_
    refine lv_iadd (pc := 10) hx hb d180_10 ?_
    refine lv_iload_n (pc := 11) hx hb d180_11 rfl (lv_at hl 1 rfl) ?_
    refine lv_icmp_ge (pc := 12) (tgt := 49) hx hb d180_12 (by decide) (fun c12 => ?_) (fun c12 => ?_)
    · have h := jb_t c12 h
      refine lv_iconst (pc := 49) (v := 0) hx hb d180_49 (by decide) ?_
      obtain rfl := Option.some.inj h
      exact m_zret (pc := 50) hx hb hr hlk hS ⟨rfl, rfl⟩ (by decide) (by decide) d180_50 (by decide)
    · have h := jb_f c12 h
      refine lv_aload_n (pc := 15) hx hb d180_15 rfl (lv_at hl 0 rfl) ?_
      refine lv_iload_n (pc := 16) hx hb d180_16 rfl (lv_at hl 2 rfl) ?_
      refine lv_iconst (pc := 17) (v := 1) hx hb d180_17 (by decide) ?_
      refine lv_iadd (pc := 18) hx hb d180_18 ?_
      obtain ⟨g2, h⟩ := jg_some h
      refine r_iald (pc := 19) X hW p0 hp0.1 hp0.2 (inb_in g2) d180_19 ?_
      refine lv_bipush (pc := 20) (v := 63) hx hb d180_20 (by decide) ?_
      refine lv_icmp_eq (pc := 22) (tgt := 45) hx hb d180_22 (by decide) (fun c22 => ?_) (fun c22 => ?_)
      · have h := jb_t c22 h
        exact kc45   _ _ hS (lv_sub hl [] rfl) h
      · have h := jb_f c22 h
        refine lv_aload_n (pc := 25) hx hb d180_25 rfl (lv_at hl 0 rfl) ?_
        refine lv_iload_n (pc := 26) hx hb d180_26 rfl (lv_at hl 2 rfl) ?_
        refine lv_iconst (pc := 27) (v := 1) hx hb d180_27 (by decide) ?_
        refine lv_iadd (pc := 28) hx hb d180_28 ?_
        obtain ⟨g3, h⟩ := jg_some h
        refine r_iald (pc := 29) X hW p0 hp0.1 hp0.2 (inb_in g3) d180_29 ?_
        refine lv_bipush (pc := 30) (v := 42) hx hb d180_30 (by decide) ?_
        refine lv_icmp_eq (pc := 32) (tgt := 45) hx hb d180_32 (by decide) (fun c32 => ?_) (fun c32 => ?_)
        · have h := jb_t c32 h
          exact kc45   _ _ hS (lv_sub hl [] rfl) h
        · have h := jb_f c32 h
          refine lv_aload_n (pc := 35) hx hb d180_35 rfl (lv_at hl 0 rfl) ?_
          refine lv_iload_n (pc := 36) hx hb d180_36 rfl (lv_at hl 2 rfl) ?_
          refine lv_iconst (pc := 37) (v := 1) hx hb d180_37 (by decide) ?_
          refine lv_iadd (pc := 38) hx hb d180_38 ?_
          obtain ⟨g4, h⟩ := jg_some h
          refine r_iald (pc := 39) X hW p0 hp0.1 hp0.2 (inb_in g4) d180_39 ?_
          refine lv_bipush (pc := 40) (v := 126) hx hb d180_40 (by decide) ?_
          refine lv_icmp_ne (pc := 42) (tgt := 49) hx hb d180_42 (by decide) (fun c42 => ?_) (fun c42 => ?_)
          · have h := jb_f c42 h
            refine lv_iconst (pc := 49) (v := 0) hx hb d180_49 (by decide) ?_
            obtain rfl := Option.some.inj h
            exact m_zret (pc := 50) hx hb hr hlk hS ⟨rfl, rfl⟩ (by decide) (by decide) d180_50 (by decide)
          · have h := jb_t c42 h
            exact kc45   _ _ hS (lv_sub hl [] rfl) h
def f_mo_great  (p0 : Int32) : Option (Int32) := jb (p0 < 97) (some p0) (jb (122 < p0) (some p0) (some (p0 - 32)))
set_option maxHeartbeats 4000000 in
set_option maxRecDepth 100000 in
theorem c_mo_great (l : Launch) (ρ : RH) (H : Heap) (p0 : Int32) (res : Int32) (h : f_mo_great p0 = some res) : Met l y175 (wsOf y175 b175 1 (some .int)) ({ frames := 0, cells := 0, slots := 0, locals := 0 } : Room) (va_Pc [.int p0] (KP ρ H)) (mQ (fun v H1 => v = some (.int res) ∧ H1 = H) (fun _ => False)) 0 0 (fun _ => False) := by
  refine m_ofW (own := "WordFunctionsModel") (plainFor_of_name rfl) rfl (Nat.le_of_ble_eq_true rfl) fun p e s m args below meth c ls hx hb hr hlk _ X hs hl => ?_
  subst hs
  have hS : va_S (fun _ => False) s.heap s.heap [] := va_S.rf
  have hl : lv_has ls 1 [(0, .int p0)] := hl
  unfold f_mo_great at h
  refine lv_iload_n (pc := 0) hx hb d175_0 rfl (lv_at hl 0 rfl) ?_
  refine lv_bipush (pc := 1) (v := 97) hx hb d175_1 (by decide) ?_
  refine lv_icmp_lt (pc := 3) (tgt := 19) hx hb d175_3 (by decide) (fun c3 => ?_) (fun c3 => ?_)
  · have h := jb_t c3 h
    refine lv_iload_n (pc := 19) hx hb d175_19 rfl (lv_at hl 0 rfl) ?_
    obtain rfl := Option.some.inj h
    exact m_iret (pc := 20) hx hb hr hlk hS ⟨rfl, rfl⟩ (by decide) (by decide) d175_20
  · have h := jb_f c3 h
    refine lv_iload_n (pc := 6) hx hb d175_6 rfl (lv_at hl 0 rfl) ?_
    refine lv_bipush (pc := 7) (v := 122) hx hb d175_7 (by decide) ?_
    refine lv_icmp_gt (pc := 9) (tgt := 19) hx hb d175_9 (by decide) (fun c9 => ?_) (fun c9 => ?_)
    · have h := jb_t c9 h
      refine lv_iload_n (pc := 19) hx hb d175_19 rfl (lv_at hl 0 rfl) ?_
      obtain rfl := Option.some.inj h
      exact m_iret (pc := 20) hx hb hr hlk hS ⟨rfl, rfl⟩ (by decide) (by decide) d175_20
    · have h := jb_f c9 h
      refine lv_iload_n (pc := 12) hx hb d175_12 rfl (lv_at hl 0 rfl) ?_
      refine lv_bipush (pc := 13) (v := 32) hx hb d175_13 (by decide) ?_
      refine lv_isub (pc := 15) hx hb d175_15 ?_
      refine lv_goto (pc := 16) (tgt := 20) hx hb d175_16 (by decide) ?_
      obtain rfl := Option.some.inj h
      exact m_iret (pc := 20) hx hb hr hlk hS ⟨rfl, rfl⟩ (by decide) (by decide) d175_20
def mo_matches_265 (K52 : GS → Nat → Int32 → Nat → Int32 → Int32 → Int32 → Option (Int32 × GS)) (K108 : GS → Nat → Int32 → Nat → Int32 → Int32 → Int32 → Int32 → Int32 → Int32 → Int32 → Option (Int32 × GS)) (st : GS) (x1 : Nat) (x2 : Int32) (x3 : Nat) (x4 : Int32) (x5 : Int32) (x7 : Int32) (x8 : Int32) (x9 : Int32) (x10 : Int32) (x11 : Int32) (z1 : Int32) (z2 : Int32) : Option (Int32 × GS) := jg (inb z1 66000) (jg (isB z2) (jn (uI st 18 z1.toNatClampNeg z2) (fun st3 => jn (x11 + (-1)) (fun v4 => K108 st3 x1 x2 x3 x4 x5 x7 x8 x9 x10 v4))))
def mo_matches_259 (K52 : GS → Nat → Int32 → Nat → Int32 → Int32 → Int32 → Option (Int32 × GS)) (K108 : GS → Nat → Int32 → Nat → Int32 → Int32 → Int32 → Int32 → Int32 → Int32 → Int32 → Option (Int32 × GS)) (st : GS) (x1 : Nat) (x2 : Int32) (x3 : Nat) (x4 : Int32) (x5 : Int32) (x7 : Int32) (x8 : Int32) (x9 : Int32) (x10 : Int32) (x11 : Int32) (z1 : Int32) : Option (Int32 × GS) := mo_matches_265 K52 K108  st x1 x2 x3 x4 x5 x7 x8 x9 x10 x11 z1 0
def mo_matches_255 (K52 : GS → Nat → Int32 → Nat → Int32 → Int32 → Int32 → Option (Int32 × GS)) (K108 : GS → Nat → Int32 → Nat → Int32 → Int32 → Int32 → Int32 → Int32 → Int32 → Int32 → Option (Int32 × GS)) (st : GS) (x1 : Nat) (x2 : Int32) (x3 : Nat) (x4 : Int32) (x5 : Int32) (x7 : Int32) (x8 : Int32) (x9 : Int32) (x10 : Int32) (x11 : Int32) (z1 : Int32) : Option (Int32 × GS) := mo_matches_265 K52 K108  st x1 x2 x3 x4 x5 x7 x8 x9 x10 x11 z1 1
def mo_matches_192 (K52 : GS → Nat → Int32 → Nat → Int32 → Int32 → Int32 → Option (Int32 × GS)) (K108 : GS → Nat → Int32 → Nat → Int32 → Int32 → Int32 → Int32 → Int32 → Int32 → Int32 → Option (Int32 × GS)) (st : GS) (x1 : Nat) (x2 : Int32) (x3 : Nat) (x4 : Int32) (x5 : Int32) (x7 : Int32) (x8 : Int32) (x9 : Int32) (x10 : Int32) (x11 : Int32) (x12 : Int32) (z0 : Int32) : Option (Int32 × GS) := jb (z0 = 0) (mo_matches_265 K52 K108  st x1 x2 x3 x4 x5 x7 x8 x9 x10 x11 ((256 * x7) + x11) x12) (jg (inb ((256 * x10) + x11) 66000) (jb ((st.1 18 ((256 * x10) + x11).toNatClampNeg) = 0) (jb (x4 ≤ x11) (mo_matches_259 K52 K108  st x1 x2 x3 x4 x5 x7 x8 x9 x10 x11 ((256 * x7) + x11)) (jg (inb (((256 * x7) + x11) + 1) 66000) (jb ((st.1 18 (((256 * x7) + x11) + 1).toNatClampNeg) = 0) (mo_matches_259 K52 K108  st x1 x2 x3 x4 x5 x7 x8 x9 x10 x11 ((256 * x7) + x11)) (mo_matches_255 K52 K108  st x1 x2 x3 x4 x5 x7 x8 x9 x10 x11 ((256 * x7) + x11))))) (mo_matches_255 K52 K108  st x1 x2 x3 x4 x5 x7 x8 x9 x10 x11 ((256 * x7) + x11))))
def mo_matches_191 (K52 : GS → Nat → Int32 → Nat → Int32 → Int32 → Int32 → Option (Int32 × GS)) (K108 : GS → Nat → Int32 → Nat → Int32 → Int32 → Int32 → Int32 → Int32 → Int32 → Int32 → Option (Int32 × GS)) (st : GS) (x1 : Nat) (x2 : Int32) (x3 : Nat) (x4 : Int32) (x5 : Int32) (x7 : Int32) (x8 : Int32) (x9 : Int32) (x10 : Int32) (x11 : Int32) (x12 : Int32) : Option (Int32 × GS) := mo_matches_192 K52 K108  st x1 x2 x3 x4 x5 x7 x8 x9 x10 x11 x12 0
def mo_matches_173 (K52 : GS → Nat → Int32 → Nat → Int32 → Int32 → Int32 → Option (Int32 × GS)) (K108 : GS → Nat → Int32 → Nat → Int32 → Int32 → Int32 → Int32 → Int32 → Int32 → Int32 → Option (Int32 × GS)) (st : GS) (x1 : Nat) (x2 : Int32) (x3 : Nat) (x4 : Int32) (x5 : Int32) (x7 : Int32) (x8 : Int32) (x9 : Int32) (x10 : Int32) (x11 : Int32) (z0 : Int32) : Option (Int32 × GS) := jb (x9 = 42) (jb (x8 = 0) (mo_matches_192 K52 K108  st x1 x2 x3 x4 x5 x7 x8 x9 x10 x11 z0 1) (mo_matches_191 K52 K108  st x1 x2 x3 x4 x5 x7 x8 x9 x10 x11 z0)) (mo_matches_191 K52 K108  st x1 x2 x3 x4 x5 x7 x8 x9 x10 x11 z0)
def mo_matches_172 (K52 : GS → Nat → Int32 → Nat → Int32 → Int32 → Int32 → Option (Int32 × GS)) (K108 : GS → Nat → Int32 → Nat → Int32 → Int32 → Int32 → Int32 → Int32 → Int32 → Int32 → Option (Int32 × GS)) (st : GS) (x1 : Nat) (x2 : Int32) (x3 : Nat) (x4 : Int32) (x5 : Int32) (x7 : Int32) (x8 : Int32) (x9 : Int32) (x10 : Int32) (x11 : Int32) : Option (Int32 × GS) := mo_matches_173 K52 K108  st x1 x2 x3 x4 x5 x7 x8 x9 x10 x11 0
def mo_matches_149 (K52 : GS → Nat → Int32 → Nat → Int32 → Int32 → Int32 → Option (Int32 × GS)) (K108 : GS → Nat → Int32 → Nat → Int32 → Int32 → Int32 → Int32 → Int32 → Int32 → Int32 → Option (Int32 × GS)) (st : GS) (x1 : Nat) (x2 : Int32) (x3 : Nat) (x4 : Int32) (x5 : Int32) (x7 : Int32) (x8 : Int32) (x9 : Int32) (x10 : Int32) (x11 : Int32) : Option (Int32 × GS) := jg (inb (((256 * x10) + x11) + 1) 66000) (jb ((st.1 18 (((256 * x10) + x11) + 1).toNatClampNeg) = 0) (mo_matches_172 K52 K108  st x1 x2 x3 x4 x5 x7 x8 x9 x10 x11) (mo_matches_173 K52 K108  st x1 x2 x3 x4 x5 x7 x8 x9 x10 x11 1))
def mo_matches_134 (K52 : GS → Nat → Int32 → Nat → Int32 → Int32 → Int32 → Option (Int32 × GS)) (K108 : GS → Nat → Int32 → Nat → Int32 → Int32 → Int32 → Int32 → Int32 → Int32 → Int32 → Option (Int32 × GS)) (st : GS) (x1 : Nat) (x2 : Int32) (x3 : Nat) (x4 : Int32) (x5 : Int32) (x7 : Int32) (x8 : Int32) (x9 : Int32) (x10 : Int32) (x11 : Int32) : Option (Int32 × GS) := jc (f_mo_great x9) (fun q8 => jg (inb x11 256) (jc (f_mo_great (st.1 x3 x11.toNatClampNeg)) (fun q10 => jb (q8 = q10) (mo_matches_149 K52 K108  st x1 x2 x3 x4 x5 x7 x8 x9 x10 x11) (mo_matches_172 K52 K108  st x1 x2 x3 x4 x5 x7 x8 x9 x10 x11))))
def mo_matches_108 (K52 : GS → Nat → Int32 → Nat → Int32 → Int32 → Int32 → Option (Int32 × GS)) : Nat → GS → Nat → Int32 → Nat → Int32 → Int32 → Int32 → Int32 → Int32 → Int32 → Int32 → Option (Int32 × GS)
  | 0, _, _, _, _, _, _, _, _, _, _, _ => none
  | fu + 1, st, x1, x2, x3, x4, x5, x7, x8, x9, x10, x11 => jb (x11 < x5) (jn (x7 + (-1)) (fun v11 => K52 st x1 x2 x3 x4 x5 v11)) (jb (x4 ≤ x11) (mo_matches_172 K52 (mo_matches_108 K52 fu)  st x1 x2 x3 x4 x5 x7 x8 x9 x10 x11) (jb (x9 = 63) (jb (x8 = 0) (mo_matches_149 K52 (mo_matches_108 K52 fu)  st x1 x2 x3 x4 x5 x7 x8 x9 x10 x11) (mo_matches_134 K52 (mo_matches_108 K52 fu)  st x1 x2 x3 x4 x5 x7 x8 x9 x10 x11)) (mo_matches_134 K52 (mo_matches_108 K52 fu)  st x1 x2 x3 x4 x5 x7 x8 x9 x10 x11)))
def mo_matches_102 (K52 : GS → Nat → Int32 → Nat → Int32 → Int32 → Int32 → Option (Int32 × GS)) (st : GS) (x1 : Nat) (x2 : Int32) (x3 : Nat) (x4 : Int32) (x5 : Int32) (x7 : Int32) (x8 : Int32) (x9 : Int32) (z0 : Int32) : Option (Int32 × GS) := mo_matches_108 K52 FU st x1 x2 x3 x4 x5 x7 x8 x9 z0 x4
def mo_matches_84 (K52 : GS → Nat → Int32 → Nat → Int32 → Int32 → Int32 → Option (Int32 × GS)) (st : GS) (x1 : Nat) (x2 : Int32) (x3 : Nat) (x4 : Int32) (x5 : Int32) (x7 : Int32) (x8 : Int32) (z0 : Int32) : Option (Int32 × GS) := jb (x8 = 0) (mo_matches_102 K52  st x1 x2 x3 x4 x5 x7 x8 z0 (x7 + 1)) (mo_matches_102 K52  st x1 x2 x3 x4 x5 x7 x8 z0 (x7 + 2))
def mo_matches_52  : Nat → GS → Nat → Int32 → Nat → Int32 → Int32 → Int32 → Option (Int32 × GS)
  | 0, _, _, _, _, _, _, _ => none
  | fu + 1, st, x1, x2, x3, x4, x5, x7 => jb (x7 < 0) (jg (inb x5 66000) (jg (isB (st.1 18 x5.toNatClampNeg)) (some ((st.1 18 x5.toNatClampNeg), st)))) (jc (f_mo_isEscape st x1 x2 x7) (fun q14 => jb (q14 = 0) (jg (inb x7 256) (mo_matches_84 (mo_matches_52 fu)  st x1 x2 x3 x4 x5 x7 q14 (st.1 x1 x7.toNatClampNeg))) (jg (inb (x7 + 1) 256) (mo_matches_84 (mo_matches_52 fu)  st x1 x2 x3 x4 x5 x7 q14 (st.1 x1 (x7 + 1).toNatClampNeg)))))
def mo_matches_40 (K4 : GS → Nat → Int32 → Nat → Int32 → Int32 → Int32 → Int32 → Option (Int32 × GS)) (st : GS) (x1 : Nat) (x2 : Int32) (x3 : Nat) (x4 : Int32) (x5 : Int32) (x6 : Int32) (x7 : Int32) (z1 : Int32) (z2 : Int32) : Option (Int32 × GS) := jg (inb z1 66000) (jg (isB z2) (jn (uI st 18 z1.toNatClampNeg z2) (fun st19 => jn (x7 + (-1)) (fun v20 => K4 st19 x1 x2 x3 x4 x5 x6 v20))))
def mo_matches_35 (K4 : GS → Nat → Int32 → Nat → Int32 → Int32 → Int32 → Int32 → Option (Int32 × GS)) (st : GS) (x1 : Nat) (x2 : Int32) (x3 : Nat) (x4 : Int32) (x5 : Int32) (x6 : Int32) (x7 : Int32) (z1 : Int32) : Option (Int32 × GS) := mo_matches_40 K4  st x1 x2 x3 x4 x5 x6 x7 z1 1
def mo_matches_4  : Nat → GS → Nat → Int32 → Nat → Int32 → Int32 → Int32 → Int32 → Option (Int32 × GS)
  | 0, _, _, _, _, _, _, _, _ => none
  | fu + 1, st, x1, x2, x3, x4, x5, x6, x7 => jb (x7 < x5) (jn (x2 - 1) (fun v21 => mo_matches_52 FU st x1 x2 x3 x4 x5 v21)) (jb (x6 = 0) (mo_matches_35 (mo_matches_4 fu)  st x1 x2 x3 x4 x5 x6 x7 ((256 * x2) + x7)) (jb (x7 = x4) (mo_matches_35 (mo_matches_4 fu)  st x1 x2 x3 x4 x5 x6 x7 ((256 * x2) + x7)) (mo_matches_40 (mo_matches_4 fu)  st x1 x2 x3 x4 x5 x6 x7 ((256 * x2) + x7) 0)))
def f_mo_matches (st : GS) (p0 : Nat) (p1 : Int32) (p2 : Nat) (p3 : Int32) (p4 : Int32) (p5 : Int32) : Option (Int32 × GS) := mo_matches_4 FU st p0 p1 p2 p3 p4 p5 p3
set_option maxHeartbeats 4000000 in
set_option maxRecDepth 100000 in
theorem c_mo_matches (l : Launch) (ρ : RH) (ad : Nat → Nat) (H : Heap) (st : GS) (p0 : Nat) (p1 : Int32) (p2 : Nat) (p3 : Int32) (p4 : Int32) (p5 : Int32) (res : Int32 × GS) (hW : GW ρ wM ad st H) (hp0 : p0 < 23 ∧ tabM p0 = (1, 256)) (hp2 : p2 < 23 ∧ tabM p2 = (1, 256)) (h : f_mo_matches st p0 p1 p2 p3 p4 p5 = some res) : Met l y199 (wsOf y199 b199 14 (some .boolean)) ({ frames := 1, cells := 0, slots := 0, locals := 22 } : Room) (va_Pc [.ref (ad 0), .ref (ad p0), .int p1, .ref (ad p2), .int p3, .int p4, .int p5] (KP ρ H)) (mQ (fun v H1 => v = some (.int res.1) ∧ GW ρ wM ad res.2 H1) (MA wM ad H.size)) 0 0 (MA wM ad H.size) := by
  refine m_ofW (own := "WordFunctionsModel") (plainFor_of_name rfl) rfl (Nat.le_of_ble_eq_true rfl) fun p e s m args below meth c ls hx hb hr hlk _ X hs hl => ?_
  subst hs
  have hS : va_S (MA wM ad s.heap.size) s.heap s.heap [] := va_S.rf
  have hl : lv_has ls 14 [(0, .ref (ad 0)), (1, .ref (ad p0)), (2, .int p1), (3, .ref (ad p2)), (4, .int p3), (5, .int p4), (6, .int p5)] := hl
  have kc265 : ∀ (K52 : GS → Nat → Int32 → Nat → Int32 → Int32 → Int32 → Option (Int32 × GS)) (hK52 : ∀ (st : GS) (x1 : Nat) (x2 : Int32) (x3 : Nat) (x4 : Int32) (x5 : Int32) (x7 : Int32) (hx1 : x1 < 23 ∧ tabM x1 = (1, 256)) (hx3 : x3 < 23 ∧ tabM x3 = (1, 256)) (H : Heap) (locs : List Loc) (ls : Array Slot), GW ρ wM ad st H → va_S (MA wM ad s.heap.size) s.heap H locs → lv_has ls 14 [(0, .ref (ad 0)), (1, .ref (ad x1)), (2, .int x2), (3, .ref (ad x3)), (4, .int x4), (5, .int x5), (7, .int x7)] → K52 st x1 x2 x3 x4 x5 x7 = some res → W p l e ({ frames := 1, cells := 0, slots := 0, locals := 22 } : Room) s m args below meth c H locs 0 0 (MQ below (mQ (fun v H1 => v = some (.int res.1) ∧ GW ρ wM ad res.2 H1) (MA wM ad s.heap.size)) args s 0 0 (MA wM ad s.heap.size)) (F0 m 52 ls [])) (K108 : GS → Nat → Int32 → Nat → Int32 → Int32 → Int32 → Int32 → Int32 → Int32 → Int32 → Option (Int32 × GS)) (hK108 : ∀ (st : GS) (x1 : Nat) (x2 : Int32) (x3 : Nat) (x4 : Int32) (x5 : Int32) (x7 : Int32) (x8 : Int32) (x9 : Int32) (x10 : Int32) (x11 : Int32) (hx1 : x1 < 23 ∧ tabM x1 = (1, 256)) (hx3 : x3 < 23 ∧ tabM x3 = (1, 256)) (H : Heap) (locs : List Loc) (ls : Array Slot), GW ρ wM ad st H → va_S (MA wM ad s.heap.size) s.heap H locs → lv_has ls 14 [(0, .ref (ad 0)), (1, .ref (ad x1)), (2, .int x2), (3, .ref (ad x3)), (4, .int x4), (5, .int x5), (7, .int x7), (8, .int x8), (9, .int x9), (10, .int x10), (11, .int x11)] → K108 st x1 x2 x3 x4 x5 x7 x8 x9 x10 x11 = some res → W p l e ({ frames := 1, cells := 0, slots := 0, locals := 22 } : Room) s m args below meth c H locs 0 0 (MQ below (mQ (fun v H1 => v = some (.int res.1) ∧ GW ρ wM ad res.2 H1) (MA wM ad s.heap.size)) args s 0 0 (MA wM ad s.heap.size)) (F0 m 108 ls [])), ∀ (st : GS) (x1 : Nat) (x2 : Int32) (x3 : Nat) (x4 : Int32) (x5 : Int32) (x7 : Int32) (x8 : Int32) (x9 : Int32) (x10 : Int32) (x11 : Int32) (z1 : Int32) (z2 : Int32) (hx1 : x1 < 23 ∧ tabM x1 = (1, 256)) (hx3 : x3 < 23 ∧ tabM x3 = (1, 256)) (H : Heap) (locs : List Loc) (ls : Array Slot), GW ρ wM ad st H → va_S (MA wM ad s.heap.size) s.heap H locs → lv_has ls 14 [(0, .ref (ad 0)), (1, .ref (ad x1)), (2, .int x2), (3, .ref (ad x3)), (4, .int x4), (5, .int x5), (7, .int x7), (8, .int x8), (9, .int x9), (10, .int x10), (11, .int x11)] → mo_matches_265 K52 K108 st x1 x2 x3 x4 x5 x7 x8 x9 x10 x11 z1 z2 = some res → W p l e ({ frames := 1, cells := 0, slots := 0, locals := 22 } : Room) s m args below meth c H locs 0 0 (MQ below (mQ (fun v H1 => v = some (.int res.1) ∧ GW ρ wM ad res.2 H1) (MA wM ad s.heap.size)) args s 0 0 (MA wM ad s.heap.size)) (F0 m 265 ls [.int z2, .int z1, .ref (ad 18)]) := by
    intro K52 hK52 K108 hK108
    intro st x1 x2 x3 x4 x5 x7 x8 x9 x10 x11 z1 z2 hx1 hx3 H locs ls hW hS hl h
    unfold mo_matches_265 at h
    obtain ⟨g1, h⟩ := jg_some h
    obtain ⟨g2, h⟩ := jg_some h
    obtain ⟨st3, est3, h⟩ := jn_ex h
    refine m_zast (pc := 265) X hW hS 18 (by decide) rfl g2 g1 est3 d199_265 (fun H locs hW hS => ?_)
    obtain ⟨v4, ev4, h⟩ := jn_ex h
    refine lv_iinc (pc := 266) (v := v4) (lv' := [(11, .int v4), (0, .ref (ad 0)), (1, .ref (ad x1)), (2, .int x2), (3, .ref (ad x3)), (4, .int x4), (5, .int x5), (7, .int x7), (8, .int x8), (9, .int x9), (10, .int x10)]) hx hb d199_266 hl (k := 10) rfl (by rw [ev4]; rfl) (by decide) rfl (fun ls hl => ?_)
    refine lv_goto (pc := 269) (tgt := 108) hx hb d199_269 (by decide) ?_
    exact hK108 st3 x1 x2 x3 x4 x5 x7 x8 x9 x10 v4 hx1 hx3 _ _ _ hW hS (lv_sub hl [1, 2, 3, 4, 5, 6, 7, 8, 9, 10, 0] rfl) h
  have kc259 : ∀ (K52 : GS → Nat → Int32 → Nat → Int32 → Int32 → Int32 → Option (Int32 × GS)) (hK52 : ∀ (st : GS) (x1 : Nat) (x2 : Int32) (x3 : Nat) (x4 : Int32) (x5 : Int32) (x7 : Int32) (hx1 : x1 < 23 ∧ tabM x1 = (1, 256)) (hx3 : x3 < 23 ∧ tabM x3 = (1, 256)) (H : Heap) (locs : List Loc) (ls : Array Slot), GW ρ wM ad st H → va_S (MA wM ad s.heap.size) s.heap H locs → lv_has ls 14 [(0, .ref (ad 0)), (1, .ref (ad x1)), (2, .int x2), (3, .ref (ad x3)), (4, .int x4), (5, .int x5), (7, .int x7)] → K52 st x1 x2 x3 x4 x5 x7 = some res → W p l e ({ frames := 1, cells := 0, slots := 0, locals := 22 } : Room) s m args below meth c H locs 0 0 (MQ below (mQ (fun v H1 => v = some (.int res.1) ∧ GW ρ wM ad res.2 H1) (MA wM ad s.heap.size)) args s 0 0 (MA wM ad s.heap.size)) (F0 m 52 ls [])) (K108 : GS → Nat → Int32 → Nat → Int32 → Int32 → Int32 → Int32 → Int32 → Int32 → Int32 → Option (Int32 × GS)) (hK108 : ∀ (st : GS) (x1 : Nat) (x2 : Int32) (x3 : Nat) (x4 : Int32) (x5 : Int32) (x7 : Int32) (x8 : Int32) (x9 : Int32) (x10 : Int32) (x11 : Int32) (hx1 : x1 < 23 ∧ tabM x1 = (1, 256)) (hx3 : x3 < 23 ∧ tabM x3 = (1, 256)) (H : Heap) (locs : List Loc) (ls : Array Slot), GW ρ wM ad st H → va_S (MA wM ad s.heap.size) s.heap H locs → lv_has ls 14 [(0, .ref (ad 0)), (1, .ref (ad x1)), (2, .int x2), (3, .ref (ad x3)), (4, .int x4), (5, .int x5), (7, .int x7), (8, .int x8), (9, .int x9), (10, .int x10), (11, .int x11)] → K108 st x1 x2 x3 x4 x5 x7 x8 x9 x10 x11 = some res → W p l e ({ frames := 1, cells := 0, slots := 0, locals := 22 } : Room) s m args below meth c H locs 0 0 (MQ below (mQ (fun v H1 => v = some (.int res.1) ∧ GW ρ wM ad res.2 H1) (MA wM ad s.heap.size)) args s 0 0 (MA wM ad s.heap.size)) (F0 m 108 ls [])), ∀ (st : GS) (x1 : Nat) (x2 : Int32) (x3 : Nat) (x4 : Int32) (x5 : Int32) (x7 : Int32) (x8 : Int32) (x9 : Int32) (x10 : Int32) (x11 : Int32) (z1 : Int32) (hx1 : x1 < 23 ∧ tabM x1 = (1, 256)) (hx3 : x3 < 23 ∧ tabM x3 = (1, 256)) (H : Heap) (locs : List Loc) (ls : Array Slot), GW ρ wM ad st H → va_S (MA wM ad s.heap.size) s.heap H locs → lv_has ls 14 [(0, .ref (ad 0)), (1, .ref (ad x1)), (2, .int x2), (3, .ref (ad x3)), (4, .int x4), (5, .int x5), (7, .int x7), (8, .int x8), (9, .int x9), (10, .int x10), (11, .int x11)] → mo_matches_259 K52 K108 st x1 x2 x3 x4 x5 x7 x8 x9 x10 x11 z1 = some res → W p l e ({ frames := 1, cells := 0, slots := 0, locals := 22 } : Room) s m args below meth c H locs 0 0 (MQ below (mQ (fun v H1 => v = some (.int res.1) ∧ GW ρ wM ad res.2 H1) (MA wM ad s.heap.size)) args s 0 0 (MA wM ad s.heap.size)) (F0 m 259 ls [.int z1, .ref (ad 18)]) := by
    intro K52 hK52 K108 hK108
    intro st x1 x2 x3 x4 x5 x7 x8 x9 x10 x11 z1 hx1 hx3 H locs ls hW hS hl h
    unfold mo_matches_259 at h
    refine lv_iconst (pc := 259) (v := 0) hx hb d199_259 (by decide) ?_
    refine lv_goto (pc := 260) (tgt := 265) hx hb d199_260 (by decide) ?_
    exact kc265 _ hK52 _ hK108 st x1 x2 x3 x4 x5 x7 x8 x9 x10 x11 z1 0 hx1 hx3 _ _ _ hW hS (lv_sub hl [0, 1, 2, 3, 4, 5, 6, 7, 8, 9, 10] rfl) h
  have kc255 : ∀ (K52 : GS → Nat → Int32 → Nat → Int32 → Int32 → Int32 → Option (Int32 × GS)) (hK52 : ∀ (st : GS) (x1 : Nat) (x2 : Int32) (x3 : Nat) (x4 : Int32) (x5 : Int32) (x7 : Int32) (hx1 : x1 < 23 ∧ tabM x1 = (1, 256)) (hx3 : x3 < 23 ∧ tabM x3 = (1, 256)) (H : Heap) (locs : List Loc) (ls : Array Slot), GW ρ wM ad st H → va_S (MA wM ad s.heap.size) s.heap H locs → lv_has ls 14 [(0, .ref (ad 0)), (1, .ref (ad x1)), (2, .int x2), (3, .ref (ad x3)), (4, .int x4), (5, .int x5), (7, .int x7)] → K52 st x1 x2 x3 x4 x5 x7 = some res → W p l e ({ frames := 1, cells := 0, slots := 0, locals := 22 } : Room) s m args below meth c H locs 0 0 (MQ below (mQ (fun v H1 => v = some (.int res.1) ∧ GW ρ wM ad res.2 H1) (MA wM ad s.heap.size)) args s 0 0 (MA wM ad s.heap.size)) (F0 m 52 ls [])) (K108 : GS → Nat → Int32 → Nat → Int32 → Int32 → Int32 → Int32 → Int32 → Int32 → Int32 → Option (Int32 × GS)) (hK108 : ∀ (st : GS) (x1 : Nat) (x2 : Int32) (x3 : Nat) (x4 : Int32) (x5 : Int32) (x7 : Int32) (x8 : Int32) (x9 : Int32) (x10 : Int32) (x11 : Int32) (hx1 : x1 < 23 ∧ tabM x1 = (1, 256)) (hx3 : x3 < 23 ∧ tabM x3 = (1, 256)) (H : Heap) (locs : List Loc) (ls : Array Slot), GW ρ wM ad st H → va_S (MA wM ad s.heap.size) s.heap H locs → lv_has ls 14 [(0, .ref (ad 0)), (1, .ref (ad x1)), (2, .int x2), (3, .ref (ad x3)), (4, .int x4), (5, .int x5), (7, .int x7), (8, .int x8), (9, .int x9), (10, .int x10), (11, .int x11)] → K108 st x1 x2 x3 x4 x5 x7 x8 x9 x10 x11 = some res → W p l e ({ frames := 1, cells := 0, slots := 0, locals := 22 } : Room) s m args below meth c H locs 0 0 (MQ below (mQ (fun v H1 => v = some (.int res.1) ∧ GW ρ wM ad res.2 H1) (MA wM ad s.heap.size)) args s 0 0 (MA wM ad s.heap.size)) (F0 m 108 ls [])), ∀ (st : GS) (x1 : Nat) (x2 : Int32) (x3 : Nat) (x4 : Int32) (x5 : Int32) (x7 : Int32) (x8 : Int32) (x9 : Int32) (x10 : Int32) (x11 : Int32) (z1 : Int32) (hx1 : x1 < 23 ∧ tabM x1 = (1, 256)) (hx3 : x3 < 23 ∧ tabM x3 = (1, 256)) (H : Heap) (locs : List Loc) (ls : Array Slot), GW ρ wM ad st H → va_S (MA wM ad s.heap.size) s.heap H locs → lv_has ls 14 [(0, .ref (ad 0)), (1, .ref (ad x1)), (2, .int x2), (3, .ref (ad x3)), (4, .int x4), (5, .int x5), (7, .int x7), (8, .int x8), (9, .int x9), (10, .int x10), (11, .int x11)] → mo_matches_255 K52 K108 st x1 x2 x3 x4 x5 x7 x8 x9 x10 x11 z1 = some res → W p l e ({ frames := 1, cells := 0, slots := 0, locals := 22 } : Room) s m args below meth c H locs 0 0 (MQ below (mQ (fun v H1 => v = some (.int res.1) ∧ GW ρ wM ad res.2 H1) (MA wM ad s.heap.size)) args s 0 0 (MA wM ad s.heap.size)) (F0 m 255 ls [.int z1, .ref (ad 18)]) := by
    intro K52 hK52 K108 hK108
    intro st x1 x2 x3 x4 x5 x7 x8 x9 x10 x11 z1 hx1 hx3 H locs ls hW hS hl h
    unfold mo_matches_255 at h
    refine lv_iconst (pc := 255) (v := 1) hx hb d199_255 (by decide) ?_
    refine lv_goto (pc := 256) (tgt := 265) hx hb d199_256 (by decide) ?_
    exact kc265 _ hK52 _ hK108 st x1 x2 x3 x4 x5 x7 x8 x9 x10 x11 z1 1 hx1 hx3 _ _ _ hW hS (lv_sub hl [0, 1, 2, 3, 4, 5, 6, 7, 8, 9, 10] rfl) h
  have kc192 : ∀ (K52 : GS → Nat → Int32 → Nat → Int32 → Int32 → Int32 → Option (Int32 × GS)) (hK52 : ∀ (st : GS) (x1 : Nat) (x2 : Int32) (x3 : Nat) (x4 : Int32) (x5 : Int32) (x7 : Int32) (hx1 : x1 < 23 ∧ tabM x1 = (1, 256)) (hx3 : x3 < 23 ∧ tabM x3 = (1, 256)) (H : Heap) (locs : List Loc) (ls : Array Slot), GW ρ wM ad st H → va_S (MA wM ad s.heap.size) s.heap H locs → lv_has ls 14 [(0, .ref (ad 0)), (1, .ref (ad x1)), (2, .int x2), (3, .ref (ad x3)), (4, .int x4), (5, .int x5), (7, .int x7)] → K52 st x1 x2 x3 x4 x5 x7 = some res → W p l e ({ frames := 1, cells := 0, slots := 0, locals := 22 } : Room) s m args below meth c H locs 0 0 (MQ below (mQ (fun v H1 => v = some (.int res.1) ∧ GW ρ wM ad res.2 H1) (MA wM ad s.heap.size)) args s 0 0 (MA wM ad s.heap.size)) (F0 m 52 ls [])) (K108 : GS → Nat → Int32 → Nat → Int32 → Int32 → Int32 → Int32 → Int32 → Int32 → Int32 → Option (Int32 × GS)) (hK108 : ∀ (st : GS) (x1 : Nat) (x2 : Int32) (x3 : Nat) (x4 : Int32) (x5 : Int32) (x7 : Int32) (x8 : Int32) (x9 : Int32) (x10 : Int32) (x11 : Int32) (hx1 : x1 < 23 ∧ tabM x1 = (1, 256)) (hx3 : x3 < 23 ∧ tabM x3 = (1, 256)) (H : Heap) (locs : List Loc) (ls : Array Slot), GW ρ wM ad st H → va_S (MA wM ad s.heap.size) s.heap H locs → lv_has ls 14 [(0, .ref (ad 0)), (1, .ref (ad x1)), (2, .int x2), (3, .ref (ad x3)), (4, .int x4), (5, .int x5), (7, .int x7), (8, .int x8), (9, .int x9), (10, .int x10), (11, .int x11)] → K108 st x1 x2 x3 x4 x5 x7 x8 x9 x10 x11 = some res → W p l e ({ frames := 1, cells := 0, slots := 0, locals := 22 } : Room) s m args below meth c H locs 0 0 (MQ below (mQ (fun v H1 => v = some (.int res.1) ∧ GW ρ wM ad res.2 H1) (MA wM ad s.heap.size)) args s 0 0 (MA wM ad s.heap.size)) (F0 m 108 ls [])), ∀ (st : GS) (x1 : Nat) (x2 : Int32) (x3 : Nat) (x4 : Int32) (x5 : Int32) (x7 : Int32) (x8 : Int32) (x9 : Int32) (x10 : Int32) (x11 : Int32) (x12 : Int32) (z0 : Int32) (hx1 : x1 < 23 ∧ tabM x1 = (1, 256)) (hx3 : x3 < 23 ∧ tabM x3 = (1, 256)) (H : Heap) (locs : List Loc) (ls : Array Slot), GW ρ wM ad st H → va_S (MA wM ad s.heap.size) s.heap H locs → lv_has ls 14 [(0, .ref (ad 0)), (1, .ref (ad x1)), (2, .int x2), (3, .ref (ad x3)), (4, .int x4), (5, .int x5), (7, .int x7), (8, .int x8), (9, .int x9), (10, .int x10), (11, .int x11), (12, .int x12)] → mo_matches_192 K52 K108 st x1 x2 x3 x4 x5 x7 x8 x9 x10 x11 x12 z0 = some res → W p l e ({ frames := 1, cells := 0, slots := 0, locals := 22 } : Room) s m args below meth c H locs 0 0 (MQ below (mQ (fun v H1 => v = some (.int res.1) ∧ GW ρ wM ad res.2 H1) (MA wM ad s.heap.size)) args s 0 0 (MA wM ad s.heap.size)) (F0 m 192 ls [.int z0]) := by
    intro K52 hK52 K108 hK108
    intro st x1 x2 x3 x4 x5 x7 x8 x9 x10 x11 x12 z0 hx1 hx3 H locs ls hW hS hl h
    unfold mo_matches_192 at h
    refine lv_istore (pc := 192) (lv' := [(13, .int z0), (0, .ref (ad 0)), (1, .ref (ad x1)), (2, .int x2), (3, .ref (ad x3)), (4, .int x4), (5, .int x5), (7, .int x7), (8, .int x8), (9, .int x9), (10, .int x10), (11, .int x11), (12, .int x12)]) hx hb d199_192 hl (by decide) rfl (fun ls hl => ?_)
    refine lv_aload_n (pc := 194) hx hb d199_194 rfl (lv_at hl 1 rfl) ?_
    refine m_get (pc := 195) X hW 45 (v := .ref (ad 18)) wd1411 rfl rfl d199_195 ?_
    refine lv_sipush (pc := 198) (v := 256) hx hb d199_198 (by decide) ?_
    refine lv_iload (pc := 201) hx hb d199_201 (lv_at hl 7 rfl) ?_
    refine lv_imul (pc := 203) hx hb d199_203 ?_
    refine lv_iload (pc := 204) hx hb d199_204 (lv_at hl 11 rfl) ?_
    refine lv_iadd (pc := 206) hx hb d199_206 ?_
    refine lv_iload (pc := 207) hx hb d199_207 (lv_at hl 0 rfl) ?_
    refine lv_if_eq (pc := 209) (tgt := 263) hx hb d199_209 (by decide) (fun c209 => ?_) (fun c209 => ?_)
    · have h := jb_t c209 h
      refine lv_iload (pc := 263) hx hb d199_263 (lv_at hl 12 rfl) ?_
      exact kc265 _ hK52 _ hK108 st x1 x2 x3 x4 x5 x7 x8 x9 x10 x11 ((256 * x7) + x11) x12 hx1 hx3 _ _ _ hW hS (lv_sub hl [1, 2, 3, 4, 5, 6, 7, 8, 9, 10, 11] rfl) h
    · have h := jb_f c209 h
      refine lv_aload_n (pc := 212) hx hb d199_212 rfl (lv_at hl 1 rfl) ?_
      refine m_get (pc := 213) X hW 45 (v := .ref (ad 18)) wd1411 rfl rfl d199_213 ?_
      refine lv_sipush (pc := 216) (v := 256) hx hb d199_216 (by decide) ?_
      refine lv_iload (pc := 219) hx hb d199_219 (lv_at hl 10 rfl) ?_
      refine lv_imul (pc := 221) hx hb d199_221 ?_
      refine lv_iload (pc := 222) hx hb d199_222 (lv_at hl 11 rfl) ?_
      refine lv_iadd (pc := 224) hx hb d199_224 ?_
      obtain ⟨g5, h⟩ := jg_some h
      refine r_zald (pc := 225) X hW 18 (by decide) rfl (inb_in g5) d199_225 ?_
      refine lv_if_ne (pc := 226) (tgt := 255) hx hb d199_226 (by decide) (fun c226 => ?_) (fun c226 => ?_)
      · have h := jb_f c226 h
        exact kc255 _ hK52 _ hK108 st x1 x2 x3 x4 x5 x7 x8 x9 x10 x11 ((256 * x7) + x11) hx1 hx3 _ _ _ hW hS (lv_sub hl [1, 2, 3, 4, 5, 6, 7, 8, 9, 10, 11] rfl) h
      · have h := jb_t c226 h
        refine lv_iload (pc := 229) hx hb d199_229 (lv_at hl 11 rfl) ?_
        refine lv_iload (pc := 231) hx hb d199_231 (lv_at hl 5 rfl) ?_
        refine lv_icmp_ge (pc := 233) (tgt := 259) hx hb d199_233 (by decide) (fun c233 => ?_) (fun c233 => ?_)
        · have h := jb_t c233 h
          exact kc259 _ hK52 _ hK108 st x1 x2 x3 x4 x5 x7 x8 x9 x10 x11 ((256 * x7) + x11) hx1 hx3 _ _ _ hW hS (lv_sub hl [1, 2, 3, 4, 5, 6, 7, 8, 9, 10, 11] rfl) h
        · have h := jb_f c233 h
          refine lv_aload_n (pc := 236) hx hb d199_236 rfl (lv_at hl 1 rfl) ?_
          refine m_get (pc := 237) X hW 45 (v := .ref (ad 18)) wd1411 rfl rfl d199_237 ?_
          refine lv_sipush (pc := 240) (v := 256) hx hb d199_240 (by decide) ?_
          refine lv_iload (pc := 243) hx hb d199_243 (lv_at hl 7 rfl) ?_
          refine lv_imul (pc := 245) hx hb d199_245 ?_
          refine lv_iload (pc := 246) hx hb d199_246 (lv_at hl 11 rfl) ?_
          refine lv_iadd (pc := 248) hx hb d199_248 ?_
          refine lv_iconst (pc := 249) (v := 1) hx hb d199_249 (by decide) ?_
          refine lv_iadd (pc := 250) hx hb d199_250 ?_
          obtain ⟨g6, h⟩ := jg_some h
          refine r_zald (pc := 251) X hW 18 (by decide) rfl (inb_in g6) d199_251 ?_
          refine lv_if_eq (pc := 252) (tgt := 259) hx hb d199_252 (by decide) (fun c252 => ?_) (fun c252 => ?_)
          · have h := jb_t c252 h
            exact kc259 _ hK52 _ hK108 st x1 x2 x3 x4 x5 x7 x8 x9 x10 x11 ((256 * x7) + x11) hx1 hx3 _ _ _ hW hS (lv_sub hl [1, 2, 3, 4, 5, 6, 7, 8, 9, 10, 11] rfl) h
          · have h := jb_f c252 h
            exact kc255 _ hK52 _ hK108 st x1 x2 x3 x4 x5 x7 x8 x9 x10 x11 ((256 * x7) + x11) hx1 hx3 _ _ _ hW hS (lv_sub hl [1, 2, 3, 4, 5, 6, 7, 8, 9, 10, 11] rfl) h
  have kc191 : ∀ (K52 : GS → Nat → Int32 → Nat → Int32 → Int32 → Int32 → Option (Int32 × GS)) (hK52 : ∀ (st : GS) (x1 : Nat) (x2 : Int32) (x3 : Nat) (x4 : Int32) (x5 : Int32) (x7 : Int32) (hx1 : x1 < 23 ∧ tabM x1 = (1, 256)) (hx3 : x3 < 23 ∧ tabM x3 = (1, 256)) (H : Heap) (locs : List Loc) (ls : Array Slot), GW ρ wM ad st H → va_S (MA wM ad s.heap.size) s.heap H locs → lv_has ls 14 [(0, .ref (ad 0)), (1, .ref (ad x1)), (2, .int x2), (3, .ref (ad x3)), (4, .int x4), (5, .int x5), (7, .int x7)] → K52 st x1 x2 x3 x4 x5 x7 = some res → W p l e ({ frames := 1, cells := 0, slots := 0, locals := 22 } : Room) s m args below meth c H locs 0 0 (MQ below (mQ (fun v H1 => v = some (.int res.1) ∧ GW ρ wM ad res.2 H1) (MA wM ad s.heap.size)) args s 0 0 (MA wM ad s.heap.size)) (F0 m 52 ls [])) (K108 : GS → Nat → Int32 → Nat → Int32 → Int32 → Int32 → Int32 → Int32 → Int32 → Int32 → Option (Int32 × GS)) (hK108 : ∀ (st : GS) (x1 : Nat) (x2 : Int32) (x3 : Nat) (x4 : Int32) (x5 : Int32) (x7 : Int32) (x8 : Int32) (x9 : Int32) (x10 : Int32) (x11 : Int32) (hx1 : x1 < 23 ∧ tabM x1 = (1, 256)) (hx3 : x3 < 23 ∧ tabM x3 = (1, 256)) (H : Heap) (locs : List Loc) (ls : Array Slot), GW ρ wM ad st H → va_S (MA wM ad s.heap.size) s.heap H locs → lv_has ls 14 [(0, .ref (ad 0)), (1, .ref (ad x1)), (2, .int x2), (3, .ref (ad x3)), (4, .int x4), (5, .int x5), (7, .int x7), (8, .int x8), (9, .int x9), (10, .int x10), (11, .int x11)] → K108 st x1 x2 x3 x4 x5 x7 x8 x9 x10 x11 = some res → W p l e ({ frames := 1, cells := 0, slots := 0, locals := 22 } : Room) s m args below meth c H locs 0 0 (MQ below (mQ (fun v H1 => v = some (.int res.1) ∧ GW ρ wM ad res.2 H1) (MA wM ad s.heap.size)) args s 0 0 (MA wM ad s.heap.size)) (F0 m 108 ls [])), ∀ (st : GS) (x1 : Nat) (x2 : Int32) (x3 : Nat) (x4 : Int32) (x5 : Int32) (x7 : Int32) (x8 : Int32) (x9 : Int32) (x10 : Int32) (x11 : Int32) (x12 : Int32) (hx1 : x1 < 23 ∧ tabM x1 = (1, 256)) (hx3 : x3 < 23 ∧ tabM x3 = (1, 256)) (H : Heap) (locs : List Loc) (ls : Array Slot), GW ρ wM ad st H → va_S (MA wM ad s.heap.size) s.heap H locs → lv_has ls 14 [(0, .ref (ad 0)), (1, .ref (ad x1)), (2, .int x2), (3, .ref (ad x3)), (4, .int x4), (5, .int x5), (7, .int x7), (8, .int x8), (9, .int x9), (10, .int x10), (11, .int x11), (12, .int x12)] → mo_matches_191 K52 K108 st x1 x2 x3 x4 x5 x7 x8 x9 x10 x11 x12 = some res → W p l e ({ frames := 1, cells := 0, slots := 0, locals := 22 } : Room) s m args below meth c H locs 0 0 (MQ below (mQ (fun v H1 => v = some (.int res.1) ∧ GW ρ wM ad res.2 H1) (MA wM ad s.heap.size)) args s 0 0 (MA wM ad s.heap.size)) (F0 m 191 ls []) := by
    intro K52 hK52 K108 hK108
    intro st x1 x2 x3 x4 x5 x7 x8 x9 x10 x11 x12 hx1 hx3 H locs ls hW hS hl h
    unfold mo_matches_191 at h
    refine lv_iconst (pc := 191) (v := 0) hx hb d199_191 (by decide) ?_
    exact kc192 _ hK52 _ hK108 st x1 x2 x3 x4 x5 x7 x8 x9 x10 x11 x12 0 hx1 hx3 _ _ _ hW hS (lv_sub hl [0, 1, 2, 3, 4, 5, 6, 7, 8, 9, 10, 11] rfl) h
  have kc173 : ∀ (K52 : GS → Nat → Int32 → Nat → Int32 → Int32 → Int32 → Option (Int32 × GS)) (hK52 : ∀ (st : GS) (x1 : Nat) (x2 : Int32) (x3 : Nat) (x4 : Int32) (x5 : Int32) (x7 : Int32) (hx1 : x1 < 23 ∧ tabM x1 = (1, 256)) (hx3 : x3 < 23 ∧ tabM x3 = (1, 256)) (H : Heap) (locs : List Loc) (ls : Array Slot), GW ρ wM ad st H → va_S (MA wM ad s.heap.size) s.heap H locs → lv_has ls 14 [(0, .ref (ad 0)), (1, .ref (ad x1)), (2, .int x2), (3, .ref (ad x3)), (4, .int x4), (5, .int x5), (7, .int x7)] → K52 st x1 x2 x3 x4 x5 x7 = some res → W p l e ({ frames := 1, cells := 0, slots := 0, locals := 22 } : Room) s m args below meth c H locs 0 0 (MQ below (mQ (fun v H1 => v = some (.int res.1) ∧ GW ρ wM ad res.2 H1) (MA wM ad s.heap.size)) args s 0 0 (MA wM ad s.heap.size)) (F0 m 52 ls [])) (K108 : GS → Nat → Int32 → Nat → Int32 → Int32 → Int32 → Int32 → Int32 → Int32 → Int32 → Option (Int32 × GS)) (hK108 : ∀ (st : GS) (x1 : Nat) (x2 : Int32) (x3 : Nat) (x4 : Int32) (x5 : Int32) (x7 : Int32) (x8 : Int32) (x9 : Int32) (x10 : Int32) (x11 : Int32) (hx1 : x1 < 23 ∧ tabM x1 = (1, 256)) (hx3 : x3 < 23 ∧ tabM x3 = (1, 256)) (H : Heap) (locs : List Loc) (ls : Array Slot), GW ρ wM ad st H → va_S (MA wM ad s.heap.size) s.heap H locs → lv_has ls 14 [(0, .ref (ad 0)), (1, .ref (ad x1)), (2, .int x2), (3, .ref (ad x3)), (4, .int x4), (5, .int x5), (7, .int x7), (8, .int x8), (9, .int x9), (10, .int x10), (11, .int x11)] → K108 st x1 x2 x3 x4 x5 x7 x8 x9 x10 x11 = some res → W p l e ({ frames := 1, cells := 0, slots := 0, locals := 22 } : Room) s m args below meth c H locs 0 0 (MQ below (mQ (fun v H1 => v = some (.int res.1) ∧ GW ρ wM ad res.2 H1) (MA wM ad s.heap.size)) args s 0 0 (MA wM ad s.heap.size)) (F0 m 108 ls [])), ∀ (st : GS) (x1 : Nat) (x2 : Int32) (x3 : Nat) (x4 : Int32) (x5 : Int32) (x7 : Int32) (x8 : Int32) (x9 : Int32) (x10 : Int32) (x11 : Int32) (z0 : Int32) (hx1 : x1 < 23 ∧ tabM x1 = (1, 256)) (hx3 : x3 < 23 ∧ tabM x3 = (1, 256)) (H : Heap) (locs : List Loc) (ls : Array Slot), GW ρ wM ad st H → va_S (MA wM ad s.heap.size) s.heap H locs → lv_has ls 14 [(0, .ref (ad 0)), (1, .ref (ad x1)), (2, .int x2), (3, .ref (ad x3)), (4, .int x4), (5, .int x5), (7, .int x7), (8, .int x8), (9, .int x9), (10, .int x10), (11, .int x11)] → mo_matches_173 K52 K108 st x1 x2 x3 x4 x5 x7 x8 x9 x10 x11 z0 = some res → W p l e ({ frames := 1, cells := 0, slots := 0, locals := 22 } : Room) s m args below meth c H locs 0 0 (MQ below (mQ (fun v H1 => v = some (.int res.1) ∧ GW ρ wM ad res.2 H1) (MA wM ad s.heap.size)) args s 0 0 (MA wM ad s.heap.size)) (F0 m 173 ls [.int z0]) := by
    intro K52 hK52 K108 hK108
    intro st x1 x2 x3 x4 x5 x7 x8 x9 x10 x11 z0 hx1 hx3 H locs ls hW hS hl h
    unfold mo_matches_173 at h
    refine lv_istore (pc := 173) (lv' := [(12, .int z0), (0, .ref (ad 0)), (1, .ref (ad x1)), (2, .int x2), (3, .ref (ad x3)), (4, .int x4), (5, .int x5), (7, .int x7), (8, .int x8), (9, .int x9), (10, .int x10), (11, .int x11)]) hx hb d199_173 hl (by decide) rfl (fun ls hl => ?_)
    refine lv_iload (pc := 175) hx hb d199_175 (lv_at hl 9 rfl) ?_
    refine lv_bipush (pc := 177) (v := 42) hx hb d199_177 (by decide) ?_
    refine lv_icmp_ne (pc := 179) (tgt := 191) hx hb d199_179 (by decide) (fun c179 => ?_) (fun c179 => ?_)
    · have h := jb_f c179 h
      exact kc191 _ hK52 _ hK108 st x1 x2 x3 x4 x5 x7 x8 x9 x10 x11 z0 hx1 hx3 _ _ _ hW hS (lv_sub hl [1, 2, 3, 4, 5, 6, 7, 8, 9, 10, 11, 0] rfl) h
    · have h := jb_t c179 h
      refine lv_iload (pc := 182) hx hb d199_182 (lv_at hl 8 rfl) ?_
      refine lv_if_ne (pc := 184) (tgt := 191) hx hb d199_184 (by decide) (fun c184 => ?_) (fun c184 => ?_)
      · have h := jb_f c184 h
        exact kc191 _ hK52 _ hK108 st x1 x2 x3 x4 x5 x7 x8 x9 x10 x11 z0 hx1 hx3 _ _ _ hW hS (lv_sub hl [1, 2, 3, 4, 5, 6, 7, 8, 9, 10, 11, 0] rfl) h
      · have h := jb_t c184 h
        refine lv_iconst (pc := 187) (v := 1) hx hb d199_187 (by decide) ?_
        refine lv_goto (pc := 188) (tgt := 192) hx hb d199_188 (by decide) ?_
        exact kc192 _ hK52 _ hK108 st x1 x2 x3 x4 x5 x7 x8 x9 x10 x11 z0 1 hx1 hx3 _ _ _ hW hS (lv_sub hl [1, 2, 3, 4, 5, 6, 7, 8, 9, 10, 11, 0] rfl) h
  have kc172 : ∀ (K52 : GS → Nat → Int32 → Nat → Int32 → Int32 → Int32 → Option (Int32 × GS)) (hK52 : ∀ (st : GS) (x1 : Nat) (x2 : Int32) (x3 : Nat) (x4 : Int32) (x5 : Int32) (x7 : Int32) (hx1 : x1 < 23 ∧ tabM x1 = (1, 256)) (hx3 : x3 < 23 ∧ tabM x3 = (1, 256)) (H : Heap) (locs : List Loc) (ls : Array Slot), GW ρ wM ad st H → va_S (MA wM ad s.heap.size) s.heap H locs → lv_has ls 14 [(0, .ref (ad 0)), (1, .ref (ad x1)), (2, .int x2), (3, .ref (ad x3)), (4, .int x4), (5, .int x5), (7, .int x7)] → K52 st x1 x2 x3 x4 x5 x7 = some res → W p l e ({ frames := 1, cells := 0, slots := 0, locals := 22 } : Room) s m args below meth c H locs 0 0 (MQ below (mQ (fun v H1 => v = some (.int res.1) ∧ GW ρ wM ad res.2 H1) (MA wM ad s.heap.size)) args s 0 0 (MA wM ad s.heap.size)) (F0 m 52 ls [])) (K108 : GS → Nat → Int32 → Nat → Int32 → Int32 → Int32 → Int32 → Int32 → Int32 → Int32 → Option (Int32 × GS)) (hK108 : ∀ (st : GS) (x1 : Nat) (x2 : Int32) (x3 : Nat) (x4 : Int32) (x5 : Int32) (x7 : Int32) (x8 : Int32) (x9 : Int32) (x10 : Int32) (x11 : Int32) (hx1 : x1 < 23 ∧ tabM x1 = (1, 256)) (hx3 : x3 < 23 ∧ tabM x3 = (1, 256)) (H : Heap) (locs : List Loc) (ls : Array Slot), GW ρ wM ad st H → va_S (MA wM ad s.heap.size) s.heap H locs → lv_has ls 14 [(0, .ref (ad 0)), (1, .ref (ad x1)), (2, .int x2), (3, .ref (ad x3)), (4, .int x4), (5, .int x5), (7, .int x7), (8, .int x8), (9, .int x9), (10, .int x10), (11, .int x11)] → K108 st x1 x2 x3 x4 x5 x7 x8 x9 x10 x11 = some res → W p l e ({ frames := 1, cells := 0, slots := 0, locals := 22 } : Room) s m args below meth c H locs 0 0 (MQ below (mQ (fun v H1 => v = some (.int res.1) ∧ GW ρ wM ad res.2 H1) (MA wM ad s.heap.size)) args s 0 0 (MA wM ad s.heap.size)) (F0 m 108 ls [])), ∀ (st : GS) (x1 : Nat) (x2 : Int32) (x3 : Nat) (x4 : Int32) (x5 : Int32) (x7 : Int32) (x8 : Int32) (x9 : Int32) (x10 : Int32) (x11 : Int32) (hx1 : x1 < 23 ∧ tabM x1 = (1, 256)) (hx3 : x3 < 23 ∧ tabM x3 = (1, 256)) (H : Heap) (locs : List Loc) (ls : Array Slot), GW ρ wM ad st H → va_S (MA wM ad s.heap.size) s.heap H locs → lv_has ls 14 [(0, .ref (ad 0)), (1, .ref (ad x1)), (2, .int x2), (3, .ref (ad x3)), (4, .int x4), (5, .int x5), (7, .int x7), (8, .int x8), (9, .int x9), (10, .int x10), (11, .int x11)] → mo_matches_172 K52 K108 st x1 x2 x3 x4 x5 x7 x8 x9 x10 x11 = some res → W p l e ({ frames := 1, cells := 0, slots := 0, locals := 22 } : Room) s m args below meth c H locs 0 0 (MQ below (mQ (fun v H1 => v = some (.int res.1) ∧ GW ρ wM ad res.2 H1) (MA wM ad s.heap.size)) args s 0 0 (MA wM ad s.heap.size)) (F0 m 172 ls []) := by
    intro K52 hK52 K108 hK108
    intro st x1 x2 x3 x4 x5 x7 x8 x9 x10 x11 hx1 hx3 H locs ls hW hS hl h
    unfold mo_matches_172 at h
    refine lv_iconst (pc := 172) (v := 0) hx hb d199_172 (by decide) ?_
    exact kc173 _ hK52 _ hK108 st x1 x2 x3 x4 x5 x7 x8 x9 x10 x11 0 hx1 hx3 _ _ _ hW hS (lv_sub hl [0, 1, 2, 3, 4, 5, 6, 7, 8, 9, 10] rfl) h
  have kc149 : ∀ (K52 : GS → Nat → Int32 → Nat → Int32 → Int32 → Int32 → Option (Int32 × GS)) (hK52 : ∀ (st : GS) (x1 : Nat) (x2 : Int32) (x3 : Nat) (x4 : Int32) (x5 : Int32) (x7 : Int32) (hx1 : x1 < 23 ∧ tabM x1 = (1, 256)) (hx3 : x3 < 23 ∧ tabM x3 = (1, 256)) (H : Heap) (locs : List Loc) (ls : Array Slot), GW ρ wM ad st H → va_S (MA wM ad s.heap.size) s.heap H locs → lv_has ls 14 [(0, .ref (ad 0)), (1, .ref (ad x1)), (2, .int x2), (3, .ref (ad x3)), (4, .int x4), (5, .int x5), (7, .int x7)] → K52 st x1 x2 x3 x4 x5 x7 = some res → W p l e ({ frames := 1, cells := 0, slots := 0, locals := 22 } : Room) s m args below meth c H locs 0 0 (MQ below (mQ (fun v H1 => v = some (.int res.1) ∧ GW ρ wM ad res.2 H1) (MA wM ad s.heap.size)) args s 0 0 (MA wM ad s.heap.size)) (F0 m 52 ls [])) (K108 : GS → Nat → Int32 → Nat → Int32 → Int32 → Int32 → Int32 → Int32 → Int32 → Int32 → Option (Int32 × GS)) (hK108 : ∀ (st : GS) (x1 : Nat) (x2 : Int32) (x3 : Nat) (x4 : Int32) (x5 : Int32) (x7 : Int32) (x8 : Int32) (x9 : Int32) (x10 : Int32) (x11 : Int32) (hx1 : x1 < 23 ∧ tabM x1 = (1, 256)) (hx3 : x3 < 23 ∧ tabM x3 = (1, 256)) (H : Heap) (locs : List Loc) (ls : Array Slot), GW ρ wM ad st H → va_S (MA wM ad s.heap.size) s.heap H locs → lv_has ls 14 [(0, .ref (ad 0)), (1, .ref (ad x1)), (2, .int x2), (3, .ref (ad x3)), (4, .int x4), (5, .int x5), (7, .int x7), (8, .int x8), (9, .int x9), (10, .int x10), (11, .int x11)] → K108 st x1 x2 x3 x4 x5 x7 x8 x9 x10 x11 = some res → W p l e ({ frames := 1, cells := 0, slots := 0, locals := 22 } : Room) s m args below meth c H locs 0 0 (MQ below (mQ (fun v H1 => v = some (.int res.1) ∧ GW ρ wM ad res.2 H1) (MA wM ad s.heap.size)) args s 0 0 (MA wM ad s.heap.size)) (F0 m 108 ls [])), ∀ (st : GS) (x1 : Nat) (x2 : Int32) (x3 : Nat) (x4 : Int32) (x5 : Int32) (x7 : Int32) (x8 : Int32) (x9 : Int32) (x10 : Int32) (x11 : Int32) (hx1 : x1 < 23 ∧ tabM x1 = (1, 256)) (hx3 : x3 < 23 ∧ tabM x3 = (1, 256)) (H : Heap) (locs : List Loc) (ls : Array Slot), GW ρ wM ad st H → va_S (MA wM ad s.heap.size) s.heap H locs → lv_has ls 14 [(0, .ref (ad 0)), (1, .ref (ad x1)), (2, .int x2), (3, .ref (ad x3)), (4, .int x4), (5, .int x5), (7, .int x7), (8, .int x8), (9, .int x9), (10, .int x10), (11, .int x11)] → mo_matches_149 K52 K108 st x1 x2 x3 x4 x5 x7 x8 x9 x10 x11 = some res → W p l e ({ frames := 1, cells := 0, slots := 0, locals := 22 } : Room) s m args below meth c H locs 0 0 (MQ below (mQ (fun v H1 => v = some (.int res.1) ∧ GW ρ wM ad res.2 H1) (MA wM ad s.heap.size)) args s 0 0 (MA wM ad s.heap.size)) (F0 m 149 ls []) := by
    intro K52 hK52 K108 hK108
    intro st x1 x2 x3 x4 x5 x7 x8 x9 x10 x11 hx1 hx3 H locs ls hW hS hl h
    unfold mo_matches_149 at h
    refine lv_aload_n (pc := 149) hx hb d199_149 rfl (lv_at hl 0 rfl) ?_
    refine m_get (pc := 150) X hW 45 (v := .ref (ad 18)) wd1411 rfl rfl d199_150 ?_
    refine lv_sipush (pc := 153) (v := 256) hx hb d199_153 (by decide) ?_
    refine lv_iload (pc := 156) hx hb d199_156 (lv_at hl 9 rfl) ?_
    refine lv_imul (pc := 158) hx hb d199_158 ?_
    refine lv_iload (pc := 159) hx hb d199_159 (lv_at hl 10 rfl) ?_
    refine lv_iadd (pc := 161) hx hb d199_161 ?_
    refine lv_iconst (pc := 162) (v := 1) hx hb d199_162 (by decide) ?_
    refine lv_iadd (pc := 163) hx hb d199_163 ?_
    obtain ⟨g7, h⟩ := jg_some h
    refine r_zald (pc := 164) X hW 18 (by decide) rfl (inb_in g7) d199_164 ?_
    refine lv_if_eq (pc := 165) (tgt := 172) hx hb d199_165 (by decide) (fun c165 => ?_) (fun c165 => ?_)
    · have h := jb_t c165 h
      exact kc172 _ hK52 _ hK108 st x1 x2 x3 x4 x5 x7 x8 x9 x10 x11 hx1 hx3 _ _ _ hW hS (lv_sub hl [0, 1, 2, 3, 4, 5, 6, 7, 8, 9, 10] rfl) h
    · have h := jb_f c165 h
      refine lv_iconst (pc := 168) (v := 1) hx hb d199_168 (by decide) ?_
      refine lv_goto (pc := 169) (tgt := 173) hx hb d199_169 (by decide) ?_
      exact kc173 _ hK52 _ hK108 st x1 x2 x3 x4 x5 x7 x8 x9 x10 x11 1 hx1 hx3 _ _ _ hW hS (lv_sub hl [0, 1, 2, 3, 4, 5, 6, 7, 8, 9, 10] rfl) h
  have kc134 : ∀ (K52 : GS → Nat → Int32 → Nat → Int32 → Int32 → Int32 → Option (Int32 × GS)) (hK52 : ∀ (st : GS) (x1 : Nat) (x2 : Int32) (x3 : Nat) (x4 : Int32) (x5 : Int32) (x7 : Int32) (hx1 : x1 < 23 ∧ tabM x1 = (1, 256)) (hx3 : x3 < 23 ∧ tabM x3 = (1, 256)) (H : Heap) (locs : List Loc) (ls : Array Slot), GW ρ wM ad st H → va_S (MA wM ad s.heap.size) s.heap H locs → lv_has ls 14 [(0, .ref (ad 0)), (1, .ref (ad x1)), (2, .int x2), (3, .ref (ad x3)), (4, .int x4), (5, .int x5), (7, .int x7)] → K52 st x1 x2 x3 x4 x5 x7 = some res → W p l e ({ frames := 1, cells := 0, slots := 0, locals := 22 } : Room) s m args below meth c H locs 0 0 (MQ below (mQ (fun v H1 => v = some (.int res.1) ∧ GW ρ wM ad res.2 H1) (MA wM ad s.heap.size)) args s 0 0 (MA wM ad s.heap.size)) (F0 m 52 ls [])) (K108 : GS → Nat → Int32 → Nat → Int32 → Int32 → Int32 → Int32 → Int32 → Int32 → Int32 → Option (Int32 × GS)) (hK108 : ∀ (st : GS) (x1 : Nat) (x2 : Int32) (x3 : Nat) (x4 : Int32) (x5 : Int32) (x7 : Int32) (x8 : Int32) (x9 : Int32) (x10 : Int32) (x11 : Int32) (hx1 : x1 < 23 ∧ tabM x1 = (1, 256)) (hx3 : x3 < 23 ∧ tabM x3 = (1, 256)) (H : Heap) (locs : List Loc) (ls : Array Slot), GW ρ wM ad st H → va_S (MA wM ad s.heap.size) s.heap H locs → lv_has ls 14 [(0, .ref (ad 0)), (1, .ref (ad x1)), (2, .int x2), (3, .ref (ad x3)), (4, .int x4), (5, .int x5), (7, .int x7), (8, .int x8), (9, .int x9), (10, .int x10), (11, .int x11)] → K108 st x1 x2 x3 x4 x5 x7 x8 x9 x10 x11 = some res → W p l e ({ frames := 1, cells := 0, slots := 0, locals := 22 } : Room) s m args below meth c H locs 0 0 (MQ below (mQ (fun v H1 => v = some (.int res.1) ∧ GW ρ wM ad res.2 H1) (MA wM ad s.heap.size)) args s 0 0 (MA wM ad s.heap.size)) (F0 m 108 ls [])), ∀ (st : GS) (x1 : Nat) (x2 : Int32) (x3 : Nat) (x4 : Int32) (x5 : Int32) (x7 : Int32) (x8 : Int32) (x9 : Int32) (x10 : Int32) (x11 : Int32) (hx1 : x1 < 23 ∧ tabM x1 = (1, 256)) (hx3 : x3 < 23 ∧ tabM x3 = (1, 256)) (H : Heap) (locs : List Loc) (ls : Array Slot), GW ρ wM ad st H → va_S (MA wM ad s.heap.size) s.heap H locs → lv_has ls 14 [(0, .ref (ad 0)), (1, .ref (ad x1)), (2, .int x2), (3, .ref (ad x3)), (4, .int x4), (5, .int x5), (7, .int x7), (8, .int x8), (9, .int x9), (10, .int x10), (11, .int x11)] → mo_matches_134 K52 K108 st x1 x2 x3 x4 x5 x7 x8 x9 x10 x11 = some res → W p l e ({ frames := 1, cells := 0, slots := 0, locals := 22 } : Room) s m args below meth c H locs 0 0 (MQ below (mQ (fun v H1 => v = some (.int res.1) ∧ GW ρ wM ad res.2 H1) (MA wM ad s.heap.size)) args s 0 0 (MA wM ad s.heap.size)) (F0 m 134 ls []) := by
    intro K52 hK52 K108 hK108
    intro st x1 x2 x3 x4 x5 x7 x8 x9 x10 x11 hx1 hx3 H locs ls hW hS hl h
    unfold mo_matches_134 at h
    refine lv_iload (pc := 134) hx hb d199_134 (lv_at hl 8 rfl) ?_
    obtain ⟨q8, hq8, h⟩ := jc_some h
    refine k_callS (pc := 136) (n := 1) X hS (c_mo_great l ρ _ x9 q8 hq8) wd1729 wd1727 wd1728 wd11 (by decide) ⟨rfl, rfl, by decide, by decide⟩ (As := [.int x9]) (rest := []) rfl rfl hl.1 (Nat.le_of_ble_eq_true rfl) d199_136 ⟨by decide, by decide⟩ (fun q hq => False.elim hq) (fun v H1 locs1 hv _ _ hSq8 => ?_)
    obtain ⟨rfl, rfl⟩ := hv
    have hS := hSq8
    refine lv_aload_n (pc := 139) hx hb d199_139 rfl (lv_at hl 3 rfl) ?_
    refine lv_iload (pc := 140) hx hb d199_140 (lv_at hl 10 rfl) ?_
    obtain ⟨g9, h⟩ := jg_some h
    refine r_iald (pc := 142) X hW x3 hx3.1 hx3.2 (inb_in g9) d199_142 ?_
    obtain ⟨q10, hq10, h⟩ := jc_some h
    refine k_callS (pc := 143) (n := 1) X hS (c_mo_great l ρ _ (st.1 x3 x11.toNatClampNeg) q10 hq10) wd1729 wd1727 wd1728 wd11 (by decide) ⟨rfl, rfl, by decide, by decide⟩ (As := [.int (st.1 x3 x11.toNatClampNeg)]) (rest := [.int q8]) rfl rfl hl.1 (Nat.le_of_ble_eq_true rfl) d199_143 ⟨by decide, by decide⟩ (fun q hq => False.elim hq) (fun v H1 locs1 hv _ _ hSq10 => ?_)
    obtain ⟨rfl, rfl⟩ := hv
    have hS := hSq10
    refine lv_icmp_ne (pc := 146) (tgt := 172) hx hb d199_146 (by decide) (fun c146 => ?_) (fun c146 => ?_)
    · have h := jb_f c146 h
      exact kc172 _ hK52 _ hK108 st x1 x2 x3 x4 x5 x7 x8 x9 x10 x11 hx1 hx3 _ _ _ hW hS (lv_sub hl [0, 1, 2, 3, 4, 5, 6, 7, 8, 9, 10] rfl) h
    · have h := jb_t c146 h
      exact kc149 _ hK52 _ hK108 st x1 x2 x3 x4 x5 x7 x8 x9 x10 x11 hx1 hx3 _ _ _ hW hS (lv_sub hl [0, 1, 2, 3, 4, 5, 6, 7, 8, 9, 10] rfl) h
  have kc108 : ∀ (K52 : GS → Nat → Int32 → Nat → Int32 → Int32 → Int32 → Option (Int32 × GS)) (hK52 : ∀ (st : GS) (x1 : Nat) (x2 : Int32) (x3 : Nat) (x4 : Int32) (x5 : Int32) (x7 : Int32) (hx1 : x1 < 23 ∧ tabM x1 = (1, 256)) (hx3 : x3 < 23 ∧ tabM x3 = (1, 256)) (H : Heap) (locs : List Loc) (ls : Array Slot), GW ρ wM ad st H → va_S (MA wM ad s.heap.size) s.heap H locs → lv_has ls 14 [(0, .ref (ad 0)), (1, .ref (ad x1)), (2, .int x2), (3, .ref (ad x3)), (4, .int x4), (5, .int x5), (7, .int x7)] → K52 st x1 x2 x3 x4 x5 x7 = some res → W p l e ({ frames := 1, cells := 0, slots := 0, locals := 22 } : Room) s m args below meth c H locs 0 0 (MQ below (mQ (fun v H1 => v = some (.int res.1) ∧ GW ρ wM ad res.2 H1) (MA wM ad s.heap.size)) args s 0 0 (MA wM ad s.heap.size)) (F0 m 52 ls [])) (fu : Nat), ∀ (st : GS) (x1 : Nat) (x2 : Int32) (x3 : Nat) (x4 : Int32) (x5 : Int32) (x7 : Int32) (x8 : Int32) (x9 : Int32) (x10 : Int32) (x11 : Int32) (hx1 : x1 < 23 ∧ tabM x1 = (1, 256)) (hx3 : x3 < 23 ∧ tabM x3 = (1, 256)) (H : Heap) (locs : List Loc) (ls : Array Slot), GW ρ wM ad st H → va_S (MA wM ad s.heap.size) s.heap H locs → lv_has ls 14 [(0, .ref (ad 0)), (1, .ref (ad x1)), (2, .int x2), (3, .ref (ad x3)), (4, .int x4), (5, .int x5), (7, .int x7), (8, .int x8), (9, .int x9), (10, .int x10), (11, .int x11)] → mo_matches_108 K52 fu st x1 x2 x3 x4 x5 x7 x8 x9 x10 x11 = some res → W p l e ({ frames := 1, cells := 0, slots := 0, locals := 22 } : Room) s m args below meth c H locs 0 0 (MQ below (mQ (fun v H1 => v = some (.int res.1) ∧ GW ρ wM ad res.2 H1) (MA wM ad s.heap.size)) args s 0 0 (MA wM ad s.heap.size)) (F0 m 108 ls []) := by
    intro K52 hK52 fu
    induction fu with
    | zero => intro st x1 x2 x3 x4 x5 x7 x8 x9 x10 x11 hx1 hx3 H locs ls hW hS hl h; cases h
    | succ fu hK108 =>
      intro st x1 x2 x3 x4 x5 x7 x8 x9 x10 x11 hx1 hx3 H locs ls hW hS hl h
      unfold mo_matches_108 at h
      refine lv_iload (pc := 108) hx hb d199_108 (lv_at hl 10 rfl) ?_
      refine lv_iload (pc := 110) hx hb d199_110 (lv_at hl 5 rfl) ?_
      refine lv_icmp_lt (pc := 112) (tgt := 272) hx hb d199_112 (by decide) (fun c112 => ?_) (fun c112 => ?_)
      · have h := jb_t c112 h
        obtain ⟨v11, ev11, h⟩ := jn_ex h
        refine lv_iinc (pc := 272) (v := v11) (lv' := [(7, .int v11), (0, .ref (ad 0)), (1, .ref (ad x1)), (2, .int x2), (3, .ref (ad x3)), (4, .int x4), (5, .int x5), (8, .int x8), (9, .int x9), (10, .int x10), (11, .int x11)]) hx hb d199_272 hl (k := 6) rfl (by rw [ev11]; rfl) (by decide) rfl (fun ls hl => ?_)
        refine lv_goto (pc := 275) (tgt := 52) hx hb d199_275 (by decide) ?_
        exact hK52 st x1 x2 x3 x4 x5 v11 hx1 hx3 _ _ _ hW hS (lv_sub hl [1, 2, 3, 4, 5, 6, 0] rfl) h
      · have h := jb_f c112 h
        refine lv_iload (pc := 115) hx hb d199_115 (lv_at hl 10 rfl) ?_
        refine lv_iload (pc := 117) hx hb d199_117 (lv_at hl 4 rfl) ?_
        refine lv_icmp_ge (pc := 119) (tgt := 172) hx hb d199_119 (by decide) (fun c119 => ?_) (fun c119 => ?_)
        · have h := jb_t c119 h
          exact kc172 _ hK52 _ hK108 st x1 x2 x3 x4 x5 x7 x8 x9 x10 x11 hx1 hx3 _ _ _ hW hS (lv_sub hl [0, 1, 2, 3, 4, 5, 6, 7, 8, 9, 10] rfl) h
        · have h := jb_f c119 h
          refine lv_iload (pc := 122) hx hb d199_122 (lv_at hl 8 rfl) ?_
          refine lv_bipush (pc := 124) (v := 63) hx hb d199_124 (by decide) ?_
          refine lv_icmp_ne (pc := 126) (tgt := 134) hx hb d199_126 (by decide) (fun c126 => ?_) (fun c126 => ?_)
          · have h := jb_f c126 h
            exact kc134 _ hK52 _ hK108 st x1 x2 x3 x4 x5 x7 x8 x9 x10 x11 hx1 hx3 _ _ _ hW hS (lv_sub hl [0, 1, 2, 3, 4, 5, 6, 7, 8, 9, 10] rfl) h
          · have h := jb_t c126 h
            refine lv_iload (pc := 129) hx hb d199_129 (lv_at hl 7 rfl) ?_
            refine lv_if_eq (pc := 131) (tgt := 149) hx hb d199_131 (by decide) (fun c131 => ?_) (fun c131 => ?_)
            · have h := jb_t c131 h
              exact kc149 _ hK52 _ hK108 st x1 x2 x3 x4 x5 x7 x8 x9 x10 x11 hx1 hx3 _ _ _ hW hS (lv_sub hl [0, 1, 2, 3, 4, 5, 6, 7, 8, 9, 10] rfl) h
            · have h := jb_f c131 h
              exact kc134 _ hK52 _ hK108 st x1 x2 x3 x4 x5 x7 x8 x9 x10 x11 hx1 hx3 _ _ _ hW hS (lv_sub hl [0, 1, 2, 3, 4, 5, 6, 7, 8, 9, 10] rfl) h
  have kc102 : ∀ (K52 : GS → Nat → Int32 → Nat → Int32 → Int32 → Int32 → Option (Int32 × GS)) (hK52 : ∀ (st : GS) (x1 : Nat) (x2 : Int32) (x3 : Nat) (x4 : Int32) (x5 : Int32) (x7 : Int32) (hx1 : x1 < 23 ∧ tabM x1 = (1, 256)) (hx3 : x3 < 23 ∧ tabM x3 = (1, 256)) (H : Heap) (locs : List Loc) (ls : Array Slot), GW ρ wM ad st H → va_S (MA wM ad s.heap.size) s.heap H locs → lv_has ls 14 [(0, .ref (ad 0)), (1, .ref (ad x1)), (2, .int x2), (3, .ref (ad x3)), (4, .int x4), (5, .int x5), (7, .int x7)] → K52 st x1 x2 x3 x4 x5 x7 = some res → W p l e ({ frames := 1, cells := 0, slots := 0, locals := 22 } : Room) s m args below meth c H locs 0 0 (MQ below (mQ (fun v H1 => v = some (.int res.1) ∧ GW ρ wM ad res.2 H1) (MA wM ad s.heap.size)) args s 0 0 (MA wM ad s.heap.size)) (F0 m 52 ls [])), ∀ (st : GS) (x1 : Nat) (x2 : Int32) (x3 : Nat) (x4 : Int32) (x5 : Int32) (x7 : Int32) (x8 : Int32) (x9 : Int32) (z0 : Int32) (hx1 : x1 < 23 ∧ tabM x1 = (1, 256)) (hx3 : x3 < 23 ∧ tabM x3 = (1, 256)) (H : Heap) (locs : List Loc) (ls : Array Slot), GW ρ wM ad st H → va_S (MA wM ad s.heap.size) s.heap H locs → lv_has ls 14 [(0, .ref (ad 0)), (1, .ref (ad x1)), (2, .int x2), (3, .ref (ad x3)), (4, .int x4), (5, .int x5), (7, .int x7), (8, .int x8), (9, .int x9)] → mo_matches_102 K52 st x1 x2 x3 x4 x5 x7 x8 x9 z0 = some res → W p l e ({ frames := 1, cells := 0, slots := 0, locals := 22 } : Room) s m args below meth c H locs 0 0 (MQ below (mQ (fun v H1 => v = some (.int res.1) ∧ GW ρ wM ad res.2 H1) (MA wM ad s.heap.size)) args s 0 0 (MA wM ad s.heap.size)) (F0 m 102 ls [.int z0]) := by
    intro K52 hK52
    intro st x1 x2 x3 x4 x5 x7 x8 x9 z0 hx1 hx3 H locs ls hW hS hl h
    unfold mo_matches_102 at h
    refine lv_istore (pc := 102) (lv' := [(10, .int z0), (0, .ref (ad 0)), (1, .ref (ad x1)), (2, .int x2), (3, .ref (ad x3)), (4, .int x4), (5, .int x5), (7, .int x7), (8, .int x8), (9, .int x9)]) hx hb d199_102 hl (by decide) rfl (fun ls hl => ?_)
    refine lv_iload (pc := 104) hx hb d199_104 (lv_at hl 5 rfl) ?_
    refine lv_istore (pc := 106) (lv' := [(11, .int x4), (10, .int z0), (0, .ref (ad 0)), (1, .ref (ad x1)), (2, .int x2), (3, .ref (ad x3)), (4, .int x4), (5, .int x5), (7, .int x7), (8, .int x8), (9, .int x9)]) hx hb d199_106 hl (by decide) rfl (fun ls hl => ?_)
    exact kc108 _ hK52 FU st x1 x2 x3 x4 x5 x7 x8 x9 z0 x4 hx1 hx3 _ _ _ hW hS (lv_sub hl [2, 3, 4, 5, 6, 7, 8, 9, 10, 1, 0] rfl) h
  have kc84 : ∀ (K52 : GS → Nat → Int32 → Nat → Int32 → Int32 → Int32 → Option (Int32 × GS)) (hK52 : ∀ (st : GS) (x1 : Nat) (x2 : Int32) (x3 : Nat) (x4 : Int32) (x5 : Int32) (x7 : Int32) (hx1 : x1 < 23 ∧ tabM x1 = (1, 256)) (hx3 : x3 < 23 ∧ tabM x3 = (1, 256)) (H : Heap) (locs : List Loc) (ls : Array Slot), GW ρ wM ad st H → va_S (MA wM ad s.heap.size) s.heap H locs → lv_has ls 14 [(0, .ref (ad 0)), (1, .ref (ad x1)), (2, .int x2), (3, .ref (ad x3)), (4, .int x4), (5, .int x5), (7, .int x7)] → K52 st x1 x2 x3 x4 x5 x7 = some res → W p l e ({ frames := 1, cells := 0, slots := 0, locals := 22 } : Room) s m args below meth c H locs 0 0 (MQ below (mQ (fun v H1 => v = some (.int res.1) ∧ GW ρ wM ad res.2 H1) (MA wM ad s.heap.size)) args s 0 0 (MA wM ad s.heap.size)) (F0 m 52 ls [])), ∀ (st : GS) (x1 : Nat) (x2 : Int32) (x3 : Nat) (x4 : Int32) (x5 : Int32) (x7 : Int32) (x8 : Int32) (z0 : Int32) (hx1 : x1 < 23 ∧ tabM x1 = (1, 256)) (hx3 : x3 < 23 ∧ tabM x3 = (1, 256)) (H : Heap) (locs : List Loc) (ls : Array Slot), GW ρ wM ad st H → va_S (MA wM ad s.heap.size) s.heap H locs → lv_has ls 14 [(0, .ref (ad 0)), (1, .ref (ad x1)), (2, .int x2), (3, .ref (ad x3)), (4, .int x4), (5, .int x5), (7, .int x7), (8, .int x8)] → mo_matches_84 K52 st x1 x2 x3 x4 x5 x7 x8 z0 = some res → W p l e ({ frames := 1, cells := 0, slots := 0, locals := 22 } : Room) s m args below meth c H locs 0 0 (MQ below (mQ (fun v H1 => v = some (.int res.1) ∧ GW ρ wM ad res.2 H1) (MA wM ad s.heap.size)) args s 0 0 (MA wM ad s.heap.size)) (F0 m 84 ls [.int z0]) := by
    intro K52 hK52
    intro st x1 x2 x3 x4 x5 x7 x8 z0 hx1 hx3 H locs ls hW hS hl h
    unfold mo_matches_84 at h
    refine lv_istore (pc := 84) (lv' := [(9, .int z0), (0, .ref (ad 0)), (1, .ref (ad x1)), (2, .int x2), (3, .ref (ad x3)), (4, .int x4), (5, .int x5), (7, .int x7), (8, .int x8)]) hx hb d199_84 hl (by decide) rfl (fun ls hl => ?_)
    refine lv_iload (pc := 86) hx hb d199_86 (lv_at hl 8 rfl) ?_
    refine lv_if_eq (pc := 88) (tgt := 98) hx hb d199_88 (by decide) (fun c88 => ?_) (fun c88 => ?_)
    · have h := jb_t c88 h
      refine lv_iload (pc := 98) hx hb d199_98 (lv_at hl 7 rfl) ?_
      refine lv_iconst (pc := 100) (v := 1) hx hb d199_100 (by decide) ?_
      refine lv_iadd (pc := 101) hx hb d199_101 ?_
      exact kc102 _ hK52 st x1 x2 x3 x4 x5 x7 x8 z0 (x7 + 1) hx1 hx3 _ _ _ hW hS (lv_sub hl [1, 2, 3, 4, 5, 6, 7, 8, 0] rfl) h
    · have h := jb_f c88 h
      refine lv_iload (pc := 91) hx hb d199_91 (lv_at hl 7 rfl) ?_
      refine lv_iconst (pc := 93) (v := 2) hx hb d199_93 (by decide) ?_
      refine lv_iadd (pc := 94) hx hb d199_94 ?_
      refine lv_goto (pc := 95) (tgt := 102) hx hb d199_95 (by decide) ?_
      exact kc102 _ hK52 st x1 x2 x3 x4 x5 x7 x8 z0 (x7 + 2) hx1 hx3 _ _ _ hW hS (lv_sub hl [1, 2, 3, 4, 5, 6, 7, 8, 0] rfl) h
  have kc52 : ∀ (fu : Nat), ∀ (st : GS) (x1 : Nat) (x2 : Int32) (x3 : Nat) (x4 : Int32) (x5 : Int32) (x7 : Int32) (hx1 : x1 < 23 ∧ tabM x1 = (1, 256)) (hx3 : x3 < 23 ∧ tabM x3 = (1, 256)) (H : Heap) (locs : List Loc) (ls : Array Slot), GW ρ wM ad st H → va_S (MA wM ad s.heap.size) s.heap H locs → lv_has ls 14 [(0, .ref (ad 0)), (1, .ref (ad x1)), (2, .int x2), (3, .ref (ad x3)), (4, .int x4), (5, .int x5), (7, .int x7)] → mo_matches_52 fu st x1 x2 x3 x4 x5 x7 = some res → W p l e ({ frames := 1, cells := 0, slots := 0, locals := 22 } : Room) s m args below meth c H locs 0 0 (MQ below (mQ (fun v H1 => v = some (.int res.1) ∧ GW ρ wM ad res.2 H1) (MA wM ad s.heap.size)) args s 0 0 (MA wM ad s.heap.size)) (F0 m 52 ls []) := by
    intro  fu
    induction fu with
    | zero => intro st x1 x2 x3 x4 x5 x7 hx1 hx3 H locs ls hW hS hl h; cases h
    | succ fu hK52 =>
      intro st x1 x2 x3 x4 x5 x7 hx1 hx3 H locs ls hW hS hl h
      unfold mo_matches_52 at h
      refine lv_iload (pc := 52) hx hb d199_52 (lv_at hl 6 rfl) ?_
      refine lv_if_lt (pc := 54) (tgt := 278) hx hb d199_54 (by decide) (fun c54 => ?_) (fun c54 => ?_)
      · have h := jb_t c54 h
        refine lv_aload_n (pc := 278) hx hb d199_278 rfl (lv_at hl 0 rfl) ?_
        refine m_get (pc := 279) X hW 45 (v := .ref (ad 18)) wd1411 rfl rfl d199_279 ?_
        refine lv_iload (pc := 282) hx hb d199_282 (lv_at hl 5 rfl) ?_
        obtain ⟨g12, h⟩ := jg_some h
        refine r_zald (pc := 284) X hW 18 (by decide) rfl (inb_in g12) d199_284 ?_
        obtain ⟨g13, h⟩ := jg_some h
        obtain rfl := Option.some.inj h
        exact m_zret (pc := 285) hx hb hr hlk hS ⟨rfl, hW⟩ (by decide) (by decide) d199_285 (isB_nar g13)
      · have h := jb_f c54 h
        refine lv_aload_n (pc := 57) hx hb d199_57 rfl (lv_at hl 1 rfl) ?_
        refine lv_iload_n (pc := 58) hx hb d199_58 rfl (lv_at hl 2 rfl) ?_
        refine lv_iload (pc := 59) hx hb d199_59 (lv_at hl 6 rfl) ?_
        obtain ⟨q14, hq14, h⟩ := jc_some h
        refine k_callS (pc := 61) (n := 3) X hS (c_mo_isEscape l ρ ad _ st x1 x2 x7 q14 hW hx1 hq14) wd1726 wd1724 wd1725 wd11 (by decide) ⟨rfl, rfl, by decide, by decide⟩ (As := [.ref (ad x1), .int x2, .int x7]) (rest := []) rfl rfl hl.1 (Nat.le_of_ble_eq_true rfl) d199_61 ⟨by decide, by decide⟩ (fun q hq => False.elim hq) (fun v H1 locs1 hv _ _ hSq14 => ?_)
        obtain ⟨rfl, rfl⟩ := hv
        have hS := hSq14
        refine lv_istore (pc := 64) (lv' := [(8, .int q14), (0, .ref (ad 0)), (1, .ref (ad x1)), (2, .int x2), (3, .ref (ad x3)), (4, .int x4), (5, .int x5), (7, .int x7)]) hx hb d199_64 hl (by decide) rfl (fun ls hl => ?_)
        refine lv_iload (pc := 66) hx hb d199_66 (lv_at hl 0 rfl) ?_
        refine lv_if_eq (pc := 68) (tgt := 80) hx hb d199_68 (by decide) (fun c68 => ?_) (fun c68 => ?_)
        · have h := jb_t c68 h
          refine lv_aload_n (pc := 80) hx hb d199_80 rfl (lv_at hl 2 rfl) ?_
          refine lv_iload (pc := 81) hx hb d199_81 (lv_at hl 7 rfl) ?_
          obtain ⟨g15, h⟩ := jg_some h
          refine r_iald (pc := 83) X hW x1 hx1.1 hx1.2 (inb_in g15) d199_83 ?_
          exact kc84 _ hK52 st x1 x2 x3 x4 x5 x7 q14 (st.1 x1 x7.toNatClampNeg) hx1 hx3 _ _ _ hW hS (lv_sub hl [1, 2, 3, 4, 5, 6, 7, 0] rfl) h
        · have h := jb_f c68 h
          refine lv_aload_n (pc := 71) hx hb d199_71 rfl (lv_at hl 2 rfl) ?_
          refine lv_iload (pc := 72) hx hb d199_72 (lv_at hl 7 rfl) ?_
          refine lv_iconst (pc := 74) (v := 1) hx hb d199_74 (by decide) ?_
          refine lv_iadd (pc := 75) hx hb d199_75 ?_
          obtain ⟨g16, h⟩ := jg_some h
          refine r_iald (pc := 76) X hW x1 hx1.1 hx1.2 (inb_in g16) d199_76 ?_
          refine lv_goto (pc := 77) (tgt := 84) hx hb d199_77 (by decide) ?_
          exact kc84 _ hK52 st x1 x2 x3 x4 x5 x7 q14 (st.1 x1 (x7 + 1).toNatClampNeg) hx1 hx3 _ _ _ hW hS (lv_sub hl [1, 2, 3, 4, 5, 6, 7, 0] rfl) h
  have kc40 : ∀ (K4 : GS → Nat → Int32 → Nat → Int32 → Int32 → Int32 → Int32 → Option (Int32 × GS)) (hK4 : ∀ (st : GS) (x1 : Nat) (x2 : Int32) (x3 : Nat) (x4 : Int32) (x5 : Int32) (x6 : Int32) (x7 : Int32) (hx1 : x1 < 23 ∧ tabM x1 = (1, 256)) (hx3 : x3 < 23 ∧ tabM x3 = (1, 256)) (H : Heap) (locs : List Loc) (ls : Array Slot), GW ρ wM ad st H → va_S (MA wM ad s.heap.size) s.heap H locs → lv_has ls 14 [(0, .ref (ad 0)), (1, .ref (ad x1)), (2, .int x2), (3, .ref (ad x3)), (4, .int x4), (5, .int x5), (6, .int x6), (7, .int x7)] → K4 st x1 x2 x3 x4 x5 x6 x7 = some res → W p l e ({ frames := 1, cells := 0, slots := 0, locals := 22 } : Room) s m args below meth c H locs 0 0 (MQ below (mQ (fun v H1 => v = some (.int res.1) ∧ GW ρ wM ad res.2 H1) (MA wM ad s.heap.size)) args s 0 0 (MA wM ad s.heap.size)) (F0 m 4 ls [])), ∀ (st : GS) (x1 : Nat) (x2 : Int32) (x3 : Nat) (x4 : Int32) (x5 : Int32) (x6 : Int32) (x7 : Int32) (z1 : Int32) (z2 : Int32) (hx1 : x1 < 23 ∧ tabM x1 = (1, 256)) (hx3 : x3 < 23 ∧ tabM x3 = (1, 256)) (H : Heap) (locs : List Loc) (ls : Array Slot), GW ρ wM ad st H → va_S (MA wM ad s.heap.size) s.heap H locs → lv_has ls 14 [(0, .ref (ad 0)), (1, .ref (ad x1)), (2, .int x2), (3, .ref (ad x3)), (4, .int x4), (5, .int x5), (6, .int x6), (7, .int x7)] → mo_matches_40 K4 st x1 x2 x3 x4 x5 x6 x7 z1 z2 = some res → W p l e ({ frames := 1, cells := 0, slots := 0, locals := 22 } : Room) s m args below meth c H locs 0 0 (MQ below (mQ (fun v H1 => v = some (.int res.1) ∧ GW ρ wM ad res.2 H1) (MA wM ad s.heap.size)) args s 0 0 (MA wM ad s.heap.size)) (F0 m 40 ls [.int z2, .int z1, .ref (ad 18)]) := by
    intro K4 hK4
    intro st x1 x2 x3 x4 x5 x6 x7 z1 z2 hx1 hx3 H locs ls hW hS hl h
    unfold mo_matches_40 at h
    obtain ⟨g17, h⟩ := jg_some h
    obtain ⟨g18, h⟩ := jg_some h
    obtain ⟨st19, est19, h⟩ := jn_ex h
    refine m_zast (pc := 40) X hW hS 18 (by decide) rfl g18 g17 est19 d199_40 (fun H locs hW hS => ?_)
    obtain ⟨v20, ev20, h⟩ := jn_ex h
    refine lv_iinc (pc := 41) (v := v20) (lv' := [(7, .int v20), (0, .ref (ad 0)), (1, .ref (ad x1)), (2, .int x2), (3, .ref (ad x3)), (4, .int x4), (5, .int x5), (6, .int x6)]) hx hb d199_41 hl (k := 7) rfl (by rw [ev20]; rfl) (by decide) rfl (fun ls hl => ?_)
    refine lv_goto (pc := 44) (tgt := 4) hx hb d199_44 (by decide) ?_
    exact hK4 st19 x1 x2 x3 x4 x5 x6 v20 hx1 hx3 _ _ _ hW hS (lv_sub hl [1, 2, 3, 4, 5, 6, 7, 0] rfl) h
  have kc35 : ∀ (K4 : GS → Nat → Int32 → Nat → Int32 → Int32 → Int32 → Int32 → Option (Int32 × GS)) (hK4 : ∀ (st : GS) (x1 : Nat) (x2 : Int32) (x3 : Nat) (x4 : Int32) (x5 : Int32) (x6 : Int32) (x7 : Int32) (hx1 : x1 < 23 ∧ tabM x1 = (1, 256)) (hx3 : x3 < 23 ∧ tabM x3 = (1, 256)) (H : Heap) (locs : List Loc) (ls : Array Slot), GW ρ wM ad st H → va_S (MA wM ad s.heap.size) s.heap H locs → lv_has ls 14 [(0, .ref (ad 0)), (1, .ref (ad x1)), (2, .int x2), (3, .ref (ad x3)), (4, .int x4), (5, .int x5), (6, .int x6), (7, .int x7)] → K4 st x1 x2 x3 x4 x5 x6 x7 = some res → W p l e ({ frames := 1, cells := 0, slots := 0, locals := 22 } : Room) s m args below meth c H locs 0 0 (MQ below (mQ (fun v H1 => v = some (.int res.1) ∧ GW ρ wM ad res.2 H1) (MA wM ad s.heap.size)) args s 0 0 (MA wM ad s.heap.size)) (F0 m 4 ls [])), ∀ (st : GS) (x1 : Nat) (x2 : Int32) (x3 : Nat) (x4 : Int32) (x5 : Int32) (x6 : Int32) (x7 : Int32) (z1 : Int32) (hx1 : x1 < 23 ∧ tabM x1 = (1, 256)) (hx3 : x3 < 23 ∧ tabM x3 = (1, 256)) (H : Heap) (locs : List Loc) (ls : Array Slot), GW ρ wM ad st H → va_S (MA wM ad s.heap.size) s.heap H locs → lv_has ls 14 [(0, .ref (ad 0)), (1, .ref (ad x1)), (2, .int x2), (3, .ref (ad x3)), (4, .int x4), (5, .int x5), (6, .int x6), (7, .int x7)] → mo_matches_35 K4 st x1 x2 x3 x4 x5 x6 x7 z1 = some res → W p l e ({ frames := 1, cells := 0, slots := 0, locals := 22 } : Room) s m args below meth c H locs 0 0 (MQ below (mQ (fun v H1 => v = some (.int res.1) ∧ GW ρ wM ad res.2 H1) (MA wM ad s.heap.size)) args s 0 0 (MA wM ad s.heap.size)) (F0 m 35 ls [.int z1, .ref (ad 18)]) := by
    intro K4 hK4
    intro st x1 x2 x3 x4 x5 x6 x7 z1 hx1 hx3 H locs ls hW hS hl h
    unfold mo_matches_35 at h
    refine lv_iconst (pc := 35) (v := 1) hx hb d199_35 (by decide) ?_
    refine lv_goto (pc := 36) (tgt := 40) hx hb d199_36 (by decide) ?_
    exact kc40 _ hK4 st x1 x2 x3 x4 x5 x6 x7 z1 1 hx1 hx3 _ _ _ hW hS (lv_sub hl [0, 1, 2, 3, 4, 5, 6, 7] rfl) h
  have kc4 : ∀ (fu : Nat), ∀ (st : GS) (x1 : Nat) (x2 : Int32) (x3 : Nat) (x4 : Int32) (x5 : Int32) (x6 : Int32) (x7 : Int32) (hx1 : x1 < 23 ∧ tabM x1 = (1, 256)) (hx3 : x3 < 23 ∧ tabM x3 = (1, 256)) (H : Heap) (locs : List Loc) (ls : Array Slot), GW ρ wM ad st H → va_S (MA wM ad s.heap.size) s.heap H locs → lv_has ls 14 [(0, .ref (ad 0)), (1, .ref (ad x1)), (2, .int x2), (3, .ref (ad x3)), (4, .int x4), (5, .int x5), (6, .int x6), (7, .int x7)] → mo_matches_4 fu st x1 x2 x3 x4 x5 x6 x7 = some res → W p l e ({ frames := 1, cells := 0, slots := 0, locals := 22 } : Room) s m args below meth c H locs 0 0 (MQ below (mQ (fun v H1 => v = some (.int res.1) ∧ GW ρ wM ad res.2 H1) (MA wM ad s.heap.size)) args s 0 0 (MA wM ad s.heap.size)) (F0 m 4 ls []) := by
    intro  fu
    induction fu with
    | zero => intro st x1 x2 x3 x4 x5 x6 x7 hx1 hx3 H locs ls hW hS hl h; cases h
    | succ fu hK4 =>
      intro st x1 x2 x3 x4 x5 x6 x7 hx1 hx3 H locs ls hW hS hl h
      unfold mo_matches_4 at h
      refine lv_iload (pc := 4) hx hb d199_4 (lv_at hl 7 rfl) ?_
      refine lv_iload (pc := 6) hx hb d199_6 (lv_at hl 5 rfl) ?_
      refine lv_icmp_lt (pc := 8) (tgt := 47) hx hb d199_8 (by decide) (fun c8 => ?_) (fun c8 => ?_)
      · have h := jb_t c8 h
        refine lv_iload_n (pc := 47) hx hb d199_47 rfl (lv_at hl 2 rfl) ?_
        refine lv_iconst (pc := 48) (v := 1) hx hb d199_48 (by decide) ?_
        refine lv_isub (pc := 49) hx hb d199_49 ?_
        obtain ⟨v21, ev21, h⟩ := jn_ex h
        refine nm_i ev21 ?_
        refine lv_istore (pc := 50) (lv' := [(7, .int v21), (0, .ref (ad 0)), (1, .ref (ad x1)), (2, .int x2), (3, .ref (ad x3)), (4, .int x4), (5, .int x5), (6, .int x6)]) hx hb d199_50 hl (by decide) rfl (fun ls hl => ?_)
        exact kc52  FU st x1 x2 x3 x4 x5 v21 hx1 hx3 _ _ _ hW hS (lv_sub hl [1, 2, 3, 4, 5, 6, 0] rfl) h
      · have h := jb_f c8 h
        refine lv_aload_n (pc := 11) hx hb d199_11 rfl (lv_at hl 0 rfl) ?_
        refine m_get (pc := 12) X hW 45 (v := .ref (ad 18)) wd1411 rfl rfl d199_12 ?_
        refine lv_sipush (pc := 15) (v := 256) hx hb d199_15 (by decide) ?_
        refine lv_iload_n (pc := 18) hx hb d199_18 rfl (lv_at hl 2 rfl) ?_
        refine lv_imul (pc := 19) hx hb d199_19 ?_
        refine lv_iload (pc := 20) hx hb d199_20 (lv_at hl 7 rfl) ?_
        refine lv_iadd (pc := 22) hx hb d199_22 ?_
        refine lv_iload (pc := 23) hx hb d199_23 (lv_at hl 6 rfl) ?_
        refine lv_if_eq (pc := 25) (tgt := 35) hx hb d199_25 (by decide) (fun c25 => ?_) (fun c25 => ?_)
        · have h := jb_t c25 h
          exact kc35 _ hK4 st x1 x2 x3 x4 x5 x6 x7 ((256 * x2) + x7) hx1 hx3 _ _ _ hW hS (lv_sub hl [0, 1, 2, 3, 4, 5, 6, 7] rfl) h
        · have h := jb_f c25 h
          refine lv_iload (pc := 28) hx hb d199_28 (lv_at hl 7 rfl) ?_
          refine lv_iload (pc := 30) hx hb d199_30 (lv_at hl 4 rfl) ?_
          refine lv_icmp_ne (pc := 32) (tgt := 39) hx hb d199_32 (by decide) (fun c32 => ?_) (fun c32 => ?_)
          · have h := jb_f c32 h
            refine lv_iconst (pc := 39) (v := 0) hx hb d199_39 (by decide) ?_
            exact kc40 _ hK4 st x1 x2 x3 x4 x5 x6 x7 ((256 * x2) + x7) 0 hx1 hx3 _ _ _ hW hS (lv_sub hl [0, 1, 2, 3, 4, 5, 6, 7] rfl) h
          · have h := jb_t c32 h
            exact kc35 _ hK4 st x1 x2 x3 x4 x5 x6 x7 ((256 * x2) + x7) hx1 hx3 _ _ _ hW hS (lv_sub hl [0, 1, 2, 3, 4, 5, 6, 7] rfl) h
  unfold f_mo_matches at h
  refine lv_iload (pc := 0) hx hb d199_0 (lv_at hl 4 rfl) ?_
  refine lv_istore (pc := 2) (lv' := [(7, .int p3), (0, .ref (ad 0)), (1, .ref (ad p0)), (2, .int p1), (3, .ref (ad p2)), (4, .int p3), (5, .int p4), (6, .int p5)]) hx hb d199_2 hl (by decide) rfl (fun ls hl => ?_)
  exact kc4  FU st p0 p1 p2 p3 p4 p5 p3 hp0 hp2 _ _ _ hW hS (lv_sub hl [1, 2, 3, 4, 5, 6, 7, 0] rfl) h
def mo_stands_50 (K19 : GS → Nat → Nat → Int32 → Int32 → Int32 → Int32 → Option (Int32)) (st : GS) (x1 : Nat) (x3 : Nat) (x4 : Int32) (x5 : Int32) (x7 : Int32) (z0 : Int32) : Option (Int32) := jn (x7 + 1) (fun v1 => K19 st x1 x3 x4 x5 z0 v1)
def mo_stands_19  : Nat → GS → Nat → Nat → Int32 → Int32 → Int32 → Int32 → Option (Int32)
  | 0, _, _, _, _, _, _, _ => none
  | fu + 1, st, x1, x3, x4, x5, x6, x7 => jb (x4 ≤ x7) (jg (isB x6) (some x6)) (jb (x6 = 0) (jg (isB x6) (some x6)) (jg (inb (x5 + x7) 256) (jg (inb x7 256) (jb ((st.1 x1 (x5 + x7).toNatClampNeg) = (st.1 x3 x7.toNatClampNeg)) (mo_stands_50 (mo_stands_19 fu)  st x1 x3 x4 x5 x7 1) (mo_stands_50 (mo_stands_19 fu)  st x1 x3 x4 x5 x7 0)))))
def mo_stands_14  (st : GS) (x1 : Nat) (x3 : Nat) (x4 : Int32) (x5 : Int32) (z0 : Int32) : Option (Int32) := mo_stands_19 FU st x1 x3 x4 x5 z0 0
def f_mo_stands (st : GS) (p0 : Nat) (p1 : Int32) (p2 : Nat) (p3 : Int32) (p4 : Int32) : Option (Int32) := jb (p1 < (p4 + p3)) (mo_stands_14  st p0 p2 p3 p4 0) (mo_stands_14  st p0 p2 p3 p4 1)
set_option maxHeartbeats 4000000 in
set_option maxRecDepth 100000 in
theorem c_mo_stands (l : Launch) (ρ : RH) (ad : Nat → Nat) (H : Heap) (st : GS) (p0 : Nat) (p1 : Int32) (p2 : Nat) (p3 : Int32) (p4 : Int32) (res : Int32) (hW : GW ρ wM ad st H) (hp0 : p0 < 23 ∧ tabM p0 = (1, 256)) (hp2 : p2 < 23 ∧ tabM p2 = (1, 256)) (h : f_mo_stands st p0 p1 p2 p3 p4 = some res) : Met l y221 (wsOf y221 b221 8 (some .boolean)) ({ frames := 0, cells := 0, slots := 0, locals := 0 } : Room) (va_Pc [.ref (ad 0), .ref (ad p0), .int p1, .ref (ad p2), .int p3, .int p4] (KP ρ H)) (mQ (fun v H1 => v = some (.int res) ∧ H1 = H) (fun _ => False)) 0 0 (fun _ => False) := by
  refine m_ofW (own := "WordFunctionsModel") (plainFor_of_name rfl) rfl (Nat.le_of_ble_eq_true rfl) fun p e s m args below meth c ls hx hb hr hlk _ X hs hl => ?_
  subst hs
  have hS : va_S (fun _ => False) s.heap s.heap [] := va_S.rf
  have hl : lv_has ls 8 [(0, .ref (ad 0)), (1, .ref (ad p0)), (2, .int p1), (3, .ref (ad p2)), (4, .int p3), (5, .int p4)] := hl
  have kc50 : ∀ (K19 : GS → Nat → Nat → Int32 → Int32 → Int32 → Int32 → Option (Int32)) (hK19 : ∀ (x1 : Nat) (x3 : Nat) (x4 : Int32) (x5 : Int32) (x6 : Int32) (x7 : Int32) (hx1 : x1 < 23 ∧ tabM x1 = (1, 256)) (hx3 : x3 < 23 ∧ tabM x3 = (1, 256)) (locs : List Loc) (ls : Array Slot), va_S (fun _ => False) s.heap s.heap locs → lv_has ls 8 [(1, .ref (ad x1)), (3, .ref (ad x3)), (4, .int x4), (5, .int x5), (6, .int x6), (7, .int x7)] → K19 st x1 x3 x4 x5 x6 x7 = some res → W p l e ({ frames := 0, cells := 0, slots := 0, locals := 0 } : Room) s m args below meth c s.heap locs 0 0 (MQ below (mQ (fun v H1 => v = some (.int res) ∧ H1 = s.heap) (fun _ => False)) args s 0 0 (fun _ => False)) (F0 m 19 ls [])), ∀ (x1 : Nat) (x3 : Nat) (x4 : Int32) (x5 : Int32) (x7 : Int32) (z0 : Int32) (hx1 : x1 < 23 ∧ tabM x1 = (1, 256)) (hx3 : x3 < 23 ∧ tabM x3 = (1, 256)) (locs : List Loc) (ls : Array Slot), va_S (fun _ => False) s.heap s.heap locs → lv_has ls 8 [(1, .ref (ad x1)), (3, .ref (ad x3)), (4, .int x4), (5, .int x5), (7, .int x7)] → mo_stands_50 K19 st x1 x3 x4 x5 x7 z0 = some res → W p l e ({ frames := 0, cells := 0, slots := 0, locals := 0 } : Room) s m args below meth c s.heap locs 0 0 (MQ below (mQ (fun v H1 => v = some (.int res) ∧ H1 = s.heap) (fun _ => False)) args s 0 0 (fun _ => False)) (F0 m 50 ls [.int z0]) := by
    intro K19 hK19
    intro x1 x3 x4 x5 x7 z0 hx1 hx3 locs ls hS hl h
    unfold mo_stands_50 at h
    refine lv_istore (pc := 50) (lv' := [(6, .int z0), (1, .ref (ad x1)), (3, .ref (ad x3)), (4, .int x4), (5, .int x5), (7, .int x7)]) hx hb d221_50 hl (by decide) rfl (fun ls hl => ?_)
    obtain ⟨v1, ev1, h⟩ := jn_ex h
    refine lv_iinc (pc := 52) (v := v1) (lv' := [(7, .int v1), (6, .int z0), (1, .ref (ad x1)), (3, .ref (ad x3)), (4, .int x4), (5, .int x5)]) hx hb d221_52 hl (k := 5) rfl (by rw [ev1]; rfl) (by decide) rfl (fun ls hl => ?_)
    refine lv_goto (pc := 55) (tgt := 19) hx hb d221_55 (by decide) ?_
    exact hK19 x1 x3 x4 x5 z0 v1 hx1 hx3 _ _ hS (lv_sub hl [2, 3, 4, 5, 1, 0] rfl) h
  have kc19 : ∀ (fu : Nat), ∀ (x1 : Nat) (x3 : Nat) (x4 : Int32) (x5 : Int32) (x6 : Int32) (x7 : Int32) (hx1 : x1 < 23 ∧ tabM x1 = (1, 256)) (hx3 : x3 < 23 ∧ tabM x3 = (1, 256)) (locs : List Loc) (ls : Array Slot), va_S (fun _ => False) s.heap s.heap locs → lv_has ls 8 [(1, .ref (ad x1)), (3, .ref (ad x3)), (4, .int x4), (5, .int x5), (6, .int x6), (7, .int x7)] → mo_stands_19 fu st x1 x3 x4 x5 x6 x7 = some res → W p l e ({ frames := 0, cells := 0, slots := 0, locals := 0 } : Room) s m args below meth c s.heap locs 0 0 (MQ below (mQ (fun v H1 => v = some (.int res) ∧ H1 = s.heap) (fun _ => False)) args s 0 0 (fun _ => False)) (F0 m 19 ls []) := by
    intro  fu
    induction fu with
    | zero => intro x1 x3 x4 x5 x6 x7 hx1 hx3 locs ls hS hl h; cases h
    | succ fu hK19 =>
      intro x1 x3 x4 x5 x6 x7 hx1 hx3 locs ls hS hl h
      unfold mo_stands_19 at h
      refine lv_iload (pc := 19) hx hb d221_19 (lv_at hl 5 rfl) ?_
      refine lv_iload (pc := 21) hx hb d221_21 (lv_at hl 2 rfl) ?_
      refine lv_icmp_ge (pc := 23) (tgt := 58) hx hb d221_23 (by decide) (fun c23 => ?_) (fun c23 => ?_)
      · have h := jb_t c23 h
        refine lv_iload (pc := 58) hx hb d221_58 (lv_at hl 4 rfl) ?_
        obtain ⟨g2, h⟩ := jg_some h
        obtain rfl := Option.some.inj h
        exact m_zret (pc := 60) hx hb hr hlk hS ⟨rfl, rfl⟩ (by decide) (by decide) d221_60 (isB_nar g2)
      · have h := jb_f c23 h
        refine lv_iload (pc := 26) hx hb d221_26 (lv_at hl 4 rfl) ?_
        refine lv_if_eq (pc := 28) (tgt := 58) hx hb d221_28 (by decide) (fun c28 => ?_) (fun c28 => ?_)
        · have h := jb_t c28 h
          refine lv_iload (pc := 58) hx hb d221_58 (lv_at hl 4 rfl) ?_
          obtain ⟨g3, h⟩ := jg_some h
          obtain rfl := Option.some.inj h
          exact m_zret (pc := 60) hx hb hr hlk hS ⟨rfl, rfl⟩ (by decide) (by decide) d221_60 (isB_nar g3)
        · have h := jb_f c28 h
          refine lv_aload_n (pc := 31) hx hb d221_31 rfl (lv_at hl 0 rfl) ?_
          refine lv_iload (pc := 32) hx hb d221_32 (lv_at hl 3 rfl) ?_
          refine lv_iload (pc := 34) hx hb d221_34 (lv_at hl 5 rfl) ?_
          refine lv_iadd (pc := 36) hx hb d221_36 ?_
          obtain ⟨g4, h⟩ := jg_some h
          refine r_iald (pc := 37) X hW x1 hx1.1 hx1.2 (inb_in g4) d221_37 ?_
          refine lv_aload_n (pc := 38) hx hb d221_38 rfl (lv_at hl 1 rfl) ?_
          refine lv_iload (pc := 39) hx hb d221_39 (lv_at hl 5 rfl) ?_
          obtain ⟨g5, h⟩ := jg_some h
          refine r_iald (pc := 41) X hW x3 hx3.1 hx3.2 (inb_in g5) d221_41 ?_
          refine lv_icmp_ne (pc := 42) (tgt := 49) hx hb d221_42 (by decide) (fun c42 => ?_) (fun c42 => ?_)
          · have h := jb_f c42 h
            refine lv_iconst (pc := 49) (v := 0) hx hb d221_49 (by decide) ?_
            exact kc50 _ hK19 x1 x3 x4 x5 x7 0 hx1 hx3 _ _ hS (lv_sub hl [0, 1, 2, 3, 5] rfl) h
          · have h := jb_t c42 h
            refine lv_iconst (pc := 45) (v := 1) hx hb d221_45 (by decide) ?_
            refine lv_goto (pc := 46) (tgt := 50) hx hb d221_46 (by decide) ?_
            exact kc50 _ hK19 x1 x3 x4 x5 x7 1 hx1 hx3 _ _ hS (lv_sub hl [0, 1, 2, 3, 5] rfl) h
  have kc14 : ∀ (x1 : Nat) (x3 : Nat) (x4 : Int32) (x5 : Int32) (z0 : Int32) (hx1 : x1 < 23 ∧ tabM x1 = (1, 256)) (hx3 : x3 < 23 ∧ tabM x3 = (1, 256)) (locs : List Loc) (ls : Array Slot), va_S (fun _ => False) s.heap s.heap locs → lv_has ls 8 [(1, .ref (ad x1)), (3, .ref (ad x3)), (4, .int x4), (5, .int x5)] → mo_stands_14 st x1 x3 x4 x5 z0 = some res → W p l e ({ frames := 0, cells := 0, slots := 0, locals := 0 } : Room) s m args below meth c s.heap locs 0 0 (MQ below (mQ (fun v H1 => v = some (.int res) ∧ H1 = s.heap) (fun _ => False)) args s 0 0 (fun _ => False)) (F0 m 14 ls [.int z0]) := by
    intro x1 x3 x4 x5 z0 hx1 hx3 locs ls hS hl h
    unfold mo_stands_14 at h
    refine lv_istore (pc := 14) (lv' := [(6, .int z0), (1, .ref (ad x1)), (3, .ref (ad x3)), (4, .int x4), (5, .int x5)]) hx hb d221_14 hl (by decide) rfl (fun ls hl => ?_)
    refine lv_iconst (pc := 16) (v := 0) hx hb d221_16 (by decide) ?_
    refine lv_istore (pc := 17) (lv' := [(7, .int 0), (6, .int z0), (1, .ref (ad x1)), (3, .ref (ad x3)), (4, .int x4), (5, .int x5)]) hx hb d221_17 hl (by decide) rfl (fun ls hl => ?_)
    exact kc19  FU x1 x3 x4 x5 z0 0 hx1 hx3 _ _ hS (lv_sub hl [2, 3, 4, 5, 1, 0] rfl) h
  unfold f_mo_stands at h
  refine lv_iload (pc := 0) hx hb d221_0 (lv_at hl 5 rfl) ?_
  refine lv_iload (pc := 2) hx hb d221_2 (lv_at hl 4 rfl) ?_
  refine lv_iadd (pc := 4) hx hb d221_4 ?_
  refine lv_iload_n (pc := 5) hx hb d221_5 rfl (lv_at hl 2 rfl) ?_
  refine lv_icmp_gt (pc := 6) (tgt := 13) hx hb d221_6 (by decide) (fun c6 => ?_) (fun c6 => ?_)
  · have h := jb_t c6 h
    refine lv_iconst (pc := 13) (v := 0) hx hb d221_13 (by decide) ?_
    exact kc14  p0 p2 p3 p4 0 hp0 hp2 _ _ hS (lv_sub hl [1, 3, 4, 5] rfl) h
  · have h := jb_f c6 h
    refine lv_iconst (pc := 9) (v := 1) hx hb d221_9 (by decide) ?_
    refine lv_goto (pc := 10) (tgt := 14) hx hb d221_10 (by decide) ?_
    exact kc14  p0 p2 p3 p4 1 hp0 hp2 _ _ hS (lv_sub hl [1, 3, 4, 5] rfl) h
def mo_findText_140  (st : GS) (x3 : Int32) : Option (GS) := jc (f_mo_answerNumber st (FP.i2d (x3 + 1))) (fun q1 => some q1)
def mo_findText_127  (st : GS) (x3 : Int32) : Option (GS) := jb (x3 ≤ (st.1 0 28)) (mo_findText_140  st x3) (jc (f_mo_fail st 3) (fun q2 => mo_findText_140  q2 x3))
def mo_findText_121 (K57 : GS → Int32 → Int32 → Option (GS)) (st : GS) (x1 : Int32) (x3 : Int32) : Option (GS) := jn (x3 + 1) (fun v3 => K57 st x1 v3)
def mo_findText_57  : Nat → GS → Int32 → Int32 → Option (GS)
  | 0, _, _, _ => none
  | fu + 1, st, x1, x3 => jb ((st.1 0 28) < x3) (mo_findText_127  st x3) (jb (x1 = 0) (jc (f_mo_stands st 14 (st.1 0 28) 15 (st.1 0 29) x3) (fun q4 => jb (q4 = 0) (mo_findText_121 (mo_findText_57 fu)  st x1 x3) (mo_findText_127  st x3))) (jc (f_mo_matches st 15 (st.1 0 29) 14 (st.1 0 28) x3 0) (fun q5 => jb (q5.1 = 0) (mo_findText_121 (mo_findText_57 fu)  q5.2 x1 x3) (mo_findText_127  q5.2 x3))))
def mo_findText_45  (st : GS) (x1 : Int32) (x2 : Int32) : Option (GS) := jb ((st.1 0 22) = 0) (jn (x2 - 1) (fun v6 => mo_findText_57 FU st x1 v6)) (some st)
def mo_findText_40  (st : GS) (x1 : Int32) (x2 : Int32) : Option (GS) := jc (f_mo_fail st 3) (fun q7 => mo_findText_45  q7 x1 x2)
def f_mo_findText (st : GS) (p0 : Int32) : Option (GS) := jc (f_mo_textOf st 0) (fun q8 => jc (f_mo_toC q8) (fun q9 => jc (f_mo_textOf q9 1) (fun q10 => jc (f_mo_toB q10) (fun q11 => jc (f_mo_whole2 q11 2 1) (fun q12 => jb (q12.1 < 1) (mo_findText_40  q12.2 p0 q12.1) (jb (q12.1 ≤ ((q12.2.1 0 28) + 1)) (mo_findText_45  q12.2 p0 q12.1) (mo_findText_40  q12.2 p0 q12.1)))))))
set_option maxHeartbeats 4000000 in
set_option maxRecDepth 100000 in
theorem c_mo_findText (l : Launch) (ρ : RH) (ad : Nat → Nat) (H : Heap) (st : GS) (p0 : Int32) (res : GS) (hW : GW ρ wM ad st H) (h : f_mo_findText st p0 = some res) : Met l y173 (wsOf y173 b173 4 none) ({ frames := 6, cells := 0, slots := 0, locals := 132 } : Room) (va_Pc [.ref (ad 0), .int p0] (KP ρ H)) (mQ (fun v H1 => v = none ∧ GW ρ wM ad res H1) (MA wM ad H.size)) 0 0 (MA wM ad H.size) := by
  refine m_ofW (own := "WordFunctionsModel") (plainFor_of_name rfl) rfl (Nat.le_of_ble_eq_true rfl) fun p e s m args below meth c ls hx hb hr hlk _ X hs hl => ?_
  subst hs
  have hS : va_S (MA wM ad s.heap.size) s.heap s.heap [] := va_S.rf
  have hl : lv_has ls 4 [(0, .ref (ad 0)), (1, .int p0)] := hl
  have kc140 : ∀ (st : GS) (x3 : Int32) (H : Heap) (locs : List Loc) (ls : Array Slot), GW ρ wM ad st H → va_S (MA wM ad s.heap.size) s.heap H locs → lv_has ls 4 [(0, .ref (ad 0)), (3, .int x3)] → mo_findText_140 st x3 = some res → W p l e ({ frames := 6, cells := 0, slots := 0, locals := 132 } : Room) s m args below meth c H locs 0 0 (MQ below (mQ (fun v H1 => v = none ∧ GW ρ wM ad res H1) (MA wM ad s.heap.size)) args s 0 0 (MA wM ad s.heap.size)) (F0 m 140 ls []) := by
    intro st x3 H locs ls hW hS hl h
    unfold mo_findText_140 at h
    refine lv_aload_n (pc := 140) hx hb d173_140 rfl (lv_at hl 0 rfl) ?_
    refine lv_iload_n (pc := 141) hx hb d173_141 rfl (lv_at hl 1 rfl) ?_
    refine lv_iconst (pc := 142) (v := 1) hx hb d173_142 (by decide) ?_
    refine lv_iadd (pc := 143) hx hb d173_143 ?_
    refine lv_i2d (pc := 144) hx hb d173_144 ?_
    obtain ⟨q1, hq1, h⟩ := jc_some h
    refine k_callV (pc := 145) (n := 1) X hS (c_mo_answerNumber l ρ ad _ st (FP.i2d (x3 + 1)) q1 hW hq1) wd1651 wd1648 wd1650 sl142 wd11 (by decide) ⟨rfl, rfl, by decide, by decide⟩ (m_recv X hW) (As := [.double (FP.i2d (x3 + 1))]) (rest := []) rfl rfl hl.1 (Nat.le_of_ble_eq_true rfl) d173_145 ⟨by decide, by decide⟩ (fun q hq => MA.mono hS.1 hq) (fun v H1 locs1 hv _ _ hSq1 => ?_)
    obtain ⟨rfl, hW⟩ := hv
    have hS := hSq1
    obtain rfl := Option.some.inj h
    exact m_vret (pc := 148) hx hb hr hlk hS ⟨rfl, hW⟩ (by decide) (by decide) d173_148
  have kc127 : ∀ (st : GS) (x3 : Int32) (H : Heap) (locs : List Loc) (ls : Array Slot), GW ρ wM ad st H → va_S (MA wM ad s.heap.size) s.heap H locs → lv_has ls 4 [(0, .ref (ad 0)), (3, .int x3)] → mo_findText_127 st x3 = some res → W p l e ({ frames := 6, cells := 0, slots := 0, locals := 132 } : Room) s m args below meth c H locs 0 0 (MQ below (mQ (fun v H1 => v = none ∧ GW ρ wM ad res H1) (MA wM ad s.heap.size)) args s 0 0 (MA wM ad s.heap.size)) (F0 m 127 ls []) := by
    intro st x3 H locs ls hW hS hl h
    unfold mo_findText_127 at h
    refine lv_iload_n (pc := 127) hx hb d173_127 rfl (lv_at hl 1 rfl) ?_
    refine lv_aload_n (pc := 128) hx hb d173_128 rfl (lv_at hl 0 rfl) ?_
    refine m_get (pc := 129) X hW 28 (v := .int (st.1 0 28)) wd1394 rfl rfl d173_129 ?_
    refine lv_icmp_le (pc := 132) (tgt := 140) hx hb d173_132 (by decide) (fun c132 => ?_) (fun c132 => ?_)
    · have h := jb_t c132 h
      exact kc140  st x3 _ _ _ hW hS (lv_sub hl [0, 1] rfl) h
    · have h := jb_f c132 h
      refine lv_aload_n (pc := 135) hx hb d173_135 rfl (lv_at hl 0 rfl) ?_
      refine lv_iconst (pc := 136) (v := 3) hx hb d173_136 (by decide) ?_
      obtain ⟨q2, hq2, h⟩ := jc_some h
      refine k_callV (pc := 137) (n := 1) X hS (c_mo_fail l ρ ad _ st 3 q2 hW hq2) wd1621 wd1618 wd1620 sl170 wd11 (by decide) ⟨rfl, rfl, by decide, by decide⟩ (m_recv X hW) (As := [.int 3]) (rest := []) rfl rfl hl.1 (Nat.le_of_ble_eq_true rfl) d173_137 ⟨by decide, by decide⟩ (fun q hq => MA.mono hS.1 hq) (fun v H1 locs1 hv _ _ hSq2 => ?_)
      obtain ⟨rfl, hW⟩ := hv
      have hS := hSq2
      exact kc140  q2 x3 _ _ _ hW hS (lv_sub hl [0, 1] rfl) h
  have kc121 : ∀ (K57 : GS → Int32 → Int32 → Option (GS)) (hK57 : ∀ (st : GS) (x1 : Int32) (x3 : Int32) (H : Heap) (locs : List Loc) (ls : Array Slot), GW ρ wM ad st H → va_S (MA wM ad s.heap.size) s.heap H locs → lv_has ls 4 [(0, .ref (ad 0)), (1, .int x1), (3, .int x3)] → K57 st x1 x3 = some res → W p l e ({ frames := 6, cells := 0, slots := 0, locals := 132 } : Room) s m args below meth c H locs 0 0 (MQ below (mQ (fun v H1 => v = none ∧ GW ρ wM ad res H1) (MA wM ad s.heap.size)) args s 0 0 (MA wM ad s.heap.size)) (F0 m 57 ls [])), ∀ (st : GS) (x1 : Int32) (x3 : Int32) (H : Heap) (locs : List Loc) (ls : Array Slot), GW ρ wM ad st H → va_S (MA wM ad s.heap.size) s.heap H locs → lv_has ls 4 [(0, .ref (ad 0)), (1, .int x1), (3, .int x3)] → mo_findText_121 K57 st x1 x3 = some res → W p l e ({ frames := 6, cells := 0, slots := 0, locals := 132 } : Room) s m args below meth c H locs 0 0 (MQ below (mQ (fun v H1 => v = none ∧ GW ρ wM ad res H1) (MA wM ad s.heap.size)) args s 0 0 (MA wM ad s.heap.size)) (F0 m 121 ls []) := by
    intro K57 hK57
    intro st x1 x3 H locs ls hW hS hl h
    unfold mo_findText_121 at h
    obtain ⟨v3, ev3, h⟩ := jn_ex h
    refine lv_iinc (pc := 121) (v := v3) (lv' := [(3, .int v3), (0, .ref (ad 0)), (1, .int x1)]) hx hb d173_121 hl (k := 2) rfl (by rw [ev3]; rfl) (by decide) rfl (fun ls hl => ?_)
    refine lv_goto (pc := 124) (tgt := 57) hx hb d173_124 (by decide) ?_
    exact hK57 st x1 v3 _ _ _ hW hS (lv_sub hl [1, 2, 0] rfl) h
  have kc57 : ∀ (fu : Nat), ∀ (st : GS) (x1 : Int32) (x3 : Int32) (H : Heap) (locs : List Loc) (ls : Array Slot), GW ρ wM ad st H → va_S (MA wM ad s.heap.size) s.heap H locs → lv_has ls 4 [(0, .ref (ad 0)), (1, .int x1), (3, .int x3)] → mo_findText_57 fu st x1 x3 = some res → W p l e ({ frames := 6, cells := 0, slots := 0, locals := 132 } : Room) s m args below meth c H locs 0 0 (MQ below (mQ (fun v H1 => v = none ∧ GW ρ wM ad res H1) (MA wM ad s.heap.size)) args s 0 0 (MA wM ad s.heap.size)) (F0 m 57 ls []) := by
    intro  fu
    induction fu with
    | zero => intro st x1 x3 H locs ls hW hS hl h; cases h
    | succ fu hK57 =>
      intro st x1 x3 H locs ls hW hS hl h
      unfold mo_findText_57 at h
      refine lv_iload_n (pc := 57) hx hb d173_57 rfl (lv_at hl 2 rfl) ?_
      refine lv_aload_n (pc := 58) hx hb d173_58 rfl (lv_at hl 0 rfl) ?_
      refine m_get (pc := 59) X hW 28 (v := .int (st.1 0 28)) wd1394 rfl rfl d173_59 ?_
      refine lv_icmp_gt (pc := 62) (tgt := 127) hx hb d173_62 (by decide) (fun c62 => ?_) (fun c62 => ?_)
      · have h := jb_t c62 h
        exact kc127  st x3 _ _ _ hW hS (lv_sub hl [0, 2] rfl) h
      · have h := jb_f c62 h
        refine lv_iload_n (pc := 65) hx hb d173_65 rfl (lv_at hl 1 rfl) ?_
        refine lv_if_eq (pc := 66) (tgt := 97) hx hb d173_66 (by decide) (fun c66 => ?_) (fun c66 => ?_)
        · have h := jb_t c66 h
          refine lv_aload_n (pc := 97) hx hb d173_97 rfl (lv_at hl 0 rfl) ?_
          refine lv_aload_n (pc := 98) hx hb d173_98 rfl (lv_at hl 0 rfl) ?_
          refine m_get (pc := 99) X hW 24 (v := .ref (ad 14)) wd1390 rfl rfl d173_99 ?_
          refine lv_aload_n (pc := 102) hx hb d173_102 rfl (lv_at hl 0 rfl) ?_
          refine m_get (pc := 103) X hW 28 (v := .int (st.1 0 28)) wd1394 rfl rfl d173_103 ?_
          refine lv_aload_n (pc := 106) hx hb d173_106 rfl (lv_at hl 0 rfl) ?_
          refine m_get (pc := 107) X hW 25 (v := .ref (ad 15)) wd1391 rfl rfl d173_107 ?_
          refine lv_aload_n (pc := 110) hx hb d173_110 rfl (lv_at hl 0 rfl) ?_
          refine m_get (pc := 111) X hW 29 (v := .int (st.1 0 29)) wd1395 rfl rfl d173_111 ?_
          refine lv_iload_n (pc := 114) hx hb d173_114 rfl (lv_at hl 2 rfl) ?_
          obtain ⟨q4, hq4, h⟩ := jc_some h
          refine k_callV (pc := 115) (n := 5) X hS (c_mo_stands l ρ ad _ st 14 (st.1 0 28) 15 (st.1 0 29) x3 q4 hW ⟨by decide, rfl⟩ ⟨by decide, rfl⟩ hq4) wd1733 wd1730 wd1732 sl221 wd11 (by decide) ⟨rfl, rfl, by decide, by decide⟩ (m_recv X hW) (As := [.ref (ad 14), .int (st.1 0 28), .ref (ad 15), .int (st.1 0 29), .int x3]) (rest := []) rfl rfl hl.1 (Nat.le_of_ble_eq_true rfl) d173_115 ⟨by decide, by decide⟩ (fun q hq => False.elim hq) (fun v H1 locs1 hv _ _ hSq4 => ?_)
          obtain ⟨rfl, rfl⟩ := hv
          have hS := hSq4
          refine lv_if_ne (pc := 118) (tgt := 127) hx hb d173_118 (by decide) (fun c118 => ?_) (fun c118 => ?_)
          · have h := jb_f c118 h
            exact kc127  st x3 _ _ _ hW hS (lv_sub hl [0, 2] rfl) h
          · have h := jb_t c118 h
            exact kc121 _ hK57 st x1 x3 _ _ _ hW hS (lv_sub hl [0, 1, 2] rfl) h
        · have h := jb_f c66 h
          refine lv_aload_n (pc := 69) hx hb d173_69 rfl (lv_at hl 0 rfl) ?_
          refine lv_aload_n (pc := 70) hx hb d173_70 rfl (lv_at hl 0 rfl) ?_
          refine m_get (pc := 71) X hW 25 (v := .ref (ad 15)) wd1391 rfl rfl d173_71 ?_
          refine lv_aload_n (pc := 74) hx hb d173_74 rfl (lv_at hl 0 rfl) ?_
          refine m_get (pc := 75) X hW 29 (v := .int (st.1 0 29)) wd1395 rfl rfl d173_75 ?_
          refine lv_aload_n (pc := 78) hx hb d173_78 rfl (lv_at hl 0 rfl) ?_
          refine m_get (pc := 79) X hW 24 (v := .ref (ad 14)) wd1390 rfl rfl d173_79 ?_
          refine lv_aload_n (pc := 82) hx hb d173_82 rfl (lv_at hl 0 rfl) ?_
          refine m_get (pc := 83) X hW 28 (v := .int (st.1 0 28)) wd1394 rfl rfl d173_83 ?_
          refine lv_iload_n (pc := 86) hx hb d173_86 rfl (lv_at hl 2 rfl) ?_
          refine lv_iconst (pc := 87) (v := 0) hx hb d173_87 (by decide) ?_
          obtain ⟨q5, hq5, h⟩ := jc_some h
          refine k_callV (pc := 88) (n := 6) X hS (c_mo_matches l ρ ad _ st 15 (st.1 0 29) 14 (st.1 0 28) x3 0 q5 hW ⟨by decide, rfl⟩ ⟨by decide, rfl⟩ hq5) wd1723 wd1720 wd1722 sl199 wd11 (by decide) ⟨rfl, rfl, by decide, by decide⟩ (m_recv X hW) (As := [.ref (ad 15), .int (st.1 0 29), .ref (ad 14), .int (st.1 0 28), .int x3, .int 0]) (rest := []) rfl rfl hl.1 (Nat.le_of_ble_eq_true rfl) d173_88 ⟨by decide, by decide⟩ (fun q hq => MA.mono hS.1 hq) (fun v H1 locs1 hv _ _ hSq5 => ?_)
          obtain ⟨rfl, hW⟩ := hv
          have hS := hSq5
          refine lv_if_eq (pc := 91) (tgt := 121) hx hb d173_91 (by decide) (fun c91 => ?_) (fun c91 => ?_)
          · have h := jb_t c91 h
            exact kc121 _ hK57 q5.2 x1 x3 _ _ _ hW hS (lv_sub hl [0, 1, 2] rfl) h
          · have h := jb_f c91 h
            refine lv_goto (pc := 94) (tgt := 127) hx hb d173_94 (by decide) ?_
            exact kc127  q5.2 x3 _ _ _ hW hS (lv_sub hl [0, 2] rfl) h
  have kc45 : ∀ (st : GS) (x1 : Int32) (x2 : Int32) (H : Heap) (locs : List Loc) (ls : Array Slot), GW ρ wM ad st H → va_S (MA wM ad s.heap.size) s.heap H locs → lv_has ls 4 [(0, .ref (ad 0)), (1, .int x1), (2, .int x2)] → mo_findText_45 st x1 x2 = some res → W p l e ({ frames := 6, cells := 0, slots := 0, locals := 132 } : Room) s m args below meth c H locs 0 0 (MQ below (mQ (fun v H1 => v = none ∧ GW ρ wM ad res H1) (MA wM ad s.heap.size)) args s 0 0 (MA wM ad s.heap.size)) (F0 m 45 ls []) := by
    intro st x1 x2 H locs ls hW hS hl h
    unfold mo_findText_45 at h
    refine lv_aload_n (pc := 45) hx hb d173_45 rfl (lv_at hl 0 rfl) ?_
    refine m_get (pc := 46) X hW 22 (v := .int (st.1 0 22)) wd1388 rfl rfl d173_46 ?_
    refine lv_if_eq (pc := 49) (tgt := 53) hx hb d173_49 (by decide) (fun c49 => ?_) (fun c49 => ?_)
    · have h := jb_t c49 h
      refine lv_iload_n (pc := 53) hx hb d173_53 rfl (lv_at hl 2 rfl) ?_
      refine lv_iconst (pc := 54) (v := 1) hx hb d173_54 (by decide) ?_
      refine lv_isub (pc := 55) hx hb d173_55 ?_
      obtain ⟨v6, ev6, h⟩ := jn_ex h
      refine nm_i ev6 ?_
      refine lv_istore_n (pc := 56) (lv' := [(3, .int v6), (0, .ref (ad 0)), (1, .int x1), (2, .int x2)]) hx hb d173_56 rfl hl (by decide) rfl (fun ls hl => ?_)
      exact kc57  FU st x1 v6 _ _ _ hW hS (lv_sub hl [1, 2, 0] rfl) h
    · have h := jb_f c49 h
      obtain rfl := Option.some.inj h
      exact m_vret (pc := 52) hx hb hr hlk hS ⟨rfl, hW⟩ (by decide) (by decide) d173_52
  have kc40 : ∀ (st : GS) (x1 : Int32) (x2 : Int32) (H : Heap) (locs : List Loc) (ls : Array Slot), GW ρ wM ad st H → va_S (MA wM ad s.heap.size) s.heap H locs → lv_has ls 4 [(0, .ref (ad 0)), (1, .int x1), (2, .int x2)] → mo_findText_40 st x1 x2 = some res → W p l e ({ frames := 6, cells := 0, slots := 0, locals := 132 } : Room) s m args below meth c H locs 0 0 (MQ below (mQ (fun v H1 => v = none ∧ GW ρ wM ad res H1) (MA wM ad s.heap.size)) args s 0 0 (MA wM ad s.heap.size)) (F0 m 40 ls []) := by
    intro st x1 x2 H locs ls hW hS hl h
    unfold mo_findText_40 at h
    refine lv_aload_n (pc := 40) hx hb d173_40 rfl (lv_at hl 0 rfl) ?_
    refine lv_iconst (pc := 41) (v := 3) hx hb d173_41 (by decide) ?_
    obtain ⟨q7, hq7, h⟩ := jc_some h
    refine k_callV (pc := 42) (n := 1) X hS (c_mo_fail l ρ ad _ st 3 q7 hW hq7) wd1621 wd1618 wd1620 sl170 wd11 (by decide) ⟨rfl, rfl, by decide, by decide⟩ (m_recv X hW) (As := [.int 3]) (rest := []) rfl rfl hl.1 (Nat.le_of_ble_eq_true rfl) d173_42 ⟨by decide, by decide⟩ (fun q hq => MA.mono hS.1 hq) (fun v H1 locs1 hv _ _ hSq7 => ?_)
    obtain ⟨rfl, hW⟩ := hv
    have hS := hSq7
    exact kc45  q7 x1 x2 _ _ _ hW hS (lv_sub hl [0, 1, 2] rfl) h
  unfold f_mo_findText at h
  refine lv_aload_n (pc := 0) hx hb d173_0 rfl (lv_at hl 0 rfl) ?_
  refine lv_iconst (pc := 1) (v := 0) hx hb d173_1 (by decide) ?_
  obtain ⟨q8, hq8, h⟩ := jc_some h
  refine k_callV (pc := 2) (n := 1) X hS (c_mo_textOf l ρ ad _ st 0 q8 hW hq8) wd1597 wd1594 wd1596 sl226 wd11 (by decide) ⟨rfl, rfl, by decide, by decide⟩ (m_recv X hW) (As := [.int 0]) (rest := []) rfl rfl hl.1 (Nat.le_of_ble_eq_true rfl) d173_2 ⟨by decide, by decide⟩ (fun q hq => MA.mono hS.1 hq) (fun v H1 locs1 hv _ _ hSq8 => ?_)
  obtain ⟨rfl, hW⟩ := hv
  have hS := hSq8
  refine lv_aload_n (pc := 5) hx hb d173_5 rfl (lv_at hl 0 rfl) ?_
  obtain ⟨q9, hq9, h⟩ := jc_some h
  refine k_callV (pc := 6) (n := 0) X hS (c_mo_toC l ρ ad _ q8 q9 hW hq9) wd1719 wd1716 wd1718 sl232 wd11 (by decide) ⟨rfl, rfl, by decide, by decide⟩ (m_recv X hW) (As := []) (rest := []) rfl rfl hl.1 (Nat.le_of_ble_eq_true rfl) d173_6 ⟨by decide, by decide⟩ (fun q hq => MA.mono hS.1 hq) (fun v H1 locs1 hv _ _ hSq9 => ?_)
  obtain ⟨rfl, hW⟩ := hv
  have hS := hSq9
  refine lv_aload_n (pc := 9) hx hb d173_9 rfl (lv_at hl 0 rfl) ?_
  refine lv_iconst (pc := 10) (v := 1) hx hb d173_10 (by decide) ?_
  obtain ⟨q10, hq10, h⟩ := jc_some h
  refine k_callV (pc := 11) (n := 1) X hS (c_mo_textOf l ρ ad _ q9 1 q10 hW hq10) wd1597 wd1594 wd1596 sl226 wd11 (by decide) ⟨rfl, rfl, by decide, by decide⟩ (m_recv X hW) (As := [.int 1]) (rest := []) rfl rfl hl.1 (Nat.le_of_ble_eq_true rfl) d173_11 ⟨by decide, by decide⟩ (fun q hq => MA.mono hS.1 hq) (fun v H1 locs1 hv _ _ hSq10 => ?_)
  obtain ⟨rfl, hW⟩ := hv
  have hS := hSq10
  refine lv_aload_n (pc := 14) hx hb d173_14 rfl (lv_at hl 0 rfl) ?_
  obtain ⟨q11, hq11, h⟩ := jc_some h
  refine k_callV (pc := 15) (n := 0) X hS (c_mo_toB l ρ ad _ q10 q11 hW hq11) wd1659 wd1656 wd1658 sl231 wd11 (by decide) ⟨rfl, rfl, by decide, by decide⟩ (m_recv X hW) (As := []) (rest := []) rfl rfl hl.1 (Nat.le_of_ble_eq_true rfl) d173_15 ⟨by decide, by decide⟩ (fun q hq => MA.mono hS.1 hq) (fun v H1 locs1 hv _ _ hSq11 => ?_)
  obtain ⟨rfl, hW⟩ := hv
  have hS := hSq11
  refine lv_aload_n (pc := 18) hx hb d173_18 rfl (lv_at hl 0 rfl) ?_
  refine lv_iconst (pc := 19) (v := 2) hx hb d173_19 (by decide) ?_
  refine lv_iconst (pc := 20) (v := 1) hx hb d173_20 (by decide) ?_
  obtain ⟨q12, hq12, h⟩ := jc_some h
  refine k_callV (pc := 21) (n := 2) X hS (c_mo_whole2 l ρ ad _ q11 2 1 q12 hW hq12) wd1663 wd1660 wd1662 sl242 wd11 (by decide) ⟨rfl, rfl, by decide, by decide⟩ (m_recv X hW) (As := [.int 2, .int 1]) (rest := []) rfl rfl hl.1 (Nat.le_of_ble_eq_true rfl) d173_21 ⟨by decide, by decide⟩ (fun q hq => MA.mono hS.1 hq) (fun v H1 locs1 hv _ _ hSq12 => ?_)
  obtain ⟨rfl, hW⟩ := hv
  have hS := hSq12
  refine lv_istore_n (pc := 24) (lv' := [(2, .int q12.1), (0, .ref (ad 0)), (1, .int p0)]) hx hb d173_24 rfl hl (by decide) rfl (fun ls hl => ?_)
  refine lv_iload_n (pc := 25) hx hb d173_25 rfl (lv_at hl 0 rfl) ?_
  refine lv_iconst (pc := 26) (v := 1) hx hb d173_26 (by decide) ?_
  refine lv_icmp_lt (pc := 27) (tgt := 40) hx hb d173_27 (by decide) (fun c27 => ?_) (fun c27 => ?_)
  · have h := jb_t c27 h
    exact kc40  q12.2 p0 q12.1 _ _ _ hW hS (lv_sub hl [1, 2, 0] rfl) h
  · have h := jb_f c27 h
    refine lv_iload_n (pc := 30) hx hb d173_30 rfl (lv_at hl 0 rfl) ?_
    refine lv_aload_n (pc := 31) hx hb d173_31 rfl (lv_at hl 1 rfl) ?_
    refine m_get (pc := 32) X hW 28 (v := .int (q12.2.1 0 28)) wd1394 rfl rfl d173_32 ?_
    refine lv_iconst (pc := 35) (v := 1) hx hb d173_35 (by decide) ?_
    refine lv_iadd (pc := 36) hx hb d173_36 ?_
    refine lv_icmp_le (pc := 37) (tgt := 45) hx hb d173_37 (by decide) (fun c37 => ?_) (fun c37 => ?_)
    · have h := jb_t c37 h
      exact kc45  q12.2 p0 q12.1 _ _ _ hW hS (lv_sub hl [1, 2, 0] rfl) h
    · have h := jb_f c37 h
      exact kc40  q12.2 p0 q12.1 _ _ _ hW hS (lv_sub hl [1, 2, 0] rfl) h
def mo_replace_40  (st : GS) (x1 : Int32) (x2 : Int32) : Option (GS) := jb ((st.1 0 22) = 0) (jc (f_mo_lesser (x1 - 1) (st.1 0 28)) (fun q1 => jc (f_mo_makeOf st 14 0 q1) (fun q2 => jc (f_mo_makeOf q2 13 0 (q2.1 0 27)) (fun q3 => jc (f_mo_lesser x2 ((q3.1 0 28) - q1)) (fun q4 => jc (f_mo_makeOf q3 14 (q1 + q4) (q3.1 0 28)) (fun q5 => jc (f_mo_answerText q5) (fun q6 => some q6))))))) (some st)
def mo_replace_35  (st : GS) (x1 : Int32) (x2 : Int32) : Option (GS) := jc (f_mo_fail st 3) (fun q7 => mo_replace_40  q7 x1 x2)
def f_mo_replace (st : GS) : Option (GS) := jc (f_mo_textOf st 0) (fun q8 => jc (f_mo_toB q8) (fun q9 => jc (f_mo_whole1 q9 1) (fun q10 => jc (f_mo_whole1 q10.2 2) (fun q11 => jc (f_mo_textOf q11.2 3) (fun q12 => jb (q10.1 < 1) (mo_replace_35  q12 q10.1 q11.1) (jb (0 ≤ q11.1) (mo_replace_40  q12 q10.1 q11.1) (mo_replace_35  q12 q10.1 q11.1)))))))
set_option maxHeartbeats 4000000 in
set_option maxRecDepth 100000 in
theorem c_mo_replace (l : Launch) (ρ : RH) (ad : Nat → Nat) (H : Heap) (st : GS) (res : GS) (hW : GW ρ wM ad st H) (h : f_mo_replace st = some res) : Met l y212 (wsOf y212 b212 4 none) ({ frames := 5, cells := 0, slots := 0, locals := 110 } : Room) (va_Pc [.ref (ad 0)] (KP ρ H)) (mQ (fun v H1 => v = none ∧ GW ρ wM ad res H1) (MA wM ad H.size)) 0 0 (MA wM ad H.size) := by
  refine m_ofW (own := "WordFunctionsModel") (plainFor_of_name rfl) rfl (Nat.le_of_ble_eq_true rfl) fun p e s m args below meth c ls hx hb hr hlk _ X hs hl => ?_
  subst hs
  have hS : va_S (MA wM ad s.heap.size) s.heap s.heap [] := va_S.rf
  have hl : lv_has ls 4 [(0, .ref (ad 0))] := hl
  have kc40 : ∀ (st : GS) (x1 : Int32) (x2 : Int32) (H : Heap) (locs : List Loc) (ls : Array Slot), GW ρ wM ad st H → va_S (MA wM ad s.heap.size) s.heap H locs → lv_has ls 4 [(0, .ref (ad 0)), (1, .int x1), (2, .int x2)] → mo_replace_40 st x1 x2 = some res → W p l e ({ frames := 5, cells := 0, slots := 0, locals := 110 } : Room) s m args below meth c H locs 0 0 (MQ below (mQ (fun v H1 => v = none ∧ GW ρ wM ad res H1) (MA wM ad s.heap.size)) args s 0 0 (MA wM ad s.heap.size)) (F0 m 40 ls []) := by
    intro st x1 x2 H locs ls hW hS hl h
    unfold mo_replace_40 at h
    refine lv_aload_n (pc := 40) hx hb d212_40 rfl (lv_at hl 0 rfl) ?_
    refine m_get (pc := 41) X hW 22 (v := .int (st.1 0 22)) wd1388 rfl rfl d212_41 ?_
    refine lv_if_eq (pc := 44) (tgt := 48) hx hb d212_44 (by decide) (fun c44 => ?_) (fun c44 => ?_)
    · have h := jb_t c44 h
      refine lv_iload_n (pc := 48) hx hb d212_48 rfl (lv_at hl 1 rfl) ?_
      refine lv_iconst (pc := 49) (v := 1) hx hb d212_49 (by decide) ?_
      refine lv_isub (pc := 50) hx hb d212_50 ?_
      refine lv_aload_n (pc := 51) hx hb d212_51 rfl (lv_at hl 0 rfl) ?_
      refine m_get (pc := 52) X hW 28 (v := .int (st.1 0 28)) wd1394 rfl rfl d212_52 ?_
      obtain ⟨q1, hq1, h⟩ := jc_some h
      refine k_callS (pc := 55) (n := 2) X hS (c_mo_lesser l ρ _ (x1 - 1) (st.1 0 28) q1 hq1) wd1695 wd1693 wd1694 wd11 (by decide) ⟨rfl, rfl, by decide, by decide⟩ (As := [.int (x1 - 1), .int (st.1 0 28)]) (rest := []) rfl rfl hl.1 (Nat.le_of_ble_eq_true rfl) d212_55 ⟨by decide, by decide⟩ (fun q hq => False.elim hq) (fun v H1 locs1 hv _ _ hSq1 => ?_)
      obtain ⟨rfl, rfl⟩ := hv
      have hS := hSq1
      refine lv_istore_n (pc := 58) (lv' := [(3, .int q1), (0, .ref (ad 0)), (1, .int x1), (2, .int x2)]) hx hb d212_58 rfl hl (by decide) rfl (fun ls hl => ?_)
      refine lv_aload_n (pc := 59) hx hb d212_59 rfl (lv_at hl 1 rfl) ?_
      refine lv_aload_n (pc := 60) hx hb d212_60 rfl (lv_at hl 1 rfl) ?_
      refine m_get (pc := 61) X hW 24 (v := .ref (ad 14)) wd1390 rfl rfl d212_61 ?_
      refine lv_iconst (pc := 64) (v := 0) hx hb d212_64 (by decide) ?_
      refine lv_iload_n (pc := 65) hx hb d212_65 rfl (lv_at hl 0 rfl) ?_
      obtain ⟨q2, hq2, h⟩ := jc_some h
      refine k_callV (pc := 66) (n := 3) X hS (c_mo_makeOf l ρ ad _ st 14 0 q1 q2 hW ⟨by decide, rfl⟩ hq2) wd1699 wd1696 wd1698 sl197 wd11 (by decide) ⟨rfl, rfl, by decide, by decide⟩ (m_recv X hW) (As := [.ref (ad 14), .int 0, .int q1]) (rest := []) rfl rfl hl.1 (Nat.le_of_ble_eq_true rfl) d212_66 ⟨by decide, by decide⟩ (fun q hq => MA.mono hS.1 hq) (fun v H1 locs1 hv _ _ hSq2 => ?_)
      obtain ⟨rfl, hW⟩ := hv
      have hS := hSq2
      refine lv_aload_n (pc := 69) hx hb d212_69 rfl (lv_at hl 1 rfl) ?_
      refine lv_aload_n (pc := 70) hx hb d212_70 rfl (lv_at hl 1 rfl) ?_
      refine m_get (pc := 71) X hW 23 (v := .ref (ad 13)) wd1389 rfl rfl d212_71 ?_
      refine lv_iconst (pc := 74) (v := 0) hx hb d212_74 (by decide) ?_
      refine lv_aload_n (pc := 75) hx hb d212_75 rfl (lv_at hl 1 rfl) ?_
      refine m_get (pc := 76) X hW 27 (v := .int (q2.1 0 27)) wd1393 rfl rfl d212_76 ?_
      obtain ⟨q3, hq3, h⟩ := jc_some h
      refine k_callV (pc := 79) (n := 3) X hS (c_mo_makeOf l ρ ad _ q2 13 0 (q2.1 0 27) q3 hW ⟨by decide, rfl⟩ hq3) wd1699 wd1696 wd1698 sl197 wd11 (by decide) ⟨rfl, rfl, by decide, by decide⟩ (m_recv X hW) (As := [.ref (ad 13), .int 0, .int (q2.1 0 27)]) (rest := []) rfl rfl hl.1 (Nat.le_of_ble_eq_true rfl) d212_79 ⟨by decide, by decide⟩ (fun q hq => MA.mono hS.1 hq) (fun v H1 locs1 hv _ _ hSq3 => ?_)
      obtain ⟨rfl, hW⟩ := hv
      have hS := hSq3
      refine lv_aload_n (pc := 82) hx hb d212_82 rfl (lv_at hl 1 rfl) ?_
      refine lv_aload_n (pc := 83) hx hb d212_83 rfl (lv_at hl 1 rfl) ?_
      refine m_get (pc := 84) X hW 24 (v := .ref (ad 14)) wd1390 rfl rfl d212_84 ?_
      refine lv_iload_n (pc := 87) hx hb d212_87 rfl (lv_at hl 0 rfl) ?_
      refine lv_iload_n (pc := 88) hx hb d212_88 rfl (lv_at hl 3 rfl) ?_
      refine lv_aload_n (pc := 89) hx hb d212_89 rfl (lv_at hl 1 rfl) ?_
      refine m_get (pc := 90) X hW 28 (v := .int (q3.1 0 28)) wd1394 rfl rfl d212_90 ?_
      refine lv_iload_n (pc := 93) hx hb d212_93 rfl (lv_at hl 0 rfl) ?_
      refine lv_isub (pc := 94) hx hb d212_94 ?_
      obtain ⟨q4, hq4, h⟩ := jc_some h
      refine k_callS (pc := 95) (n := 2) X hS (c_mo_lesser l ρ _ x2 ((q3.1 0 28) - q1) q4 hq4) wd1695 wd1693 wd1694 wd11 (by decide) ⟨rfl, rfl, by decide, by decide⟩ (As := [.int x2, .int ((q3.1 0 28) - q1)]) (rest := [.int q1, .ref (ad 14), .ref (ad 0)]) rfl rfl hl.1 (Nat.le_of_ble_eq_true rfl) d212_95 ⟨by decide, by decide⟩ (fun q hq => False.elim hq) (fun v H1 locs1 hv _ _ hSq4 => ?_)
      obtain ⟨rfl, rfl⟩ := hv
      have hS := hSq4
      refine lv_iadd (pc := 98) hx hb d212_98 ?_
      refine lv_aload_n (pc := 99) hx hb d212_99 rfl (lv_at hl 1 rfl) ?_
      refine m_get (pc := 100) X hW 28 (v := .int (q3.1 0 28)) wd1394 rfl rfl d212_100 ?_
      obtain ⟨q5, hq5, h⟩ := jc_some h
      refine k_callV (pc := 103) (n := 3) X hS (c_mo_makeOf l ρ ad _ q3 14 (q1 + q4) (q3.1 0 28) q5 hW ⟨by decide, rfl⟩ hq5) wd1699 wd1696 wd1698 sl197 wd11 (by decide) ⟨rfl, rfl, by decide, by decide⟩ (m_recv X hW) (As := [.ref (ad 14), .int (q1 + q4), .int (q3.1 0 28)]) (rest := []) rfl rfl hl.1 (Nat.le_of_ble_eq_true rfl) d212_103 ⟨by decide, by decide⟩ (fun q hq => MA.mono hS.1 hq) (fun v H1 locs1 hv _ _ hSq5 => ?_)
      obtain ⟨rfl, hW⟩ := hv
      have hS := hSq5
      refine lv_aload_n (pc := 106) hx hb d212_106 rfl (lv_at hl 1 rfl) ?_
      obtain ⟨q6, hq6, h⟩ := jc_some h
      refine k_callV (pc := 107) (n := 0) X hS (c_mo_answerText l ρ ad _ q5 q6 hW hq6) wd1707 wd1704 wd1706 sl144 wd11 (by decide) ⟨rfl, rfl, by decide, by decide⟩ (m_recv X hW) (As := []) (rest := []) rfl rfl hl.1 (Nat.le_of_ble_eq_true rfl) d212_107 ⟨by decide, by decide⟩ (fun q hq => MA.mono hS.1 hq) (fun v H1 locs1 hv _ _ hSq6 => ?_)
      obtain ⟨rfl, hW⟩ := hv
      have hS := hSq6
      obtain rfl := Option.some.inj h
      exact m_vret (pc := 110) hx hb hr hlk hS ⟨rfl, hW⟩ (by decide) (by decide) d212_110
    · have h := jb_f c44 h
      obtain rfl := Option.some.inj h
      exact m_vret (pc := 47) hx hb hr hlk hS ⟨rfl, hW⟩ (by decide) (by decide) d212_47
  have kc35 : ∀ (st : GS) (x1 : Int32) (x2 : Int32) (H : Heap) (locs : List Loc) (ls : Array Slot), GW ρ wM ad st H → va_S (MA wM ad s.heap.size) s.heap H locs → lv_has ls 4 [(0, .ref (ad 0)), (1, .int x1), (2, .int x2)] → mo_replace_35 st x1 x2 = some res → W p l e ({ frames := 5, cells := 0, slots := 0, locals := 110 } : Room) s m args below meth c H locs 0 0 (MQ below (mQ (fun v H1 => v = none ∧ GW ρ wM ad res H1) (MA wM ad s.heap.size)) args s 0 0 (MA wM ad s.heap.size)) (F0 m 35 ls []) := by
    intro st x1 x2 H locs ls hW hS hl h
    unfold mo_replace_35 at h
    refine lv_aload_n (pc := 35) hx hb d212_35 rfl (lv_at hl 0 rfl) ?_
    refine lv_iconst (pc := 36) (v := 3) hx hb d212_36 (by decide) ?_
    obtain ⟨q7, hq7, h⟩ := jc_some h
    refine k_callV (pc := 37) (n := 1) X hS (c_mo_fail l ρ ad _ st 3 q7 hW hq7) wd1621 wd1618 wd1620 sl170 wd11 (by decide) ⟨rfl, rfl, by decide, by decide⟩ (m_recv X hW) (As := [.int 3]) (rest := []) rfl rfl hl.1 (Nat.le_of_ble_eq_true rfl) d212_37 ⟨by decide, by decide⟩ (fun q hq => MA.mono hS.1 hq) (fun v H1 locs1 hv _ _ hSq7 => ?_)
    obtain ⟨rfl, hW⟩ := hv
    have hS := hSq7
    exact kc40  q7 x1 x2 _ _ _ hW hS (lv_sub hl [0, 1, 2] rfl) h
  unfold f_mo_replace at h
  refine lv_aload_n (pc := 0) hx hb d212_0 rfl (lv_at hl 0 rfl) ?_
  refine lv_iconst (pc := 1) (v := 0) hx hb d212_1 (by decide) ?_
  obtain ⟨q8, hq8, h⟩ := jc_some h
  refine k_callV (pc := 2) (n := 1) X hS (c_mo_textOf l ρ ad _ st 0 q8 hW hq8) wd1597 wd1594 wd1596 sl226 wd11 (by decide) ⟨rfl, rfl, by decide, by decide⟩ (m_recv X hW) (As := [.int 0]) (rest := []) rfl rfl hl.1 (Nat.le_of_ble_eq_true rfl) d212_2 ⟨by decide, by decide⟩ (fun q hq => MA.mono hS.1 hq) (fun v H1 locs1 hv _ _ hSq8 => ?_)
  obtain ⟨rfl, hW⟩ := hv
  have hS := hSq8
  refine lv_aload_n (pc := 5) hx hb d212_5 rfl (lv_at hl 0 rfl) ?_
  obtain ⟨q9, hq9, h⟩ := jc_some h
  refine k_callV (pc := 6) (n := 0) X hS (c_mo_toB l ρ ad _ q8 q9 hW hq9) wd1659 wd1656 wd1658 sl231 wd11 (by decide) ⟨rfl, rfl, by decide, by decide⟩ (m_recv X hW) (As := []) (rest := []) rfl rfl hl.1 (Nat.le_of_ble_eq_true rfl) d212_6 ⟨by decide, by decide⟩ (fun q hq => MA.mono hS.1 hq) (fun v H1 locs1 hv _ _ hSq9 => ?_)
  obtain ⟨rfl, hW⟩ := hv
  have hS := hSq9
  refine lv_aload_n (pc := 9) hx hb d212_9 rfl (lv_at hl 0 rfl) ?_
  refine lv_iconst (pc := 10) (v := 1) hx hb d212_10 (by decide) ?_
  obtain ⟨q10, hq10, h⟩ := jc_some h
  refine k_callV (pc := 11) (n := 1) X hS (c_mo_whole1 l ρ ad _ q9 1 q10 hW hq10) wd1671 wd1668 wd1670 sl241 wd11 (by decide) ⟨rfl, rfl, by decide, by decide⟩ (m_recv X hW) (As := [.int 1]) (rest := []) rfl rfl hl.1 (Nat.le_of_ble_eq_true rfl) d212_11 ⟨by decide, by decide⟩ (fun q hq => MA.mono hS.1 hq) (fun v H1 locs1 hv _ _ hSq10 => ?_)
  obtain ⟨rfl, hW⟩ := hv
  have hS := hSq10
  refine lv_istore_n (pc := 14) (lv' := [(1, .int q10.1), (0, .ref (ad 0))]) hx hb d212_14 rfl hl (by decide) rfl (fun ls hl => ?_)
  refine lv_aload_n (pc := 15) hx hb d212_15 rfl (lv_at hl 1 rfl) ?_
  refine lv_iconst (pc := 16) (v := 2) hx hb d212_16 (by decide) ?_
  obtain ⟨q11, hq11, h⟩ := jc_some h
  refine k_callV (pc := 17) (n := 1) X hS (c_mo_whole1 l ρ ad _ q10.2 2 q11 hW hq11) wd1671 wd1668 wd1670 sl241 wd11 (by decide) ⟨rfl, rfl, by decide, by decide⟩ (m_recv X hW) (As := [.int 2]) (rest := []) rfl rfl hl.1 (Nat.le_of_ble_eq_true rfl) d212_17 ⟨by decide, by decide⟩ (fun q hq => MA.mono hS.1 hq) (fun v H1 locs1 hv _ _ hSq11 => ?_)
  obtain ⟨rfl, hW⟩ := hv
  have hS := hSq11
  refine lv_istore_n (pc := 20) (lv' := [(2, .int q11.1), (1, .int q10.1), (0, .ref (ad 0))]) hx hb d212_20 rfl hl (by decide) rfl (fun ls hl => ?_)
  refine lv_aload_n (pc := 21) hx hb d212_21 rfl (lv_at hl 2 rfl) ?_
  refine lv_iconst (pc := 22) (v := 3) hx hb d212_22 (by decide) ?_
  obtain ⟨q12, hq12, h⟩ := jc_some h
  refine k_callV (pc := 23) (n := 1) X hS (c_mo_textOf l ρ ad _ q11.2 3 q12 hW hq12) wd1597 wd1594 wd1596 sl226 wd11 (by decide) ⟨rfl, rfl, by decide, by decide⟩ (m_recv X hW) (As := [.int 3]) (rest := []) rfl rfl hl.1 (Nat.le_of_ble_eq_true rfl) d212_23 ⟨by decide, by decide⟩ (fun q hq => MA.mono hS.1 hq) (fun v H1 locs1 hv _ _ hSq12 => ?_)
  obtain ⟨rfl, hW⟩ := hv
  have hS := hSq12
  refine lv_iload_n (pc := 26) hx hb d212_26 rfl (lv_at hl 1 rfl) ?_
  refine lv_iconst (pc := 27) (v := 1) hx hb d212_27 (by decide) ?_
  refine lv_icmp_lt (pc := 28) (tgt := 35) hx hb d212_28 (by decide) (fun c28 => ?_) (fun c28 => ?_)
  · have h := jb_t c28 h
    exact kc35  q12 q10.1 q11.1 _ _ _ hW hS (lv_sub hl [2, 1, 0] rfl) h
  · have h := jb_f c28 h
    refine lv_iload_n (pc := 31) hx hb d212_31 rfl (lv_at hl 0 rfl) ?_
    refine lv_if_ge (pc := 32) (tgt := 40) hx hb d212_32 (by decide) (fun c32 => ?_) (fun c32 => ?_)
    · have h := jb_t c32 h
      exact kc40  q12 q10.1 q11.1 _ _ _ hW hS (lv_sub hl [2, 1, 0] rfl) h
    · have h := jb_f c32 h
      exact kc35  q12 q10.1 q11.1 _ _ _ hW hS (lv_sub hl [2, 1, 0] rfl) h
def mo_substitute_244 (K105 : GS → Int32 → Int32 → Int32 → Int32 → Option (GS)) (st : GS) (x1 : Int32) (x2 : Int32) (x3 : Int32) (x4 : Int32) : Option (GS) := K105 st x1 x2 x3 x4
def mo_substitute_201 (K105 : GS → Int32 → Int32 → Int32 → Int32 → Option (GS)) (st : GS) (x1 : Int32) (x2 : Int32) (x3 : Int32) (x4 : Int32) (x5 : Int32) : Option (GS) := jb (x5 = 0) (jg (inb x3 256) (jc (f_mo_make st (st.1 14 x3.toNatClampNeg)) (fun q2 => jn (x3 + 1) (fun v3 => mo_substitute_244 K105  q2 x1 x2 v3 x4)))) (jc (f_mo_makeOf st 14 x3 (x3 + (st.1 0 29))) (fun q4 => jn (x3 + (q4.1 0 29)) (fun v5 => mo_substitute_244 K105  q4 x1 x2 v5 x4)))
def mo_substitute_181 (K105 : GS → Int32 → Int32 → Int32 → Int32 → Option (GS)) (st : GS) (x1 : Int32) (x2 : Int32) (x3 : Int32) (x4 : Int32) : Option (GS) := jc (f_mo_makeOf st 17 0 x1) (fun q6 => jn (x3 + (q6.1 0 29)) (fun v7 => mo_substitute_244 K105  q6 x1 x2 v7 x4))
def mo_substitute_163 (K105 : GS → Int32 → Int32 → Int32 → Int32 → Option (GS)) (st : GS) (x1 : Int32) (x2 : Int32) (x3 : Int32) (x5 : Int32) (z0 : Int32) (z1 : Int32) : Option (GS) := jn (z0 + z1) (fun v8 => jb (x5 = 0) (mo_substitute_201 K105  st x1 x2 x3 v8 x5) (jb (x2 = 0) (mo_substitute_181 K105  st x1 x2 x3 v8) (jb (x2 = v8) (mo_substitute_181 K105  st x1 x2 x3 v8) (mo_substitute_201 K105  st x1 x2 x3 v8 x5))))
def mo_substitute_149 (K105 : GS → Int32 → Int32 → Int32 → Int32 → Option (GS)) (st : GS) (x1 : Int32) (x2 : Int32) (x3 : Int32) (x4 : Int32) (z0 : Int32) : Option (GS) := jb (z0 = 0) (mo_substitute_163 K105  st x1 x2 x3 z0 x4 0) (mo_substitute_163 K105  st x1 x2 x3 z0 x4 1)
def mo_substitute_148 (K105 : GS → Int32 → Int32 → Int32 → Int32 → Option (GS)) (st : GS) (x1 : Int32) (x2 : Int32) (x3 : Int32) (x4 : Int32) : Option (GS) := mo_substitute_149 K105  st x1 x2 x3 x4 0
def mo_substitute_105  : Nat → GS → Int32 → Int32 → Int32 → Int32 → Option (GS)
  | 0, _, _, _, _, _ => none
  | fu + 1, st, x1, x2, x3, x4 => jb ((st.1 0 28) ≤ x3) (jc (f_mo_answerText st) (fun q9 => some q9)) (jb ((st.1 0 29) ≤ 0) (mo_substitute_148 (mo_substitute_105 fu)  st x1 x2 x3 x4) (jc (f_mo_stands st 14 (st.1 0 28) 15 (st.1 0 29) x3) (fun q10 => jb (q10 = 0) (mo_substitute_148 (mo_substitute_105 fu)  st x1 x2 x3 x4) (mo_substitute_149 (mo_substitute_105 fu)  st x1 x2 x3 x4 1))))
def mo_substitute_92  (st : GS) (x1 : Int32) (x2 : Int32) : Option (GS) := jb ((st.1 0 22) = 0) (mo_substitute_105 FU st x1 x2 0 0) (some st)
def mo_substitute_73  (st : GS) (x1 : Int32) (z0 : Int32) : Option (GS) := jc (f_mo_isGiven st 3) (fun q11 => jb (q11 = 0) (mo_substitute_92  st x1 z0) (jb (1 ≤ z0) (mo_substitute_92  st x1 z0) (jc (f_mo_fail st 3) (fun q12 => mo_substitute_92  q12 x1 z0))))
def mo_substitute_25  : Nat → GS → Int32 → Option (GS)
  | 0, _, _ => none
  | fu + 1, st, x1 => jb ((st.1 0 27) ≤ x1) (jn (st.1 0 27) (fun v13 => jc (f_mo_isGiven st 3) (fun q14 => jb (q14 = 0) (mo_substitute_73  st v13 0) (jc (f_mo_whole1 st 3) (fun q15 => mo_substitute_73  q15.2 v13 q15.1))))) (jg (inb x1 256) (jg (inb x1 256) (jn (uI st 17 x1.toNatClampNeg (st.1 13 x1.toNatClampNeg)) (fun st18 => jn (x1 + 1) (fun v19 => mo_substitute_25 fu st18 v19)))))
def f_mo_substitute (st : GS) : Option (GS) := jc (f_mo_textOf st 0) (fun q20 => jc (f_mo_toB q20) (fun q21 => jc (f_mo_textOf q21 1) (fun q22 => jc (f_mo_toC q22) (fun q23 => jc (f_mo_textOf q23 2) (fun q24 => mo_substitute_25 FU q24 0)))))
set_option maxHeartbeats 4000000 in
set_option maxRecDepth 100000 in
theorem c_mo_substitute (l : Launch) (ρ : RH) (ad : Nat → Nat) (H : Heap) (st : GS) (res : GS) (hW : GW ρ wM ad st H) (h : f_mo_substitute st = some res) : Met l y222 (wsOf y222 b222 6 none) ({ frames := 5, cells := 0, slots := 0, locals := 110 } : Room) (va_Pc [.ref (ad 0)] (KP ρ H)) (mQ (fun v H1 => v = none ∧ GW ρ wM ad res H1) (MA wM ad H.size)) 0 0 (MA wM ad H.size) := by
  refine m_ofW (own := "WordFunctionsModel") (plainFor_of_name rfl) rfl (Nat.le_of_ble_eq_true rfl) fun p e s m args below meth c ls hx hb hr hlk _ X hs hl => ?_
  subst hs
  have hS : va_S (MA wM ad s.heap.size) s.heap s.heap [] := va_S.rf
  have hl : lv_has ls 6 [(0, .ref (ad 0))] := hl
  have kc244 : ∀ (K105 : GS → Int32 → Int32 → Int32 → Int32 → Option (GS)) (hK105 : ∀ (st : GS) (x1 : Int32) (x2 : Int32) (x3 : Int32) (x4 : Int32) (H : Heap) (locs : List Loc) (ls : Array Slot), GW ρ wM ad st H → va_S (MA wM ad s.heap.size) s.heap H locs → lv_has ls 6 [(0, .ref (ad 0)), (1, .int x1), (2, .int x2), (3, .int x3), (4, .int x4)] → K105 st x1 x2 x3 x4 = some res → W p l e ({ frames := 5, cells := 0, slots := 0, locals := 110 } : Room) s m args below meth c H locs 0 0 (MQ below (mQ (fun v H1 => v = none ∧ GW ρ wM ad res H1) (MA wM ad s.heap.size)) args s 0 0 (MA wM ad s.heap.size)) (F0 m 105 ls [])), ∀ (st : GS) (x1 : Int32) (x2 : Int32) (x3 : Int32) (x4 : Int32) (H : Heap) (locs : List Loc) (ls : Array Slot), GW ρ wM ad st H → va_S (MA wM ad s.heap.size) s.heap H locs → lv_has ls 6 [(0, .ref (ad 0)), (1, .int x1), (2, .int x2), (3, .int x3), (4, .int x4)] → mo_substitute_244 K105 st x1 x2 x3 x4 = some res → W p l e ({ frames := 5, cells := 0, slots := 0, locals := 110 } : Room) s m args below meth c H locs 0 0 (MQ below (mQ (fun v H1 => v = none ∧ GW ρ wM ad res H1) (MA wM ad s.heap.size)) args s 0 0 (MA wM ad s.heap.size)) (F0 m 244 ls []) := by
    intro K105 hK105
    intro st x1 x2 x3 x4 H locs ls hW hS hl h
    unfold mo_substitute_244 at h
    refine lv_goto (pc := 244) (tgt := 105) hx hb d222_244 (by decide) ?_
    exact hK105 st x1 x2 x3 x4 _ _ _ hW hS (lv_sub hl [0, 1, 2, 3, 4] rfl) h
  have kc201 : ∀ (K105 : GS → Int32 → Int32 → Int32 → Int32 → Option (GS)) (hK105 : ∀ (st : GS) (x1 : Int32) (x2 : Int32) (x3 : Int32) (x4 : Int32) (H : Heap) (locs : List Loc) (ls : Array Slot), GW ρ wM ad st H → va_S (MA wM ad s.heap.size) s.heap H locs → lv_has ls 6 [(0, .ref (ad 0)), (1, .int x1), (2, .int x2), (3, .int x3), (4, .int x4)] → K105 st x1 x2 x3 x4 = some res → W p l e ({ frames := 5, cells := 0, slots := 0, locals := 110 } : Room) s m args below meth c H locs 0 0 (MQ below (mQ (fun v H1 => v = none ∧ GW ρ wM ad res H1) (MA wM ad s.heap.size)) args s 0 0 (MA wM ad s.heap.size)) (F0 m 105 ls [])), ∀ (st : GS) (x1 : Int32) (x2 : Int32) (x3 : Int32) (x4 : Int32) (x5 : Int32) (H : Heap) (locs : List Loc) (ls : Array Slot), GW ρ wM ad st H → va_S (MA wM ad s.heap.size) s.heap H locs → lv_has ls 6 [(0, .ref (ad 0)), (1, .int x1), (2, .int x2), (3, .int x3), (4, .int x4), (5, .int x5)] → mo_substitute_201 K105 st x1 x2 x3 x4 x5 = some res → W p l e ({ frames := 5, cells := 0, slots := 0, locals := 110 } : Room) s m args below meth c H locs 0 0 (MQ below (mQ (fun v H1 => v = none ∧ GW ρ wM ad res H1) (MA wM ad s.heap.size)) args s 0 0 (MA wM ad s.heap.size)) (F0 m 201 ls []) := by
    intro K105 hK105
    intro st x1 x2 x3 x4 x5 H locs ls hW hS hl h
    unfold mo_substitute_201 at h
    refine lv_iload (pc := 201) hx hb d222_201 (lv_at hl 5 rfl) ?_
    refine lv_if_eq (pc := 203) (tgt := 231) hx hb d222_203 (by decide) (fun c203 => ?_) (fun c203 => ?_)
    · have h := jb_t c203 h
      refine lv_aload_n (pc := 231) hx hb d222_231 rfl (lv_at hl 0 rfl) ?_
      refine lv_aload_n (pc := 232) hx hb d222_232 rfl (lv_at hl 0 rfl) ?_
      refine m_get (pc := 233) X hW 24 (v := .ref (ad 14)) wd1390 rfl rfl d222_233 ?_
      refine lv_iload_n (pc := 236) hx hb d222_236 rfl (lv_at hl 3 rfl) ?_
      obtain ⟨g1, h⟩ := jg_some h
      refine r_iald (pc := 237) X hW 14 (by decide) rfl (inb_in g1) d222_237 ?_
      obtain ⟨q2, hq2, h⟩ := jc_some h
      refine k_callV (pc := 238) (n := 1) X hS (c_mo_make l ρ ad _ st (st.1 14 x3.toNatClampNeg) q2 hW hq2) wd1703 wd1700 wd1702 sl195 wd11 (by decide) ⟨rfl, rfl, by decide, by decide⟩ (m_recv X hW) (As := [.int (st.1 14 x3.toNatClampNeg)]) (rest := []) rfl rfl hl.1 (Nat.le_of_ble_eq_true rfl) d222_238 ⟨by decide, by decide⟩ (fun q hq => MA.mono hS.1 hq) (fun v H1 locs1 hv _ _ hSq2 => ?_)
      obtain ⟨rfl, hW⟩ := hv
      have hS := hSq2
      obtain ⟨v3, ev3, h⟩ := jn_ex h
      refine lv_iinc (pc := 241) (v := v3) (lv' := [(3, .int v3), (0, .ref (ad 0)), (1, .int x1), (2, .int x2), (4, .int x4), (5, .int x5)]) hx hb d222_241 hl (k := 3) rfl (by rw [ev3]; rfl) (by decide) rfl (fun ls hl => ?_)
      exact kc244 _ hK105 q2 x1 x2 v3 x4 _ _ _ hW hS (lv_sub hl [1, 2, 3, 0, 4] rfl) h
    · have h := jb_f c203 h
      refine lv_aload_n (pc := 206) hx hb d222_206 rfl (lv_at hl 0 rfl) ?_
      refine lv_aload_n (pc := 207) hx hb d222_207 rfl (lv_at hl 0 rfl) ?_
      refine m_get (pc := 208) X hW 24 (v := .ref (ad 14)) wd1390 rfl rfl d222_208 ?_
      refine lv_iload_n (pc := 211) hx hb d222_211 rfl (lv_at hl 3 rfl) ?_
      refine lv_iload_n (pc := 212) hx hb d222_212 rfl (lv_at hl 3 rfl) ?_
      refine lv_aload_n (pc := 213) hx hb d222_213 rfl (lv_at hl 0 rfl) ?_
      refine m_get (pc := 214) X hW 29 (v := .int (st.1 0 29)) wd1395 rfl rfl d222_214 ?_
      refine lv_iadd (pc := 217) hx hb d222_217 ?_
      obtain ⟨q4, hq4, h⟩ := jc_some h
      refine k_callV (pc := 218) (n := 3) X hS (c_mo_makeOf l ρ ad _ st 14 x3 (x3 + (st.1 0 29)) q4 hW ⟨by decide, rfl⟩ hq4) wd1699 wd1696 wd1698 sl197 wd11 (by decide) ⟨rfl, rfl, by decide, by decide⟩ (m_recv X hW) (As := [.ref (ad 14), .int x3, .int (x3 + (st.1 0 29))]) (rest := []) rfl rfl hl.1 (Nat.le_of_ble_eq_true rfl) d222_218 ⟨by decide, by decide⟩ (fun q hq => MA.mono hS.1 hq) (fun v H1 locs1 hv _ _ hSq4 => ?_)
      obtain ⟨rfl, hW⟩ := hv
      have hS := hSq4
      refine lv_iload_n (pc := 221) hx hb d222_221 rfl (lv_at hl 3 rfl) ?_
      refine lv_aload_n (pc := 222) hx hb d222_222 rfl (lv_at hl 0 rfl) ?_
      refine m_get (pc := 223) X hW 29 (v := .int (q4.1 0 29)) wd1395 rfl rfl d222_223 ?_
      refine lv_iadd (pc := 226) hx hb d222_226 ?_
      obtain ⟨v5, ev5, h⟩ := jn_ex h
      refine nm_i ev5 ?_
      refine lv_istore_n (pc := 227) (lv' := [(3, .int v5), (0, .ref (ad 0)), (1, .int x1), (2, .int x2), (4, .int x4), (5, .int x5)]) hx hb d222_227 rfl hl (by decide) rfl (fun ls hl => ?_)
      refine lv_goto (pc := 228) (tgt := 244) hx hb d222_228 (by decide) ?_
      exact kc244 _ hK105 q4 x1 x2 v5 x4 _ _ _ hW hS (lv_sub hl [1, 2, 3, 0, 4] rfl) h
  have kc181 : ∀ (K105 : GS → Int32 → Int32 → Int32 → Int32 → Option (GS)) (hK105 : ∀ (st : GS) (x1 : Int32) (x2 : Int32) (x3 : Int32) (x4 : Int32) (H : Heap) (locs : List Loc) (ls : Array Slot), GW ρ wM ad st H → va_S (MA wM ad s.heap.size) s.heap H locs → lv_has ls 6 [(0, .ref (ad 0)), (1, .int x1), (2, .int x2), (3, .int x3), (4, .int x4)] → K105 st x1 x2 x3 x4 = some res → W p l e ({ frames := 5, cells := 0, slots := 0, locals := 110 } : Room) s m args below meth c H locs 0 0 (MQ below (mQ (fun v H1 => v = none ∧ GW ρ wM ad res H1) (MA wM ad s.heap.size)) args s 0 0 (MA wM ad s.heap.size)) (F0 m 105 ls [])), ∀ (st : GS) (x1 : Int32) (x2 : Int32) (x3 : Int32) (x4 : Int32) (H : Heap) (locs : List Loc) (ls : Array Slot), GW ρ wM ad st H → va_S (MA wM ad s.heap.size) s.heap H locs → lv_has ls 6 [(0, .ref (ad 0)), (1, .int x1), (2, .int x2), (3, .int x3), (4, .int x4)] → mo_substitute_181 K105 st x1 x2 x3 x4 = some res → W p l e ({ frames := 5, cells := 0, slots := 0, locals := 110 } : Room) s m args below meth c H locs 0 0 (MQ below (mQ (fun v H1 => v = none ∧ GW ρ wM ad res H1) (MA wM ad s.heap.size)) args s 0 0 (MA wM ad s.heap.size)) (F0 m 181 ls []) := by
    intro K105 hK105
    intro st x1 x2 x3 x4 H locs ls hW hS hl h
    unfold mo_substitute_181 at h
    refine lv_aload_n (pc := 181) hx hb d222_181 rfl (lv_at hl 0 rfl) ?_
    refine lv_aload_n (pc := 182) hx hb d222_182 rfl (lv_at hl 0 rfl) ?_
    refine m_get (pc := 183) X hW 35 (v := .ref (ad 17)) wd1401 rfl rfl d222_183 ?_
    refine lv_iconst (pc := 186) (v := 0) hx hb d222_186 (by decide) ?_
    refine lv_iload_n (pc := 187) hx hb d222_187 rfl (lv_at hl 1 rfl) ?_
    obtain ⟨q6, hq6, h⟩ := jc_some h
    refine k_callV (pc := 188) (n := 3) X hS (c_mo_makeOf l ρ ad _ st 17 0 x1 q6 hW ⟨by decide, rfl⟩ hq6) wd1699 wd1696 wd1698 sl197 wd11 (by decide) ⟨rfl, rfl, by decide, by decide⟩ (m_recv X hW) (As := [.ref (ad 17), .int 0, .int x1]) (rest := []) rfl rfl hl.1 (Nat.le_of_ble_eq_true rfl) d222_188 ⟨by decide, by decide⟩ (fun q hq => MA.mono hS.1 hq) (fun v H1 locs1 hv _ _ hSq6 => ?_)
    obtain ⟨rfl, hW⟩ := hv
    have hS := hSq6
    refine lv_iload_n (pc := 191) hx hb d222_191 rfl (lv_at hl 3 rfl) ?_
    refine lv_aload_n (pc := 192) hx hb d222_192 rfl (lv_at hl 0 rfl) ?_
    refine m_get (pc := 193) X hW 29 (v := .int (q6.1 0 29)) wd1395 rfl rfl d222_193 ?_
    refine lv_iadd (pc := 196) hx hb d222_196 ?_
    obtain ⟨v7, ev7, h⟩ := jn_ex h
    refine nm_i ev7 ?_
    refine lv_istore_n (pc := 197) (lv' := [(3, .int v7), (0, .ref (ad 0)), (1, .int x1), (2, .int x2), (4, .int x4)]) hx hb d222_197 rfl hl (by decide) rfl (fun ls hl => ?_)
    refine lv_goto (pc := 198) (tgt := 244) hx hb d222_198 (by decide) ?_
    exact kc244 _ hK105 q6 x1 x2 v7 x4 _ _ _ hW hS (lv_sub hl [1, 2, 3, 0, 4] rfl) h
  have kc163 : ∀ (K105 : GS → Int32 → Int32 → Int32 → Int32 → Option (GS)) (hK105 : ∀ (st : GS) (x1 : Int32) (x2 : Int32) (x3 : Int32) (x4 : Int32) (H : Heap) (locs : List Loc) (ls : Array Slot), GW ρ wM ad st H → va_S (MA wM ad s.heap.size) s.heap H locs → lv_has ls 6 [(0, .ref (ad 0)), (1, .int x1), (2, .int x2), (3, .int x3), (4, .int x4)] → K105 st x1 x2 x3 x4 = some res → W p l e ({ frames := 5, cells := 0, slots := 0, locals := 110 } : Room) s m args below meth c H locs 0 0 (MQ below (mQ (fun v H1 => v = none ∧ GW ρ wM ad res H1) (MA wM ad s.heap.size)) args s 0 0 (MA wM ad s.heap.size)) (F0 m 105 ls [])), ∀ (st : GS) (x1 : Int32) (x2 : Int32) (x3 : Int32) (x5 : Int32) (z0 : Int32) (z1 : Int32) (H : Heap) (locs : List Loc) (ls : Array Slot), GW ρ wM ad st H → va_S (MA wM ad s.heap.size) s.heap H locs → lv_has ls 6 [(0, .ref (ad 0)), (1, .int x1), (2, .int x2), (3, .int x3), (5, .int x5)] → mo_substitute_163 K105 st x1 x2 x3 x5 z0 z1 = some res → W p l e ({ frames := 5, cells := 0, slots := 0, locals := 110 } : Room) s m args below meth c H locs 0 0 (MQ below (mQ (fun v H1 => v = none ∧ GW ρ wM ad res H1) (MA wM ad s.heap.size)) args s 0 0 (MA wM ad s.heap.size)) (F0 m 163 ls [.int z1, .int z0]) := by
    intro K105 hK105
    intro st x1 x2 x3 x5 z0 z1 H locs ls hW hS hl h
    unfold mo_substitute_163 at h
    refine lv_iadd (pc := 163) hx hb d222_163 ?_
    obtain ⟨v8, ev8, h⟩ := jn_ex h
    refine nm_i ev8 ?_
    refine lv_istore (pc := 164) (lv' := [(4, .int v8), (0, .ref (ad 0)), (1, .int x1), (2, .int x2), (3, .int x3), (5, .int x5)]) hx hb d222_164 hl (by decide) rfl (fun ls hl => ?_)
    refine lv_iload (pc := 166) hx hb d222_166 (lv_at hl 5 rfl) ?_
    refine lv_if_eq (pc := 168) (tgt := 201) hx hb d222_168 (by decide) (fun c168 => ?_) (fun c168 => ?_)
    · have h := jb_t c168 h
      exact kc201 _ hK105 st x1 x2 x3 v8 x5 _ _ _ hW hS (lv_sub hl [1, 2, 3, 4, 0, 5] rfl) h
    · have h := jb_f c168 h
      refine lv_iload_n (pc := 171) hx hb d222_171 rfl (lv_at hl 3 rfl) ?_
      refine lv_if_eq (pc := 172) (tgt := 181) hx hb d222_172 (by decide) (fun c172 => ?_) (fun c172 => ?_)
      · have h := jb_t c172 h
        exact kc181 _ hK105 st x1 x2 x3 v8 _ _ _ hW hS (lv_sub hl [1, 2, 3, 4, 0] rfl) h
      · have h := jb_f c172 h
        refine lv_iload_n (pc := 175) hx hb d222_175 rfl (lv_at hl 3 rfl) ?_
        refine lv_iload (pc := 176) hx hb d222_176 (lv_at hl 0 rfl) ?_
        refine lv_icmp_ne (pc := 178) (tgt := 201) hx hb d222_178 (by decide) (fun c178 => ?_) (fun c178 => ?_)
        · have h := jb_f c178 h
          exact kc201 _ hK105 st x1 x2 x3 v8 x5 _ _ _ hW hS (lv_sub hl [1, 2, 3, 4, 0, 5] rfl) h
        · have h := jb_t c178 h
          exact kc181 _ hK105 st x1 x2 x3 v8 _ _ _ hW hS (lv_sub hl [1, 2, 3, 4, 0] rfl) h
  have kc149 : ∀ (K105 : GS → Int32 → Int32 → Int32 → Int32 → Option (GS)) (hK105 : ∀ (st : GS) (x1 : Int32) (x2 : Int32) (x3 : Int32) (x4 : Int32) (H : Heap) (locs : List Loc) (ls : Array Slot), GW ρ wM ad st H → va_S (MA wM ad s.heap.size) s.heap H locs → lv_has ls 6 [(0, .ref (ad 0)), (1, .int x1), (2, .int x2), (3, .int x3), (4, .int x4)] → K105 st x1 x2 x3 x4 = some res → W p l e ({ frames := 5, cells := 0, slots := 0, locals := 110 } : Room) s m args below meth c H locs 0 0 (MQ below (mQ (fun v H1 => v = none ∧ GW ρ wM ad res H1) (MA wM ad s.heap.size)) args s 0 0 (MA wM ad s.heap.size)) (F0 m 105 ls [])), ∀ (st : GS) (x1 : Int32) (x2 : Int32) (x3 : Int32) (x4 : Int32) (z0 : Int32) (H : Heap) (locs : List Loc) (ls : Array Slot), GW ρ wM ad st H → va_S (MA wM ad s.heap.size) s.heap H locs → lv_has ls 6 [(0, .ref (ad 0)), (1, .int x1), (2, .int x2), (3, .int x3), (4, .int x4)] → mo_substitute_149 K105 st x1 x2 x3 x4 z0 = some res → W p l e ({ frames := 5, cells := 0, slots := 0, locals := 110 } : Room) s m args below meth c H locs 0 0 (MQ below (mQ (fun v H1 => v = none ∧ GW ρ wM ad res H1) (MA wM ad s.heap.size)) args s 0 0 (MA wM ad s.heap.size)) (F0 m 149 ls [.int z0]) := by
    intro K105 hK105
    intro st x1 x2 x3 x4 z0 H locs ls hW hS hl h
    unfold mo_substitute_149 at h
    refine lv_istore (pc := 149) (lv' := [(5, .int z0), (0, .ref (ad 0)), (1, .int x1), (2, .int x2), (3, .int x3), (4, .int x4)]) hx hb d222_149 hl (by decide) rfl (fun ls hl => ?_)
    refine lv_iload (pc := 151) hx hb d222_151 (lv_at hl 5 rfl) ?_
    refine lv_iload (pc := 153) hx hb d222_153 (lv_at hl 0 rfl) ?_
    refine lv_if_eq (pc := 155) (tgt := 162) hx hb d222_155 (by decide) (fun c155 => ?_) (fun c155 => ?_)
    · have h := jb_t c155 h
      refine lv_iconst (pc := 162) (v := 0) hx hb d222_162 (by decide) ?_
      exact kc163 _ hK105 st x1 x2 x3 z0 x4 0 _ _ _ hW hS (lv_sub hl [1, 2, 3, 4, 0] rfl) h
    · have h := jb_f c155 h
      refine lv_iconst (pc := 158) (v := 1) hx hb d222_158 (by decide) ?_
      refine lv_goto (pc := 159) (tgt := 163) hx hb d222_159 (by decide) ?_
      exact kc163 _ hK105 st x1 x2 x3 z0 x4 1 _ _ _ hW hS (lv_sub hl [1, 2, 3, 4, 0] rfl) h
  have kc148 : ∀ (K105 : GS → Int32 → Int32 → Int32 → Int32 → Option (GS)) (hK105 : ∀ (st : GS) (x1 : Int32) (x2 : Int32) (x3 : Int32) (x4 : Int32) (H : Heap) (locs : List Loc) (ls : Array Slot), GW ρ wM ad st H → va_S (MA wM ad s.heap.size) s.heap H locs → lv_has ls 6 [(0, .ref (ad 0)), (1, .int x1), (2, .int x2), (3, .int x3), (4, .int x4)] → K105 st x1 x2 x3 x4 = some res → W p l e ({ frames := 5, cells := 0, slots := 0, locals := 110 } : Room) s m args below meth c H locs 0 0 (MQ below (mQ (fun v H1 => v = none ∧ GW ρ wM ad res H1) (MA wM ad s.heap.size)) args s 0 0 (MA wM ad s.heap.size)) (F0 m 105 ls [])), ∀ (st : GS) (x1 : Int32) (x2 : Int32) (x3 : Int32) (x4 : Int32) (H : Heap) (locs : List Loc) (ls : Array Slot), GW ρ wM ad st H → va_S (MA wM ad s.heap.size) s.heap H locs → lv_has ls 6 [(0, .ref (ad 0)), (1, .int x1), (2, .int x2), (3, .int x3), (4, .int x4)] → mo_substitute_148 K105 st x1 x2 x3 x4 = some res → W p l e ({ frames := 5, cells := 0, slots := 0, locals := 110 } : Room) s m args below meth c H locs 0 0 (MQ below (mQ (fun v H1 => v = none ∧ GW ρ wM ad res H1) (MA wM ad s.heap.size)) args s 0 0 (MA wM ad s.heap.size)) (F0 m 148 ls []) := by
    intro K105 hK105
    intro st x1 x2 x3 x4 H locs ls hW hS hl h
    unfold mo_substitute_148 at h
    refine lv_iconst (pc := 148) (v := 0) hx hb d222_148 (by decide) ?_
    exact kc149 _ hK105 st x1 x2 x3 x4 0 _ _ _ hW hS (lv_sub hl [0, 1, 2, 3, 4] rfl) h
  have kc105 : ∀ (fu : Nat), ∀ (st : GS) (x1 : Int32) (x2 : Int32) (x3 : Int32) (x4 : Int32) (H : Heap) (locs : List Loc) (ls : Array Slot), GW ρ wM ad st H → va_S (MA wM ad s.heap.size) s.heap H locs → lv_has ls 6 [(0, .ref (ad 0)), (1, .int x1), (2, .int x2), (3, .int x3), (4, .int x4)] → mo_substitute_105 fu st x1 x2 x3 x4 = some res → W p l e ({ frames := 5, cells := 0, slots := 0, locals := 110 } : Room) s m args below meth c H locs 0 0 (MQ below (mQ (fun v H1 => v = none ∧ GW ρ wM ad res H1) (MA wM ad s.heap.size)) args s 0 0 (MA wM ad s.heap.size)) (F0 m 105 ls []) := by
    intro  fu
    induction fu with
    | zero => intro st x1 x2 x3 x4 H locs ls hW hS hl h; cases h
    | succ fu hK105 =>
      intro st x1 x2 x3 x4 H locs ls hW hS hl h
      unfold mo_substitute_105 at h
      refine lv_iload_n (pc := 105) hx hb d222_105 rfl (lv_at hl 3 rfl) ?_
      refine lv_aload_n (pc := 106) hx hb d222_106 rfl (lv_at hl 0 rfl) ?_
      refine m_get (pc := 107) X hW 28 (v := .int (st.1 0 28)) wd1394 rfl rfl d222_107 ?_
      refine lv_icmp_ge (pc := 110) (tgt := 247) hx hb d222_110 (by decide) (fun c110 => ?_) (fun c110 => ?_)
      · have h := jb_t c110 h
        refine lv_aload_n (pc := 247) hx hb d222_247 rfl (lv_at hl 0 rfl) ?_
        obtain ⟨q9, hq9, h⟩ := jc_some h
        refine k_callV (pc := 248) (n := 0) X hS (c_mo_answerText l ρ ad _ st q9 hW hq9) wd1707 wd1704 wd1706 sl144 wd11 (by decide) ⟨rfl, rfl, by decide, by decide⟩ (m_recv X hW) (As := []) (rest := []) rfl rfl hl.1 (Nat.le_of_ble_eq_true rfl) d222_248 ⟨by decide, by decide⟩ (fun q hq => MA.mono hS.1 hq) (fun v H1 locs1 hv _ _ hSq9 => ?_)
        obtain ⟨rfl, hW⟩ := hv
        have hS := hSq9
        obtain rfl := Option.some.inj h
        exact m_vret (pc := 251) hx hb hr hlk hS ⟨rfl, hW⟩ (by decide) (by decide) d222_251
      · have h := jb_f c110 h
        refine lv_aload_n (pc := 113) hx hb d222_113 rfl (lv_at hl 0 rfl) ?_
        refine m_get (pc := 114) X hW 29 (v := .int (st.1 0 29)) wd1395 rfl rfl d222_114 ?_
        refine lv_if_le (pc := 117) (tgt := 148) hx hb d222_117 (by decide) (fun c117 => ?_) (fun c117 => ?_)
        · have h := jb_t c117 h
          exact kc148 _ hK105 st x1 x2 x3 x4 _ _ _ hW hS (lv_sub hl [0, 1, 2, 3, 4] rfl) h
        · have h := jb_f c117 h
          refine lv_aload_n (pc := 120) hx hb d222_120 rfl (lv_at hl 0 rfl) ?_
          refine lv_aload_n (pc := 121) hx hb d222_121 rfl (lv_at hl 0 rfl) ?_
          refine m_get (pc := 122) X hW 24 (v := .ref (ad 14)) wd1390 rfl rfl d222_122 ?_
          refine lv_aload_n (pc := 125) hx hb d222_125 rfl (lv_at hl 0 rfl) ?_
          refine m_get (pc := 126) X hW 28 (v := .int (st.1 0 28)) wd1394 rfl rfl d222_126 ?_
          refine lv_aload_n (pc := 129) hx hb d222_129 rfl (lv_at hl 0 rfl) ?_
          refine m_get (pc := 130) X hW 25 (v := .ref (ad 15)) wd1391 rfl rfl d222_130 ?_
          refine lv_aload_n (pc := 133) hx hb d222_133 rfl (lv_at hl 0 rfl) ?_
          refine m_get (pc := 134) X hW 29 (v := .int (st.1 0 29)) wd1395 rfl rfl d222_134 ?_
          refine lv_iload_n (pc := 137) hx hb d222_137 rfl (lv_at hl 3 rfl) ?_
          obtain ⟨q10, hq10, h⟩ := jc_some h
          refine k_callV (pc := 138) (n := 5) X hS (c_mo_stands l ρ ad _ st 14 (st.1 0 28) 15 (st.1 0 29) x3 q10 hW ⟨by decide, rfl⟩ ⟨by decide, rfl⟩ hq10) wd1733 wd1730 wd1732 sl221 wd11 (by decide) ⟨rfl, rfl, by decide, by decide⟩ (m_recv X hW) (As := [.ref (ad 14), .int (st.1 0 28), .ref (ad 15), .int (st.1 0 29), .int x3]) (rest := []) rfl rfl hl.1 (Nat.le_of_ble_eq_true rfl) d222_138 ⟨by decide, by decide⟩ (fun q hq => False.elim hq) (fun v H1 locs1 hv _ _ hSq10 => ?_)
          obtain ⟨rfl, rfl⟩ := hv
          have hS := hSq10
          refine lv_if_eq (pc := 141) (tgt := 148) hx hb d222_141 (by decide) (fun c141 => ?_) (fun c141 => ?_)
          · have h := jb_t c141 h
            exact kc148 _ hK105 st x1 x2 x3 x4 _ _ _ hW hS (lv_sub hl [0, 1, 2, 3, 4] rfl) h
          · have h := jb_f c141 h
            refine lv_iconst (pc := 144) (v := 1) hx hb d222_144 (by decide) ?_
            refine lv_goto (pc := 145) (tgt := 149) hx hb d222_145 (by decide) ?_
            exact kc149 _ hK105 st x1 x2 x3 x4 1 _ _ _ hW hS (lv_sub hl [0, 1, 2, 3, 4] rfl) h
  have kc92 : ∀ (st : GS) (x1 : Int32) (x2 : Int32) (H : Heap) (locs : List Loc) (ls : Array Slot), GW ρ wM ad st H → va_S (MA wM ad s.heap.size) s.heap H locs → lv_has ls 6 [(0, .ref (ad 0)), (1, .int x1), (2, .int x2)] → mo_substitute_92 st x1 x2 = some res → W p l e ({ frames := 5, cells := 0, slots := 0, locals := 110 } : Room) s m args below meth c H locs 0 0 (MQ below (mQ (fun v H1 => v = none ∧ GW ρ wM ad res H1) (MA wM ad s.heap.size)) args s 0 0 (MA wM ad s.heap.size)) (F0 m 92 ls []) := by
    intro st x1 x2 H locs ls hW hS hl h
    unfold mo_substitute_92 at h
    refine lv_aload_n (pc := 92) hx hb d222_92 rfl (lv_at hl 0 rfl) ?_
    refine m_get (pc := 93) X hW 22 (v := .int (st.1 0 22)) wd1388 rfl rfl d222_93 ?_
    refine lv_if_eq (pc := 96) (tgt := 100) hx hb d222_96 (by decide) (fun c96 => ?_) (fun c96 => ?_)
    · have h := jb_t c96 h
      refine lv_iconst (pc := 100) (v := 0) hx hb d222_100 (by decide) ?_
      refine lv_istore_n (pc := 101) (lv' := [(3, .int 0), (0, .ref (ad 0)), (1, .int x1), (2, .int x2)]) hx hb d222_101 rfl hl (by decide) rfl (fun ls hl => ?_)
      refine lv_iconst (pc := 102) (v := 0) hx hb d222_102 (by decide) ?_
      refine lv_istore (pc := 103) (lv' := [(4, .int 0), (3, .int 0), (0, .ref (ad 0)), (1, .int x1), (2, .int x2)]) hx hb d222_103 hl (by decide) rfl (fun ls hl => ?_)
      exact kc105  FU st x1 x2 0 0 _ _ _ hW hS (lv_sub hl [2, 3, 4, 1, 0] rfl) h
    · have h := jb_f c96 h
      obtain rfl := Option.some.inj h
      exact m_vret (pc := 99) hx hb hr hlk hS ⟨rfl, hW⟩ (by decide) (by decide) d222_99
  have kc73 : ∀ (st : GS) (x1 : Int32) (z0 : Int32) (H : Heap) (locs : List Loc) (ls : Array Slot), GW ρ wM ad st H → va_S (MA wM ad s.heap.size) s.heap H locs → lv_has ls 6 [(0, .ref (ad 0)), (1, .int x1)] → mo_substitute_73 st x1 z0 = some res → W p l e ({ frames := 5, cells := 0, slots := 0, locals := 110 } : Room) s m args below meth c H locs 0 0 (MQ below (mQ (fun v H1 => v = none ∧ GW ρ wM ad res H1) (MA wM ad s.heap.size)) args s 0 0 (MA wM ad s.heap.size)) (F0 m 73 ls [.int z0]) := by
    intro st x1 z0 H locs ls hW hS hl h
    unfold mo_substitute_73 at h
    refine lv_istore_n (pc := 73) (lv' := [(2, .int z0), (0, .ref (ad 0)), (1, .int x1)]) hx hb d222_73 rfl hl (by decide) rfl (fun ls hl => ?_)
    refine lv_aload_n (pc := 74) hx hb d222_74 rfl (lv_at hl 1 rfl) ?_
    refine lv_iconst (pc := 75) (v := 3) hx hb d222_75 (by decide) ?_
    obtain ⟨q11, hq11, h⟩ := jc_some h
    refine k_callV (pc := 76) (n := 1) X hS (c_mo_isGiven l ρ ad _ st 3 q11 hW hq11) wd1667 wd1664 wd1666 sl181 wd11 (by decide) ⟨rfl, rfl, by decide, by decide⟩ (m_recv X hW) (As := [.int 3]) (rest := []) rfl rfl hl.1 (Nat.le_of_ble_eq_true rfl) d222_76 ⟨by decide, by decide⟩ (fun q hq => False.elim hq) (fun v H1 locs1 hv _ _ hSq11 => ?_)
    obtain ⟨rfl, rfl⟩ := hv
    have hS := hSq11
    refine lv_if_eq (pc := 79) (tgt := 92) hx hb d222_79 (by decide) (fun c79 => ?_) (fun c79 => ?_)
    · have h := jb_t c79 h
      exact kc92  st x1 z0 _ _ _ hW hS (lv_sub hl [1, 2, 0] rfl) h
    · have h := jb_f c79 h
      refine lv_iload_n (pc := 82) hx hb d222_82 rfl (lv_at hl 0 rfl) ?_
      refine lv_iconst (pc := 83) (v := 1) hx hb d222_83 (by decide) ?_
      refine lv_icmp_ge (pc := 84) (tgt := 92) hx hb d222_84 (by decide) (fun c84 => ?_) (fun c84 => ?_)
      · have h := jb_t c84 h
        exact kc92  st x1 z0 _ _ _ hW hS (lv_sub hl [1, 2, 0] rfl) h
      · have h := jb_f c84 h
        refine lv_aload_n (pc := 87) hx hb d222_87 rfl (lv_at hl 1 rfl) ?_
        refine lv_iconst (pc := 88) (v := 3) hx hb d222_88 (by decide) ?_
        obtain ⟨q12, hq12, h⟩ := jc_some h
        refine k_callV (pc := 89) (n := 1) X hS (c_mo_fail l ρ ad _ st 3 q12 hW hq12) wd1621 wd1618 wd1620 sl170 wd11 (by decide) ⟨rfl, rfl, by decide, by decide⟩ (m_recv X hW) (As := [.int 3]) (rest := []) rfl rfl hl.1 (Nat.le_of_ble_eq_true rfl) d222_89 ⟨by decide, by decide⟩ (fun q hq => MA.mono hS.1 hq) (fun v H1 locs1 hv _ _ hSq12 => ?_)
        obtain ⟨rfl, hW⟩ := hv
        have hS := hSq12
        exact kc92  q12 x1 z0 _ _ _ hW hS (lv_sub hl [1, 2, 0] rfl) h
  have kc25 : ∀ (fu : Nat), ∀ (st : GS) (x1 : Int32) (H : Heap) (locs : List Loc) (ls : Array Slot), GW ρ wM ad st H → va_S (MA wM ad s.heap.size) s.heap H locs → lv_has ls 6 [(0, .ref (ad 0)), (1, .int x1)] → mo_substitute_25 fu st x1 = some res → W p l e ({ frames := 5, cells := 0, slots := 0, locals := 110 } : Room) s m args below meth c H locs 0 0 (MQ below (mQ (fun v H1 => v = none ∧ GW ρ wM ad res H1) (MA wM ad s.heap.size)) args s 0 0 (MA wM ad s.heap.size)) (F0 m 25 ls []) := by
    intro  fu
    induction fu with
    | zero => intro st x1 H locs ls hW hS hl h; cases h
    | succ fu hK25 =>
      intro st x1 H locs ls hW hS hl h
      unfold mo_substitute_25 at h
      refine lv_iload_n (pc := 25) hx hb d222_25 rfl (lv_at hl 1 rfl) ?_
      refine lv_aload_n (pc := 26) hx hb d222_26 rfl (lv_at hl 0 rfl) ?_
      refine m_get (pc := 27) X hW 27 (v := .int (st.1 0 27)) wd1393 rfl rfl d222_27 ?_
      refine lv_icmp_ge (pc := 30) (tgt := 51) hx hb d222_30 (by decide) (fun c30 => ?_) (fun c30 => ?_)
      · have h := jb_t c30 h
        refine lv_aload_n (pc := 51) hx hb d222_51 rfl (lv_at hl 0 rfl) ?_
        refine m_get (pc := 52) X hW 27 (v := .int (st.1 0 27)) wd1393 rfl rfl d222_52 ?_
        obtain ⟨v13, ev13, h⟩ := jn_ex h
        refine nm_i ev13 ?_
        refine lv_istore_n (pc := 55) (lv' := [(1, .int v13), (0, .ref (ad 0))]) hx hb d222_55 rfl hl (by decide) rfl (fun ls hl => ?_)
        refine lv_aload_n (pc := 56) hx hb d222_56 rfl (lv_at hl 1 rfl) ?_
        refine lv_iconst (pc := 57) (v := 3) hx hb d222_57 (by decide) ?_
        obtain ⟨q14, hq14, h⟩ := jc_some h
        refine k_callV (pc := 58) (n := 1) X hS (c_mo_isGiven l ρ ad _ st 3 q14 hW hq14) wd1667 wd1664 wd1666 sl181 wd11 (by decide) ⟨rfl, rfl, by decide, by decide⟩ (m_recv X hW) (As := [.int 3]) (rest := []) rfl rfl hl.1 (Nat.le_of_ble_eq_true rfl) d222_58 ⟨by decide, by decide⟩ (fun q hq => False.elim hq) (fun v H1 locs1 hv _ _ hSq14 => ?_)
        obtain ⟨rfl, rfl⟩ := hv
        have hS := hSq14
        refine lv_if_eq (pc := 61) (tgt := 72) hx hb d222_61 (by decide) (fun c61 => ?_) (fun c61 => ?_)
        · have h := jb_t c61 h
          refine lv_iconst (pc := 72) (v := 0) hx hb d222_72 (by decide) ?_
          exact kc73  st v13 0 _ _ _ hW hS (lv_sub hl [1, 0] rfl) h
        · have h := jb_f c61 h
          refine lv_aload_n (pc := 64) hx hb d222_64 rfl (lv_at hl 1 rfl) ?_
          refine lv_iconst (pc := 65) (v := 3) hx hb d222_65 (by decide) ?_
          obtain ⟨q15, hq15, h⟩ := jc_some h
          refine k_callV (pc := 66) (n := 1) X hS (c_mo_whole1 l ρ ad _ st 3 q15 hW hq15) wd1671 wd1668 wd1670 sl241 wd11 (by decide) ⟨rfl, rfl, by decide, by decide⟩ (m_recv X hW) (As := [.int 3]) (rest := []) rfl rfl hl.1 (Nat.le_of_ble_eq_true rfl) d222_66 ⟨by decide, by decide⟩ (fun q hq => MA.mono hS.1 hq) (fun v H1 locs1 hv _ _ hSq15 => ?_)
          obtain ⟨rfl, hW⟩ := hv
          have hS := hSq15
          refine lv_goto (pc := 69) (tgt := 73) hx hb d222_69 (by decide) ?_
          exact kc73  q15.2 v13 q15.1 _ _ _ hW hS (lv_sub hl [1, 0] rfl) h
      · have h := jb_f c30 h
        refine lv_aload_n (pc := 33) hx hb d222_33 rfl (lv_at hl 0 rfl) ?_
        refine m_get (pc := 34) X hW 35 (v := .ref (ad 17)) wd1401 rfl rfl d222_34 ?_
        refine lv_iload_n (pc := 37) hx hb d222_37 rfl (lv_at hl 1 rfl) ?_
        refine lv_aload_n (pc := 38) hx hb d222_38 rfl (lv_at hl 0 rfl) ?_
        refine m_get (pc := 39) X hW 23 (v := .ref (ad 13)) wd1389 rfl rfl d222_39 ?_
        refine lv_iload_n (pc := 42) hx hb d222_42 rfl (lv_at hl 1 rfl) ?_
        obtain ⟨g16, h⟩ := jg_some h
        refine r_iald (pc := 43) X hW 13 (by decide) rfl (inb_in g16) d222_43 ?_
        obtain ⟨g17, h⟩ := jg_some h
        obtain ⟨st18, est18, h⟩ := jn_ex h
        refine m_iast (pc := 44) X hW hS 17 (by decide) rfl g17 est18 d222_44 (fun H locs hW hS => ?_)
        obtain ⟨v19, ev19, h⟩ := jn_ex h
        refine lv_iinc (pc := 45) (v := v19) (lv' := [(1, .int v19), (0, .ref (ad 0))]) hx hb d222_45 hl (k := 1) rfl (by rw [ev19]; rfl) (by decide) rfl (fun ls hl => ?_)
        refine lv_goto (pc := 48) (tgt := 25) hx hb d222_48 (by decide) ?_
        exact hK25 st18 v19 _ _ _ hW hS (lv_sub hl [1, 0] rfl) h
  unfold f_mo_substitute at h
  refine lv_aload_n (pc := 0) hx hb d222_0 rfl (lv_at hl 0 rfl) ?_
  refine lv_iconst (pc := 1) (v := 0) hx hb d222_1 (by decide) ?_
  obtain ⟨q20, hq20, h⟩ := jc_some h
  refine k_callV (pc := 2) (n := 1) X hS (c_mo_textOf l ρ ad _ st 0 q20 hW hq20) wd1597 wd1594 wd1596 sl226 wd11 (by decide) ⟨rfl, rfl, by decide, by decide⟩ (m_recv X hW) (As := [.int 0]) (rest := []) rfl rfl hl.1 (Nat.le_of_ble_eq_true rfl) d222_2 ⟨by decide, by decide⟩ (fun q hq => MA.mono hS.1 hq) (fun v H1 locs1 hv _ _ hSq20 => ?_)
  obtain ⟨rfl, hW⟩ := hv
  have hS := hSq20
  refine lv_aload_n (pc := 5) hx hb d222_5 rfl (lv_at hl 0 rfl) ?_
  obtain ⟨q21, hq21, h⟩ := jc_some h
  refine k_callV (pc := 6) (n := 0) X hS (c_mo_toB l ρ ad _ q20 q21 hW hq21) wd1659 wd1656 wd1658 sl231 wd11 (by decide) ⟨rfl, rfl, by decide, by decide⟩ (m_recv X hW) (As := []) (rest := []) rfl rfl hl.1 (Nat.le_of_ble_eq_true rfl) d222_6 ⟨by decide, by decide⟩ (fun q hq => MA.mono hS.1 hq) (fun v H1 locs1 hv _ _ hSq21 => ?_)
  obtain ⟨rfl, hW⟩ := hv
  have hS := hSq21
  refine lv_aload_n (pc := 9) hx hb d222_9 rfl (lv_at hl 0 rfl) ?_
  refine lv_iconst (pc := 10) (v := 1) hx hb d222_10 (by decide) ?_
  obtain ⟨q22, hq22, h⟩ := jc_some h
  refine k_callV (pc := 11) (n := 1) X hS (c_mo_textOf l ρ ad _ q21 1 q22 hW hq22) wd1597 wd1594 wd1596 sl226 wd11 (by decide) ⟨rfl, rfl, by decide, by decide⟩ (m_recv X hW) (As := [.int 1]) (rest := []) rfl rfl hl.1 (Nat.le_of_ble_eq_true rfl) d222_11 ⟨by decide, by decide⟩ (fun q hq => MA.mono hS.1 hq) (fun v H1 locs1 hv _ _ hSq22 => ?_)
  obtain ⟨rfl, hW⟩ := hv
  have hS := hSq22
  refine lv_aload_n (pc := 14) hx hb d222_14 rfl (lv_at hl 0 rfl) ?_
  obtain ⟨q23, hq23, h⟩ := jc_some h
  refine k_callV (pc := 15) (n := 0) X hS (c_mo_toC l ρ ad _ q22 q23 hW hq23) wd1719 wd1716 wd1718 sl232 wd11 (by decide) ⟨rfl, rfl, by decide, by decide⟩ (m_recv X hW) (As := []) (rest := []) rfl rfl hl.1 (Nat.le_of_ble_eq_true rfl) d222_15 ⟨by decide, by decide⟩ (fun q hq => MA.mono hS.1 hq) (fun v H1 locs1 hv _ _ hSq23 => ?_)
  obtain ⟨rfl, hW⟩ := hv
  have hS := hSq23
  refine lv_aload_n (pc := 18) hx hb d222_18 rfl (lv_at hl 0 rfl) ?_
  refine lv_iconst (pc := 19) (v := 2) hx hb d222_19 (by decide) ?_
  obtain ⟨q24, hq24, h⟩ := jc_some h
  refine k_callV (pc := 20) (n := 1) X hS (c_mo_textOf l ρ ad _ q23 2 q24 hW hq24) wd1597 wd1594 wd1596 sl226 wd11 (by decide) ⟨rfl, rfl, by decide, by decide⟩ (m_recv X hW) (As := [.int 2]) (rest := []) rfl rfl hl.1 (Nat.le_of_ble_eq_true rfl) d222_20 ⟨by decide, by decide⟩ (fun q hq => MA.mono hS.1 hq) (fun v H1 locs1 hv _ _ hSq24 => ?_)
  obtain ⟨rfl, hW⟩ := hv
  have hS := hSq24
  refine lv_iconst (pc := 23) (v := 0) hx hb d222_23 (by decide) ?_
  refine lv_istore_n (pc := 24) (lv' := [(1, .int 0), (0, .ref (ad 0))]) hx hb d222_24 rfl hl (by decide) rfl (fun ls hl => ?_)
  exact kc25  FU q24 0 _ _ _ hW hS (lv_sub hl [1, 0] rfl) h
def mo_repeat_72  (st : GS)  : Option (GS) := jc (f_mo_answerText st) (fun q1 => some q1)
def mo_repeat_34  : Nat → GS → Int32 → Int32 → Option (GS)
  | 0, _, _, _ => none
  | fu + 1, st, x1, x2 => jb (x1 ≤ x2) (mo_repeat_72  st) (jb ((st.1 0 31) = 0) (jb ((st.1 0 28) ≤ 0) (mo_repeat_72  st) (jc (f_mo_makeOf st 14 0 (st.1 0 28)) (fun q2 => jn (x2 + 1) (fun v3 => mo_repeat_34 fu q2 x1 v3)))) (mo_repeat_72  st))
def mo_repeat_24  (st : GS) (x1 : Int32) : Option (GS) := jb ((st.1 0 22) = 0) (mo_repeat_34 FU st x1 0) (some st)
def f_mo_repeat (st : GS) : Option (GS) := jc (f_mo_textOf st 0) (fun q4 => jc (f_mo_toB q4) (fun q5 => jc (f_mo_whole1 q5 1) (fun q6 => jb (0 ≤ q6.1) (mo_repeat_24  q6.2 q6.1) (jc (f_mo_fail q6.2 3) (fun q7 => mo_repeat_24  q7 q6.1)))))
set_option maxHeartbeats 4000000 in
set_option maxRecDepth 100000 in
theorem c_mo_repeat (l : Launch) (ρ : RH) (ad : Nat → Nat) (H : Heap) (st : GS) (res : GS) (hW : GW ρ wM ad st H) (h : f_mo_repeat st = some res) : Met l y211 (wsOf y211 b211 3 none) ({ frames := 5, cells := 0, slots := 0, locals := 110 } : Room) (va_Pc [.ref (ad 0)] (KP ρ H)) (mQ (fun v H1 => v = none ∧ GW ρ wM ad res H1) (MA wM ad H.size)) 0 0 (MA wM ad H.size) := by
  refine m_ofW (own := "WordFunctionsModel") (plainFor_of_name rfl) rfl (Nat.le_of_ble_eq_true rfl) fun p e s m args below meth c ls hx hb hr hlk _ X hs hl => ?_
  subst hs
  have hS : va_S (MA wM ad s.heap.size) s.heap s.heap [] := va_S.rf
  have hl : lv_has ls 3 [(0, .ref (ad 0))] := hl
  have kc72 : ∀ (st : GS)  (H : Heap) (locs : List Loc) (ls : Array Slot), GW ρ wM ad st H → va_S (MA wM ad s.heap.size) s.heap H locs → lv_has ls 3 [(0, .ref (ad 0))] → mo_repeat_72 st = some res → W p l e ({ frames := 5, cells := 0, slots := 0, locals := 110 } : Room) s m args below meth c H locs 0 0 (MQ below (mQ (fun v H1 => v = none ∧ GW ρ wM ad res H1) (MA wM ad s.heap.size)) args s 0 0 (MA wM ad s.heap.size)) (F0 m 72 ls []) := by
    intro st  H locs ls hW hS hl h
    unfold mo_repeat_72 at h
    refine lv_aload_n (pc := 72) hx hb d211_72 rfl (lv_at hl 0 rfl) ?_
    obtain ⟨q1, hq1, h⟩ := jc_some h
    refine k_callV (pc := 73) (n := 0) X hS (c_mo_answerText l ρ ad _ st q1 hW hq1) wd1707 wd1704 wd1706 sl144 wd11 (by decide) ⟨rfl, rfl, by decide, by decide⟩ (m_recv X hW) (As := []) (rest := []) rfl rfl hl.1 (Nat.le_of_ble_eq_true rfl) d211_73 ⟨by decide, by decide⟩ (fun q hq => MA.mono hS.1 hq) (fun v H1 locs1 hv _ _ hSq1 => ?_)
    obtain ⟨rfl, hW⟩ := hv
    have hS := hSq1
    obtain rfl := Option.some.inj h
    exact m_vret (pc := 76) hx hb hr hlk hS ⟨rfl, hW⟩ (by decide) (by decide) d211_76
  have kc34 : ∀ (fu : Nat), ∀ (st : GS) (x1 : Int32) (x2 : Int32) (H : Heap) (locs : List Loc) (ls : Array Slot), GW ρ wM ad st H → va_S (MA wM ad s.heap.size) s.heap H locs → lv_has ls 3 [(0, .ref (ad 0)), (1, .int x1), (2, .int x2)] → mo_repeat_34 fu st x1 x2 = some res → W p l e ({ frames := 5, cells := 0, slots := 0, locals := 110 } : Room) s m args below meth c H locs 0 0 (MQ below (mQ (fun v H1 => v = none ∧ GW ρ wM ad res H1) (MA wM ad s.heap.size)) args s 0 0 (MA wM ad s.heap.size)) (F0 m 34 ls []) := by
    intro  fu
    induction fu with
    | zero => intro st x1 x2 H locs ls hW hS hl h; cases h
    | succ fu hK34 =>
      intro st x1 x2 H locs ls hW hS hl h
      unfold mo_repeat_34 at h
      refine lv_iload_n (pc := 34) hx hb d211_34 rfl (lv_at hl 2 rfl) ?_
      refine lv_iload_n (pc := 35) hx hb d211_35 rfl (lv_at hl 1 rfl) ?_
      refine lv_icmp_ge (pc := 36) (tgt := 72) hx hb d211_36 (by decide) (fun c36 => ?_) (fun c36 => ?_)
      · have h := jb_t c36 h
        exact kc72  st _ _ _ hW hS (lv_sub hl [0] rfl) h
      · have h := jb_f c36 h
        refine lv_aload_n (pc := 39) hx hb d211_39 rfl (lv_at hl 0 rfl) ?_
        refine m_get (pc := 40) X hW 31 (v := .int (st.1 0 31)) wd1397 rfl rfl d211_40 ?_
        refine lv_if_ne (pc := 43) (tgt := 72) hx hb d211_43 (by decide) (fun c43 => ?_) (fun c43 => ?_)
        · have h := jb_f c43 h
          exact kc72  st _ _ _ hW hS (lv_sub hl [0] rfl) h
        · have h := jb_t c43 h
          refine lv_aload_n (pc := 46) hx hb d211_46 rfl (lv_at hl 0 rfl) ?_
          refine m_get (pc := 47) X hW 28 (v := .int (st.1 0 28)) wd1394 rfl rfl d211_47 ?_
          refine lv_if_le (pc := 50) (tgt := 72) hx hb d211_50 (by decide) (fun c50 => ?_) (fun c50 => ?_)
          · have h := jb_t c50 h
            exact kc72  st _ _ _ hW hS (lv_sub hl [0] rfl) h
          · have h := jb_f c50 h
            refine lv_aload_n (pc := 53) hx hb d211_53 rfl (lv_at hl 0 rfl) ?_
            refine lv_aload_n (pc := 54) hx hb d211_54 rfl (lv_at hl 0 rfl) ?_
            refine m_get (pc := 55) X hW 24 (v := .ref (ad 14)) wd1390 rfl rfl d211_55 ?_
            refine lv_iconst (pc := 58) (v := 0) hx hb d211_58 (by decide) ?_
            refine lv_aload_n (pc := 59) hx hb d211_59 rfl (lv_at hl 0 rfl) ?_
            refine m_get (pc := 60) X hW 28 (v := .int (st.1 0 28)) wd1394 rfl rfl d211_60 ?_
            obtain ⟨q2, hq2, h⟩ := jc_some h
            refine k_callV (pc := 63) (n := 3) X hS (c_mo_makeOf l ρ ad _ st 14 0 (st.1 0 28) q2 hW ⟨by decide, rfl⟩ hq2) wd1699 wd1696 wd1698 sl197 wd11 (by decide) ⟨rfl, rfl, by decide, by decide⟩ (m_recv X hW) (As := [.ref (ad 14), .int 0, .int (st.1 0 28)]) (rest := []) rfl rfl hl.1 (Nat.le_of_ble_eq_true rfl) d211_63 ⟨by decide, by decide⟩ (fun q hq => MA.mono hS.1 hq) (fun v H1 locs1 hv _ _ hSq2 => ?_)
            obtain ⟨rfl, hW⟩ := hv
            have hS := hSq2
            obtain ⟨v3, ev3, h⟩ := jn_ex h
            refine lv_iinc (pc := 66) (v := v3) (lv' := [(2, .int v3), (0, .ref (ad 0)), (1, .int x1)]) hx hb d211_66 hl (k := 2) rfl (by rw [ev3]; rfl) (by decide) rfl (fun ls hl => ?_)
            refine lv_goto (pc := 69) (tgt := 34) hx hb d211_69 (by decide) ?_
            exact hK34 q2 x1 v3 _ _ _ hW hS (lv_sub hl [1, 2, 0] rfl) h
  have kc24 : ∀ (st : GS) (x1 : Int32) (H : Heap) (locs : List Loc) (ls : Array Slot), GW ρ wM ad st H → va_S (MA wM ad s.heap.size) s.heap H locs → lv_has ls 3 [(0, .ref (ad 0)), (1, .int x1)] → mo_repeat_24 st x1 = some res → W p l e ({ frames := 5, cells := 0, slots := 0, locals := 110 } : Room) s m args below meth c H locs 0 0 (MQ below (mQ (fun v H1 => v = none ∧ GW ρ wM ad res H1) (MA wM ad s.heap.size)) args s 0 0 (MA wM ad s.heap.size)) (F0 m 24 ls []) := by
    intro st x1 H locs ls hW hS hl h
    unfold mo_repeat_24 at h
    refine lv_aload_n (pc := 24) hx hb d211_24 rfl (lv_at hl 0 rfl) ?_
    refine m_get (pc := 25) X hW 22 (v := .int (st.1 0 22)) wd1388 rfl rfl d211_25 ?_
    refine lv_if_eq (pc := 28) (tgt := 32) hx hb d211_28 (by decide) (fun c28 => ?_) (fun c28 => ?_)
    · have h := jb_t c28 h
      refine lv_iconst (pc := 32) (v := 0) hx hb d211_32 (by decide) ?_
      refine lv_istore_n (pc := 33) (lv' := [(2, .int 0), (0, .ref (ad 0)), (1, .int x1)]) hx hb d211_33 rfl hl (by decide) rfl (fun ls hl => ?_)
      exact kc34  FU st x1 0 _ _ _ hW hS (lv_sub hl [1, 2, 0] rfl) h
    · have h := jb_f c28 h
      obtain rfl := Option.some.inj h
      exact m_vret (pc := 31) hx hb hr hlk hS ⟨rfl, hW⟩ (by decide) (by decide) d211_31
  unfold f_mo_repeat at h
  refine lv_aload_n (pc := 0) hx hb d211_0 rfl (lv_at hl 0 rfl) ?_
  refine lv_iconst (pc := 1) (v := 0) hx hb d211_1 (by decide) ?_
  obtain ⟨q4, hq4, h⟩ := jc_some h
  refine k_callV (pc := 2) (n := 1) X hS (c_mo_textOf l ρ ad _ st 0 q4 hW hq4) wd1597 wd1594 wd1596 sl226 wd11 (by decide) ⟨rfl, rfl, by decide, by decide⟩ (m_recv X hW) (As := [.int 0]) (rest := []) rfl rfl hl.1 (Nat.le_of_ble_eq_true rfl) d211_2 ⟨by decide, by decide⟩ (fun q hq => MA.mono hS.1 hq) (fun v H1 locs1 hv _ _ hSq4 => ?_)
  obtain ⟨rfl, hW⟩ := hv
  have hS := hSq4
  refine lv_aload_n (pc := 5) hx hb d211_5 rfl (lv_at hl 0 rfl) ?_
  obtain ⟨q5, hq5, h⟩ := jc_some h
  refine k_callV (pc := 6) (n := 0) X hS (c_mo_toB l ρ ad _ q4 q5 hW hq5) wd1659 wd1656 wd1658 sl231 wd11 (by decide) ⟨rfl, rfl, by decide, by decide⟩ (m_recv X hW) (As := []) (rest := []) rfl rfl hl.1 (Nat.le_of_ble_eq_true rfl) d211_6 ⟨by decide, by decide⟩ (fun q hq => MA.mono hS.1 hq) (fun v H1 locs1 hv _ _ hSq5 => ?_)
  obtain ⟨rfl, hW⟩ := hv
  have hS := hSq5
  refine lv_aload_n (pc := 9) hx hb d211_9 rfl (lv_at hl 0 rfl) ?_
  refine lv_iconst (pc := 10) (v := 1) hx hb d211_10 (by decide) ?_
  obtain ⟨q6, hq6, h⟩ := jc_some h
  refine k_callV (pc := 11) (n := 1) X hS (c_mo_whole1 l ρ ad _ q5 1 q6 hW hq6) wd1671 wd1668 wd1670 sl241 wd11 (by decide) ⟨rfl, rfl, by decide, by decide⟩ (m_recv X hW) (As := [.int 1]) (rest := []) rfl rfl hl.1 (Nat.le_of_ble_eq_true rfl) d211_11 ⟨by decide, by decide⟩ (fun q hq => MA.mono hS.1 hq) (fun v H1 locs1 hv _ _ hSq6 => ?_)
  obtain ⟨rfl, hW⟩ := hv
  have hS := hSq6
  refine lv_istore_n (pc := 14) (lv' := [(1, .int q6.1), (0, .ref (ad 0))]) hx hb d211_14 rfl hl (by decide) rfl (fun ls hl => ?_)
  refine lv_iload_n (pc := 15) hx hb d211_15 rfl (lv_at hl 0 rfl) ?_
  refine lv_if_ge (pc := 16) (tgt := 24) hx hb d211_16 (by decide) (fun c16 => ?_) (fun c16 => ?_)
  · have h := jb_t c16 h
    exact kc24  q6.2 q6.1 _ _ _ hW hS (lv_sub hl [1, 0] rfl) h
  · have h := jb_f c16 h
    refine lv_aload_n (pc := 19) hx hb d211_19 rfl (lv_at hl 1 rfl) ?_
    refine lv_iconst (pc := 20) (v := 3) hx hb d211_20 (by decide) ?_
    obtain ⟨q7, hq7, h⟩ := jc_some h
    refine k_callV (pc := 21) (n := 1) X hS (c_mo_fail l ρ ad _ q6.2 3 q7 hW hq7) wd1621 wd1618 wd1620 sl170 wd11 (by decide) ⟨rfl, rfl, by decide, by decide⟩ (m_recv X hW) (As := [.int 3]) (rest := []) rfl rfl hl.1 (Nat.le_of_ble_eq_true rfl) d211_21 ⟨by decide, by decide⟩ (fun q hq => MA.mono hS.1 hq) (fun v H1 locs1 hv _ _ hSq7 => ?_)
    obtain ⟨rfl, hW⟩ := hv
    have hS := hSq7
    exact kc24  q7 q6.1 _ _ _ hW hS (lv_sub hl [1, 0] rfl) h
def f_mo_small  (p0 : Int32) : Option (Int32) := jb (p0 < 65) (some p0) (jb (90 < p0) (some p0) (some (p0 + 32)))
set_option maxHeartbeats 4000000 in
set_option maxRecDepth 100000 in
theorem c_mo_small (l : Launch) (ρ : RH) (H : Heap) (p0 : Int32) (res : Int32) (h : f_mo_small p0 = some res) : Met l y219 (wsOf y219 b219 1 (some .int)) ({ frames := 0, cells := 0, slots := 0, locals := 0 } : Room) (va_Pc [.int p0] (KP ρ H)) (mQ (fun v H1 => v = some (.int res) ∧ H1 = H) (fun _ => False)) 0 0 (fun _ => False) := by
  refine m_ofW (own := "WordFunctionsModel") (plainFor_of_name rfl) rfl (Nat.le_of_ble_eq_true rfl) fun p e s m args below meth c ls hx hb hr hlk _ X hs hl => ?_
  subst hs
  have hS : va_S (fun _ => False) s.heap s.heap [] := va_S.rf
  have hl : lv_has ls 1 [(0, .int p0)] := hl
  unfold f_mo_small at h
  refine lv_iload_n (pc := 0) hx hb d219_0 rfl (lv_at hl 0 rfl) ?_
  refine lv_bipush (pc := 1) (v := 65) hx hb d219_1 (by decide) ?_
  refine lv_icmp_lt (pc := 3) (tgt := 19) hx hb d219_3 (by decide) (fun c3 => ?_) (fun c3 => ?_)
  · have h := jb_t c3 h
    refine lv_iload_n (pc := 19) hx hb d219_19 rfl (lv_at hl 0 rfl) ?_
    obtain rfl := Option.some.inj h
    exact m_iret (pc := 20) hx hb hr hlk hS ⟨rfl, rfl⟩ (by decide) (by decide) d219_20
  · have h := jb_f c3 h
    refine lv_iload_n (pc := 6) hx hb d219_6 rfl (lv_at hl 0 rfl) ?_
    refine lv_bipush (pc := 7) (v := 90) hx hb d219_7 (by decide) ?_
    refine lv_icmp_gt (pc := 9) (tgt := 19) hx hb d219_9 (by decide) (fun c9 => ?_) (fun c9 => ?_)
    · have h := jb_t c9 h
      refine lv_iload_n (pc := 19) hx hb d219_19 rfl (lv_at hl 0 rfl) ?_
      obtain rfl := Option.some.inj h
      exact m_iret (pc := 20) hx hb hr hlk hS ⟨rfl, rfl⟩ (by decide) (by decide) d219_20
    · have h := jb_f c9 h
      refine lv_iload_n (pc := 12) hx hb d219_12 rfl (lv_at hl 0 rfl) ?_
      refine lv_bipush (pc := 13) (v := 32) hx hb d219_13 (by decide) ?_
      refine lv_iadd (pc := 15) hx hb d219_15 ?_
      refine lv_goto (pc := 16) (tgt := 20) hx hb d219_16 (by decide) ?_
      obtain rfl := Option.some.inj h
      exact m_iret (pc := 20) hx hb hr hlk hS ⟨rfl, rfl⟩ (by decide) (by decide) d219_20
def mo_sizes_98 (K17 : GS → Int32 → Int32 → Int32 → Option (GS)) (st : GS) (x1 : Int32) (x3 : Int32) (x4 : Int32) (z1 : Int32) : Option (GS) := jc (f_mo_make st z1) (fun q1 => jn (x3 + 1) (fun v2 => K17 q1 x1 x4 v2))
def mo_sizes_89 (K17 : GS → Int32 → Int32 → Int32 → Option (GS)) (st : GS) (x1 : Int32) (x3 : Int32) (x4 : Int32) : Option (GS) := jg (inb x3 256) (jc (f_mo_small (st.1 13 x3.toNatClampNeg)) (fun q4 => mo_sizes_98 K17  st x1 x3 x4 q4))
def mo_sizes_77 (K17 : GS → Int32 → Int32 → Int32 → Option (GS)) (st : GS) (x1 : Int32) (x3 : Int32) (x4 : Int32) : Option (GS) := jg (inb x3 256) (jc (f_mo_great (st.1 13 x3.toNatClampNeg)) (fun q6 => mo_sizes_98 K17  st x1 x3 x4 q6))
def mo_sizes_58 (K17 : GS → Int32 → Int32 → Int32 → Option (GS)) (st : GS) (x1 : Int32) (x2 : Int32) (x3 : Int32) (z0 : Int32) : Option (GS) := jb (x1 = 75) (mo_sizes_77 K17  st x1 x3 z0) (jb (x1 = 77) (jb (x2 = 0) (mo_sizes_77 K17  st x1 x3 z0) (mo_sizes_89 K17  st x1 x3 z0)) (mo_sizes_89 K17  st x1 x3 z0))
def mo_sizes_57 (K17 : GS → Int32 → Int32 → Int32 → Option (GS)) (st : GS) (x1 : Int32) (x2 : Int32) (x3 : Int32) : Option (GS) := mo_sizes_58 K17  st x1 x2 x3 0
def mo_sizes_17  : Nat → GS → Int32 → Int32 → Int32 → Option (GS)
  | 0, _, _, _, _ => none
  | fu + 1, st, x1, x2, x3 => jb ((st.1 0 27) ≤ x3) (jc (f_mo_answerText st) (fun q7 => some q7)) (jg (inb x3 256) (jc (f_mo_great (st.1 13 x3.toNatClampNeg)) (fun q9 => jb (q9 < 65) (mo_sizes_57 (mo_sizes_17 fu)  st x1 x2 x3) (jg (inb x3 256) (jc (f_mo_great (st.1 13 x3.toNatClampNeg)) (fun q11 => jb (90 < q11) (mo_sizes_57 (mo_sizes_17 fu)  st x1 x2 x3) (mo_sizes_58 (mo_sizes_17 fu)  st x1 x2 x3 1)))))))
def f_mo_sizes (st : GS) (p0 : Int32) : Option (GS) := jc (f_mo_textOf st 0) (fun q12 => jb ((q12.1 0 22) = 0) (mo_sizes_17 FU q12 p0 0 0) (some q12))
set_option maxHeartbeats 4000000 in
set_option maxRecDepth 100000 in
theorem c_mo_sizes (l : Launch) (ρ : RH) (ad : Nat → Nat) (H : Heap) (st : GS) (p0 : Int32) (res : GS) (hW : GW ρ wM ad st H) (h : f_mo_sizes st p0 = some res) : Met l y218 (wsOf y218 b218 5 none) ({ frames := 4, cells := 0, slots := 0, locals := 92 } : Room) (va_Pc [.ref (ad 0), .int p0] (KP ρ H)) (mQ (fun v H1 => v = none ∧ GW ρ wM ad res H1) (MA wM ad H.size)) 0 0 (MA wM ad H.size) := by
  refine m_ofW (own := "WordFunctionsModel") (plainFor_of_name rfl) rfl (Nat.le_of_ble_eq_true rfl) fun p e s m args below meth c ls hx hb hr hlk _ X hs hl => ?_
  subst hs
  have hS : va_S (MA wM ad s.heap.size) s.heap s.heap [] := va_S.rf
  have hl : lv_has ls 5 [(0, .ref (ad 0)), (1, .int p0)] := hl
  have kc98 : ∀ (K17 : GS → Int32 → Int32 → Int32 → Option (GS)) (hK17 : ∀ (st : GS) (x1 : Int32) (x2 : Int32) (x3 : Int32) (H : Heap) (locs : List Loc) (ls : Array Slot), GW ρ wM ad st H → va_S (MA wM ad s.heap.size) s.heap H locs → lv_has ls 5 [(0, .ref (ad 0)), (1, .int x1), (2, .int x2), (3, .int x3)] → K17 st x1 x2 x3 = some res → W p l e ({ frames := 4, cells := 0, slots := 0, locals := 92 } : Room) s m args below meth c H locs 0 0 (MQ below (mQ (fun v H1 => v = none ∧ GW ρ wM ad res H1) (MA wM ad s.heap.size)) args s 0 0 (MA wM ad s.heap.size)) (F0 m 17 ls [])), ∀ (st : GS) (x1 : Int32) (x3 : Int32) (x4 : Int32) (z1 : Int32) (H : Heap) (locs : List Loc) (ls : Array Slot), GW ρ wM ad st H → va_S (MA wM ad s.heap.size) s.heap H locs → lv_has ls 5 [(0, .ref (ad 0)), (1, .int x1), (3, .int x3), (4, .int x4)] → mo_sizes_98 K17 st x1 x3 x4 z1 = some res → W p l e ({ frames := 4, cells := 0, slots := 0, locals := 92 } : Room) s m args below meth c H locs 0 0 (MQ below (mQ (fun v H1 => v = none ∧ GW ρ wM ad res H1) (MA wM ad s.heap.size)) args s 0 0 (MA wM ad s.heap.size)) (F0 m 98 ls [.int z1, .ref (ad 0)]) := by
    intro K17 hK17
    intro st x1 x3 x4 z1 H locs ls hW hS hl h
    unfold mo_sizes_98 at h
    obtain ⟨q1, hq1, h⟩ := jc_some h
    refine k_callV (pc := 98) (n := 1) X hS (c_mo_make l ρ ad _ st z1 q1 hW hq1) wd1703 wd1700 wd1702 sl195 wd11 (by decide) ⟨rfl, rfl, by decide, by decide⟩ (m_recv X hW) (As := [.int z1]) (rest := []) rfl rfl hl.1 (Nat.le_of_ble_eq_true rfl) d218_98 ⟨by decide, by decide⟩ (fun q hq => MA.mono hS.1 hq) (fun v H1 locs1 hv _ _ hSq1 => ?_)
    obtain ⟨rfl, hW⟩ := hv
    have hS := hSq1
    refine lv_iload (pc := 101) hx hb d218_101 (lv_at hl 3 rfl) ?_
    refine lv_istore_n (pc := 103) (lv' := [(2, .int x4), (0, .ref (ad 0)), (1, .int x1), (3, .int x3), (4, .int x4)]) hx hb d218_103 rfl hl (by decide) rfl (fun ls hl => ?_)
    obtain ⟨v2, ev2, h⟩ := jn_ex h
    refine lv_iinc (pc := 104) (v := v2) (lv' := [(3, .int v2), (2, .int x4), (0, .ref (ad 0)), (1, .int x1), (4, .int x4)]) hx hb d218_104 hl (k := 3) rfl (by rw [ev2]; rfl) (by decide) rfl (fun ls hl => ?_)
    refine lv_goto (pc := 107) (tgt := 17) hx hb d218_107 (by decide) ?_
    exact hK17 q1 x1 x4 v2 _ _ _ hW hS (lv_sub hl [2, 3, 1, 0] rfl) h
  have kc89 : ∀ (K17 : GS → Int32 → Int32 → Int32 → Option (GS)) (hK17 : ∀ (st : GS) (x1 : Int32) (x2 : Int32) (x3 : Int32) (H : Heap) (locs : List Loc) (ls : Array Slot), GW ρ wM ad st H → va_S (MA wM ad s.heap.size) s.heap H locs → lv_has ls 5 [(0, .ref (ad 0)), (1, .int x1), (2, .int x2), (3, .int x3)] → K17 st x1 x2 x3 = some res → W p l e ({ frames := 4, cells := 0, slots := 0, locals := 92 } : Room) s m args below meth c H locs 0 0 (MQ below (mQ (fun v H1 => v = none ∧ GW ρ wM ad res H1) (MA wM ad s.heap.size)) args s 0 0 (MA wM ad s.heap.size)) (F0 m 17 ls [])), ∀ (st : GS) (x1 : Int32) (x3 : Int32) (x4 : Int32) (H : Heap) (locs : List Loc) (ls : Array Slot), GW ρ wM ad st H → va_S (MA wM ad s.heap.size) s.heap H locs → lv_has ls 5 [(0, .ref (ad 0)), (1, .int x1), (3, .int x3), (4, .int x4)] → mo_sizes_89 K17 st x1 x3 x4 = some res → W p l e ({ frames := 4, cells := 0, slots := 0, locals := 92 } : Room) s m args below meth c H locs 0 0 (MQ below (mQ (fun v H1 => v = none ∧ GW ρ wM ad res H1) (MA wM ad s.heap.size)) args s 0 0 (MA wM ad s.heap.size)) (F0 m 89 ls [.ref (ad 0)]) := by
    intro K17 hK17
    intro st x1 x3 x4 H locs ls hW hS hl h
    unfold mo_sizes_89 at h
    refine lv_aload_n (pc := 89) hx hb d218_89 rfl (lv_at hl 0 rfl) ?_
    refine m_get (pc := 90) X hW 23 (v := .ref (ad 13)) wd1389 rfl rfl d218_90 ?_
    refine lv_iload_n (pc := 93) hx hb d218_93 rfl (lv_at hl 2 rfl) ?_
    obtain ⟨g3, h⟩ := jg_some h
    refine r_iald (pc := 94) X hW 13 (by decide) rfl (inb_in g3) d218_94 ?_
    obtain ⟨q4, hq4, h⟩ := jc_some h
    refine k_callS (pc := 95) (n := 1) X hS (c_mo_small l ρ _ (st.1 13 x3.toNatClampNeg) q4 hq4) wd1752 wd1750 wd1751 wd11 (by decide) ⟨rfl, rfl, by decide, by decide⟩ (As := [.int (st.1 13 x3.toNatClampNeg)]) (rest := [.ref (ad 0)]) rfl rfl hl.1 (Nat.le_of_ble_eq_true rfl) d218_95 ⟨by decide, by decide⟩ (fun q hq => False.elim hq) (fun v H1 locs1 hv _ _ hSq4 => ?_)
    obtain ⟨rfl, rfl⟩ := hv
    have hS := hSq4
    exact kc98 _ hK17 st x1 x3 x4 q4 _ _ _ hW hS (lv_sub hl [0, 1, 2, 3] rfl) h
  have kc77 : ∀ (K17 : GS → Int32 → Int32 → Int32 → Option (GS)) (hK17 : ∀ (st : GS) (x1 : Int32) (x2 : Int32) (x3 : Int32) (H : Heap) (locs : List Loc) (ls : Array Slot), GW ρ wM ad st H → va_S (MA wM ad s.heap.size) s.heap H locs → lv_has ls 5 [(0, .ref (ad 0)), (1, .int x1), (2, .int x2), (3, .int x3)] → K17 st x1 x2 x3 = some res → W p l e ({ frames := 4, cells := 0, slots := 0, locals := 92 } : Room) s m args below meth c H locs 0 0 (MQ below (mQ (fun v H1 => v = none ∧ GW ρ wM ad res H1) (MA wM ad s.heap.size)) args s 0 0 (MA wM ad s.heap.size)) (F0 m 17 ls [])), ∀ (st : GS) (x1 : Int32) (x3 : Int32) (x4 : Int32) (H : Heap) (locs : List Loc) (ls : Array Slot), GW ρ wM ad st H → va_S (MA wM ad s.heap.size) s.heap H locs → lv_has ls 5 [(0, .ref (ad 0)), (1, .int x1), (3, .int x3), (4, .int x4)] → mo_sizes_77 K17 st x1 x3 x4 = some res → W p l e ({ frames := 4, cells := 0, slots := 0, locals := 92 } : Room) s m args below meth c H locs 0 0 (MQ below (mQ (fun v H1 => v = none ∧ GW ρ wM ad res H1) (MA wM ad s.heap.size)) args s 0 0 (MA wM ad s.heap.size)) (F0 m 77 ls [.ref (ad 0)]) := by
    intro K17 hK17
    intro st x1 x3 x4 H locs ls hW hS hl h
    unfold mo_sizes_77 at h
    refine lv_aload_n (pc := 77) hx hb d218_77 rfl (lv_at hl 0 rfl) ?_
    refine m_get (pc := 78) X hW 23 (v := .ref (ad 13)) wd1389 rfl rfl d218_78 ?_
    refine lv_iload_n (pc := 81) hx hb d218_81 rfl (lv_at hl 2 rfl) ?_
    obtain ⟨g5, h⟩ := jg_some h
    refine r_iald (pc := 82) X hW 13 (by decide) rfl (inb_in g5) d218_82 ?_
    obtain ⟨q6, hq6, h⟩ := jc_some h
    refine k_callS (pc := 83) (n := 1) X hS (c_mo_great l ρ _ (st.1 13 x3.toNatClampNeg) q6 hq6) wd1729 wd1727 wd1728 wd11 (by decide) ⟨rfl, rfl, by decide, by decide⟩ (As := [.int (st.1 13 x3.toNatClampNeg)]) (rest := [.ref (ad 0)]) rfl rfl hl.1 (Nat.le_of_ble_eq_true rfl) d218_83 ⟨by decide, by decide⟩ (fun q hq => False.elim hq) (fun v H1 locs1 hv _ _ hSq6 => ?_)
    obtain ⟨rfl, rfl⟩ := hv
    have hS := hSq6
    refine lv_goto (pc := 86) (tgt := 98) hx hb d218_86 (by decide) ?_
    exact kc98 _ hK17 st x1 x3 x4 q6 _ _ _ hW hS (lv_sub hl [0, 1, 2, 3] rfl) h
  have kc58 : ∀ (K17 : GS → Int32 → Int32 → Int32 → Option (GS)) (hK17 : ∀ (st : GS) (x1 : Int32) (x2 : Int32) (x3 : Int32) (H : Heap) (locs : List Loc) (ls : Array Slot), GW ρ wM ad st H → va_S (MA wM ad s.heap.size) s.heap H locs → lv_has ls 5 [(0, .ref (ad 0)), (1, .int x1), (2, .int x2), (3, .int x3)] → K17 st x1 x2 x3 = some res → W p l e ({ frames := 4, cells := 0, slots := 0, locals := 92 } : Room) s m args below meth c H locs 0 0 (MQ below (mQ (fun v H1 => v = none ∧ GW ρ wM ad res H1) (MA wM ad s.heap.size)) args s 0 0 (MA wM ad s.heap.size)) (F0 m 17 ls [])), ∀ (st : GS) (x1 : Int32) (x2 : Int32) (x3 : Int32) (z0 : Int32) (H : Heap) (locs : List Loc) (ls : Array Slot), GW ρ wM ad st H → va_S (MA wM ad s.heap.size) s.heap H locs → lv_has ls 5 [(0, .ref (ad 0)), (1, .int x1), (2, .int x2), (3, .int x3)] → mo_sizes_58 K17 st x1 x2 x3 z0 = some res → W p l e ({ frames := 4, cells := 0, slots := 0, locals := 92 } : Room) s m args below meth c H locs 0 0 (MQ below (mQ (fun v H1 => v = none ∧ GW ρ wM ad res H1) (MA wM ad s.heap.size)) args s 0 0 (MA wM ad s.heap.size)) (F0 m 58 ls [.int z0]) := by
    intro K17 hK17
    intro st x1 x2 x3 z0 H locs ls hW hS hl h
    unfold mo_sizes_58 at h
    refine lv_istore (pc := 58) (lv' := [(4, .int z0), (0, .ref (ad 0)), (1, .int x1), (2, .int x2), (3, .int x3)]) hx hb d218_58 hl (by decide) rfl (fun ls hl => ?_)
    refine lv_aload_n (pc := 60) hx hb d218_60 rfl (lv_at hl 1 rfl) ?_
    refine lv_iload_n (pc := 61) hx hb d218_61 rfl (lv_at hl 2 rfl) ?_
    refine lv_bipush (pc := 62) (v := 75) hx hb d218_62 (by decide) ?_
    refine lv_icmp_eq (pc := 64) (tgt := 77) hx hb d218_64 (by decide) (fun c64 => ?_) (fun c64 => ?_)
    · have h := jb_t c64 h
      exact kc77 _ hK17 st x1 x3 z0 _ _ _ hW hS (lv_sub hl [1, 2, 4, 0] rfl) h
    · have h := jb_f c64 h
      refine lv_iload_n (pc := 67) hx hb d218_67 rfl (lv_at hl 2 rfl) ?_
      refine lv_bipush (pc := 68) (v := 77) hx hb d218_68 (by decide) ?_
      refine lv_icmp_ne (pc := 70) (tgt := 89) hx hb d218_70 (by decide) (fun c70 => ?_) (fun c70 => ?_)
      · have h := jb_f c70 h
        exact kc89 _ hK17 st x1 x3 z0 _ _ _ hW hS (lv_sub hl [1, 2, 4, 0] rfl) h
      · have h := jb_t c70 h
        refine lv_iload_n (pc := 73) hx hb d218_73 rfl (lv_at hl 3 rfl) ?_
        refine lv_if_ne (pc := 74) (tgt := 89) hx hb d218_74 (by decide) (fun c74 => ?_) (fun c74 => ?_)
        · have h := jb_f c74 h
          exact kc89 _ hK17 st x1 x3 z0 _ _ _ hW hS (lv_sub hl [1, 2, 4, 0] rfl) h
        · have h := jb_t c74 h
          exact kc77 _ hK17 st x1 x3 z0 _ _ _ hW hS (lv_sub hl [1, 2, 4, 0] rfl) h
  have kc57 : ∀ (K17 : GS → Int32 → Int32 → Int32 → Option (GS)) (hK17 : ∀ (st : GS) (x1 : Int32) (x2 : Int32) (x3 : Int32) (H : Heap) (locs : List Loc) (ls : Array Slot), GW ρ wM ad st H → va_S (MA wM ad s.heap.size) s.heap H locs → lv_has ls 5 [(0, .ref (ad 0)), (1, .int x1), (2, .int x2), (3, .int x3)] → K17 st x1 x2 x3 = some res → W p l e ({ frames := 4, cells := 0, slots := 0, locals := 92 } : Room) s m args below meth c H locs 0 0 (MQ below (mQ (fun v H1 => v = none ∧ GW ρ wM ad res H1) (MA wM ad s.heap.size)) args s 0 0 (MA wM ad s.heap.size)) (F0 m 17 ls [])), ∀ (st : GS) (x1 : Int32) (x2 : Int32) (x3 : Int32) (H : Heap) (locs : List Loc) (ls : Array Slot), GW ρ wM ad st H → va_S (MA wM ad s.heap.size) s.heap H locs → lv_has ls 5 [(0, .ref (ad 0)), (1, .int x1), (2, .int x2), (3, .int x3)] → mo_sizes_57 K17 st x1 x2 x3 = some res → W p l e ({ frames := 4, cells := 0, slots := 0, locals := 92 } : Room) s m args below meth c H locs 0 0 (MQ below (mQ (fun v H1 => v = none ∧ GW ρ wM ad res H1) (MA wM ad s.heap.size)) args s 0 0 (MA wM ad s.heap.size)) (F0 m 57 ls []) := by
    intro K17 hK17
    intro st x1 x2 x3 H locs ls hW hS hl h
    unfold mo_sizes_57 at h
    refine lv_iconst (pc := 57) (v := 0) hx hb d218_57 (by decide) ?_
    exact kc58 _ hK17 st x1 x2 x3 0 _ _ _ hW hS (lv_sub hl [0, 1, 2, 3] rfl) h
  have kc17 : ∀ (fu : Nat), ∀ (st : GS) (x1 : Int32) (x2 : Int32) (x3 : Int32) (H : Heap) (locs : List Loc) (ls : Array Slot), GW ρ wM ad st H → va_S (MA wM ad s.heap.size) s.heap H locs → lv_has ls 5 [(0, .ref (ad 0)), (1, .int x1), (2, .int x2), (3, .int x3)] → mo_sizes_17 fu st x1 x2 x3 = some res → W p l e ({ frames := 4, cells := 0, slots := 0, locals := 92 } : Room) s m args below meth c H locs 0 0 (MQ below (mQ (fun v H1 => v = none ∧ GW ρ wM ad res H1) (MA wM ad s.heap.size)) args s 0 0 (MA wM ad s.heap.size)) (F0 m 17 ls []) := by
    intro  fu
    induction fu with
    | zero => intro st x1 x2 x3 H locs ls hW hS hl h; cases h
    | succ fu hK17 =>
      intro st x1 x2 x3 H locs ls hW hS hl h
      unfold mo_sizes_17 at h
      refine lv_iload_n (pc := 17) hx hb d218_17 rfl (lv_at hl 3 rfl) ?_
      refine lv_aload_n (pc := 18) hx hb d218_18 rfl (lv_at hl 0 rfl) ?_
      refine m_get (pc := 19) X hW 27 (v := .int (st.1 0 27)) wd1393 rfl rfl d218_19 ?_
      refine lv_icmp_ge (pc := 22) (tgt := 110) hx hb d218_22 (by decide) (fun c22 => ?_) (fun c22 => ?_)
      · have h := jb_t c22 h
        refine lv_aload_n (pc := 110) hx hb d218_110 rfl (lv_at hl 0 rfl) ?_
        obtain ⟨q7, hq7, h⟩ := jc_some h
        refine k_callV (pc := 111) (n := 0) X hS (c_mo_answerText l ρ ad _ st q7 hW hq7) wd1707 wd1704 wd1706 sl144 wd11 (by decide) ⟨rfl, rfl, by decide, by decide⟩ (m_recv X hW) (As := []) (rest := []) rfl rfl hl.1 (Nat.le_of_ble_eq_true rfl) d218_111 ⟨by decide, by decide⟩ (fun q hq => MA.mono hS.1 hq) (fun v H1 locs1 hv _ _ hSq7 => ?_)
        obtain ⟨rfl, hW⟩ := hv
        have hS := hSq7
        obtain rfl := Option.some.inj h
        exact m_vret (pc := 114) hx hb hr hlk hS ⟨rfl, hW⟩ (by decide) (by decide) d218_114
      · have h := jb_f c22 h
        refine lv_aload_n (pc := 25) hx hb d218_25 rfl (lv_at hl 0 rfl) ?_
        refine m_get (pc := 26) X hW 23 (v := .ref (ad 13)) wd1389 rfl rfl d218_26 ?_
        refine lv_iload_n (pc := 29) hx hb d218_29 rfl (lv_at hl 3 rfl) ?_
        obtain ⟨g8, h⟩ := jg_some h
        refine r_iald (pc := 30) X hW 13 (by decide) rfl (inb_in g8) d218_30 ?_
        obtain ⟨q9, hq9, h⟩ := jc_some h
        refine k_callS (pc := 31) (n := 1) X hS (c_mo_great l ρ _ (st.1 13 x3.toNatClampNeg) q9 hq9) wd1729 wd1727 wd1728 wd11 (by decide) ⟨rfl, rfl, by decide, by decide⟩ (As := [.int (st.1 13 x3.toNatClampNeg)]) (rest := []) rfl rfl hl.1 (Nat.le_of_ble_eq_true rfl) d218_31 ⟨by decide, by decide⟩ (fun q hq => False.elim hq) (fun v H1 locs1 hv _ _ hSq9 => ?_)
        obtain ⟨rfl, rfl⟩ := hv
        have hS := hSq9
        refine lv_bipush (pc := 34) (v := 65) hx hb d218_34 (by decide) ?_
        refine lv_icmp_lt (pc := 36) (tgt := 57) hx hb d218_36 (by decide) (fun c36 => ?_) (fun c36 => ?_)
        · have h := jb_t c36 h
          exact kc57 _ hK17 st x1 x2 x3 _ _ _ hW hS (lv_sub hl [0, 1, 2, 3] rfl) h
        · have h := jb_f c36 h
          refine lv_aload_n (pc := 39) hx hb d218_39 rfl (lv_at hl 0 rfl) ?_
          refine m_get (pc := 40) X hW 23 (v := .ref (ad 13)) wd1389 rfl rfl d218_40 ?_
          refine lv_iload_n (pc := 43) hx hb d218_43 rfl (lv_at hl 3 rfl) ?_
          obtain ⟨g10, h⟩ := jg_some h
          refine r_iald (pc := 44) X hW 13 (by decide) rfl (inb_in g10) d218_44 ?_
          obtain ⟨q11, hq11, h⟩ := jc_some h
          refine k_callS (pc := 45) (n := 1) X hS (c_mo_great l ρ _ (st.1 13 x3.toNatClampNeg) q11 hq11) wd1729 wd1727 wd1728 wd11 (by decide) ⟨rfl, rfl, by decide, by decide⟩ (As := [.int (st.1 13 x3.toNatClampNeg)]) (rest := []) rfl rfl hl.1 (Nat.le_of_ble_eq_true rfl) d218_45 ⟨by decide, by decide⟩ (fun q hq => False.elim hq) (fun v H1 locs1 hv _ _ hSq11 => ?_)
          obtain ⟨rfl, rfl⟩ := hv
          have hS := hSq11
          refine lv_bipush (pc := 48) (v := 90) hx hb d218_48 (by decide) ?_
          refine lv_icmp_gt (pc := 50) (tgt := 57) hx hb d218_50 (by decide) (fun c50 => ?_) (fun c50 => ?_)
          · have h := jb_t c50 h
            exact kc57 _ hK17 st x1 x2 x3 _ _ _ hW hS (lv_sub hl [0, 1, 2, 3] rfl) h
          · have h := jb_f c50 h
            refine lv_iconst (pc := 53) (v := 1) hx hb d218_53 (by decide) ?_
            refine lv_goto (pc := 54) (tgt := 58) hx hb d218_54 (by decide) ?_
            exact kc58 _ hK17 st x1 x2 x3 1 _ _ _ hW hS (lv_sub hl [0, 1, 2, 3] rfl) h
  unfold f_mo_sizes at h
  refine lv_aload_n (pc := 0) hx hb d218_0 rfl (lv_at hl 0 rfl) ?_
  refine lv_iconst (pc := 1) (v := 0) hx hb d218_1 (by decide) ?_
  obtain ⟨q12, hq12, h⟩ := jc_some h
  refine k_callV (pc := 2) (n := 1) X hS (c_mo_textOf l ρ ad _ st 0 q12 hW hq12) wd1597 wd1594 wd1596 sl226 wd11 (by decide) ⟨rfl, rfl, by decide, by decide⟩ (m_recv X hW) (As := [.int 0]) (rest := []) rfl rfl hl.1 (Nat.le_of_ble_eq_true rfl) d218_2 ⟨by decide, by decide⟩ (fun q hq => MA.mono hS.1 hq) (fun v H1 locs1 hv _ _ hSq12 => ?_)
  obtain ⟨rfl, hW⟩ := hv
  have hS := hSq12
  refine lv_aload_n (pc := 5) hx hb d218_5 rfl (lv_at hl 0 rfl) ?_
  refine m_get (pc := 6) X hW 22 (v := .int (q12.1 0 22)) wd1388 rfl rfl d218_6 ?_
  refine lv_if_eq (pc := 9) (tgt := 13) hx hb d218_9 (by decide) (fun c9 => ?_) (fun c9 => ?_)
  · have h := jb_t c9 h
    refine lv_iconst (pc := 13) (v := 0) hx hb d218_13 (by decide) ?_
    refine lv_istore_n (pc := 14) (lv' := [(2, .int 0), (0, .ref (ad 0)), (1, .int p0)]) hx hb d218_14 rfl hl (by decide) rfl (fun ls hl => ?_)
    refine lv_iconst (pc := 15) (v := 0) hx hb d218_15 (by decide) ?_
    refine lv_istore_n (pc := 16) (lv' := [(3, .int 0), (2, .int 0), (0, .ref (ad 0)), (1, .int p0)]) hx hb d218_16 rfl hl (by decide) rfl (fun ls hl => ?_)
    exact kc17  FU q12 p0 0 0 _ _ _ hW hS (lv_sub hl [2, 3, 1, 0] rfl) h
  · have h := jb_f c9 h
    obtain rfl := Option.some.inj h
    exact m_vret (pc := 12) hx hb hr hlk hS ⟨rfl, hW⟩ (by decide) (by decide) d218_12
def mo_trim_71 (K17 : GS → Int32 → Int32 → Option (GS)) (st : GS) (x1 : Int32) (x2 : Int32) : Option (GS) := jn (x2 + 1) (fun v1 => K17 st x1 v1)
def mo_trim_59 (K17 : GS → Int32 → Int32 → Option (GS)) (st : GS) (x2 : Int32) : Option (GS) := jg (inb x2 256) (jc (f_mo_make st (st.1 13 x2.toNatClampNeg)) (fun q3 => mo_trim_71 K17  q3 0 x2))
def mo_trim_17  : Nat → GS → Int32 → Int32 → Option (GS)
  | 0, _, _, _ => none
  | fu + 1, st, x1, x2 => jb ((st.1 0 27) ≤ x2) (jc (f_mo_answerText st) (fun q4 => some q4)) (jg (inb x2 256) (jb ((st.1 13 x2.toNatClampNeg) = 32) (jn (x1 + 1) (fun v7 => mo_trim_71 (mo_trim_17 fu)  st v7 x2)) (jb (x1 ≤ 0) (mo_trim_59 (mo_trim_17 fu)  st x2) (jb ((st.1 0 30) ≤ 0) (mo_trim_59 (mo_trim_17 fu)  st x2) (jc (f_mo_make st 32) (fun q6 => mo_trim_59 (mo_trim_17 fu)  q6 x2))))))
def f_mo_trim (st : GS) : Option (GS) := jc (f_mo_textOf st 0) (fun q8 => jb ((q8.1 0 22) = 0) (mo_trim_17 FU q8 0 0) (some q8))
set_option maxHeartbeats 4000000 in
set_option maxRecDepth 100000 in
theorem c_mo_trim (l : Launch) (ρ : RH) (ad : Nat → Nat) (H : Heap) (st : GS) (res : GS) (hW : GW ρ wM ad st H) (h : f_mo_trim st = some res) : Met l y233 (wsOf y233 b233 3 none) ({ frames := 4, cells := 0, slots := 0, locals := 92 } : Room) (va_Pc [.ref (ad 0)] (KP ρ H)) (mQ (fun v H1 => v = none ∧ GW ρ wM ad res H1) (MA wM ad H.size)) 0 0 (MA wM ad H.size) := by
  refine m_ofW (own := "WordFunctionsModel") (plainFor_of_name rfl) rfl (Nat.le_of_ble_eq_true rfl) fun p e s m args below meth c ls hx hb hr hlk _ X hs hl => ?_
  subst hs
  have hS : va_S (MA wM ad s.heap.size) s.heap s.heap [] := va_S.rf
  have hl : lv_has ls 3 [(0, .ref (ad 0))] := hl
  have kc71 : ∀ (K17 : GS → Int32 → Int32 → Option (GS)) (hK17 : ∀ (st : GS) (x1 : Int32) (x2 : Int32) (H : Heap) (locs : List Loc) (ls : Array Slot), GW ρ wM ad st H → va_S (MA wM ad s.heap.size) s.heap H locs → lv_has ls 3 [(0, .ref (ad 0)), (1, .int x1), (2, .int x2)] → K17 st x1 x2 = some res → W p l e ({ frames := 4, cells := 0, slots := 0, locals := 92 } : Room) s m args below meth c H locs 0 0 (MQ below (mQ (fun v H1 => v = none ∧ GW ρ wM ad res H1) (MA wM ad s.heap.size)) args s 0 0 (MA wM ad s.heap.size)) (F0 m 17 ls [])), ∀ (st : GS) (x1 : Int32) (x2 : Int32) (H : Heap) (locs : List Loc) (ls : Array Slot), GW ρ wM ad st H → va_S (MA wM ad s.heap.size) s.heap H locs → lv_has ls 3 [(0, .ref (ad 0)), (1, .int x1), (2, .int x2)] → mo_trim_71 K17 st x1 x2 = some res → W p l e ({ frames := 4, cells := 0, slots := 0, locals := 92 } : Room) s m args below meth c H locs 0 0 (MQ below (mQ (fun v H1 => v = none ∧ GW ρ wM ad res H1) (MA wM ad s.heap.size)) args s 0 0 (MA wM ad s.heap.size)) (F0 m 71 ls []) := by
    intro K17 hK17
    intro st x1 x2 H locs ls hW hS hl h
    unfold mo_trim_71 at h
    obtain ⟨v1, ev1, h⟩ := jn_ex h
    refine lv_iinc (pc := 71) (v := v1) (lv' := [(2, .int v1), (0, .ref (ad 0)), (1, .int x1)]) hx hb d233_71 hl (k := 2) rfl (by rw [ev1]; rfl) (by decide) rfl (fun ls hl => ?_)
    refine lv_goto (pc := 74) (tgt := 17) hx hb d233_74 (by decide) ?_
    exact hK17 st x1 v1 _ _ _ hW hS (lv_sub hl [1, 2, 0] rfl) h
  have kc59 : ∀ (K17 : GS → Int32 → Int32 → Option (GS)) (hK17 : ∀ (st : GS) (x1 : Int32) (x2 : Int32) (H : Heap) (locs : List Loc) (ls : Array Slot), GW ρ wM ad st H → va_S (MA wM ad s.heap.size) s.heap H locs → lv_has ls 3 [(0, .ref (ad 0)), (1, .int x1), (2, .int x2)] → K17 st x1 x2 = some res → W p l e ({ frames := 4, cells := 0, slots := 0, locals := 92 } : Room) s m args below meth c H locs 0 0 (MQ below (mQ (fun v H1 => v = none ∧ GW ρ wM ad res H1) (MA wM ad s.heap.size)) args s 0 0 (MA wM ad s.heap.size)) (F0 m 17 ls [])), ∀ (st : GS) (x2 : Int32) (H : Heap) (locs : List Loc) (ls : Array Slot), GW ρ wM ad st H → va_S (MA wM ad s.heap.size) s.heap H locs → lv_has ls 3 [(0, .ref (ad 0)), (2, .int x2)] → mo_trim_59 K17 st x2 = some res → W p l e ({ frames := 4, cells := 0, slots := 0, locals := 92 } : Room) s m args below meth c H locs 0 0 (MQ below (mQ (fun v H1 => v = none ∧ GW ρ wM ad res H1) (MA wM ad s.heap.size)) args s 0 0 (MA wM ad s.heap.size)) (F0 m 59 ls []) := by
    intro K17 hK17
    intro st x2 H locs ls hW hS hl h
    unfold mo_trim_59 at h
    refine lv_iconst (pc := 59) (v := 0) hx hb d233_59 (by decide) ?_
    refine lv_istore_n (pc := 60) (lv' := [(1, .int 0), (0, .ref (ad 0)), (2, .int x2)]) hx hb d233_60 rfl hl (by decide) rfl (fun ls hl => ?_)
    refine lv_aload_n (pc := 61) hx hb d233_61 rfl (lv_at hl 1 rfl) ?_
    refine lv_aload_n (pc := 62) hx hb d233_62 rfl (lv_at hl 1 rfl) ?_
    refine m_get (pc := 63) X hW 23 (v := .ref (ad 13)) wd1389 rfl rfl d233_63 ?_
    refine lv_iload_n (pc := 66) hx hb d233_66 rfl (lv_at hl 2 rfl) ?_
    obtain ⟨g2, h⟩ := jg_some h
    refine r_iald (pc := 67) X hW 13 (by decide) rfl (inb_in g2) d233_67 ?_
    obtain ⟨q3, hq3, h⟩ := jc_some h
    refine k_callV (pc := 68) (n := 1) X hS (c_mo_make l ρ ad _ st (st.1 13 x2.toNatClampNeg) q3 hW hq3) wd1703 wd1700 wd1702 sl195 wd11 (by decide) ⟨rfl, rfl, by decide, by decide⟩ (m_recv X hW) (As := [.int (st.1 13 x2.toNatClampNeg)]) (rest := []) rfl rfl hl.1 (Nat.le_of_ble_eq_true rfl) d233_68 ⟨by decide, by decide⟩ (fun q hq => MA.mono hS.1 hq) (fun v H1 locs1 hv _ _ hSq3 => ?_)
    obtain ⟨rfl, hW⟩ := hv
    have hS := hSq3
    exact kc71 _ hK17 q3 0 x2 _ _ _ hW hS (lv_sub hl [1, 0, 2] rfl) h
  have kc17 : ∀ (fu : Nat), ∀ (st : GS) (x1 : Int32) (x2 : Int32) (H : Heap) (locs : List Loc) (ls : Array Slot), GW ρ wM ad st H → va_S (MA wM ad s.heap.size) s.heap H locs → lv_has ls 3 [(0, .ref (ad 0)), (1, .int x1), (2, .int x2)] → mo_trim_17 fu st x1 x2 = some res → W p l e ({ frames := 4, cells := 0, slots := 0, locals := 92 } : Room) s m args below meth c H locs 0 0 (MQ below (mQ (fun v H1 => v = none ∧ GW ρ wM ad res H1) (MA wM ad s.heap.size)) args s 0 0 (MA wM ad s.heap.size)) (F0 m 17 ls []) := by
    intro  fu
    induction fu with
    | zero => intro st x1 x2 H locs ls hW hS hl h; cases h
    | succ fu hK17 =>
      intro st x1 x2 H locs ls hW hS hl h
      unfold mo_trim_17 at h
      refine lv_iload_n (pc := 17) hx hb d233_17 rfl (lv_at hl 2 rfl) ?_
      refine lv_aload_n (pc := 18) hx hb d233_18 rfl (lv_at hl 0 rfl) ?_
      refine m_get (pc := 19) X hW 27 (v := .int (st.1 0 27)) wd1393 rfl rfl d233_19 ?_
      refine lv_icmp_ge (pc := 22) (tgt := 77) hx hb d233_22 (by decide) (fun c22 => ?_) (fun c22 => ?_)
      · have h := jb_t c22 h
        refine lv_aload_n (pc := 77) hx hb d233_77 rfl (lv_at hl 0 rfl) ?_
        obtain ⟨q4, hq4, h⟩ := jc_some h
        refine k_callV (pc := 78) (n := 0) X hS (c_mo_answerText l ρ ad _ st q4 hW hq4) wd1707 wd1704 wd1706 sl144 wd11 (by decide) ⟨rfl, rfl, by decide, by decide⟩ (m_recv X hW) (As := []) (rest := []) rfl rfl hl.1 (Nat.le_of_ble_eq_true rfl) d233_78 ⟨by decide, by decide⟩ (fun q hq => MA.mono hS.1 hq) (fun v H1 locs1 hv _ _ hSq4 => ?_)
        obtain ⟨rfl, hW⟩ := hv
        have hS := hSq4
        obtain rfl := Option.some.inj h
        exact m_vret (pc := 81) hx hb hr hlk hS ⟨rfl, hW⟩ (by decide) (by decide) d233_81
      · have h := jb_f c22 h
        refine lv_aload_n (pc := 25) hx hb d233_25 rfl (lv_at hl 0 rfl) ?_
        refine m_get (pc := 26) X hW 23 (v := .ref (ad 13)) wd1389 rfl rfl d233_26 ?_
        refine lv_iload_n (pc := 29) hx hb d233_29 rfl (lv_at hl 2 rfl) ?_
        obtain ⟨g5, h⟩ := jg_some h
        refine r_iald (pc := 30) X hW 13 (by decide) rfl (inb_in g5) d233_30 ?_
        refine lv_bipush (pc := 31) (v := 32) hx hb d233_31 (by decide) ?_
        refine lv_icmp_ne (pc := 33) (tgt := 42) hx hb d233_33 (by decide) (fun c33 => ?_) (fun c33 => ?_)
        · have h := jb_f c33 h
          refine lv_iload_n (pc := 42) hx hb d233_42 rfl (lv_at hl 1 rfl) ?_
          refine lv_if_le (pc := 43) (tgt := 59) hx hb d233_43 (by decide) (fun c43 => ?_) (fun c43 => ?_)
          · have h := jb_t c43 h
            exact kc59 _ hK17 st x2 _ _ _ hW hS (lv_sub hl [0, 2] rfl) h
          · have h := jb_f c43 h
            refine lv_aload_n (pc := 46) hx hb d233_46 rfl (lv_at hl 0 rfl) ?_
            refine m_get (pc := 47) X hW 30 (v := .int (st.1 0 30)) wd1396 rfl rfl d233_47 ?_
            refine lv_if_le (pc := 50) (tgt := 59) hx hb d233_50 (by decide) (fun c50 => ?_) (fun c50 => ?_)
            · have h := jb_t c50 h
              exact kc59 _ hK17 st x2 _ _ _ hW hS (lv_sub hl [0, 2] rfl) h
            · have h := jb_f c50 h
              refine lv_aload_n (pc := 53) hx hb d233_53 rfl (lv_at hl 0 rfl) ?_
              refine lv_bipush (pc := 54) (v := 32) hx hb d233_54 (by decide) ?_
              obtain ⟨q6, hq6, h⟩ := jc_some h
              refine k_callV (pc := 56) (n := 1) X hS (c_mo_make l ρ ad _ st 32 q6 hW hq6) wd1703 wd1700 wd1702 sl195 wd11 (by decide) ⟨rfl, rfl, by decide, by decide⟩ (m_recv X hW) (As := [.int 32]) (rest := []) rfl rfl hl.1 (Nat.le_of_ble_eq_true rfl) d233_56 ⟨by decide, by decide⟩ (fun q hq => MA.mono hS.1 hq) (fun v H1 locs1 hv _ _ hSq6 => ?_)
              obtain ⟨rfl, hW⟩ := hv
              have hS := hSq6
              exact kc59 _ hK17 q6 x2 _ _ _ hW hS (lv_sub hl [0, 2] rfl) h
        · have h := jb_t c33 h
          obtain ⟨v7, ev7, h⟩ := jn_ex h
          refine lv_iinc (pc := 36) (v := v7) (lv' := [(1, .int v7), (0, .ref (ad 0)), (2, .int x2)]) hx hb d233_36 hl (k := 1) rfl (by rw [ev7]; rfl) (by decide) rfl (fun ls hl => ?_)
          refine lv_goto (pc := 39) (tgt := 71) hx hb d233_39 (by decide) ?_
          exact kc71 _ hK17 st v7 x2 _ _ _ hW hS (lv_sub hl [1, 0, 2] rfl) h
  unfold f_mo_trim at h
  refine lv_aload_n (pc := 0) hx hb d233_0 rfl (lv_at hl 0 rfl) ?_
  refine lv_iconst (pc := 1) (v := 0) hx hb d233_1 (by decide) ?_
  obtain ⟨q8, hq8, h⟩ := jc_some h
  refine k_callV (pc := 2) (n := 1) X hS (c_mo_textOf l ρ ad _ st 0 q8 hW hq8) wd1597 wd1594 wd1596 sl226 wd11 (by decide) ⟨rfl, rfl, by decide, by decide⟩ (m_recv X hW) (As := [.int 0]) (rest := []) rfl rfl hl.1 (Nat.le_of_ble_eq_true rfl) d233_2 ⟨by decide, by decide⟩ (fun q hq => MA.mono hS.1 hq) (fun v H1 locs1 hv _ _ hSq8 => ?_)
  obtain ⟨rfl, hW⟩ := hv
  have hS := hSq8
  refine lv_aload_n (pc := 5) hx hb d233_5 rfl (lv_at hl 0 rfl) ?_
  refine m_get (pc := 6) X hW 22 (v := .int (q8.1 0 22)) wd1388 rfl rfl d233_6 ?_
  refine lv_if_eq (pc := 9) (tgt := 13) hx hb d233_9 (by decide) (fun c9 => ?_) (fun c9 => ?_)
  · have h := jb_t c9 h
    refine lv_iconst (pc := 13) (v := 0) hx hb d233_13 (by decide) ?_
    refine lv_istore_n (pc := 14) (lv' := [(1, .int 0), (0, .ref (ad 0))]) hx hb d233_14 rfl hl (by decide) rfl (fun ls hl => ?_)
    refine lv_iconst (pc := 15) (v := 0) hx hb d233_15 (by decide) ?_
    refine lv_istore_n (pc := 16) (lv' := [(2, .int 0), (1, .int 0), (0, .ref (ad 0))]) hx hb d233_16 rfl hl (by decide) rfl (fun ls hl => ?_)
    exact kc17  FU q8 0 0 _ _ _ hW hS (lv_sub hl [2, 1, 0] rfl) h
  · have h := jb_f c9 h
    obtain rfl := Option.some.inj h
    exact m_vret (pc := 12) hx hb hr hlk hS ⟨rfl, hW⟩ (by decide) (by decide) d233_12
def mo_concatenate_2  : Nat → GS → Int32 → Option (GS)
  | 0, _, _ => none
  | fu + 1, st, x1 => jb ((st.1 0 7) ≤ x1) (jc (f_mo_answerText st) (fun q1 => some q1)) (jc (f_mo_textOf st x1) (fun q2 => jc (f_mo_makeOf q2 13 0 (q2.1 0 27)) (fun q3 => jn (x1 + 1) (fun v4 => mo_concatenate_2 fu q3 v4))))
def f_mo_concatenate (st : GS) : Option (GS) := mo_concatenate_2 FU st 0
set_option maxHeartbeats 4000000 in
set_option maxRecDepth 100000 in
theorem c_mo_concatenate (l : Launch) (ρ : RH) (ad : Nat → Nat) (H : Heap) (st : GS) (res : GS) (hW : GW ρ wM ad st H) (h : f_mo_concatenate st = some res) : Met l y155 (wsOf y155 b155 2 none) ({ frames := 4, cells := 0, slots := 0, locals := 92 } : Room) (va_Pc [.ref (ad 0)] (KP ρ H)) (mQ (fun v H1 => v = none ∧ GW ρ wM ad res H1) (MA wM ad H.size)) 0 0 (MA wM ad H.size) := by
  refine m_ofW (own := "WordFunctionsModel") (plainFor_of_name rfl) rfl (Nat.le_of_ble_eq_true rfl) fun p e s m args below meth c ls hx hb hr hlk _ X hs hl => ?_
  subst hs
  have hS : va_S (MA wM ad s.heap.size) s.heap s.heap [] := va_S.rf
  have hl : lv_has ls 2 [(0, .ref (ad 0))] := hl
  have kc2 : ∀ (fu : Nat), ∀ (st : GS) (x1 : Int32) (H : Heap) (locs : List Loc) (ls : Array Slot), GW ρ wM ad st H → va_S (MA wM ad s.heap.size) s.heap H locs → lv_has ls 2 [(0, .ref (ad 0)), (1, .int x1)] → mo_concatenate_2 fu st x1 = some res → W p l e ({ frames := 4, cells := 0, slots := 0, locals := 92 } : Room) s m args below meth c H locs 0 0 (MQ below (mQ (fun v H1 => v = none ∧ GW ρ wM ad res H1) (MA wM ad s.heap.size)) args s 0 0 (MA wM ad s.heap.size)) (F0 m 2 ls []) := by
    intro  fu
    induction fu with
    | zero => intro st x1 H locs ls hW hS hl h; cases h
    | succ fu hK2 =>
      intro st x1 H locs ls hW hS hl h
      unfold mo_concatenate_2 at h
      refine lv_iload_n (pc := 2) hx hb d155_2 rfl (lv_at hl 1 rfl) ?_
      refine lv_aload_n (pc := 3) hx hb d155_3 rfl (lv_at hl 0 rfl) ?_
      refine m_get (pc := 4) X hW 7 (v := .int (st.1 0 7)) wd1373 rfl rfl d155_4 ?_
      refine lv_icmp_ge (pc := 7) (tgt := 34) hx hb d155_7 (by decide) (fun c7 => ?_) (fun c7 => ?_)
      · have h := jb_t c7 h
        refine lv_aload_n (pc := 34) hx hb d155_34 rfl (lv_at hl 0 rfl) ?_
        obtain ⟨q1, hq1, h⟩ := jc_some h
        refine k_callV (pc := 35) (n := 0) X hS (c_mo_answerText l ρ ad _ st q1 hW hq1) wd1707 wd1704 wd1706 sl144 wd11 (by decide) ⟨rfl, rfl, by decide, by decide⟩ (m_recv X hW) (As := []) (rest := []) rfl rfl hl.1 (Nat.le_of_ble_eq_true rfl) d155_35 ⟨by decide, by decide⟩ (fun q hq => MA.mono hS.1 hq) (fun v H1 locs1 hv _ _ hSq1 => ?_)
        obtain ⟨rfl, hW⟩ := hv
        have hS := hSq1
        obtain rfl := Option.some.inj h
        exact m_vret (pc := 38) hx hb hr hlk hS ⟨rfl, hW⟩ (by decide) (by decide) d155_38
      · have h := jb_f c7 h
        refine lv_aload_n (pc := 10) hx hb d155_10 rfl (lv_at hl 0 rfl) ?_
        refine lv_iload_n (pc := 11) hx hb d155_11 rfl (lv_at hl 1 rfl) ?_
        obtain ⟨q2, hq2, h⟩ := jc_some h
        refine k_callV (pc := 12) (n := 1) X hS (c_mo_textOf l ρ ad _ st x1 q2 hW hq2) wd1597 wd1594 wd1596 sl226 wd11 (by decide) ⟨rfl, rfl, by decide, by decide⟩ (m_recv X hW) (As := [.int x1]) (rest := []) rfl rfl hl.1 (Nat.le_of_ble_eq_true rfl) d155_12 ⟨by decide, by decide⟩ (fun q hq => MA.mono hS.1 hq) (fun v H1 locs1 hv _ _ hSq2 => ?_)
        obtain ⟨rfl, hW⟩ := hv
        have hS := hSq2
        refine lv_aload_n (pc := 15) hx hb d155_15 rfl (lv_at hl 0 rfl) ?_
        refine lv_aload_n (pc := 16) hx hb d155_16 rfl (lv_at hl 0 rfl) ?_
        refine m_get (pc := 17) X hW 23 (v := .ref (ad 13)) wd1389 rfl rfl d155_17 ?_
        refine lv_iconst (pc := 20) (v := 0) hx hb d155_20 (by decide) ?_
        refine lv_aload_n (pc := 21) hx hb d155_21 rfl (lv_at hl 0 rfl) ?_
        refine m_get (pc := 22) X hW 27 (v := .int (q2.1 0 27)) wd1393 rfl rfl d155_22 ?_
        obtain ⟨q3, hq3, h⟩ := jc_some h
        refine k_callV (pc := 25) (n := 3) X hS (c_mo_makeOf l ρ ad _ q2 13 0 (q2.1 0 27) q3 hW ⟨by decide, rfl⟩ hq3) wd1699 wd1696 wd1698 sl197 wd11 (by decide) ⟨rfl, rfl, by decide, by decide⟩ (m_recv X hW) (As := [.ref (ad 13), .int 0, .int (q2.1 0 27)]) (rest := []) rfl rfl hl.1 (Nat.le_of_ble_eq_true rfl) d155_25 ⟨by decide, by decide⟩ (fun q hq => MA.mono hS.1 hq) (fun v H1 locs1 hv _ _ hSq3 => ?_)
        obtain ⟨rfl, hW⟩ := hv
        have hS := hSq3
        obtain ⟨v4, ev4, h⟩ := jn_ex h
        refine lv_iinc (pc := 28) (v := v4) (lv' := [(1, .int v4), (0, .ref (ad 0))]) hx hb d155_28 hl (k := 1) rfl (by rw [ev4]; rfl) (by decide) rfl (fun ls hl => ?_)
        refine lv_goto (pc := 31) (tgt := 2) hx hb d155_31 (by decide) ?_
        exact hK2 q3 v4 _ _ _ hW hS (lv_sub hl [1, 0] rfl) h
  unfold f_mo_concatenate at h
  refine lv_iconst (pc := 0) (v := 0) hx hb d155_0 (by decide) ?_
  refine lv_istore_n (pc := 1) (lv' := [(1, .int 0), (0, .ref (ad 0))]) hx hb d155_1 rfl hl (by decide) rfl (fun ls hl => ?_)
  exact kc2  FU st 0 _ _ _ hW hS (lv_sub hl [1, 0] rfl) h
def f_mo_rowsOf (st : GS) (p0 : Int32) : Option (Int32) := jc (f_mo_isOut st p0) (fun q1 => jb (q1 = 0) (jg (inb p0 30) (some (st.1 4 p0.toNatClampNeg))) (some 1))
set_option maxHeartbeats 4000000 in
set_option maxRecDepth 100000 in
theorem c_mo_rowsOf (l : Launch) (ρ : RH) (ad : Nat → Nat) (H : Heap) (st : GS) (p0 : Int32) (res : Int32) (hW : GW ρ wM ad st H) (h : f_mo_rowsOf st p0 = some res) : Met l y215 (wsOf y215 b215 2 (some .int)) ({ frames := 1, cells := 0, slots := 0, locals := 21 } : Room) (va_Pc [.ref (ad 0), .int p0] (KP ρ H)) (mQ (fun v H1 => v = some (.int res) ∧ H1 = H) (fun _ => False)) 0 0 (fun _ => False) := by
  refine m_ofW (own := "WordFunctionsModel") (plainFor_of_name rfl) rfl (Nat.le_of_ble_eq_true rfl) fun p e s m args below meth c ls hx hb hr hlk _ X hs hl => ?_
  subst hs
  have hS : va_S (fun _ => False) s.heap s.heap [] := va_S.rf
  have hl : lv_has ls 2 [(0, .ref (ad 0)), (1, .int p0)] := hl
  unfold f_mo_rowsOf at h
  refine lv_aload_n (pc := 0) hx hb d215_0 rfl (lv_at hl 0 rfl) ?_
  refine lv_iload_n (pc := 1) hx hb d215_1 rfl (lv_at hl 1 rfl) ?_
  obtain ⟨q1, hq1, h⟩ := jc_some h
  refine k_callV (pc := 2) (n := 1) X hS (c_mo_isOut l ρ ad _ st p0 q1 hW hq1) wd1609 wd1606 wd1608 sl183 wd11 (by decide) ⟨rfl, rfl, by decide, by decide⟩ (m_recv X hW) (As := [.int p0]) (rest := []) rfl rfl hl.1 (Nat.le_of_ble_eq_true rfl) d215_2 ⟨by decide, by decide⟩ (fun q hq => False.elim hq) (fun v H1 locs1 hv _ _ hSq1 => ?_)
  obtain ⟨rfl, rfl⟩ := hv
  have hS := hSq1
  refine lv_if_eq (pc := 5) (tgt := 12) hx hb d215_5 (by decide) (fun c5 => ?_) (fun c5 => ?_)
  · have h := jb_t c5 h
    refine lv_aload_n (pc := 12) hx hb d215_12 rfl (lv_at hl 0 rfl) ?_
    refine m_get (pc := 13) X hW 9 (v := .ref (ad 4)) wd1375 rfl rfl d215_13 ?_
    refine lv_iload_n (pc := 16) hx hb d215_16 rfl (lv_at hl 1 rfl) ?_
    obtain ⟨g2, h⟩ := jg_some h
    refine r_iald (pc := 17) X hW 4 (by decide) rfl (inb_in g2) d215_17 ?_
    obtain rfl := Option.some.inj h
    exact m_iret (pc := 18) hx hb hr hlk hS ⟨rfl, rfl⟩ (by decide) (by decide) d215_18
  · have h := jb_f c5 h
    refine lv_iconst (pc := 8) (v := 1) hx hb d215_8 (by decide) ?_
    refine lv_goto (pc := 9) (tgt := 18) hx hb d215_9 (by decide) ?_
    obtain rfl := Option.some.inj h
    exact m_iret (pc := 18) hx hb hr hlk hS ⟨rfl, rfl⟩ (by decide) (by decide) d215_18
def f_mo_columnsOf (st : GS) (p0 : Int32) : Option (Int32) := jc (f_mo_isOut st p0) (fun q1 => jb (q1 = 0) (jg (inb p0 30) (some (st.1 5 p0.toNatClampNeg))) (some 1))
set_option maxHeartbeats 4000000 in
set_option maxRecDepth 100000 in
theorem c_mo_columnsOf (l : Launch) (ρ : RH) (ad : Nat → Nat) (H : Heap) (st : GS) (p0 : Int32) (res : Int32) (hW : GW ρ wM ad st H) (h : f_mo_columnsOf st p0 = some res) : Met l y154 (wsOf y154 b154 2 (some .int)) ({ frames := 1, cells := 0, slots := 0, locals := 21 } : Room) (va_Pc [.ref (ad 0), .int p0] (KP ρ H)) (mQ (fun v H1 => v = some (.int res) ∧ H1 = H) (fun _ => False)) 0 0 (fun _ => False) := by
  refine m_ofW (own := "WordFunctionsModel") (plainFor_of_name rfl) rfl (Nat.le_of_ble_eq_true rfl) fun p e s m args below meth c ls hx hb hr hlk _ X hs hl => ?_
  subst hs
  have hS : va_S (fun _ => False) s.heap s.heap [] := va_S.rf
  have hl : lv_has ls 2 [(0, .ref (ad 0)), (1, .int p0)] := hl
  unfold f_mo_columnsOf at h
  refine lv_aload_n (pc := 0) hx hb d154_0 rfl (lv_at hl 0 rfl) ?_
  refine lv_iload_n (pc := 1) hx hb d154_1 rfl (lv_at hl 1 rfl) ?_
  obtain ⟨q1, hq1, h⟩ := jc_some h
  refine k_callV (pc := 2) (n := 1) X hS (c_mo_isOut l ρ ad _ st p0 q1 hW hq1) wd1609 wd1606 wd1608 sl183 wd11 (by decide) ⟨rfl, rfl, by decide, by decide⟩ (m_recv X hW) (As := [.int p0]) (rest := []) rfl rfl hl.1 (Nat.le_of_ble_eq_true rfl) d154_2 ⟨by decide, by decide⟩ (fun q hq => False.elim hq) (fun v H1 locs1 hv _ _ hSq1 => ?_)
  obtain ⟨rfl, rfl⟩ := hv
  have hS := hSq1
  refine lv_if_eq (pc := 5) (tgt := 12) hx hb d154_5 (by decide) (fun c5 => ?_) (fun c5 => ?_)
  · have h := jb_t c5 h
    refine lv_aload_n (pc := 12) hx hb d154_12 rfl (lv_at hl 0 rfl) ?_
    refine m_get (pc := 13) X hW 10 (v := .ref (ad 5)) wd1376 rfl rfl d154_13 ?_
    refine lv_iload_n (pc := 16) hx hb d154_16 rfl (lv_at hl 1 rfl) ?_
    obtain ⟨g2, h⟩ := jg_some h
    refine r_iald (pc := 17) X hW 5 (by decide) rfl (inb_in g2) d154_17 ?_
    obtain rfl := Option.some.inj h
    exact m_iret (pc := 18) hx hb hr hlk hS ⟨rfl, rfl⟩ (by decide) (by decide) d154_18
  · have h := jb_f c5 h
    refine lv_iconst (pc := 8) (v := 1) hx hb d154_8 (by decide) ?_
    refine lv_goto (pc := 9) (tgt := 18) hx hb d154_9 (by decide) ?_
    obtain rfl := Option.some.inj h
    exact m_iret (pc := 18) hx hb hr hlk hS ⟨rfl, rfl⟩ (by decide) (by decide) d154_18
