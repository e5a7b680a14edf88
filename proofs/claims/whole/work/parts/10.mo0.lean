abbrev b139 : ByteArray := prog_13_method_26_code
theorem d139_0 : decode b139 0 = .ok ((.dload_n 0), 1) := by decide +kernel
theorem d139_1 : decode b139 1 = .ok ((.dconst 0), 1) := by decide +kernel
theorem d139_2 : decode b139 2 = .ok ((.dcmp .g), 1) := by decide +kernel
theorem d139_3 : decode b139 3 = .ok ((.ifCond .ge 8), 3) := by decide +kernel
theorem d139_6 : decode b139 6 = .ok ((.dload_n 0), 1) := by decide +kernel
theorem d139_7 : decode b139 7 = .ok (.dneg, 1) := by decide +kernel
theorem d139_8 : decode b139 8 = .ok ((.goto 4), 3) := by decide +kernel
theorem d139_11 : decode b139 11 = .ok ((.dload_n 0), 1) := by decide +kernel
theorem d139_12 : decode b139 12 = .ok (.dreturn, 1) := by decide +kernel
abbrev b183 : ByteArray := prog_13_method_15_code
theorem d183_0 : decode b183 0 = .ok ((.aload_n 0), 1) := by decide +kernel
theorem d183_1 : decode b183 1 = .ok ((.getfield 20), 3) := by decide +kernel
theorem d183_4 : decode b183 4 = .ok ((.iload_n 1), 1) := by decide +kernel
theorem d183_5 : decode b183 5 = .ok (.iaload, 1) := by decide +kernel
theorem d183_6 : decode b183 6 = .ok ((.ifCond .ne 7), 3) := by decide +kernel
theorem d183_9 : decode b183 9 = .ok ((.iconst 1), 1) := by decide +kernel
theorem d183_10 : decode b183 10 = .ok ((.goto 4), 3) := by decide +kernel
theorem d183_13 : decode b183 13 = .ok ((.iconst 0), 1) := by decide +kernel
theorem d183_14 : decode b183 14 = .ok (.ireturn, 1) := by decide +kernel
abbrev b237 : ByteArray := prog_13_method_20_code
theorem d237_0 : decode b237 0 = .ok ((.aload_n 0), 1) := by decide +kernel
theorem d237_1 : decode b237 1 = .ok ((.iload_n 1), 1) := by decide +kernel
theorem d237_2 : decode b237 2 = .ok ((.invokevirtual 146), 3) := by decide +kernel
theorem d237_5 : decode b237 5 = .ok ((.ifCond .eq 9), 3) := by decide +kernel
theorem d237_8 : decode b237 8 = .ok ((.sipush 512), 3) := by decide +kernel
theorem d237_11 : decode b237 11 = .ok ((.goto 20), 3) := by decide +kernel
theorem d237_14 : decode b237 14 = .ok ((.aload_n 0), 1) := by decide +kernel
theorem d237_15 : decode b237 15 = .ok ((.getfield 26), 3) := by decide +kernel
theorem d237_18 : decode b237 18 = .ok ((.iload_n 1), 1) := by decide +kernel
theorem d237_19 : decode b237 19 = .ok (.iaload, 1) := by decide +kernel
theorem d237_20 : decode b237 20 = .ok ((.aload_n 0), 1) := by decide +kernel
theorem d237_21 : decode b237 21 = .ok ((.getfield 23), 3) := by decide +kernel
theorem d237_24 : decode b237 24 = .ok ((.iload_n 1), 1) := by decide +kernel
theorem d237_25 : decode b237 25 = .ok (.iaload, 1) := by decide +kernel
theorem d237_26 : decode b237 26 = .ok ((.iload_n 2), 1) := by decide +kernel
theorem d237_27 : decode b237 27 = .ok (.imul, 1) := by decide +kernel
theorem d237_28 : decode b237 28 = .ok (.iadd, 1) := by decide +kernel
theorem d237_29 : decode b237 29 = .ok ((.iload_n 3), 1) := by decide +kernel
theorem d237_30 : decode b237 30 = .ok (.iadd, 1) := by decide +kernel
theorem d237_31 : decode b237 31 = .ok (.ireturn, 1) := by decide +kernel
abbrev b223 : ByteArray := prog_13_method_19_code
theorem d223_0 : decode b223 0 = .ok ((.aload_n 0), 1) := by decide +kernel
theorem d223_1 : decode b223 1 = .ok ((.aload_n 0), 1) := by decide +kernel
theorem d223_2 : decode b223 2 = .ok ((.getfield 35), 3) := by decide +kernel
theorem d223_5 : decode b223 5 = .ok ((.iload_n 1), 1) := by decide +kernel
theorem d223_6 : decode b223 6 = .ok (.iaload, 1) := by decide +kernel
theorem d223_7 : decode b223 7 = .ok ((.putfield 150), 3) := by decide +kernel
theorem d223_10 : decode b223 10 = .ok ((.aload_n 0), 1) := by decide +kernel
theorem d223_11 : decode b223 11 = .ok ((.aload_n 0), 1) := by decide +kernel
theorem d223_12 : decode b223 12 = .ok ((.getfield 150), 3) := by decide +kernel
theorem d223_15 : decode b223 15 = .ok ((.ifCond .eq 11), 3) := by decide +kernel
theorem d223_18 : decode b223 18 = .ok ((.aload_n 0), 1) := by decide +kernel
theorem d223_19 : decode b223 19 = .ok ((.getfield 150), 3) := by decide +kernel
theorem d223_22 : decode b223 22 = .ok ((.iconst 2), 1) := by decide +kernel
theorem d223_23 : decode b223 23 = .ok ((.if_icmp .ne 7), 3) := by decide +kernel
theorem d223_26 : decode b223 26 = .ok ((.dconst 0), 1) := by decide +kernel
theorem d223_27 : decode b223 27 = .ok ((.goto 9), 3) := by decide +kernel
theorem d223_30 : decode b223 30 = .ok ((.aload_n 0), 1) := by decide +kernel
theorem d223_31 : decode b223 31 = .ok ((.getfield 44), 3) := by decide +kernel
theorem d223_34 : decode b223 34 = .ok ((.iload_n 1), 1) := by decide +kernel
theorem d223_35 : decode b223 35 = .ok (.daload, 1) := by decide +kernel
theorem d223_36 : decode b223 36 = .ok ((.putfield 153), 3) := by decide +kernel
theorem d223_39 : decode b223 39 = .ok ((.aload_n 0), 1) := by decide +kernel
theorem d223_40 : decode b223 40 = .ok ((.aload_n 0), 1) := by decide +kernel
theorem d223_41 : decode b223 41 = .ok ((.getfield 150), 3) := by decide +kernel
theorem d223_44 : decode b223 44 = .ok ((.iconst 2), 1) := by decide +kernel
theorem d223_45 : decode b223 45 = .ok ((.if_icmp .ne 12), 3) := by decide +kernel
theorem d223_48 : decode b223 48 = .ok ((.aload_n 0), 1) := by decide +kernel
theorem d223_49 : decode b223 49 = .ok ((.getfield 41), 3) := by decide +kernel
theorem d223_52 : decode b223 52 = .ok ((.iload_n 1), 1) := by decide +kernel
theorem d223_53 : decode b223 53 = .ok (.iaload, 1) := by decide +kernel
theorem d223_54 : decode b223 54 = .ok ((.goto 4), 3) := by decide +kernel
theorem d223_57 : decode b223 57 = .ok ((.iconst 0), 1) := by decide +kernel
theorem d223_58 : decode b223 58 = .ok ((.putfield 157), 3) := by decide +kernel
theorem d223_61 : decode b223 61 = .ok ((.iconst 0), 1) := by decide +kernel
theorem d223_62 : decode b223 62 = .ok ((.istore_n 2), 1) := by decide +kernel
theorem d223_63 : decode b223 63 = .ok ((.iload_n 2), 1) := by decide +kernel
theorem d223_64 : decode b223 64 = .ok ((.aload_n 0), 1) := by decide +kernel
theorem d223_65 : decode b223 65 = .ok ((.getfield 157), 3) := by decide +kernel
theorem d223_68 : decode b223 68 = .ok ((.if_icmp .ge 28), 3) := by decide +kernel
theorem d223_71 : decode b223 71 = .ok ((.aload_n 0), 1) := by decide +kernel
theorem d223_72 : decode b223 72 = .ok ((.getfield 55), 3) := by decide +kernel
theorem d223_75 : decode b223 75 = .ok ((.iload_n 2), 1) := by decide +kernel
theorem d223_76 : decode b223 76 = .ok ((.aload_n 0), 1) := by decide +kernel
theorem d223_77 : decode b223 77 = .ok ((.getfield 17), 3) := by decide +kernel
theorem d223_80 : decode b223 80 = .ok ((.aload_n 0), 1) := by decide +kernel
theorem d223_81 : decode b223 81 = .ok ((.getfield 38), 3) := by decide +kernel
theorem d223_84 : decode b223 84 = .ok ((.iload_n 1), 1) := by decide +kernel
theorem d223_85 : decode b223 85 = .ok (.iaload, 1) := by decide +kernel
theorem d223_86 : decode b223 86 = .ok ((.iload_n 2), 1) := by decide +kernel
theorem d223_87 : decode b223 87 = .ok (.iadd, 1) := by decide +kernel
theorem d223_88 : decode b223 88 = .ok (.iaload, 1) := by decide +kernel
theorem d223_89 : decode b223 89 = .ok (.iastore, 1) := by decide +kernel
theorem d223_90 : decode b223 90 = .ok ((.iinc 2 1), 3) := by decide +kernel
theorem d223_93 : decode b223 93 = .ok ((.goto (-30)), 3) := by decide +kernel
theorem d223_96 : decode b223 96 = .ok (.return_, 1) := by decide +kernel
abbrev b224 : ByteArray := prog_13_method_21_code
theorem d224_0 : decode b224 0 = .ok ((.aload_n 0), 1) := by decide +kernel
theorem d224_1 : decode b224 1 = .ok ((.aload_n 0), 1) := by decide +kernel
theorem d224_2 : decode b224 2 = .ok ((.iload_n 1), 1) := by decide +kernel
theorem d224_3 : decode b224 3 = .ok ((.iconst 0), 1) := by decide +kernel
theorem d224_4 : decode b224 4 = .ok ((.iconst 0), 1) := by decide +kernel
theorem d224_5 : decode b224 5 = .ok ((.invokevirtual 160), 3) := by decide +kernel
theorem d224_8 : decode b224 8 = .ok ((.invokevirtual 164), 3) := by decide +kernel
theorem d224_11 : decode b224 11 = .ok (.return_, 1) := by decide +kernel
abbrev b170 : ByteArray := prog_13_method_16_code
theorem d170_0 : decode b170 0 = .ok ((.aload_n 0), 1) := by decide +kernel
theorem d170_1 : decode b170 1 = .ok ((.getfield 143), 3) := by decide +kernel
theorem d170_4 : decode b170 4 = .ok ((.ifCond .ne 8), 3) := by decide +kernel
theorem d170_7 : decode b170 7 = .ok ((.aload_n 0), 1) := by decide +kernel
theorem d170_8 : decode b170 8 = .ok ((.iload_n 1), 1) := by decide +kernel
theorem d170_9 : decode b170 9 = .ok ((.putfield 143), 3) := by decide +kernel
theorem d170_12 : decode b170 12 = .ok (.return_, 1) := by decide +kernel
abbrev b179 : ByteArray := prog_13_method_22_code
theorem d179_0 : decode b179 0 = .ok ((.iload_n 0), 1) := by decide +kernel
theorem d179_1 : decode b179 1 = .ok ((.bipush 48), 2) := by decide +kernel
theorem d179_3 : decode b179 3 = .ok ((.if_icmp .lt 13), 3) := by decide +kernel
theorem d179_6 : decode b179 6 = .ok ((.iload_n 0), 1) := by decide +kernel
theorem d179_7 : decode b179 7 = .ok ((.bipush 57), 2) := by decide +kernel
theorem d179_9 : decode b179 9 = .ok ((.if_icmp .gt 7), 3) := by decide +kernel
theorem d179_12 : decode b179 12 = .ok ((.iconst 1), 1) := by decide +kernel
theorem d179_13 : decode b179 13 = .ok ((.goto 4), 3) := by decide +kernel
theorem d179_16 : decode b179 16 = .ok ((.iconst 0), 1) := by decide +kernel
theorem d179_17 : decode b179 17 = .ok (.ireturn, 1) := by decide +kernel
abbrev b216 : ByteArray := prog_13_method_23_code
theorem d216_0 : decode b216 0 = .ok ((.aload_n 0), 1) := by decide +kernel
theorem d216_1 : decode b216 1 = .ok ((.getfield 157), 3) := by decide +kernel
theorem d216_4 : decode b216 4 = .ok ((.ifCond .le 18), 3) := by decide +kernel
theorem d216_7 : decode b216 7 = .ok ((.aload_n 0), 1) := by decide +kernel
theorem d216_8 : decode b216 8 = .ok ((.getfield 55), 3) := by decide +kernel
theorem d216_11 : decode b216 11 = .ok ((.iconst 0), 1) := by decide +kernel
theorem d216_12 : decode b216 12 = .ok (.iaload, 1) := by decide +kernel
theorem d216_13 : decode b216 13 = .ok ((.bipush 45), 2) := by decide +kernel
theorem d216_15 : decode b216 15 = .ok ((.if_icmp .ne 7), 3) := by decide +kernel
theorem d216_18 : decode b216 18 = .ok ((.iconst 1), 1) := by decide +kernel
theorem d216_19 : decode b216 19 = .ok ((.goto 4), 3) := by decide +kernel
theorem d216_22 : decode b216 22 = .ok ((.iconst 0), 1) := by decide +kernel
theorem d216_23 : decode b216 23 = .ok ((.istore_n 1), 1) := by decide +kernel
theorem d216_24 : decode b216 24 = .ok ((.iload_n 1), 1) := by decide +kernel
theorem d216_25 : decode b216 25 = .ok ((.istore_n 2), 1) := by decide +kernel
theorem d216_26 : decode b216 26 = .ok ((.lconst 0), 1) := by decide +kernel
theorem d216_27 : decode b216 27 = .ok ((.lstore_n 3), 1) := by decide +kernel
theorem d216_28 : decode b216 28 = .ok ((.iload_n 1), 1) := by decide +kernel
theorem d216_29 : decode b216 29 = .ok ((.aload_n 0), 1) := by decide +kernel
theorem d216_30 : decode b216 30 = .ok ((.getfield 157), 3) := by decide +kernel
theorem d216_33 : decode b216 33 = .ok ((.if_icmp .ge 47), 3) := by decide +kernel
theorem d216_36 : decode b216 36 = .ok ((.aload_n 0), 1) := by decide +kernel
theorem d216_37 : decode b216 37 = .ok ((.getfield 55), 3) := by decide +kernel
theorem d216_40 : decode b216 40 = .ok ((.iload_n 1), 1) := by decide +kernel
theorem d216_41 : decode b216 41 = .ok (.iaload, 1) := by decide +kernel
theorem d216_42 : decode b216 42 = .ok ((.invokestatic 167), 3) := by decide +kernel
theorem d216_45 : decode b216 45 = .ok ((.ifCond .eq 35), 3) := by decide +kernel
theorem d216_48 : decode b216 48 = .ok ((.iload_n 1), 1) := by decide +kernel
theorem d216_49 : decode b216 49 = .ok ((.iload_n 2), 1) := by decide +kernel
theorem d216_50 : decode b216 50 = .ok ((.bipush 10), 2) := by decide +kernel
theorem d216_52 : decode b216 52 = .ok (.iadd, 1) := by decide +kernel
theorem d216_53 : decode b216 53 = .ok ((.if_icmp .ge 27), 3) := by decide +kernel
theorem d216_56 : decode b216 56 = .ok ((.ldc2_w 170), 3) := by decide +kernel
theorem d216_59 : decode b216 59 = .ok ((.lload_n 3), 1) := by decide +kernel
theorem d216_60 : decode b216 60 = .ok (.lmul, 1) := by decide +kernel
theorem d216_61 : decode b216 61 = .ok ((.aload_n 0), 1) := by decide +kernel
theorem d216_62 : decode b216 62 = .ok ((.getfield 55), 3) := by decide +kernel
theorem d216_65 : decode b216 65 = .ok ((.iload_n 1), 1) := by decide +kernel
theorem d216_66 : decode b216 66 = .ok (.iaload, 1) := by decide +kernel
theorem d216_67 : decode b216 67 = .ok (.i2l, 1) := by decide +kernel
theorem d216_68 : decode b216 68 = .ok (.ladd, 1) := by decide +kernel
theorem d216_69 : decode b216 69 = .ok ((.ldc2_w 172), 3) := by decide +kernel
theorem d216_72 : decode b216 72 = .ok (.lsub, 1) := by decide +kernel
theorem d216_73 : decode b216 73 = .ok ((.lstore_n 3), 1) := by decide +kernel
theorem d216_74 : decode b216 74 = .ok ((.iinc 1 1), 3) := by decide +kernel
theorem d216_77 : decode b216 77 = .ok ((.goto (-49)), 3) := by decide +kernel
theorem d216_80 : decode b216 80 = .ok ((.iload_n 1), 1) := by decide +kernel
theorem d216_81 : decode b216 81 = .ok ((.iload_n 2), 1) := by decide +kernel
theorem d216_82 : decode b216 82 = .ok ((.if_icmp .eq 11), 3) := by decide +kernel
theorem d216_85 : decode b216 85 = .ok ((.iload_n 1), 1) := by decide +kernel
theorem d216_86 : decode b216 86 = .ok ((.iload_n 2), 1) := by decide +kernel
theorem d216_87 : decode b216 87 = .ok ((.bipush 10), 2) := by decide +kernel
theorem d216_89 : decode b216 89 = .ok (.iadd, 1) := by decide +kernel
theorem d216_90 : decode b216 90 = .ok ((.if_icmp .ne 5), 3) := by decide +kernel
theorem d216_93 : decode b216 93 = .ok ((.iconst 0), 1) := by decide +kernel
theorem d216_94 : decode b216 94 = .ok (.ireturn, 1) := by decide +kernel
theorem d216_95 : decode b216 95 = .ok ((.lconst 1), 1) := by decide +kernel
theorem d216_96 : decode b216 96 = .ok ((.lstore 5), 2) := by decide +kernel
theorem d216_98 : decode b216 98 = .ok ((.iload_n 1), 1) := by decide +kernel
theorem d216_99 : decode b216 99 = .ok ((.aload_n 0), 1) := by decide +kernel
theorem d216_100 : decode b216 100 = .ok ((.getfield 157), 3) := by decide +kernel
theorem d216_103 : decode b216 103 = .ok ((.if_icmp .ge 96), 3) := by decide +kernel
theorem d216_106 : decode b216 106 = .ok ((.aload_n 0), 1) := by decide +kernel
theorem d216_107 : decode b216 107 = .ok ((.getfield 55), 3) := by decide +kernel
theorem d216_110 : decode b216 110 = .ok ((.iload_n 1), 1) := by decide +kernel
theorem d216_111 : decode b216 111 = .ok (.iaload, 1) := by decide +kernel
theorem d216_112 : decode b216 112 = .ok ((.bipush 46), 2) := by decide +kernel
theorem d216_114 : decode b216 114 = .ok ((.if_icmp .ne 85), 3) := by decide +kernel
theorem d216_117 : decode b216 117 = .ok ((.iinc 1 1), 3) := by decide +kernel
theorem d216_120 : decode b216 120 = .ok ((.iload_n 1), 1) := by decide +kernel
theorem d216_121 : decode b216 121 = .ok ((.aload_n 0), 1) := by decide +kernel
theorem d216_122 : decode b216 122 = .ok ((.getfield 157), 3) := by decide +kernel
theorem d216_125 : decode b216 125 = .ok ((.if_icmp .ge 56), 3) := by decide +kernel
theorem d216_128 : decode b216 128 = .ok ((.aload_n 0), 1) := by decide +kernel
theorem d216_129 : decode b216 129 = .ok ((.getfield 55), 3) := by decide +kernel
theorem d216_132 : decode b216 132 = .ok ((.iload_n 1), 1) := by decide +kernel
theorem d216_133 : decode b216 133 = .ok (.iaload, 1) := by decide +kernel
theorem d216_134 : decode b216 134 = .ok ((.invokestatic 167), 3) := by decide +kernel
theorem d216_137 : decode b216 137 = .ok ((.ifCond .eq 44), 3) := by decide +kernel
theorem d216_140 : decode b216 140 = .ok ((.lload 5), 2) := by decide +kernel
theorem d216_142 : decode b216 142 = .ok ((.ldc2_w 174), 3) := by decide +kernel
theorem d216_145 : decode b216 145 = .ok (.lcmp, 1) := by decide +kernel
theorem d216_146 : decode b216 146 = .ok ((.ifCond .ge 35), 3) := by decide +kernel
theorem d216_149 : decode b216 149 = .ok ((.ldc2_w 170), 3) := by decide +kernel
theorem d216_152 : decode b216 152 = .ok ((.lload_n 3), 1) := by decide +kernel
theorem d216_153 : decode b216 153 = .ok (.lmul, 1) := by decide +kernel
theorem d216_154 : decode b216 154 = .ok ((.aload_n 0), 1) := by decide +kernel
theorem d216_155 : decode b216 155 = .ok ((.getfield 55), 3) := by decide +kernel
theorem d216_158 : decode b216 158 = .ok ((.iload_n 1), 1) := by decide +kernel
theorem d216_159 : decode b216 159 = .ok (.iaload, 1) := by decide +kernel
theorem d216_160 : decode b216 160 = .ok (.i2l, 1) := by decide +kernel
theorem d216_161 : decode b216 161 = .ok (.ladd, 1) := by decide +kernel
theorem d216_162 : decode b216 162 = .ok ((.ldc2_w 172), 3) := by decide +kernel
theorem d216_165 : decode b216 165 = .ok (.lsub, 1) := by decide +kernel
theorem d216_166 : decode b216 166 = .ok ((.lstore_n 3), 1) := by decide +kernel
theorem d216_167 : decode b216 167 = .ok ((.ldc2_w 170), 3) := by decide +kernel
theorem d216_170 : decode b216 170 = .ok ((.lload 5), 2) := by decide +kernel
theorem d216_172 : decode b216 172 = .ok (.lmul, 1) := by decide +kernel
theorem d216_173 : decode b216 173 = .ok ((.lstore 5), 2) := by decide +kernel
theorem d216_175 : decode b216 175 = .ok ((.iinc 1 1), 3) := by decide +kernel
theorem d216_178 : decode b216 178 = .ok ((.goto (-58)), 3) := by decide +kernel
theorem d216_181 : decode b216 181 = .ok ((.lload 5), 2) := by decide +kernel
theorem d216_183 : decode b216 183 = .ok ((.lconst 1), 1) := by decide +kernel
theorem d216_184 : decode b216 184 = .ok (.lcmp, 1) := by decide +kernel
theorem d216_185 : decode b216 185 = .ok ((.ifCond .eq 12), 3) := by decide +kernel
theorem d216_188 : decode b216 188 = .ok ((.lload 5), 2) := by decide +kernel
theorem d216_190 : decode b216 190 = .ok ((.ldc2_w 174), 3) := by decide +kernel
theorem d216_193 : decode b216 193 = .ok (.lcmp, 1) := by decide +kernel
theorem d216_194 : decode b216 194 = .ok ((.ifCond .ne 5), 3) := by decide +kernel
theorem d216_197 : decode b216 197 = .ok ((.iconst 0), 1) := by decide +kernel
theorem d216_198 : decode b216 198 = .ok (.ireturn, 1) := by decide +kernel
theorem d216_199 : decode b216 199 = .ok ((.iload_n 1), 1) := by decide +kernel
theorem d216_200 : decode b216 200 = .ok ((.aload_n 0), 1) := by decide +kernel
theorem d216_201 : decode b216 201 = .ok ((.getfield 157), 3) := by decide +kernel
theorem d216_204 : decode b216 204 = .ok ((.if_icmp .ge 5), 3) := by decide +kernel
theorem d216_207 : decode b216 207 = .ok ((.iconst 0), 1) := by decide +kernel
theorem d216_208 : decode b216 208 = .ok (.ireturn, 1) := by decide +kernel
theorem d216_209 : decode b216 209 = .ok ((.aload_n 0), 1) := by decide +kernel
theorem d216_210 : decode b216 210 = .ok ((.lload_n 3), 1) := by decide +kernel
theorem d216_211 : decode b216 211 = .ok (.l2d, 1) := by decide +kernel
theorem d216_212 : decode b216 212 = .ok ((.lload 5), 2) := by decide +kernel
theorem d216_214 : decode b216 214 = .ok (.l2d, 1) := by decide +kernel
theorem d216_215 : decode b216 215 = .ok (.ddiv, 1) := by decide +kernel
theorem d216_216 : decode b216 216 = .ok ((.putfield 153), 3) := by decide +kernel
theorem d216_219 : decode b216 219 = .ok ((.iload_n 2), 1) := by decide +kernel
theorem d216_220 : decode b216 220 = .ok ((.iconst 1), 1) := by decide +kernel
theorem d216_221 : decode b216 221 = .ok ((.if_icmp .ne 18), 3) := by decide +kernel
theorem d216_224 : decode b216 224 = .ok ((.lload_n 3), 1) := by decide +kernel
theorem d216_225 : decode b216 225 = .ok ((.lconst 0), 1) := by decide +kernel
theorem d216_226 : decode b216 226 = .ok (.lcmp, 1) := by decide +kernel
theorem d216_227 : decode b216 227 = .ok ((.ifCond .le 12), 3) := by decide +kernel
theorem d216_230 : decode b216 230 = .ok ((.aload_n 0), 1) := by decide +kernel
theorem d216_231 : decode b216 231 = .ok ((.aload_n 0), 1) := by decide +kernel
theorem d216_232 : decode b216 232 = .ok ((.getfield 153), 3) := by decide +kernel
theorem d216_235 : decode b216 235 = .ok (.dneg, 1) := by decide +kernel
theorem d216_236 : decode b216 236 = .ok ((.putfield 153), 3) := by decide +kernel
theorem d216_239 : decode b216 239 = .ok ((.iconst 1), 1) := by decide +kernel
theorem d216_240 : decode b216 240 = .ok (.ireturn, 1) := by decide +kernel
abbrev b205 : ByteArray := prog_13_method_24_code
theorem d205_0 : decode b205 0 = .ok ((.aload_n 0), 1) := by decide +kernel
theorem d205_1 : decode b205 1 = .ok ((.getfield 150), 3) := by decide +kernel
theorem d205_4 : decode b205 4 = .ok ((.iconst 4), 1) := by decide +kernel
theorem d205_5 : decode b205 5 = .ok ((.if_icmp .ne 15), 3) := by decide +kernel
theorem d205_8 : decode b205 8 = .ok ((.aload_n 0), 1) := by decide +kernel
theorem d205_9 : decode b205 9 = .ok ((.aload_n 0), 1) := by decide +kernel
theorem d205_10 : decode b205 10 = .ok ((.getfield 153), 3) := by decide +kernel
theorem d205_13 : decode b205 13 = .ok (.d2i, 1) := by decide +kernel
theorem d205_14 : decode b205 14 = .ok ((.invokevirtual 176), 3) := by decide +kernel
theorem d205_17 : decode b205 17 = .ok ((.goto 23), 3) := by decide +kernel
theorem d205_20 : decode b205 20 = .ok ((.aload_n 0), 1) := by decide +kernel
theorem d205_21 : decode b205 21 = .ok ((.getfield 150), 3) := by decide +kernel
theorem d205_24 : decode b205 24 = .ok ((.iconst 2), 1) := by decide +kernel
theorem d205_25 : decode b205 25 = .ok ((.if_icmp .ne 15), 3) := by decide +kernel
theorem d205_28 : decode b205 28 = .ok ((.aload_n 0), 1) := by decide +kernel
theorem d205_29 : decode b205 29 = .ok ((.invokevirtual 179), 3) := by decide +kernel
theorem d205_32 : decode b205 32 = .ok ((.ifCond .ne 8), 3) := by decide +kernel
theorem d205_35 : decode b205 35 = .ok ((.aload_n 0), 1) := by decide +kernel
theorem d205_36 : decode b205 36 = .ok ((.iconst 3), 1) := by decide +kernel
theorem d205_37 : decode b205 37 = .ok ((.invokevirtual 176), 3) := by decide +kernel
theorem d205_40 : decode b205 40 = .ok ((.aload_n 0), 1) := by decide +kernel
theorem d205_41 : decode b205 41 = .ok ((.getfield 143), 3) := by decide +kernel
theorem d205_44 : decode b205 44 = .ok ((.ifCond .ne 10), 3) := by decide +kernel
theorem d205_47 : decode b205 47 = .ok ((.aload_n 0), 1) := by decide +kernel
theorem d205_48 : decode b205 48 = .ok ((.getfield 153), 3) := by decide +kernel
theorem d205_51 : decode b205 51 = .ok ((.goto 4), 3) := by decide +kernel
theorem d205_54 : decode b205 54 = .ok ((.dconst 0), 1) := by decide +kernel
theorem d205_55 : decode b205 55 = .ok (.dreturn, 1) := by decide +kernel
abbrev b204 : ByteArray := prog_13_method_25_code
theorem d204_0 : decode b204 0 = .ok ((.aload_n 0), 1) := by decide +kernel
theorem d204_1 : decode b204 1 = .ok ((.iload_n 1), 1) := by decide +kernel
theorem d204_2 : decode b204 2 = .ok ((.invokevirtual 183), 3) := by decide +kernel
theorem d204_5 : decode b204 5 = .ok ((.aload_n 0), 1) := by decide +kernel
theorem d204_6 : decode b204 6 = .ok ((.invokevirtual 186), 3) := by decide +kernel
theorem d204_9 : decode b204 9 = .ok (.dreturn, 1) := by decide +kernel
abbrev b156 : ByteArray := prog_13_method_27_code
theorem d156_0 : decode b156 0 = .ok ((.dload_n 0), 1) := by decide +kernel
theorem d156_1 : decode b156 1 = .ok ((.invokestatic 190), 3) := by decide +kernel
theorem d156_4 : decode b156 4 = .ok ((.ldc2_w 193), 3) := by decide +kernel
theorem d156_7 : decode b156 7 = .ok ((.dcmp .g), 1) := by decide +kernel
theorem d156_8 : decode b156 8 = .ok ((.ifCond .ge 9), 3) := by decide +kernel
theorem d156_11 : decode b156 11 = .ok ((.dload_n 0), 1) := by decide +kernel
theorem d156_12 : decode b156 12 = .ok (.d2l, 1) := by decide +kernel
theorem d156_13 : decode b156 13 = .ok (.l2d, 1) := by decide +kernel
theorem d156_14 : decode b156 14 = .ok ((.goto 4), 3) := by decide +kernel
theorem d156_17 : decode b156 17 = .ok ((.dload_n 0), 1) := by decide +kernel
theorem d156_18 : decode b156 18 = .ok (.dreturn, 1) := by decide +kernel
abbrev b241 : ByteArray := prog_13_method_28_code
theorem d241_0 : decode b241 0 = .ok ((.aload_n 0), 1) := by decide +kernel
theorem d241_1 : decode b241 1 = .ok ((.iload_n 1), 1) := by decide +kernel
theorem d241_2 : decode b241 2 = .ok ((.invokevirtual 195), 3) := by decide +kernel
theorem d241_5 : decode b241 5 = .ok ((.invokestatic 198), 3) := by decide +kernel
theorem d241_8 : decode b241 8 = .ok ((.dstore_n 2), 1) := by decide +kernel
theorem d241_9 : decode b241 9 = .ok ((.dload_n 2), 1) := by decide +kernel
theorem d241_10 : decode b241 10 = .ok ((.invokestatic 190), 3) := by decide +kernel
theorem d241_13 : decode b241 13 = .ok ((.ldc2_w 201), 3) := by decide +kernel
theorem d241_16 : decode b241 16 = .ok ((.dcmp .l), 1) := by decide +kernel
theorem d241_17 : decode b241 17 = .ok ((.ifCond .le 11), 3) := by decide +kernel
theorem d241_20 : decode b241 20 = .ok ((.aload_n 0), 1) := by decide +kernel
theorem d241_21 : decode b241 21 = .ok ((.bipush 6), 2) := by decide +kernel
theorem d241_23 : decode b241 23 = .ok ((.invokevirtual 176), 3) := by decide +kernel
theorem d241_26 : decode b241 26 = .ok ((.iconst 0), 1) := by decide +kernel
theorem d241_27 : decode b241 27 = .ok (.ireturn, 1) := by decide +kernel
theorem d241_28 : decode b241 28 = .ok ((.dload_n 2), 1) := by decide +kernel
theorem d241_29 : decode b241 29 = .ok (.d2i, 1) := by decide +kernel
theorem d241_30 : decode b241 30 = .ok (.ireturn, 1) := by decide +kernel
abbrev b181 : ByteArray := prog_13_method_14_code
theorem d181_0 : decode b181 0 = .ok ((.iload_n 1), 1) := by decide +kernel
theorem d181_1 : decode b181 1 = .ok ((.aload_n 0), 1) := by decide +kernel
theorem d181_2 : decode b181 2 = .ok ((.getfield 123), 3) := by decide +kernel
theorem d181_5 : decode b181 5 = .ok ((.if_icmp .ge 7), 3) := by decide +kernel
theorem d181_8 : decode b181 8 = .ok ((.iconst 1), 1) := by decide +kernel
theorem d181_9 : decode b181 9 = .ok ((.goto 4), 3) := by decide +kernel
theorem d181_12 : decode b181 12 = .ok ((.iconst 0), 1) := by decide +kernel
theorem d181_13 : decode b181 13 = .ok (.ireturn, 1) := by decide +kernel
abbrev b242 : ByteArray := prog_13_method_29_code
theorem d242_0 : decode b242 0 = .ok ((.aload_n 0), 1) := by decide +kernel
theorem d242_1 : decode b242 1 = .ok ((.iload_n 1), 1) := by decide +kernel
theorem d242_2 : decode b242 2 = .ok ((.invokevirtual 203), 3) := by decide +kernel
theorem d242_5 : decode b242 5 = .ok ((.ifCond .eq 19), 3) := by decide +kernel
theorem d242_8 : decode b242 8 = .ok ((.aload_n 0), 1) := by decide +kernel
theorem d242_9 : decode b242 9 = .ok ((.iload_n 1), 1) := by decide +kernel
theorem d242_10 : decode b242 10 = .ok ((.invokevirtual 146), 3) := by decide +kernel
theorem d242_13 : decode b242 13 = .ok ((.ifCond .ne 11), 3) := by decide +kernel
theorem d242_16 : decode b242 16 = .ok ((.aload_n 0), 1) := by decide +kernel
theorem d242_17 : decode b242 17 = .ok ((.iload_n 1), 1) := by decide +kernel
theorem d242_18 : decode b242 18 = .ok ((.invokevirtual 206), 3) := by decide +kernel
theorem d242_21 : decode b242 21 = .ok ((.goto 4), 3) := by decide +kernel
theorem d242_24 : decode b242 24 = .ok ((.iload_n 2), 1) := by decide +kernel
theorem d242_25 : decode b242 25 = .ok (.ireturn, 1) := by decide +kernel
abbrev b234 : ByteArray := prog_13_method_30_code
theorem d234_0 : decode b234 0 = .ok ((.aload_n 0), 1) := by decide +kernel
theorem d234_1 : decode b234 1 = .ok ((.iload_n 1), 1) := by decide +kernel
theorem d234_2 : decode b234 2 = .ok ((.invokevirtual 195), 3) := by decide +kernel
theorem d234_5 : decode b234 5 = .ok ((.dconst 0), 1) := by decide +kernel
theorem d234_6 : decode b234 6 = .ok ((.dcmp .l), 1) := by decide +kernel
theorem d234_7 : decode b234 7 = .ok ((.ifCond .eq 7), 3) := by decide +kernel
theorem d234_10 : decode b234 10 = .ok ((.iconst 1), 1) := by decide +kernel
theorem d234_11 : decode b234 11 = .ok ((.goto 4), 3) := by decide +kernel
theorem d234_14 : decode b234 14 = .ok ((.iconst 0), 1) := by decide +kernel
theorem d234_15 : decode b234 15 = .ok (.ireturn, 1) := by decide +kernel
abbrev b235 : ByteArray := prog_13_method_31_code
theorem d235_0 : decode b235 0 = .ok ((.aload_n 0), 1) := by decide +kernel
theorem d235_1 : decode b235 1 = .ok ((.iload_n 1), 1) := by decide +kernel
theorem d235_2 : decode b235 2 = .ok ((.invokevirtual 203), 3) := by decide +kernel
theorem d235_5 : decode b235 5 = .ok ((.ifCond .eq 19), 3) := by decide +kernel
theorem d235_8 : decode b235 8 = .ok ((.aload_n 0), 1) := by decide +kernel
theorem d235_9 : decode b235 9 = .ok ((.iload_n 1), 1) := by decide +kernel
theorem d235_10 : decode b235 10 = .ok ((.invokevirtual 146), 3) := by decide +kernel
theorem d235_13 : decode b235 13 = .ok ((.ifCond .ne 11), 3) := by decide +kernel
theorem d235_16 : decode b235 16 = .ok ((.aload_n 0), 1) := by decide +kernel
theorem d235_17 : decode b235 17 = .ok ((.iload_n 1), 1) := by decide +kernel
theorem d235_18 : decode b235 18 = .ok ((.invokevirtual 209), 3) := by decide +kernel
theorem d235_21 : decode b235 21 = .ok ((.goto 4), 3) := by decide +kernel
theorem d235_24 : decode b235 24 = .ok ((.iload_n 2), 1) := by decide +kernel
theorem d235_25 : decode b235 25 = .ok (.ireturn, 1) := by decide +kernel
abbrev b246 : ByteArray := prog_13_method_34_code
theorem d246_0 : decode b246 0 = .ok ((.aload_n 0), 1) := by decide +kernel
theorem d246_1 : decode b246 1 = .ok ((.getfield 157), 3) := by decide +kernel
theorem d246_4 : decode b246 4 = .ok ((.sipush 255), 3) := by decide +kernel
theorem d246_7 : decode b246 7 = .ok ((.if_icmp .ne 4), 3) := by decide +kernel
theorem d246_10 : decode b246 10 = .ok (.return_, 1) := by decide +kernel
theorem d246_11 : decode b246 11 = .ok ((.aload_n 0), 1) := by decide +kernel
theorem d246_12 : decode b246 12 = .ok ((.getfield 55), 3) := by decide +kernel
theorem d246_15 : decode b246 15 = .ok ((.aload_n 0), 1) := by decide +kernel
theorem d246_16 : decode b246 16 = .ok ((.getfield 157), 3) := by decide +kernel
theorem d246_19 : decode b246 19 = .ok ((.iload_n 1), 1) := by decide +kernel
theorem d246_20 : decode b246 20 = .ok (.iastore, 1) := by decide +kernel
theorem d246_21 : decode b246 21 = .ok ((.aload_n 0), 1) := by decide +kernel
theorem d246_22 : decode b246 22 = .ok (.dup, 1) := by decide +kernel
theorem d246_23 : decode b246 23 = .ok ((.getfield 157), 3) := by decide +kernel
theorem d246_26 : decode b246 26 = .ok ((.iconst 1), 1) := by decide +kernel
theorem d246_27 : decode b246 27 = .ok (.iadd, 1) := by decide +kernel
theorem d246_28 : decode b246 28 = .ok ((.putfield 157), 3) := by decide +kernel
theorem d246_31 : decode b246 31 = .ok (.return_, 1) := by decide +kernel
abbrev b248 : ByteArray := prog_13_method_36_code
theorem d248_0 : decode b248 0 = .ok ((.bipush 56), 2) := by decide +kernel
theorem d248_2 : decode b248 2 = .ok ((.istore_n 3), 1) := by decide +kernel
theorem d248_3 : decode b248 3 = .ok ((.iload_n 3), 1) := by decide +kernel
theorem d248_4 : decode b248 4 = .ok ((.ifCond .lt 33), 3) := by decide +kernel
theorem d248_7 : decode b248 7 = .ok ((.lload_n 1), 1) := by decide +kernel
theorem d248_8 : decode b248 8 = .ok ((.iload_n 3), 1) := by decide +kernel
theorem d248_9 : decode b248 9 = .ok (.lshr, 1) := by decide +kernel
theorem d248_10 : decode b248 10 = .ok ((.ldc2_w 217), 3) := by decide +kernel
theorem d248_13 : decode b248 13 = .ok (.land, 1) := by decide +kernel
theorem d248_14 : decode b248 14 = .ok ((.lconst 0), 1) := by decide +kernel
theorem d248_15 : decode b248 15 = .ok (.lcmp, 1) := by decide +kernel
theorem d248_16 : decode b248 16 = .ok ((.ifCond .eq 15), 3) := by decide +kernel
theorem d248_19 : decode b248 19 = .ok ((.aload_n 0), 1) := by decide +kernel
theorem d248_20 : decode b248 20 = .ok ((.lload_n 1), 1) := by decide +kernel
theorem d248_21 : decode b248 21 = .ok ((.iload_n 3), 1) := by decide +kernel
theorem d248_22 : decode b248 22 = .ok (.lshr, 1) := by decide +kernel
theorem d248_23 : decode b248 23 = .ok ((.ldc2_w 217), 3) := by decide +kernel
theorem d248_26 : decode b248 26 = .ok (.land, 1) := by decide +kernel
theorem d248_27 : decode b248 27 = .ok (.l2i, 1) := by decide +kernel
theorem d248_28 : decode b248 28 = .ok ((.invokevirtual 214), 3) := by decide +kernel
theorem d248_31 : decode b248 31 = .ok ((.iinc 3 (-8)), 3) := by decide +kernel
theorem d248_34 : decode b248 34 = .ok ((.goto (-31)), 3) := by decide +kernel
theorem d248_37 : decode b248 37 = .ok (.return_, 1) := by decide +kernel
abbrev b247 : ByteArray := prog_13_method_35_code
theorem d247_0 : decode b247 0 = .ok ((.lconst 1), 1) := by decide +kernel
theorem d247_1 : decode b247 1 = .ok ((.lstore_n 3), 1) := by decide +kernel
theorem d247_2 : decode b247 2 = .ok ((.lload_n 1), 1) := by decide +kernel
theorem d247_3 : decode b247 3 = .ok ((.lload_n 3), 1) := by decide +kernel
theorem d247_4 : decode b247 4 = .ok (.ldiv, 1) := by decide +kernel
theorem d247_5 : decode b247 5 = .ok ((.ldc2_w 212), 3) := by decide +kernel
theorem d247_8 : decode b247 8 = .ok (.lcmp, 1) := by decide +kernel
theorem d247_9 : decode b247 9 = .ok ((.ifCond .le 12), 3) := by decide +kernel
theorem d247_12 : decode b247 12 = .ok ((.ldc2_w 170), 3) := by decide +kernel
theorem d247_15 : decode b247 15 = .ok ((.lload_n 3), 1) := by decide +kernel
theorem d247_16 : decode b247 16 = .ok (.lmul, 1) := by decide +kernel
theorem d247_17 : decode b247 17 = .ok ((.lstore_n 3), 1) := by decide +kernel
theorem d247_18 : decode b247 18 = .ok ((.goto (-16)), 3) := by decide +kernel
theorem d247_21 : decode b247 21 = .ok ((.lload_n 3), 1) := by decide +kernel
theorem d247_22 : decode b247 22 = .ok ((.lconst 0), 1) := by decide +kernel
theorem d247_23 : decode b247 23 = .ok (.lcmp, 1) := by decide +kernel
theorem d247_24 : decode b247 24 = .ok ((.ifCond .le 28), 3) := by decide +kernel
theorem d247_27 : decode b247 27 = .ok ((.aload_n 0), 1) := by decide +kernel
theorem d247_28 : decode b247 28 = .ok ((.ldc2_w 172), 3) := by decide +kernel
theorem d247_31 : decode b247 31 = .ok ((.lload_n 1), 1) := by decide +kernel
theorem d247_32 : decode b247 32 = .ok ((.lload_n 3), 1) := by decide +kernel
theorem d247_33 : decode b247 33 = .ok (.ldiv, 1) := by decide +kernel
theorem d247_34 : decode b247 34 = .ok ((.ldc2_w 170), 3) := by decide +kernel
theorem d247_37 : decode b247 37 = .ok (.lrem, 1) := by decide +kernel
theorem d247_38 : decode b247 38 = .ok (.ladd, 1) := by decide +kernel
theorem d247_39 : decode b247 39 = .ok (.l2i, 1) := by decide +kernel
theorem d247_40 : decode b247 40 = .ok ((.invokevirtual 214), 3) := by decide +kernel
theorem d247_43 : decode b247 43 = .ok ((.lload_n 3), 1) := by decide +kernel
theorem d247_44 : decode b247 44 = .ok ((.ldc2_w 170), 3) := by decide +kernel
theorem d247_47 : decode b247 47 = .ok (.ldiv, 1) := by decide +kernel
theorem d247_48 : decode b247 48 = .ok ((.lstore_n 3), 1) := by decide +kernel
theorem d247_49 : decode b247 49 = .ok ((.goto (-28)), 3) := by decide +kernel
theorem d247_52 : decode b247 52 = .ok (.return_, 1) := by decide +kernel
abbrev b227 : ByteArray := prog_13_method_37_code
theorem d227_0 : decode b227 0 = .ok ((.aload_n 0), 1) := by decide +kernel
theorem d227_1 : decode b227 1 = .ok ((.getfield 150), 3) := by decide +kernel
theorem d227_4 : decode b227 4 = .ok ((.iconst 4), 1) := by decide +kernel
theorem d227_5 : decode b227 5 = .ok ((.if_icmp .ne 12), 3) := by decide +kernel
theorem d227_8 : decode b227 8 = .ok ((.aload_n 0), 1) := by decide +kernel
theorem d227_9 : decode b227 9 = .ok ((.aload_n 0), 1) := by decide +kernel
theorem d227_10 : decode b227 10 = .ok ((.getfield 153), 3) := by decide +kernel
theorem d227_13 : decode b227 13 = .ok (.d2i, 1) := by decide +kernel
theorem d227_14 : decode b227 14 = .ok ((.invokevirtual 176), 3) := by decide +kernel
theorem d227_17 : decode b227 17 = .ok ((.aload_n 0), 1) := by decide +kernel
theorem d227_18 : decode b227 18 = .ok ((.getfield 150), 3) := by decide +kernel
theorem d227_21 : decode b227 21 = .ok ((.iconst 3), 1) := by decide +kernel
theorem d227_22 : decode b227 22 = .ok ((.if_icmp .ne 25), 3) := by decide +kernel
theorem d227_25 : decode b227 25 = .ok ((.aload_n 0), 1) := by decide +kernel
theorem d227_26 : decode b227 26 = .ok ((.aload_n 0), 1) := by decide +kernel
theorem d227_27 : decode b227 27 = .ok ((.getfield 153), 3) := by decide +kernel
theorem d227_30 : decode b227 30 = .ok ((.dconst 0), 1) := by decide +kernel
theorem d227_31 : decode b227 31 = .ok ((.dcmp .l), 1) := by decide +kernel
theorem d227_32 : decode b227 32 = .ok ((.ifCond .ne 9), 3) := by decide +kernel
theorem d227_35 : decode b227 35 = .ok ((.ldc2_w 219), 3) := by decide +kernel
theorem d227_38 : decode b227 38 = .ok ((.goto 6), 3) := by decide +kernel
theorem d227_41 : decode b227 41 = .ok ((.ldc2_w 221), 3) := by decide +kernel
theorem d227_44 : decode b227 44 = .ok ((.invokevirtual 223), 3) := by decide +kernel
theorem d227_47 : decode b227 47 = .ok ((.aload_n 0), 1) := by decide +kernel
theorem d227_48 : decode b227 48 = .ok ((.getfield 150), 3) := by decide +kernel
theorem d227_51 : decode b227 51 = .ok ((.iconst 1), 1) := by decide +kernel
theorem d227_52 : decode b227 52 = .ok ((.if_icmp .eq 4), 3) := by decide +kernel
theorem d227_55 : decode b227 55 = .ok (.return_, 1) := by decide +kernel
theorem d227_56 : decode b227 56 = .ok ((.aload_n 0), 1) := by decide +kernel
theorem d227_57 : decode b227 57 = .ok ((.getfield 153), 3) := by decide +kernel
theorem d227_60 : decode b227 60 = .ok ((.invokestatic 190), 3) := by decide +kernel
theorem d227_63 : decode b227 63 = .ok ((.ldc2_w 227), 3) := by decide +kernel
theorem d227_66 : decode b227 66 = .ok ((.dcmp .l), 1) := by decide +kernel
theorem d227_67 : decode b227 67 = .ok ((.ifCond .lt 9), 3) := by decide +kernel
theorem d227_70 : decode b227 70 = .ok ((.aload_n 0), 1) := by decide +kernel
theorem d227_71 : decode b227 71 = .ok ((.iconst 3), 1) := by decide +kernel
theorem d227_72 : decode b227 72 = .ok ((.invokevirtual 176), 3) := by decide +kernel
theorem d227_75 : decode b227 75 = .ok (.return_, 1) := by decide +kernel
theorem d227_76 : decode b227 76 = .ok ((.aload_n 0), 1) := by decide +kernel
theorem d227_77 : decode b227 77 = .ok ((.getfield 153), 3) := by decide +kernel
theorem d227_80 : decode b227 80 = .ok ((.invokestatic 190), 3) := by decide +kernel
theorem d227_83 : decode b227 83 = .ok ((.ldc2_w 229), 3) := by decide +kernel
theorem d227_86 : decode b227 86 = .ok (.dmul, 1) := by decide +kernel
theorem d227_87 : decode b227 87 = .ok ((.ldc2_w 231), 3) := by decide +kernel
theorem d227_90 : decode b227 90 = .ok (.dadd, 1) := by decide +kernel
theorem d227_91 : decode b227 91 = .ok (.d2l, 1) := by decide +kernel
theorem d227_92 : decode b227 92 = .ok ((.lstore_n 1), 1) := by decide +kernel
theorem d227_93 : decode b227 93 = .ok ((.aload_n 0), 1) := by decide +kernel
theorem d227_94 : decode b227 94 = .ok ((.getfield 153), 3) := by decide +kernel
theorem d227_97 : decode b227 97 = .ok ((.dconst 0), 1) := by decide +kernel
theorem d227_98 : decode b227 98 = .ok ((.dcmp .g), 1) := by decide +kernel
theorem d227_99 : decode b227 99 = .ok ((.ifCond .ge 15), 3) := by decide +kernel
theorem d227_102 : decode b227 102 = .ok ((.lload_n 1), 1) := by decide +kernel
theorem d227_103 : decode b227 103 = .ok ((.lconst 0), 1) := by decide +kernel
theorem d227_104 : decode b227 104 = .ok (.lcmp, 1) := by decide +kernel
theorem d227_105 : decode b227 105 = .ok ((.ifCond .le 9), 3) := by decide +kernel
theorem d227_108 : decode b227 108 = .ok ((.aload_n 0), 1) := by decide +kernel
theorem d227_109 : decode b227 109 = .ok ((.bipush 45), 2) := by decide +kernel
theorem d227_111 : decode b227 111 = .ok ((.invokevirtual 214), 3) := by decide +kernel
theorem d227_114 : decode b227 114 = .ok ((.aload_n 0), 1) := by decide +kernel
theorem d227_115 : decode b227 115 = .ok ((.lload_n 1), 1) := by decide +kernel
theorem d227_116 : decode b227 116 = .ok ((.ldc2_w 233), 3) := by decide +kernel
theorem d227_119 : decode b227 119 = .ok (.ldiv, 1) := by decide +kernel
theorem d227_120 : decode b227 120 = .ok ((.invokevirtual 235), 3) := by decide +kernel
theorem d227_123 : decode b227 123 = .ok ((.lload_n 1), 1) := by decide +kernel
theorem d227_124 : decode b227 124 = .ok ((.ldc2_w 233), 3) := by decide +kernel
theorem d227_127 : decode b227 127 = .ok (.lrem, 1) := by decide +kernel
theorem d227_128 : decode b227 128 = .ok ((.lstore_n 3), 1) := by decide +kernel
theorem d227_129 : decode b227 129 = .ok ((.lload_n 3), 1) := by decide +kernel
theorem d227_130 : decode b227 130 = .ok ((.lconst 0), 1) := by decide +kernel
theorem d227_131 : decode b227 131 = .ok (.lcmp, 1) := by decide +kernel
theorem d227_132 : decode b227 132 = .ok ((.ifCond .le 9), 3) := by decide +kernel
theorem d227_135 : decode b227 135 = .ok ((.aload_n 0), 1) := by decide +kernel
theorem d227_136 : decode b227 136 = .ok ((.bipush 46), 2) := by decide +kernel
theorem d227_138 : decode b227 138 = .ok ((.invokevirtual 214), 3) := by decide +kernel
theorem d227_141 : decode b227 141 = .ok ((.ldc2_w 238), 3) := by decide +kernel
theorem d227_144 : decode b227 144 = .ok ((.lstore 5), 2) := by decide +kernel
theorem d227_146 : decode b227 146 = .ok ((.lload_n 3), 1) := by decide +kernel
theorem d227_147 : decode b227 147 = .ok ((.lconst 0), 1) := by decide +kernel
theorem d227_148 : decode b227 148 = .ok (.lcmp, 1) := by decide +kernel
theorem d227_149 : decode b227 149 = .ok ((.ifCond .le 32), 3) := by decide +kernel
theorem d227_152 : decode b227 152 = .ok ((.aload_n 0), 1) := by decide +kernel
theorem d227_153 : decode b227 153 = .ok ((.ldc2_w 172), 3) := by decide +kernel
theorem d227_156 : decode b227 156 = .ok ((.lload_n 3), 1) := by decide +kernel
theorem d227_157 : decode b227 157 = .ok ((.lload 5), 2) := by decide +kernel
theorem d227_159 : decode b227 159 = .ok (.ldiv, 1) := by decide +kernel
theorem d227_160 : decode b227 160 = .ok (.ladd, 1) := by decide +kernel
theorem d227_161 : decode b227 161 = .ok (.l2i, 1) := by decide +kernel
theorem d227_162 : decode b227 162 = .ok ((.invokevirtual 214), 3) := by decide +kernel
theorem d227_165 : decode b227 165 = .ok ((.lload_n 3), 1) := by decide +kernel
theorem d227_166 : decode b227 166 = .ok ((.lload 5), 2) := by decide +kernel
theorem d227_168 : decode b227 168 = .ok (.lrem, 1) := by decide +kernel
theorem d227_169 : decode b227 169 = .ok ((.lstore_n 3), 1) := by decide +kernel
theorem d227_170 : decode b227 170 = .ok ((.lload 5), 2) := by decide +kernel
theorem d227_172 : decode b227 172 = .ok ((.ldc2_w 170), 3) := by decide +kernel
theorem d227_175 : decode b227 175 = .ok (.ldiv, 1) := by decide +kernel
theorem d227_176 : decode b227 176 = .ok ((.lstore 5), 2) := by decide +kernel
theorem d227_178 : decode b227 178 = .ok ((.goto (-32)), 3) := by decide +kernel
theorem d227_181 : decode b227 181 = .ok (.return_, 1) := by decide +kernel
abbrev b226 : ByteArray := prog_13_method_38_code
theorem d226_0 : decode b226 0 = .ok ((.aload_n 0), 1) := by decide +kernel
theorem d226_1 : decode b226 1 = .ok ((.iload_n 1), 1) := by decide +kernel
theorem d226_2 : decode b226 2 = .ok ((.invokevirtual 183), 3) := by decide +kernel
theorem d226_5 : decode b226 5 = .ok ((.aload_n 0), 1) := by decide +kernel
theorem d226_6 : decode b226 6 = .ok ((.invokevirtual 240), 3) := by decide +kernel
theorem d226_9 : decode b226 9 = .ok (.return_, 1) := by decide +kernel
abbrev b178 : ByteArray := prog_13_method_6_code
theorem d178_0 : decode b178 0 = .ok ((.iload_n 0), 1) := by decide +kernel
theorem d178_1 : decode b178 1 = .ok ((.iconst 1), 1) := by decide +kernel
theorem d178_2 : decode b178 2 = .ok ((.if_icmp .lt 25), 3) := by decide +kernel
theorem d178_5 : decode b178 5 = .ok ((.iload_n 0), 1) := by decide +kernel
theorem d178_6 : decode b178 6 = .ok ((.ldc 115), 2) := by decide +kernel
theorem d178_8 : decode b178 8 = .ok ((.if_icmp .gt 19), 3) := by decide +kernel
theorem d178_11 : decode b178 11 = .ok ((.iload_n 1), 1) := by decide +kernel
theorem d178_12 : decode b178 12 = .ok ((.iconst 1), 1) := by decide +kernel
theorem d178_13 : decode b178 13 = .ok ((.if_icmp .lt 14), 3) := by decide +kernel
theorem d178_16 : decode b178 16 = .ok ((.iload_n 1), 1) := by decide +kernel
theorem d178_17 : decode b178 17 = .ok ((.sipush 16384), 3) := by decide +kernel
theorem d178_20 : decode b178 20 = .ok ((.if_icmp .gt 7), 3) := by decide +kernel
theorem d178_23 : decode b178 23 = .ok ((.iconst 1), 1) := by decide +kernel
theorem d178_24 : decode b178 24 = .ok ((.goto 4), 3) := by decide +kernel
theorem d178_27 : decode b178 27 = .ok ((.iconst 0), 1) := by decide +kernel
theorem d178_28 : decode b178 28 = .ok (.ireturn, 1) := by decide +kernel
abbrev b195 : ByteArray := prog_13_method_41_code
theorem d195_0 : decode b195 0 = .ok ((.aload_n 0), 1) := by decide +kernel
theorem d195_1 : decode b195 1 = .ok ((.aload_n 0), 1) := by decide +kernel
theorem d195_2 : decode b195 2 = .ok ((.getfield 249), 3) := by decide +kernel
theorem d195_5 : decode b195 5 = .ok ((.ifCond .ne 13), 3) := by decide +kernel
theorem d195_8 : decode b195 8 = .ok ((.aload_n 0), 1) := by decide +kernel
theorem d195_9 : decode b195 9 = .ok ((.getfield 253), 3) := by decide +kernel
theorem d195_12 : decode b195 12 = .ok ((.sipush 255), 3) := by decide +kernel
theorem d195_15 : decode b195 15 = .ok ((.if_icmp .ne 7), 3) := by decide +kernel
theorem d195_18 : decode b195 18 = .ok ((.iconst 1), 1) := by decide +kernel
theorem d195_19 : decode b195 19 = .ok ((.goto 4), 3) := by decide +kernel
theorem d195_22 : decode b195 22 = .ok ((.iconst 0), 1) := by decide +kernel
theorem d195_23 : decode b195 23 = .ok ((.putfield 249), 3) := by decide +kernel
theorem d195_26 : decode b195 26 = .ok ((.aload_n 0), 1) := by decide +kernel
theorem d195_27 : decode b195 27 = .ok ((.getfield 249), 3) := by decide +kernel
theorem d195_30 : decode b195 30 = .ok ((.ifCond .eq 4), 3) := by decide +kernel
theorem d195_33 : decode b195 33 = .ok (.return_, 1) := by decide +kernel
theorem d195_34 : decode b195 34 = .ok ((.aload_n 0), 1) := by decide +kernel
theorem d195_35 : decode b195 35 = .ok ((.getfield 64), 3) := by decide +kernel
theorem d195_38 : decode b195 38 = .ok ((.aload_n 0), 1) := by decide +kernel
theorem d195_39 : decode b195 39 = .ok ((.getfield 253), 3) := by decide +kernel
theorem d195_42 : decode b195 42 = .ok ((.iload_n 1), 1) := by decide +kernel
theorem d195_43 : decode b195 43 = .ok (.iastore, 1) := by decide +kernel
theorem d195_44 : decode b195 44 = .ok ((.aload_n 0), 1) := by decide +kernel
theorem d195_45 : decode b195 45 = .ok (.dup, 1) := by decide +kernel
theorem d195_46 : decode b195 46 = .ok ((.getfield 253), 3) := by decide +kernel
theorem d195_49 : decode b195 49 = .ok ((.iconst 1), 1) := by decide +kernel
theorem d195_50 : decode b195 50 = .ok (.iadd, 1) := by decide +kernel
theorem d195_51 : decode b195 51 = .ok ((.putfield 253), 3) := by decide +kernel
theorem d195_54 : decode b195 54 = .ok (.return_, 1) := by decide +kernel
abbrev b197 : ByteArray := prog_13_method_42_code
theorem d197_0 : decode b197 0 = .ok ((.iload_n 2), 1) := by decide +kernel
theorem d197_1 : decode b197 1 = .ok ((.istore 4), 2) := by decide +kernel
theorem d197_3 : decode b197 3 = .ok ((.iload 4), 2) := by decide +kernel
theorem d197_5 : decode b197 5 = .ok ((.iload_n 3), 1) := by decide +kernel
theorem d197_6 : decode b197 6 = .ok ((.if_icmp .ge 17), 3) := by decide +kernel
theorem d197_9 : decode b197 9 = .ok ((.aload_n 0), 1) := by decide +kernel
theorem d197_10 : decode b197 10 = .ok ((.aload_n 1), 1) := by decide +kernel
theorem d197_11 : decode b197 11 = .ok ((.iload 4), 2) := by decide +kernel
theorem d197_13 : decode b197 13 = .ok (.iaload, 1) := by decide +kernel
theorem d197_14 : decode b197 14 = .ok ((.invokevirtual 256), 3) := by decide +kernel
theorem d197_17 : decode b197 17 = .ok ((.iinc 4 1), 3) := by decide +kernel
theorem d197_20 : decode b197 20 = .ok ((.goto (-17)), 3) := by decide +kernel
theorem d197_23 : decode b197 23 = .ok (.return_, 1) := by decide +kernel
abbrev b153 : ByteArray := prog_13_method_76_code
theorem d153_0 : decode b153 0 = .ok ((.iload_n 1), 1) := by decide +kernel
theorem d153_1 : decode b153 1 = .ok ((.sipush 702), 3) := by decide +kernel
theorem d153_4 : decode b153 4 = .ok ((.if_icmp .le 19), 3) := by decide +kernel
theorem d153_7 : decode b153 7 = .ok ((.aload_n 0), 1) := by decide +kernel
theorem d153_8 : decode b153 8 = .ok ((.bipush 65), 2) := by decide +kernel
theorem d153_10 : decode b153 10 = .ok ((.iload_n 1), 1) := by decide +kernel
theorem d153_11 : decode b153 11 = .ok ((.sipush 703), 3) := by decide +kernel
theorem d153_14 : decode b153 14 = .ok (.isub, 1) := by decide +kernel
theorem d153_15 : decode b153 15 = .ok ((.sipush 676), 3) := by decide +kernel
theorem d153_18 : decode b153 18 = .ok (.idiv, 1) := by decide +kernel
theorem d153_19 : decode b153 19 = .ok (.iadd, 1) := by decide +kernel
theorem d153_20 : decode b153 20 = .ok ((.invokevirtual 256), 3) := by decide +kernel
theorem d153_23 : decode b153 23 = .ok ((.iload_n 1), 1) := by decide +kernel
theorem d153_24 : decode b153 24 = .ok ((.bipush 26), 2) := by decide +kernel
theorem d153_26 : decode b153 26 = .ok ((.if_icmp .le 20), 3) := by decide +kernel
theorem d153_29 : decode b153 29 = .ok ((.aload_n 0), 1) := by decide +kernel
theorem d153_30 : decode b153 30 = .ok ((.bipush 65), 2) := by decide +kernel
theorem d153_32 : decode b153 32 = .ok ((.iload_n 1), 1) := by decide +kernel
theorem d153_33 : decode b153 33 = .ok ((.bipush 27), 2) := by decide +kernel
theorem d153_35 : decode b153 35 = .ok (.isub, 1) := by decide +kernel
theorem d153_36 : decode b153 36 = .ok ((.bipush 26), 2) := by decide +kernel
theorem d153_38 : decode b153 38 = .ok (.idiv, 1) := by decide +kernel
theorem d153_39 : decode b153 39 = .ok ((.bipush 26), 2) := by decide +kernel
theorem d153_41 : decode b153 41 = .ok (.irem, 1) := by decide +kernel
theorem d153_42 : decode b153 42 = .ok (.iadd, 1) := by decide +kernel
theorem d153_43 : decode b153 43 = .ok ((.invokevirtual 256), 3) := by decide +kernel
theorem d153_46 : decode b153 46 = .ok ((.aload_n 0), 1) := by decide +kernel
theorem d153_47 : decode b153 47 = .ok ((.bipush 65), 2) := by decide +kernel
theorem d153_49 : decode b153 49 = .ok ((.iload_n 1), 1) := by decide +kernel
theorem d153_50 : decode b153 50 = .ok ((.iconst 1), 1) := by decide +kernel
theorem d153_51 : decode b153 51 = .ok (.isub, 1) := by decide +kernel
theorem d153_52 : decode b153 52 = .ok ((.bipush 26), 2) := by decide +kernel
theorem d153_54 : decode b153 54 = .ok (.irem, 1) := by decide +kernel
theorem d153_55 : decode b153 55 = .ok (.iadd, 1) := by decide +kernel
theorem d153_56 : decode b153 56 = .ok ((.invokevirtual 256), 3) := by decide +kernel
theorem d153_59 : decode b153 59 = .ok (.return_, 1) := by decide +kernel
abbrev b196 : ByteArray := prog_13_method_77_code
theorem d196_0 : decode b196 0 = .ok ((.iconst 1), 1) := by decide +kernel
theorem d196_1 : decode b196 1 = .ok ((.istore_n 2), 1) := by decide +kernel
theorem d196_2 : decode b196 2 = .ok ((.iload_n 1), 1) := by decide +kernel
theorem d196_3 : decode b196 3 = .ok ((.iload_n 2), 1) := by decide +kernel
theorem d196_4 : decode b196 4 = .ok (.idiv, 1) := by decide +kernel
theorem d196_5 : decode b196 5 = .ok ((.bipush 9), 2) := by decide +kernel
theorem d196_7 : decode b196 7 = .ok ((.if_icmp .le 11), 3) := by decide +kernel
theorem d196_10 : decode b196 10 = .ok ((.bipush 10), 2) := by decide +kernel
theorem d196_12 : decode b196 12 = .ok ((.iload_n 2), 1) := by decide +kernel
theorem d196_13 : decode b196 13 = .ok (.imul, 1) := by decide +kernel
theorem d196_14 : decode b196 14 = .ok ((.istore_n 2), 1) := by decide +kernel
theorem d196_15 : decode b196 15 = .ok ((.goto (-13)), 3) := by decide +kernel
theorem d196_18 : decode b196 18 = .ok ((.iload_n 2), 1) := by decide +kernel
theorem d196_19 : decode b196 19 = .ok ((.ifCond .le 24), 3) := by decide +kernel
theorem d196_22 : decode b196 22 = .ok ((.aload_n 0), 1) := by decide +kernel
theorem d196_23 : decode b196 23 = .ok ((.bipush 48), 2) := by decide +kernel
theorem d196_25 : decode b196 25 = .ok ((.iload_n 1), 1) := by decide +kernel
theorem d196_26 : decode b196 26 = .ok ((.iload_n 2), 1) := by decide +kernel
theorem d196_27 : decode b196 27 = .ok (.idiv, 1) := by decide +kernel
theorem d196_28 : decode b196 28 = .ok ((.bipush 10), 2) := by decide +kernel
theorem d196_30 : decode b196 30 = .ok (.irem, 1) := by decide +kernel
theorem d196_31 : decode b196 31 = .ok (.iadd, 1) := by decide +kernel
theorem d196_32 : decode b196 32 = .ok ((.invokevirtual 256), 3) := by decide +kernel
theorem d196_35 : decode b196 35 = .ok ((.iload_n 2), 1) := by decide +kernel
theorem d196_36 : decode b196 36 = .ok ((.bipush 10), 2) := by decide +kernel
theorem d196_38 : decode b196 38 = .ok (.idiv, 1) := by decide +kernel
theorem d196_39 : decode b196 39 = .ok ((.istore_n 2), 1) := by decide +kernel
theorem d196_40 : decode b196 40 = .ok ((.goto (-22)), 3) := by decide +kernel
theorem d196_43 : decode b196 43 = .ok (.return_, 1) := by decide +kernel
abbrev b150 : ByteArray := prog_13_method_79_code
theorem d150_0 : decode b150 0 = .ok ((.aload_n 0), 1) := by decide +kernel
theorem d150_1 : decode b150 1 = .ok ((.iload_n 1), 1) := by decide +kernel
theorem d150_2 : decode b150 2 = .ok ((.invokevirtual 256), 3) := by decide +kernel
theorem d150_5 : decode b150 5 = .ok ((.iload_n 3), 1) := by decide +kernel
theorem d150_6 : decode b150 6 = .ok ((.ifCond .ne 9), 3) := by decide +kernel
theorem d150_9 : decode b150 9 = .ok ((.aload_n 0), 1) := by decide +kernel
theorem d150_10 : decode b150 10 = .ok ((.bipush 91), 2) := by decide +kernel
theorem d150_12 : decode b150 12 = .ok ((.invokevirtual 256), 3) := by decide +kernel
theorem d150_15 : decode b150 15 = .ok ((.aload_n 0), 1) := by decide +kernel
theorem d150_16 : decode b150 16 = .ok ((.iload_n 2), 1) := by decide +kernel
theorem d150_17 : decode b150 17 = .ok ((.invokevirtual 370), 3) := by decide +kernel
theorem d150_20 : decode b150 20 = .ok ((.iload_n 3), 1) := by decide +kernel
theorem d150_21 : decode b150 21 = .ok ((.ifCond .ne 9), 3) := by decide +kernel
theorem d150_24 : decode b150 24 = .ok ((.aload_n 0), 1) := by decide +kernel
theorem d150_25 : decode b150 25 = .ok ((.bipush 93), 2) := by decide +kernel
theorem d150_27 : decode b150 27 = .ok ((.invokevirtual 256), 3) := by decide +kernel
theorem d150_30 : decode b150 30 = .ok (.return_, 1) := by decide +kernel
abbrev b144 : ByteArray := prog_13_method_43_code
theorem d144_0 : decode b144 0 = .ok ((.aload_n 0), 1) := by decide +kernel
theorem d144_1 : decode b144 1 = .ok ((.iconst 2), 1) := by decide +kernel
theorem d144_2 : decode b144 2 = .ok ((.putfield 259), 3) := by decide +kernel
theorem d144_5 : decode b144 5 = .ok ((.aload_n 0), 1) := by decide +kernel
theorem d144_6 : decode b144 6 = .ok ((.aload_n 0), 1) := by decide +kernel
theorem d144_7 : decode b144 7 = .ok ((.getfield 253), 3) := by decide +kernel
theorem d144_10 : decode b144 10 = .ok ((.putfield 262), 3) := by decide +kernel
theorem d144_13 : decode b144 13 = .ok ((.iconst 0), 1) := by decide +kernel
theorem d144_14 : decode b144 14 = .ok ((.istore_n 1), 1) := by decide +kernel
theorem d144_15 : decode b144 15 = .ok ((.iload_n 1), 1) := by decide +kernel
theorem d144_16 : decode b144 16 = .ok ((.aload_n 0), 1) := by decide +kernel
theorem d144_17 : decode b144 17 = .ok ((.getfield 253), 3) := by decide +kernel
theorem d144_20 : decode b144 20 = .ok ((.if_icmp .ge 21), 3) := by decide +kernel
theorem d144_23 : decode b144 23 = .ok ((.aload_n 0), 1) := by decide +kernel
theorem d144_24 : decode b144 24 = .ok ((.getfield 67), 3) := by decide +kernel
theorem d144_27 : decode b144 27 = .ok ((.iload_n 1), 1) := by decide +kernel
theorem d144_28 : decode b144 28 = .ok ((.aload_n 0), 1) := by decide +kernel
theorem d144_29 : decode b144 29 = .ok ((.getfield 64), 3) := by decide +kernel
theorem d144_32 : decode b144 32 = .ok ((.iload_n 1), 1) := by decide +kernel
theorem d144_33 : decode b144 33 = .ok (.iaload, 1) := by decide +kernel
theorem d144_34 : decode b144 34 = .ok (.iastore, 1) := by decide +kernel
theorem d144_35 : decode b144 35 = .ok ((.iinc 1 1), 3) := by decide +kernel
theorem d144_38 : decode b144 38 = .ok ((.goto (-23)), 3) := by decide +kernel
theorem d144_41 : decode b144 41 = .ok ((.aload_n 0), 1) := by decide +kernel
theorem d144_42 : decode b144 42 = .ok ((.getfield 249), 3) := by decide +kernel
theorem d144_45 : decode b144 45 = .ok ((.ifCond .eq 8), 3) := by decide +kernel
theorem d144_48 : decode b144 48 = .ok ((.aload_n 0), 1) := by decide +kernel
theorem d144_49 : decode b144 49 = .ok ((.iconst 3), 1) := by decide +kernel
theorem d144_50 : decode b144 50 = .ok ((.invokevirtual 176), 3) := by decide +kernel
theorem d144_53 : decode b144 53 = .ok (.return_, 1) := by decide +kernel
def f_mo_absolute  (p0 : UInt64) : Option (UInt64) := jb (0 ≤ (Op.cmpValue (FP.dcmp p0 FP.dconst0) .g)) (some p0) (some (FP.dneg p0))
set_option maxHeartbeats 4000000 in
set_option maxRecDepth 100000 in
theorem c_mo_absolute (l : Launch) (ρ : RH) (H : Heap) (p0 : UInt64) (res : UInt64) (h : f_mo_absolute p0 = some res) : Met l y139 (wsOf y139 b139 2 (some .double)) ({ frames := 0, cells := 0, slots := 0, locals := 0 } : Room) (va_Pc [.double p0] (KP ρ H)) (mQ (fun v H1 => v = some (.double res) ∧ H1 = H) (fun _ => False)) 0 0 (fun _ => False) := by
  refine m_ofW (own := "WordFunctionsModel") (plainFor_of_name rfl) rfl (Nat.le_of_ble_eq_true rfl) fun p e s m args below meth c ls hx hb hr hlk _ X hs hl => ?_
  subst hs
  have hS : va_S (fun _ => False) s.heap s.heap [] := va_S.rf
  have hl : lv_has ls 2 [(0, .double p0)] := hl
  unfold f_mo_absolute at h
  refine lv_dload_n (pc := 0) hx hb d139_0 rfl (lv_at hl 0 rfl) ?_
  refine lv_dconst0 (pc := 1) hx hb d139_1 ?_
  refine lv_dcmp (pc := 2) hx hb d139_2 ?_
  refine lv_if_ge (pc := 3) (tgt := 11) hx hb d139_3 (by decide) (fun c3 => ?_) (fun c3 => ?_)
  · have h := jb_t c3 h
    refine lv_dload_n (pc := 11) hx hb d139_11 rfl (lv_at hl 0 rfl) ?_
    obtain rfl := Option.some.inj h
    exact m_dret (pc := 12) hx hb hr hlk hS ⟨rfl, rfl⟩ (by decide) (by decide) d139_12
  · have h := jb_f c3 h
    refine lv_dload_n (pc := 6) hx hb d139_6 rfl (lv_at hl 0 rfl) ?_
    refine lv_dneg (pc := 7) hx hb d139_7 ?_
    refine lv_goto (pc := 8) (tgt := 12) hx hb d139_8 (by decide) ?_
    obtain rfl := Option.some.inj h
    exact m_dret (pc := 12) hx hb hr hlk hS ⟨rfl, rfl⟩ (by decide) (by decide) d139_12
def f_mo_isOut (st : GS) (p0 : Int32) : Option (Int32) := jg (inb p0 30) (jb ((st.1 4 p0.toNatClampNeg) = 0) (some 1) (some 0))
set_option maxHeartbeats 4000000 in
set_option maxRecDepth 100000 in
theorem c_mo_isOut (l : Launch) (ρ : RH) (ad : Nat → Nat) (H : Heap) (st : GS) (p0 : Int32) (res : Int32) (hW : GW ρ wM ad st H) (h : f_mo_isOut st p0 = some res) : Met l y183 (wsOf y183 b183 2 (some .boolean)) ({ frames := 0, cells := 0, slots := 0, locals := 0 } : Room) (va_Pc [.ref (ad 0), .int p0] (KP ρ H)) (mQ (fun v H1 => v = some (.int res) ∧ H1 = H) (fun _ => False)) 0 0 (fun _ => False) := by
  refine m_ofW (own := "WordFunctionsModel") (plainFor_of_name rfl) rfl (Nat.le_of_ble_eq_true rfl) fun p e s m args below meth c ls hx hb hr hlk _ X hs hl => ?_
  subst hs
  have hS : va_S (fun _ => False) s.heap s.heap [] := va_S.rf
  have hl : lv_has ls 2 [(0, .ref (ad 0)), (1, .int p0)] := hl
  unfold f_mo_isOut at h
  refine lv_aload_n (pc := 0) hx hb d183_0 rfl (lv_at hl 0 rfl) ?_
  refine m_get (pc := 1) X hW 9 (v := .ref (ad 4)) wd1375 rfl rfl d183_1 ?_
  refine lv_iload_n (pc := 4) hx hb d183_4 rfl (lv_at hl 1 rfl) ?_
  obtain ⟨g1, h⟩ := jg_some h
  refine r_iald (pc := 5) X hW 4 (by decide) rfl (inb_in g1) d183_5 ?_
  refine lv_if_ne (pc := 6) (tgt := 13) hx hb d183_6 (by decide) (fun c6 => ?_) (fun c6 => ?_)
  · have h := jb_f c6 h
    refine lv_iconst (pc := 13) (v := 0) hx hb d183_13 (by decide) ?_
    obtain rfl := Option.some.inj h
    exact m_zret (pc := 14) hx hb hr hlk hS ⟨rfl, rfl⟩ (by decide) (by decide) d183_14 (by decide)
  · have h := jb_t c6 h
    refine lv_iconst (pc := 9) (v := 1) hx hb d183_9 (by decide) ?_
    refine lv_goto (pc := 10) (tgt := 14) hx hb d183_10 (by decide) ?_
    obtain rfl := Option.some.inj h
    exact m_zret (pc := 14) hx hb hr hlk hS ⟨rfl, rfl⟩ (by decide) (by decide) d183_14 (by decide)
def f_mo_valueAt (st : GS) (p0 : Int32) (p1 : Int32) (p2 : Int32) : Option (Int32) := jc (f_mo_isOut st p0) (fun q1 => jb (q1 = 0) (jg (inb p0 30) (jg (inb p0 30) (some (((st.1 6 p0.toNatClampNeg) + ((st.1 5 p0.toNatClampNeg) * p1)) + p2)))) (some 512))
set_option maxHeartbeats 4000000 in
set_option maxRecDepth 100000 in
theorem c_mo_valueAt (l : Launch) (ρ : RH) (ad : Nat → Nat) (H : Heap) (st : GS) (p0 : Int32) (p1 : Int32) (p2 : Int32) (res : Int32) (hW : GW ρ wM ad st H) (h : f_mo_valueAt st p0 p1 p2 = some res) : Met l y237 (wsOf y237 b237 4 (some .int)) ({ frames := 1, cells := 0, slots := 0, locals := 21 } : Room) (va_Pc [.ref (ad 0), .int p0, .int p1, .int p2] (KP ρ H)) (mQ (fun v H1 => v = some (.int res) ∧ H1 = H) (fun _ => False)) 0 0 (fun _ => False) := by
  refine m_ofW (own := "WordFunctionsModel") (plainFor_of_name rfl) rfl (Nat.le_of_ble_eq_true rfl) fun p e s m args below meth c ls hx hb hr hlk _ X hs hl => ?_
  subst hs
  have hS : va_S (fun _ => False) s.heap s.heap [] := va_S.rf
  have hl : lv_has ls 4 [(0, .ref (ad 0)), (1, .int p0), (2, .int p1), (3, .int p2)] := hl
  unfold f_mo_valueAt at h
  refine lv_aload_n (pc := 0) hx hb d237_0 rfl (lv_at hl 0 rfl) ?_
  refine lv_iload_n (pc := 1) hx hb d237_1 rfl (lv_at hl 1 rfl) ?_
  obtain ⟨q1, hq1, h⟩ := jc_some h
  refine k_callV (pc := 2) (n := 1) X hS (c_mo_isOut l ρ ad _ st p0 q1 hW hq1) wd1609 wd1606 wd1608 sl183 wd11 (by decide) ⟨rfl, rfl, by decide, by decide⟩ (m_recv X hW) (As := [.int p0]) (rest := []) rfl rfl hl.1 (Nat.le_of_ble_eq_true rfl) d237_2 ⟨by decide, by decide⟩ (fun q hq => False.elim hq) (fun v H1 locs1 hv _ _ hSq1 => ?_)
  obtain ⟨rfl, rfl⟩ := hv
  have hS := hSq1
  refine lv_if_eq (pc := 5) (tgt := 14) hx hb d237_5 (by decide) (fun c5 => ?_) (fun c5 => ?_)
  · have h := jb_t c5 h
    refine lv_aload_n (pc := 14) hx hb d237_14 rfl (lv_at hl 0 rfl) ?_
    refine m_get (pc := 15) X hW 11 (v := .ref (ad 6)) wd1377 rfl rfl d237_15 ?_
    refine lv_iload_n (pc := 18) hx hb d237_18 rfl (lv_at hl 1 rfl) ?_
    obtain ⟨g2, h⟩ := jg_some h
    refine r_iald (pc := 19) X hW 6 (by decide) rfl (inb_in g2) d237_19 ?_
    refine lv_aload_n (pc := 20) hx hb d237_20 rfl (lv_at hl 0 rfl) ?_
    refine m_get (pc := 21) X hW 10 (v := .ref (ad 5)) wd1376 rfl rfl d237_21 ?_
    refine lv_iload_n (pc := 24) hx hb d237_24 rfl (lv_at hl 1 rfl) ?_
    obtain ⟨g3, h⟩ := jg_some h
    refine r_iald (pc := 25) X hW 5 (by decide) rfl (inb_in g3) d237_25 ?_
    refine lv_iload_n (pc := 26) hx hb d237_26 rfl (lv_at hl 2 rfl) ?_
    refine lv_imul (pc := 27) hx hb d237_27 ?_
    refine lv_iadd (pc := 28) hx hb d237_28 ?_
    refine lv_iload_n (pc := 29) hx hb d237_29 rfl (lv_at hl 3 rfl) ?_
    refine lv_iadd (pc := 30) hx hb d237_30 ?_
    obtain rfl := Option.some.inj h
    exact m_iret (pc := 31) hx hb hr hlk hS ⟨rfl, rfl⟩ (by decide) (by decide) d237_31
  · have h := jb_f c5 h
    refine lv_sipush (pc := 8) (v := 512) hx hb d237_8 (by decide) ?_
    refine lv_goto (pc := 11) (tgt := 31) hx hb d237_11 (by decide) ?_
    obtain rfl := Option.some.inj h
    exact m_iret (pc := 31) hx hb hr hlk hS ⟨rfl, rfl⟩ (by decide) (by decide) d237_31
def mo_take_63  : Nat → GS → Int32 → Int32 → Option (GS)
  | 0, _, _, _ => none
  | fu + 1, st, x1, x2 => jb ((st.1 0 27) ≤ x2) (some st) (jg (inb x1 513) (jg (inb ((st.1 10 x1.toNatClampNeg) + x2) 140000) (jg (inb x2 256) (jn (uI st 13 x2.toNatClampNeg (st.1 3 ((st.1 10 x1.toNatClampNeg) + x2).toNatClampNeg)) (fun st4 => jn (x2 + 1) (fun v5 => mo_take_63 fu st4 x1 v5))))))
def mo_take_58  (st : GS) (x1 : Int32) (z1 : Int32) : Option (GS) := jn (uI st 0 27 z1) (fun st6 => mo_take_63 FU st6 x1 0)
def mo_take_36  (st : GS) (x1 : Int32) (z1 : UInt64) : Option (GS) := jn (uD st 0 21 z1) (fun st7 => jb ((st7.1 0 20) = 2) (jg (inb x1 513) (mo_take_58  st7 x1 (st7.1 11 x1.toNatClampNeg))) (mo_take_58  st7 x1 0))
def mo_take_26  (st : GS) (x1 : Int32) : Option (GS) := mo_take_36  st x1 FP.dconst0
def f_mo_take (st : GS) (p0 : Int32) : Option (GS) := jg (inb p0 513) (jn (uI st 0 20 (st.1 9 p0.toNatClampNeg)) (fun st10 => jb ((st10.1 0 20) = 0) (mo_take_26  st10 p0) (jb ((st10.1 0 20) = 2) (mo_take_26  st10 p0) (jg (inb p0 513) (mo_take_36  st10 p0 (st10.2.1 12 p0.toNatClampNeg))))))
set_option maxHeartbeats 4000000 in
set_option maxRecDepth 100000 in
theorem c_mo_take (l : Launch) (ρ : RH) (ad : Nat → Nat) (H : Heap) (st : GS) (p0 : Int32) (res : GS) (hW : GW ρ wM ad st H) (h : f_mo_take st p0 = some res) : Met l y223 (wsOf y223 b223 3 none) ({ frames := 0, cells := 0, slots := 0, locals := 0 } : Room) (va_Pc [.ref (ad 0), .int p0] (KP ρ H)) (mQ (fun v H1 => v = none ∧ GW ρ wM ad res H1) (MA wM ad H.size)) 0 0 (MA wM ad H.size) := by
  refine m_ofW (own := "WordFunctionsModel") (plainFor_of_name rfl) rfl (Nat.le_of_ble_eq_true rfl) fun p e s m args below meth c ls hx hb hr hlk _ X hs hl => ?_
  subst hs
  have hS : va_S (MA wM ad s.heap.size) s.heap s.heap [] := va_S.rf
  have hl : lv_has ls 3 [(0, .ref (ad 0)), (1, .int p0)] := hl
  have kc63 : ∀ (fu : Nat), ∀ (st : GS) (x1 : Int32) (x2 : Int32) (H : Heap) (locs : List Loc) (ls : Array Slot), GW ρ wM ad st H → va_S (MA wM ad s.heap.size) s.heap H locs → lv_has ls 3 [(0, .ref (ad 0)), (1, .int x1), (2, .int x2)] → mo_take_63 fu st x1 x2 = some res → W p l e ({ frames := 0, cells := 0, slots := 0, locals := 0 } : Room) s m args below meth c H locs 0 0 (MQ below (mQ (fun v H1 => v = none ∧ GW ρ wM ad res H1) (MA wM ad s.heap.size)) args s 0 0 (MA wM ad s.heap.size)) (F0 m 63 ls []) := by
    intro  fu
    induction fu with
    | zero => intro st x1 x2 H locs ls hW hS hl h; cases h
    | succ fu hK63 =>
      intro st x1 x2 H locs ls hW hS hl h
      unfold mo_take_63 at h
      refine lv_iload_n (pc := 63) hx hb d223_63 rfl (lv_at hl 2 rfl) ?_
      refine lv_aload_n (pc := 64) hx hb d223_64 rfl (lv_at hl 0 rfl) ?_
      refine m_get (pc := 65) X hW 27 (v := .int (st.1 0 27)) wd1393 rfl rfl d223_65 ?_
      refine lv_icmp_ge (pc := 68) (tgt := 96) hx hb d223_68 (by decide) (fun c68 => ?_) (fun c68 => ?_)
      · have h := jb_t c68 h
        obtain rfl := Option.some.inj h
        exact m_vret (pc := 96) hx hb hr hlk hS ⟨rfl, hW⟩ (by decide) (by decide) d223_96
      · have h := jb_f c68 h
        refine lv_aload_n (pc := 71) hx hb d223_71 rfl (lv_at hl 0 rfl) ?_
        refine m_get (pc := 72) X hW 23 (v := .ref (ad 13)) wd1389 rfl rfl d223_72 ?_
        refine lv_iload_n (pc := 75) hx hb d223_75 rfl (lv_at hl 2 rfl) ?_
        refine lv_aload_n (pc := 76) hx hb d223_76 rfl (lv_at hl 0 rfl) ?_
        refine m_get (pc := 77) X hW 6 (v := .ref (ad 3)) wd1372 rfl rfl d223_77 ?_
        refine lv_aload_n (pc := 80) hx hb d223_80 rfl (lv_at hl 0 rfl) ?_
        refine m_get (pc := 81) X hW 15 (v := .ref (ad 10)) wd1381 rfl rfl d223_81 ?_
        refine lv_iload_n (pc := 84) hx hb d223_84 rfl (lv_at hl 1 rfl) ?_
        obtain ⟨g1, h⟩ := jg_some h
        refine r_iald (pc := 85) X hW 10 (by decide) rfl (inb_in g1) d223_85 ?_
        refine lv_iload_n (pc := 86) hx hb d223_86 rfl (lv_at hl 2 rfl) ?_
        refine lv_iadd (pc := 87) hx hb d223_87 ?_
        obtain ⟨g2, h⟩ := jg_some h
        refine r_iald (pc := 88) X hW 3 (by decide) rfl (inb_in g2) d223_88 ?_
        obtain ⟨g3, h⟩ := jg_some h
        obtain ⟨st4, est4, h⟩ := jn_ex h
        refine m_iast (pc := 89) X hW hS 13 (by decide) rfl g3 est4 d223_89 (fun H locs hW hS => ?_)
        obtain ⟨v5, ev5, h⟩ := jn_ex h
        refine lv_iinc (pc := 90) (v := v5) (lv' := [(2, .int v5), (0, .ref (ad 0)), (1, .int x1)]) hx hb d223_90 hl (k := 2) rfl (by rw [ev5]; rfl) (by decide) rfl (fun ls hl => ?_)
        refine lv_goto (pc := 93) (tgt := 63) hx hb d223_93 (by decide) ?_
        exact hK63 st4 x1 v5 _ _ _ hW hS (lv_sub hl [1, 2, 0] rfl) h
  have kc58 : ∀ (st : GS) (x1 : Int32) (z1 : Int32) (H : Heap) (locs : List Loc) (ls : Array Slot), GW ρ wM ad st H → va_S (MA wM ad s.heap.size) s.heap H locs → lv_has ls 3 [(0, .ref (ad 0)), (1, .int x1)] → mo_take_58 st x1 z1 = some res → W p l e ({ frames := 0, cells := 0, slots := 0, locals := 0 } : Room) s m args below meth c H locs 0 0 (MQ below (mQ (fun v H1 => v = none ∧ GW ρ wM ad res H1) (MA wM ad s.heap.size)) args s 0 0 (MA wM ad s.heap.size)) (F0 m 58 ls [.int z1, .ref (ad 0)]) := by
    intro st x1 z1 H locs ls hW hS hl h
    unfold mo_take_58 at h
    obtain ⟨st6, est6, h⟩ := jn_ex h
    refine m_putI (pc := 58) X hW hS 27 est6 wd1393 rfl rfl rfl rfl rfl d223_58 (fun H locs hW hS => ?_)
    refine lv_iconst (pc := 61) (v := 0) hx hb d223_61 (by decide) ?_
    refine lv_istore_n (pc := 62) (lv' := [(2, .int 0), (0, .ref (ad 0)), (1, .int x1)]) hx hb d223_62 rfl hl (by decide) rfl (fun ls hl => ?_)
    exact kc63  FU st6 x1 0 _ _ _ hW hS (lv_sub hl [1, 2, 0] rfl) h
  have kc36 : ∀ (st : GS) (x1 : Int32) (z1 : UInt64) (H : Heap) (locs : List Loc) (ls : Array Slot), GW ρ wM ad st H → va_S (MA wM ad s.heap.size) s.heap H locs → lv_has ls 3 [(0, .ref (ad 0)), (1, .int x1)] → mo_take_36 st x1 z1 = some res → W p l e ({ frames := 0, cells := 0, slots := 0, locals := 0 } : Room) s m args below meth c H locs 0 0 (MQ below (mQ (fun v H1 => v = none ∧ GW ρ wM ad res H1) (MA wM ad s.heap.size)) args s 0 0 (MA wM ad s.heap.size)) (F0 m 36 ls [.double z1, .ref (ad 0)]) := by
    intro st x1 z1 H locs ls hW hS hl h
    unfold mo_take_36 at h
    obtain ⟨st7, est7, h⟩ := jn_ex h
    refine m_putD (pc := 36) X hW hS 21 est7 wd1387 rfl rfl rfl rfl rfl d223_36 (fun H locs hW hS => ?_)
    refine lv_aload_n (pc := 39) hx hb d223_39 rfl (lv_at hl 0 rfl) ?_
    refine lv_aload_n (pc := 40) hx hb d223_40 rfl (lv_at hl 0 rfl) ?_
    refine m_get (pc := 41) X hW 20 (v := .int (st7.1 0 20)) wd1386 rfl rfl d223_41 ?_
    refine lv_iconst (pc := 44) (v := 2) hx hb d223_44 (by decide) ?_
    refine lv_icmp_ne (pc := 45) (tgt := 57) hx hb d223_45 (by decide) (fun c45 => ?_) (fun c45 => ?_)
    · have h := jb_f c45 h
      refine lv_iconst (pc := 57) (v := 0) hx hb d223_57 (by decide) ?_
      exact kc58  st7 x1 0 _ _ _ hW hS (lv_sub hl [0, 1] rfl) h
    · have h := jb_t c45 h
      refine lv_aload_n (pc := 48) hx hb d223_48 rfl (lv_at hl 0 rfl) ?_
      refine m_get (pc := 49) X hW 16 (v := .ref (ad 11)) wd1382 rfl rfl d223_49 ?_
      refine lv_iload_n (pc := 52) hx hb d223_52 rfl (lv_at hl 1 rfl) ?_
      obtain ⟨g8, h⟩ := jg_some h
      refine r_iald (pc := 53) X hW 11 (by decide) rfl (inb_in g8) d223_53 ?_
      refine lv_goto (pc := 54) (tgt := 58) hx hb d223_54 (by decide) ?_
      exact kc58  st7 x1 (st7.1 11 x1.toNatClampNeg) _ _ _ hW hS (lv_sub hl [0, 1] rfl) h
  have kc26 : ∀ (st : GS) (x1 : Int32) (H : Heap) (locs : List Loc) (ls : Array Slot), GW ρ wM ad st H → va_S (MA wM ad s.heap.size) s.heap H locs → lv_has ls 3 [(0, .ref (ad 0)), (1, .int x1)] → mo_take_26 st x1 = some res → W p l e ({ frames := 0, cells := 0, slots := 0, locals := 0 } : Room) s m args below meth c H locs 0 0 (MQ below (mQ (fun v H1 => v = none ∧ GW ρ wM ad res H1) (MA wM ad s.heap.size)) args s 0 0 (MA wM ad s.heap.size)) (F0 m 26 ls [.ref (ad 0)]) := by
    intro st x1 H locs ls hW hS hl h
    unfold mo_take_26 at h
    refine lv_dconst0 (pc := 26) hx hb d223_26 ?_
    refine lv_goto (pc := 27) (tgt := 36) hx hb d223_27 (by decide) ?_
    exact kc36  st x1 FP.dconst0 _ _ _ hW hS (lv_sub hl [0, 1] rfl) h
  unfold f_mo_take at h
  refine lv_aload_n (pc := 0) hx hb d223_0 rfl (lv_at hl 0 rfl) ?_
  refine lv_aload_n (pc := 1) hx hb d223_1 rfl (lv_at hl 0 rfl) ?_
  refine m_get (pc := 2) X hW 14 (v := .ref (ad 9)) wd1380 rfl rfl d223_2 ?_
  refine lv_iload_n (pc := 5) hx hb d223_5 rfl (lv_at hl 1 rfl) ?_
  obtain ⟨g9, h⟩ := jg_some h
  refine r_iald (pc := 6) X hW 9 (by decide) rfl (inb_in g9) d223_6 ?_
  obtain ⟨st10, est10, h⟩ := jn_ex h
  refine m_putI (pc := 7) X hW hS 20 est10 wd1386 rfl rfl rfl rfl rfl d223_7 (fun H locs hW hS => ?_)
  refine lv_aload_n (pc := 10) hx hb d223_10 rfl (lv_at hl 0 rfl) ?_
  refine lv_aload_n (pc := 11) hx hb d223_11 rfl (lv_at hl 0 rfl) ?_
  refine m_get (pc := 12) X hW 20 (v := .int (st10.1 0 20)) wd1386 rfl rfl d223_12 ?_
  refine lv_if_eq (pc := 15) (tgt := 26) hx hb d223_15 (by decide) (fun c15 => ?_) (fun c15 => ?_)
  · have h := jb_t c15 h
    exact kc26  st10 p0 _ _ _ hW hS (lv_sub hl [0, 1] rfl) h
  · have h := jb_f c15 h
    refine lv_aload_n (pc := 18) hx hb d223_18 rfl (lv_at hl 0 rfl) ?_
    refine m_get (pc := 19) X hW 20 (v := .int (st10.1 0 20)) wd1386 rfl rfl d223_19 ?_
    refine lv_iconst (pc := 22) (v := 2) hx hb d223_22 (by decide) ?_
    refine lv_icmp_ne (pc := 23) (tgt := 30) hx hb d223_23 (by decide) (fun c23 => ?_) (fun c23 => ?_)
    · have h := jb_f c23 h
      refine lv_aload_n (pc := 30) hx hb d223_30 rfl (lv_at hl 0 rfl) ?_
      refine m_get (pc := 31) X hW 17 (v := .ref (ad 12)) wd1383 rfl rfl d223_31 ?_
      refine lv_iload_n (pc := 34) hx hb d223_34 rfl (lv_at hl 1 rfl) ?_
      obtain ⟨g11, h⟩ := jg_some h
      refine r_dald (pc := 35) X hW 12 (by decide) rfl (inb_in g11) d223_35 ?_
      exact kc36  st10 p0 (st10.2.1 12 p0.toNatClampNeg) _ _ _ hW hS (lv_sub hl [0, 1] rfl) h
    · have h := jb_t c23 h
      exact kc26  st10 p0 _ _ _ hW hS (lv_sub hl [0, 1] rfl) h
def f_mo_takeOf (st : GS) (p0 : Int32) : Option (GS) := jc (f_mo_valueAt st p0 0 0) (fun q1 => jc (f_mo_take st q1) (fun q2 => some q2))
set_option maxHeartbeats 4000000 in
set_option maxRecDepth 100000 in
theorem c_mo_takeOf (l : Launch) (ρ : RH) (ad : Nat → Nat) (H : Heap) (st : GS) (p0 : Int32) (res : GS) (hW : GW ρ wM ad st H) (h : f_mo_takeOf st p0 = some res) : Met l y224 (wsOf y224 b224 2 none) ({ frames := 2, cells := 0, slots := 0, locals := 44 } : Room) (va_Pc [.ref (ad 0), .int p0] (KP ρ H)) (mQ (fun v H1 => v = none ∧ GW ρ wM ad res H1) (MA wM ad H.size)) 0 0 (MA wM ad H.size) := by
  refine m_ofW (own := "WordFunctionsModel") (plainFor_of_name rfl) rfl (Nat.le_of_ble_eq_true rfl) fun p e s m args below meth c ls hx hb hr hlk _ X hs hl => ?_
  subst hs
  have hS : va_S (MA wM ad s.heap.size) s.heap s.heap [] := va_S.rf
  have hl : lv_has ls 2 [(0, .ref (ad 0)), (1, .int p0)] := hl
  unfold f_mo_takeOf at h
  refine lv_aload_n (pc := 0) hx hb d224_0 rfl (lv_at hl 0 rfl) ?_
  refine lv_aload_n (pc := 1) hx hb d224_1 rfl (lv_at hl 0 rfl) ?_
  refine lv_iload_n (pc := 2) hx hb d224_2 rfl (lv_at hl 1 rfl) ?_
  refine lv_iconst (pc := 3) (v := 0) hx hb d224_3 (by decide) ?_
  refine lv_iconst (pc := 4) (v := 0) hx hb d224_4 (by decide) ?_
  obtain ⟨q1, hq1, h⟩ := jc_some h
  refine k_callV (pc := 5) (n := 3) X hS (c_mo_valueAt l ρ ad _ st p0 0 0 q1 hW hq1) wd1605 wd1602 wd1604 sl237 wd11 (by decide) ⟨rfl, rfl, by decide, by decide⟩ (m_recv X hW) (As := [.int p0, .int 0, .int 0]) (rest := [.ref (ad 0)]) rfl rfl hl.1 (Nat.le_of_ble_eq_true rfl) d224_5 ⟨by decide, by decide⟩ (fun q hq => False.elim hq) (fun v H1 locs1 hv _ _ hSq1 => ?_)
  obtain ⟨rfl, rfl⟩ := hv
  have hS := hSq1
  obtain ⟨q2, hq2, h⟩ := jc_some h
  refine k_callV (pc := 8) (n := 1) X hS (c_mo_take l ρ ad _ st q1 q2 hW hq2) wd1613 wd1610 wd1612 sl223 wd11 (by decide) ⟨rfl, rfl, by decide, by decide⟩ (m_recv X hW) (As := [.int q1]) (rest := []) rfl rfl hl.1 (Nat.le_of_ble_eq_true rfl) d224_8 ⟨by decide, by decide⟩ (fun q hq => MA.mono hS.1 hq) (fun v H1 locs1 hv _ _ hSq2 => ?_)
  obtain ⟨rfl, hW⟩ := hv
  have hS := hSq2
  obtain rfl := Option.some.inj h
  exact m_vret (pc := 11) hx hb hr hlk hS ⟨rfl, hW⟩ (by decide) (by decide) d224_11
def f_mo_fail (st : GS) (p0 : Int32) : Option (GS) := jb ((st.1 0 22) = 0) (jn (uI st 0 22 p0) (fun st1 => some st1)) (some st)
set_option maxHeartbeats 4000000 in
set_option maxRecDepth 100000 in
theorem c_mo_fail (l : Launch) (ρ : RH) (ad : Nat → Nat) (H : Heap) (st : GS) (p0 : Int32) (res : GS) (hW : GW ρ wM ad st H) (h : f_mo_fail st p0 = some res) : Met l y170 (wsOf y170 b170 2 none) ({ frames := 0, cells := 0, slots := 0, locals := 0 } : Room) (va_Pc [.ref (ad 0), .int p0] (KP ρ H)) (mQ (fun v H1 => v = none ∧ GW ρ wM ad res H1) (MA wM ad H.size)) 0 0 (MA wM ad H.size) := by
  refine m_ofW (own := "WordFunctionsModel") (plainFor_of_name rfl) rfl (Nat.le_of_ble_eq_true rfl) fun p e s m args below meth c ls hx hb hr hlk _ X hs hl => ?_
  subst hs
  have hS : va_S (MA wM ad s.heap.size) s.heap s.heap [] := va_S.rf
  have hl : lv_has ls 2 [(0, .ref (ad 0)), (1, .int p0)] := hl
  unfold f_mo_fail at h
  refine lv_aload_n (pc := 0) hx hb d170_0 rfl (lv_at hl 0 rfl) ?_
  refine m_get (pc := 1) X hW 22 (v := .int (st.1 0 22)) wd1388 rfl rfl d170_1 ?_
  refine lv_if_ne (pc := 4) (tgt := 12) hx hb d170_4 (by decide) (fun c4 => ?_) (fun c4 => ?_)
  · have h := jb_f c4 h
    obtain rfl := Option.some.inj h
    exact m_vret (pc := 12) hx hb hr hlk hS ⟨rfl, hW⟩ (by decide) (by decide) d170_12
  · have h := jb_t c4 h
    refine lv_aload_n (pc := 7) hx hb d170_7 rfl (lv_at hl 0 rfl) ?_
    refine lv_iload_n (pc := 8) hx hb d170_8 rfl (lv_at hl 1 rfl) ?_
    obtain ⟨st1, est1, h⟩ := jn_ex h
    refine m_putI (pc := 9) X hW hS 22 est1 wd1388 rfl rfl rfl rfl rfl d170_9 (fun H locs hW hS => ?_)
    obtain rfl := Option.some.inj h
    exact m_vret (pc := 12) hx hb hr hlk hS ⟨rfl, hW⟩ (by decide) (by decide) d170_12
def f_mo_isDigit  (p0 : Int32) : Option (Int32) := jb (p0 < 48) (some 0) (jb (57 < p0) (some 0) (some 1))
set_option maxHeartbeats 4000000 in
set_option maxRecDepth 100000 in
theorem c_mo_isDigit (l : Launch) (ρ : RH) (H : Heap) (p0 : Int32) (res : Int32) (h : f_mo_isDigit p0 = some res) : Met l y179 (wsOf y179 b179 1 (some .boolean)) ({ frames := 0, cells := 0, slots := 0, locals := 0 } : Room) (va_Pc [.int p0] (KP ρ H)) (mQ (fun v H1 => v = some (.int res) ∧ H1 = H) (fun _ => False)) 0 0 (fun _ => False) := by
  refine m_ofW (own := "WordFunctionsModel") (plainFor_of_name rfl) rfl (Nat.le_of_ble_eq_true rfl) fun p e s m args below meth c ls hx hb hr hlk _ X hs hl => ?_
  subst hs
  have hS : va_S (fun _ => False) s.heap s.heap [] := va_S.rf
  have hl : lv_has ls 1 [(0, .int p0)] := hl
  unfold f_mo_isDigit at h
  refine lv_iload_n (pc := 0) hx hb d179_0 rfl (lv_at hl 0 rfl) ?_
  refine lv_bipush (pc := 1) (v := 48) hx hb d179_1 (by decide) ?_
  refine lv_icmp_lt (pc := 3) (tgt := 16) hx hb d179_3 (by decide) (fun c3 => ?_) (fun c3 => ?_)
  · have h := jb_t c3 h
    refine lv_iconst (pc := 16) (v := 0) hx hb d179_16 (by decide) ?_
    obtain rfl := Option.some.inj h
    exact m_zret (pc := 17) hx hb hr hlk hS ⟨rfl, rfl⟩ (by decide) (by decide) d179_17 (by decide)
  · have h := jb_f c3 h
    refine lv_iload_n (pc := 6) hx hb d179_6 rfl (lv_at hl 0 rfl) ?_
    refine lv_bipush (pc := 7) (v := 57) hx hb d179_7 (by decide) ?_
    refine lv_icmp_gt (pc := 9) (tgt := 16) hx hb d179_9 (by decide) (fun c9 => ?_) (fun c9 => ?_)
    · have h := jb_t c9 h
      refine lv_iconst (pc := 16) (v := 0) hx hb d179_16 (by decide) ?_
      obtain rfl := Option.some.inj h
      exact m_zret (pc := 17) hx hb hr hlk hS ⟨rfl, rfl⟩ (by decide) (by decide) d179_17 (by decide)
    · have h := jb_f c9 h
      refine lv_iconst (pc := 12) (v := 1) hx hb d179_12 (by decide) ?_
      refine lv_goto (pc := 13) (tgt := 17) hx hb d179_13 (by decide) ?_
      obtain rfl := Option.some.inj h
      exact m_zret (pc := 17) hx hb hr hlk hS ⟨rfl, rfl⟩ (by decide) (by decide) d179_17 (by decide)
def mo_says_199  (st : GS) (x1 : Int32) (x2 : Int32) (x3 : Int64) (x5 : Int64) : Option (Int32 × GS) := jb ((st.1 0 27) ≤ x1) (jg (nn (FP.ddiv (FP.l2d x3) (FP.l2d x5))) (jn (uD st 0 21 (FP.ddiv (FP.l2d x3) (FP.l2d x5))) (fun st2 => jb (x2 = 1) (jb ((lg_cmp x3 0) ≤ 0) (some (1, st2)) (jn (uD st2 0 21 (FP.dneg (st2.2.1 0 21))) (fun st3 => some (1, st3)))) (some (1, st2))))) (some (0, st))
def mo_says_181  (st : GS) (x1 : Int32) (x2 : Int32) (x3 : Int64) (x5 : Int64) : Option (Int32 × GS) := jb ((lg_cmp x5 1) = 0) (some (0, st)) (jb ((lg_cmp x5 (10000 : Int64)) = 0) (some (0, st)) (mo_says_199  st x1 x2 x3 x5))
def mo_says_120  : Nat → GS → Int32 → Int32 → Int64 → Int64 → Option (Int32 × GS)
  | 0, _, _, _, _, _ => none
  | fu + 1, st, x1, x2, x3, x5 => jb ((st.1 0 27) ≤ x1) (mo_says_181  st x1 x2 x3 x5) (jg (inb x1 256) (jc (f_mo_isDigit (st.1 13 x1.toNatClampNeg)) (fun q5 => jb (q5 = 0) (mo_says_181  st x1 x2 x3 x5) (jb (0 ≤ (lg_cmp x5 (10000 : Int64))) (mo_says_181  st x1 x2 x3 x5) (jg (inb x1 256) (jn ((((10 : Int64) * x3) + (st.1 13 x1.toNatClampNeg).toInt64) - (48 : Int64)) (fun v7 => jn ((10 : Int64) * x5) (fun v8 => jn (x1 + 1) (fun v9 => mo_says_120 fu st v9 x2 v7 v8)))))))))
def mo_says_80  (st : GS) (x1 : Int32) (x2 : Int32) (x3 : Int64) : Option (Int32 × GS) := jb (x1 = x2) (some (0, st)) (jb (x1 = (x2 + 10)) (some (0, st)) (jb ((st.1 0 27) ≤ x1) (mo_says_199  st x1 x2 x3 1) (jg (inb x1 256) (jb ((st.1 13 x1.toNatClampNeg) = 46) (jn (x1 + 1) (fun v11 => mo_says_120 FU st v11 x2 x3 1)) (mo_says_199  st x1 x2 x3 1)))))
def mo_says_28  : Nat → GS → Int32 → Int32 → Int64 → Option (Int32 × GS)
  | 0, _, _, _, _ => none
  | fu + 1, st, x1, x2, x3 => jb ((st.1 0 27) ≤ x1) (mo_says_80  st x1 x2 x3) (jg (inb x1 256) (jc (f_mo_isDigit (st.1 13 x1.toNatClampNeg)) (fun q13 => jb (q13 = 0) (mo_says_80  st x1 x2 x3) (jb ((x2 + 10) ≤ x1) (mo_says_80  st x1 x2 x3) (jg (inb x1 256) (jn ((((10 : Int64) * x3) + (st.1 13 x1.toNatClampNeg).toInt64) - (48 : Int64)) (fun v15 => jn (x1 + 1) (fun v16 => mo_says_28 fu st v16 x2 v15))))))))
def mo_says_23  (st : GS) (z0 : Int32) : Option (Int32 × GS) := mo_says_28 FU st z0 z0 0
def mo_says_22  (st : GS)  : Option (Int32 × GS) := mo_says_23  st 0
def f_mo_says (st : GS) : Option (Int32 × GS) := jb ((st.1 0 27) ≤ 0) (mo_says_22  st) (jg (inb 0 256) (jb ((st.1 13 (0 : Int32).toNatClampNeg) = 45) (mo_says_23  st 1) (mo_says_22  st)))
set_option maxHeartbeats 4000000 in
set_option maxRecDepth 100000 in
theorem c_mo_says (l : Launch) (ρ : RH) (ad : Nat → Nat) (H : Heap) (st : GS) (res : Int32 × GS) (hW : GW ρ wM ad st H) (h : f_mo_says st = some res) : Met l y216 (wsOf y216 b216 7 (some .boolean)) ({ frames := 1, cells := 0, slots := 0, locals := 20 } : Room) (va_Pc [.ref (ad 0)] (KP ρ H)) (mQ (fun v H1 => v = some (.int res.1) ∧ GW ρ wM ad res.2 H1) (MA wM ad H.size)) 0 0 (MA wM ad H.size) := by
  refine m_ofW (own := "WordFunctionsModel") (plainFor_of_name rfl) rfl (Nat.le_of_ble_eq_true rfl) fun p e s m args below meth c ls hx hb hr hlk _ X hs hl => ?_
  subst hs
  have hS : va_S (MA wM ad s.heap.size) s.heap s.heap [] := va_S.rf
  have hl : lv_has ls 7 [(0, .ref (ad 0))] := hl
  have kc199 : ∀ (st : GS) (x1 : Int32) (x2 : Int32) (x3 : Int64) (x5 : Int64) (H : Heap) (locs : List Loc) (ls : Array Slot), GW ρ wM ad st H → va_S (MA wM ad s.heap.size) s.heap H locs → lv_has ls 7 [(0, .ref (ad 0)), (1, .int x1), (2, .int x2), (3, .long x3), (5, .long x5)] → mo_says_199 st x1 x2 x3 x5 = some res → W p l e ({ frames := 1, cells := 0, slots := 0, locals := 20 } : Room) s m args below meth c H locs 0 0 (MQ below (mQ (fun v H1 => v = some (.int res.1) ∧ GW ρ wM ad res.2 H1) (MA wM ad s.heap.size)) args s 0 0 (MA wM ad s.heap.size)) (F0 m 199 ls []) := by
    intro st x1 x2 x3 x5 H locs ls hW hS hl h
    unfold mo_says_199 at h
    refine lv_iload_n (pc := 199) hx hb d216_199 rfl (lv_at hl 1 rfl) ?_
    refine lv_aload_n (pc := 200) hx hb d216_200 rfl (lv_at hl 0 rfl) ?_
    refine m_get (pc := 201) X hW 27 (v := .int (st.1 0 27)) wd1393 rfl rfl d216_201 ?_
    refine lv_icmp_ge (pc := 204) (tgt := 209) hx hb d216_204 (by decide) (fun c204 => ?_) (fun c204 => ?_)
    · have h := jb_t c204 h
      refine lv_aload_n (pc := 209) hx hb d216_209 rfl (lv_at hl 0 rfl) ?_
      refine lv_lload_n (pc := 210) hx hb d216_210 rfl (lv_at hl 3 rfl) ?_
      refine lv_l2d (pc := 211) hx hb d216_211 ?_
      refine lv_lload (pc := 212) hx hb d216_212 (lv_at hl 4 rfl) ?_
      refine lv_l2d (pc := 214) hx hb d216_214 ?_
      obtain ⟨g1, h⟩ := jg_some h
      refine lv_ddiv (pc := 215) hx hb d216_215 (nn_ok g1) ?_
      obtain ⟨st2, est2, h⟩ := jn_ex h
      refine m_putD (pc := 216) X hW hS 21 est2 wd1387 rfl rfl rfl rfl rfl d216_216 (fun H locs hW hS => ?_)
      refine lv_iload_n (pc := 219) hx hb d216_219 rfl (lv_at hl 2 rfl) ?_
      refine lv_iconst (pc := 220) (v := 1) hx hb d216_220 (by decide) ?_
      refine lv_icmp_ne (pc := 221) (tgt := 239) hx hb d216_221 (by decide) (fun c221 => ?_) (fun c221 => ?_)
      · have h := jb_f c221 h
        refine lv_iconst (pc := 239) (v := 1) hx hb d216_239 (by decide) ?_
        obtain rfl := Option.some.inj h
        exact m_zret (pc := 240) hx hb hr hlk hS ⟨rfl, hW⟩ (by decide) (by decide) d216_240 (by decide)
      · have h := jb_t c221 h
        refine lv_lload_n (pc := 224) hx hb d216_224 rfl (lv_at hl 3 rfl) ?_
        refine lv_lconst (pc := 225) (v := 0) hx hb d216_225 rfl ?_
        refine W.lcmp (pc := 226) hx hb d216_226 ?_
        refine lv_if_le (pc := 227) (tgt := 239) hx hb d216_227 (by decide) (fun c227 => ?_) (fun c227 => ?_)
        · have h := jb_t c227 h
          refine lv_iconst (pc := 239) (v := 1) hx hb d216_239 (by decide) ?_
          obtain rfl := Option.some.inj h
          exact m_zret (pc := 240) hx hb hr hlk hS ⟨rfl, hW⟩ (by decide) (by decide) d216_240 (by decide)
        · have h := jb_f c227 h
          refine lv_aload_n (pc := 230) hx hb d216_230 rfl (lv_at hl 0 rfl) ?_
          refine lv_aload_n (pc := 231) hx hb d216_231 rfl (lv_at hl 0 rfl) ?_
          refine m_get (pc := 232) X hW 21 (v := .double (st2.2.1 0 21)) wd1387 rfl rfl d216_232 ?_
          refine lv_dneg (pc := 235) hx hb d216_235 ?_
          obtain ⟨st3, est3, h⟩ := jn_ex h
          refine m_putD (pc := 236) X hW hS 21 est3 wd1387 rfl rfl rfl rfl rfl d216_236 (fun H locs hW hS => ?_)
          refine lv_iconst (pc := 239) (v := 1) hx hb d216_239 (by decide) ?_
          obtain rfl := Option.some.inj h
          exact m_zret (pc := 240) hx hb hr hlk hS ⟨rfl, hW⟩ (by decide) (by decide) d216_240 (by decide)
    · have h := jb_f c204 h
      refine lv_iconst (pc := 207) (v := 0) hx hb d216_207 (by decide) ?_
      obtain rfl := Option.some.inj h
      exact m_zret (pc := 208) hx hb hr hlk hS ⟨rfl, hW⟩ (by decide) (by decide) d216_208 (by decide)
  have kc181 : ∀ (st : GS) (x1 : Int32) (x2 : Int32) (x3 : Int64) (x5 : Int64) (H : Heap) (locs : List Loc) (ls : Array Slot), GW ρ wM ad st H → va_S (MA wM ad s.heap.size) s.heap H locs → lv_has ls 7 [(0, .ref (ad 0)), (1, .int x1), (2, .int x2), (3, .long x3), (5, .long x5)] → mo_says_181 st x1 x2 x3 x5 = some res → W p l e ({ frames := 1, cells := 0, slots := 0, locals := 20 } : Room) s m args below meth c H locs 0 0 (MQ below (mQ (fun v H1 => v = some (.int res.1) ∧ GW ρ wM ad res.2 H1) (MA wM ad s.heap.size)) args s 0 0 (MA wM ad s.heap.size)) (F0 m 181 ls []) := by
    intro st x1 x2 x3 x5 H locs ls hW hS hl h
    unfold mo_says_181 at h
    refine lv_lload (pc := 181) hx hb d216_181 (lv_at hl 4 rfl) ?_
    refine lv_lconst (pc := 183) (v := 1) hx hb d216_183 rfl ?_
    refine W.lcmp (pc := 184) hx hb d216_184 ?_
    refine lv_if_eq (pc := 185) (tgt := 197) hx hb d216_185 (by decide) (fun c185 => ?_) (fun c185 => ?_)
    · have h := jb_t c185 h
      refine lv_iconst (pc := 197) (v := 0) hx hb d216_197 (by decide) ?_
      obtain rfl := Option.some.inj h
      exact m_zret (pc := 198) hx hb hr hlk hS ⟨rfl, hW⟩ (by decide) (by decide) d216_198 (by decide)
    · have h := jb_f c185 h
      refine lv_lload (pc := 188) hx hb d216_188 (lv_at hl 4 rfl) ?_
      refine lv_ldc2 (pc := 190) hx hb X.1.2.2.2.1 (X.ts wd1687) d216_190 ?_
      refine W.lcmp (pc := 193) hx hb d216_193 ?_
      refine lv_if_ne (pc := 194) (tgt := 199) hx hb d216_194 (by decide) (fun c194 => ?_) (fun c194 => ?_)
      · have h := jb_f c194 h
        exact kc199  st x1 x2 x3 x5 _ _ _ hW hS (lv_sub hl [0, 1, 2, 3, 4] rfl) h
      · have h := jb_t c194 h
        refine lv_iconst (pc := 197) (v := 0) hx hb d216_197 (by decide) ?_
        obtain rfl := Option.some.inj h
        exact m_zret (pc := 198) hx hb hr hlk hS ⟨rfl, hW⟩ (by decide) (by decide) d216_198 (by decide)
  have kc120 : ∀ (fu : Nat), ∀ (st : GS) (x1 : Int32) (x2 : Int32) (x3 : Int64) (x5 : Int64) (H : Heap) (locs : List Loc) (ls : Array Slot), GW ρ wM ad st H → va_S (MA wM ad s.heap.size) s.heap H locs → lv_has ls 7 [(0, .ref (ad 0)), (1, .int x1), (2, .int x2), (3, .long x3), (5, .long x5)] → mo_says_120 fu st x1 x2 x3 x5 = some res → W p l e ({ frames := 1, cells := 0, slots := 0, locals := 20 } : Room) s m args below meth c H locs 0 0 (MQ below (mQ (fun v H1 => v = some (.int res.1) ∧ GW ρ wM ad res.2 H1) (MA wM ad s.heap.size)) args s 0 0 (MA wM ad s.heap.size)) (F0 m 120 ls []) := by
    intro  fu
    induction fu with
    | zero => intro st x1 x2 x3 x5 H locs ls hW hS hl h; cases h
    | succ fu hK120 =>
      intro st x1 x2 x3 x5 H locs ls hW hS hl h
      unfold mo_says_120 at h
      refine lv_iload_n (pc := 120) hx hb d216_120 rfl (lv_at hl 1 rfl) ?_
      refine lv_aload_n (pc := 121) hx hb d216_121 rfl (lv_at hl 0 rfl) ?_
      refine m_get (pc := 122) X hW 27 (v := .int (st.1 0 27)) wd1393 rfl rfl d216_122 ?_
      refine lv_icmp_ge (pc := 125) (tgt := 181) hx hb d216_125 (by decide) (fun c125 => ?_) (fun c125 => ?_)
      · have h := jb_t c125 h
        exact kc181  st x1 x2 x3 x5 _ _ _ hW hS (lv_sub hl [0, 1, 2, 3, 4] rfl) h
      · have h := jb_f c125 h
        refine lv_aload_n (pc := 128) hx hb d216_128 rfl (lv_at hl 0 rfl) ?_
        refine m_get (pc := 129) X hW 23 (v := .ref (ad 13)) wd1389 rfl rfl d216_129 ?_
        refine lv_iload_n (pc := 132) hx hb d216_132 rfl (lv_at hl 1 rfl) ?_
        obtain ⟨g4, h⟩ := jg_some h
        refine r_iald (pc := 133) X hW 13 (by decide) rfl (inb_in g4) d216_133 ?_
        obtain ⟨q5, hq5, h⟩ := jc_some h
        refine k_callS (pc := 134) (n := 1) X hS (c_mo_isDigit l ρ _ (st.1 13 x1.toNatClampNeg) q5 hq5) wd1686 wd1684 wd1685 wd11 (by decide) ⟨rfl, rfl, by decide, by decide⟩ (As := [.int (st.1 13 x1.toNatClampNeg)]) (rest := []) rfl rfl hl.1 (Nat.le_of_ble_eq_true rfl) d216_134 ⟨by decide, by decide⟩ (fun q hq => False.elim hq) (fun v H1 locs1 hv _ _ hSq5 => ?_)
        obtain ⟨rfl, rfl⟩ := hv
        have hS := hSq5
        refine lv_if_eq (pc := 137) (tgt := 181) hx hb d216_137 (by decide) (fun c137 => ?_) (fun c137 => ?_)
        · have h := jb_t c137 h
          exact kc181  st x1 x2 x3 x5 _ _ _ hW hS (lv_sub hl [0, 1, 2, 3, 4] rfl) h
        · have h := jb_f c137 h
          refine lv_lload (pc := 140) hx hb d216_140 (lv_at hl 4 rfl) ?_
          refine lv_ldc2 (pc := 142) hx hb X.1.2.2.2.1 (X.ts wd1687) d216_142 ?_
          refine W.lcmp (pc := 145) hx hb d216_145 ?_
          refine lv_if_ge (pc := 146) (tgt := 181) hx hb d216_146 (by decide) (fun c146 => ?_) (fun c146 => ?_)
          · have h := jb_t c146 h
            exact kc181  st x1 x2 x3 x5 _ _ _ hW hS (lv_sub hl [0, 1, 2, 3, 4] rfl) h
          · have h := jb_f c146 h
            refine lv_ldc2 (pc := 149) hx hb X.1.2.2.2.1 (X.ts wd1645) d216_149 ?_
            refine lv_lload_n (pc := 152) hx hb d216_152 rfl (lv_at hl 3 rfl) ?_
            refine lv_lmul (pc := 153) hx hb d216_153 ?_
            refine lv_aload_n (pc := 154) hx hb d216_154 rfl (lv_at hl 0 rfl) ?_
            refine m_get (pc := 155) X hW 23 (v := .ref (ad 13)) wd1389 rfl rfl d216_155 ?_
            refine lv_iload_n (pc := 158) hx hb d216_158 rfl (lv_at hl 1 rfl) ?_
            obtain ⟨g6, h⟩ := jg_some h
            refine r_iald (pc := 159) X hW 13 (by decide) rfl (inb_in g6) d216_159 ?_
            refine lv_i2l (pc := 160) hx hb d216_160 rfl ?_
            refine lv_ladd (pc := 161) hx hb d216_161 ?_
            refine lv_ldc2 (pc := 162) hx hb X.1.2.2.2.1 (X.ts wd1646) d216_162 ?_
            refine lv_lsub (pc := 165) hx hb d216_165 ?_
            obtain ⟨v7, ev7, h⟩ := jn_ex h
            refine nm_l ev7 ?_
            refine lv_lstore_n (pc := 166) (lv' := [(3, .long v7), (0, .ref (ad 0)), (1, .int x1), (2, .int x2), (5, .long x5)]) hx hb d216_166 rfl hl (by decide) rfl (fun ls hl => ?_)
            refine lv_ldc2 (pc := 167) hx hb X.1.2.2.2.1 (X.ts wd1645) d216_167 ?_
            refine lv_lload (pc := 170) hx hb d216_170 (lv_at hl 4 rfl) ?_
            refine lv_lmul (pc := 172) hx hb d216_172 ?_
            obtain ⟨v8, ev8, h⟩ := jn_ex h
            refine nm_l ev8 ?_
            refine lv_lstore (pc := 173) (lv' := [(5, .long v8), (3, .long v7), (0, .ref (ad 0)), (1, .int x1), (2, .int x2)]) hx hb d216_173 hl (by decide) rfl (fun ls hl => ?_)
            obtain ⟨v9, ev9, h⟩ := jn_ex h
            refine lv_iinc (pc := 175) (v := v9) (lv' := [(1, .int v9), (5, .long v8), (3, .long v7), (0, .ref (ad 0)), (2, .int x2)]) hx hb d216_175 hl (k := 3) rfl (by rw [ev9]; rfl) (by decide) rfl (fun ls hl => ?_)
            refine lv_goto (pc := 178) (tgt := 120) hx hb d216_178 (by decide) ?_
            exact hK120 st v9 x2 v7 v8 _ _ _ hW hS (lv_sub hl [3, 0, 4, 2, 1] rfl) h
  have kc80 : ∀ (st : GS) (x1 : Int32) (x2 : Int32) (x3 : Int64) (H : Heap) (locs : List Loc) (ls : Array Slot), GW ρ wM ad st H → va_S (MA wM ad s.heap.size) s.heap H locs → lv_has ls 7 [(0, .ref (ad 0)), (1, .int x1), (2, .int x2), (3, .long x3)] → mo_says_80 st x1 x2 x3 = some res → W p l e ({ frames := 1, cells := 0, slots := 0, locals := 20 } : Room) s m args below meth c H locs 0 0 (MQ below (mQ (fun v H1 => v = some (.int res.1) ∧ GW ρ wM ad res.2 H1) (MA wM ad s.heap.size)) args s 0 0 (MA wM ad s.heap.size)) (F0 m 80 ls []) := by
    intro st x1 x2 x3 H locs ls hW hS hl h
    unfold mo_says_80 at h
    refine lv_iload_n (pc := 80) hx hb d216_80 rfl (lv_at hl 1 rfl) ?_
    refine lv_iload_n (pc := 81) hx hb d216_81 rfl (lv_at hl 2 rfl) ?_
    refine lv_icmp_eq (pc := 82) (tgt := 93) hx hb d216_82 (by decide) (fun c82 => ?_) (fun c82 => ?_)
    · have h := jb_t c82 h
      refine lv_iconst (pc := 93) (v := 0) hx hb d216_93 (by decide) ?_
      obtain rfl := Option.some.inj h
      exact m_zret (pc := 94) hx hb hr hlk hS ⟨rfl, hW⟩ (by decide) (by decide) d216_94 (by decide)
    · have h := jb_f c82 h
      refine lv_iload_n (pc := 85) hx hb d216_85 rfl (lv_at hl 1 rfl) ?_
      refine lv_iload_n (pc := 86) hx hb d216_86 rfl (lv_at hl 2 rfl) ?_
      refine lv_bipush (pc := 87) (v := 10) hx hb d216_87 (by decide) ?_
      refine lv_iadd (pc := 89) hx hb d216_89 ?_
      refine lv_icmp_ne (pc := 90) (tgt := 95) hx hb d216_90 (by decide) (fun c90 => ?_) (fun c90 => ?_)
      · have h := jb_f c90 h
        refine lv_lconst (pc := 95) (v := 1) hx hb d216_95 rfl ?_
        refine lv_lstore (pc := 96) (lv' := [(5, .long 1), (0, .ref (ad 0)), (1, .int x1), (2, .int x2), (3, .long x3)]) hx hb d216_96 hl (by decide) rfl (fun ls hl => ?_)
        refine lv_iload_n (pc := 98) hx hb d216_98 rfl (lv_at hl 2 rfl) ?_
        refine lv_aload_n (pc := 99) hx hb d216_99 rfl (lv_at hl 1 rfl) ?_
        refine m_get (pc := 100) X hW 27 (v := .int (st.1 0 27)) wd1393 rfl rfl d216_100 ?_
        refine lv_icmp_ge (pc := 103) (tgt := 199) hx hb d216_103 (by decide) (fun c103 => ?_) (fun c103 => ?_)
        · have h := jb_t c103 h
          exact kc199  st x1 x2 x3 1 _ _ _ hW hS (lv_sub hl [1, 2, 3, 4, 0] rfl) h
        · have h := jb_f c103 h
          refine lv_aload_n (pc := 106) hx hb d216_106 rfl (lv_at hl 1 rfl) ?_
          refine m_get (pc := 107) X hW 23 (v := .ref (ad 13)) wd1389 rfl rfl d216_107 ?_
          refine lv_iload_n (pc := 110) hx hb d216_110 rfl (lv_at hl 2 rfl) ?_
          obtain ⟨g10, h⟩ := jg_some h
          refine r_iald (pc := 111) X hW 13 (by decide) rfl (inb_in g10) d216_111 ?_
          refine lv_bipush (pc := 112) (v := 46) hx hb d216_112 (by decide) ?_
          refine lv_icmp_ne (pc := 114) (tgt := 199) hx hb d216_114 (by decide) (fun c114 => ?_) (fun c114 => ?_)
          · have h := jb_f c114 h
            exact kc199  st x1 x2 x3 1 _ _ _ hW hS (lv_sub hl [1, 2, 3, 4, 0] rfl) h
          · have h := jb_t c114 h
            obtain ⟨v11, ev11, h⟩ := jn_ex h
            refine lv_iinc (pc := 117) (v := v11) (lv' := [(1, .int v11), (5, .long 1), (0, .ref (ad 0)), (2, .int x2), (3, .long x3)]) hx hb d216_117 hl (k := 2) rfl (by rw [ev11]; rfl) (by decide) rfl (fun ls hl => ?_)
            exact kc120  FU st v11 x2 x3 1 _ _ _ hW hS (lv_sub hl [2, 0, 3, 4, 1] rfl) h
      · have h := jb_t c90 h
        refine lv_iconst (pc := 93) (v := 0) hx hb d216_93 (by decide) ?_
        obtain rfl := Option.some.inj h
        exact m_zret (pc := 94) hx hb hr hlk hS ⟨rfl, hW⟩ (by decide) (by decide) d216_94 (by decide)
  have kc28 : ∀ (fu : Nat), ∀ (st : GS) (x1 : Int32) (x2 : Int32) (x3 : Int64) (H : Heap) (locs : List Loc) (ls : Array Slot), GW ρ wM ad st H → va_S (MA wM ad s.heap.size) s.heap H locs → lv_has ls 7 [(0, .ref (ad 0)), (1, .int x1), (2, .int x2), (3, .long x3)] → mo_says_28 fu st x1 x2 x3 = some res → W p l e ({ frames := 1, cells := 0, slots := 0, locals := 20 } : Room) s m args below meth c H locs 0 0 (MQ below (mQ (fun v H1 => v = some (.int res.1) ∧ GW ρ wM ad res.2 H1) (MA wM ad s.heap.size)) args s 0 0 (MA wM ad s.heap.size)) (F0 m 28 ls []) := by
    intro  fu
    induction fu with
    | zero => intro st x1 x2 x3 H locs ls hW hS hl h; cases h
    | succ fu hK28 =>
      intro st x1 x2 x3 H locs ls hW hS hl h
      unfold mo_says_28 at h
      refine lv_iload_n (pc := 28) hx hb d216_28 rfl (lv_at hl 1 rfl) ?_
      refine lv_aload_n (pc := 29) hx hb d216_29 rfl (lv_at hl 0 rfl) ?_
      refine m_get (pc := 30) X hW 27 (v := .int (st.1 0 27)) wd1393 rfl rfl d216_30 ?_
      refine lv_icmp_ge (pc := 33) (tgt := 80) hx hb d216_33 (by decide) (fun c33 => ?_) (fun c33 => ?_)
      · have h := jb_t c33 h
        exact kc80  st x1 x2 x3 _ _ _ hW hS (lv_sub hl [0, 1, 2, 3] rfl) h
      · have h := jb_f c33 h
        refine lv_aload_n (pc := 36) hx hb d216_36 rfl (lv_at hl 0 rfl) ?_
        refine m_get (pc := 37) X hW 23 (v := .ref (ad 13)) wd1389 rfl rfl d216_37 ?_
        refine lv_iload_n (pc := 40) hx hb d216_40 rfl (lv_at hl 1 rfl) ?_
        obtain ⟨g12, h⟩ := jg_some h
        refine r_iald (pc := 41) X hW 13 (by decide) rfl (inb_in g12) d216_41 ?_
        obtain ⟨q13, hq13, h⟩ := jc_some h
        refine k_callS (pc := 42) (n := 1) X hS (c_mo_isDigit l ρ _ (st.1 13 x1.toNatClampNeg) q13 hq13) wd1686 wd1684 wd1685 wd11 (by decide) ⟨rfl, rfl, by decide, by decide⟩ (As := [.int (st.1 13 x1.toNatClampNeg)]) (rest := []) rfl rfl hl.1 (Nat.le_of_ble_eq_true rfl) d216_42 ⟨by decide, by decide⟩ (fun q hq => False.elim hq) (fun v H1 locs1 hv _ _ hSq13 => ?_)
        obtain ⟨rfl, rfl⟩ := hv
        have hS := hSq13
        refine lv_if_eq (pc := 45) (tgt := 80) hx hb d216_45 (by decide) (fun c45 => ?_) (fun c45 => ?_)
        · have h := jb_t c45 h
          exact kc80  st x1 x2 x3 _ _ _ hW hS (lv_sub hl [0, 1, 2, 3] rfl) h
        · have h := jb_f c45 h
          refine lv_iload_n (pc := 48) hx hb d216_48 rfl (lv_at hl 1 rfl) ?_
          refine lv_iload_n (pc := 49) hx hb d216_49 rfl (lv_at hl 2 rfl) ?_
          refine lv_bipush (pc := 50) (v := 10) hx hb d216_50 (by decide) ?_
          refine lv_iadd (pc := 52) hx hb d216_52 ?_
          refine lv_icmp_ge (pc := 53) (tgt := 80) hx hb d216_53 (by decide) (fun c53 => ?_) (fun c53 => ?_)
          · have h := jb_t c53 h
            exact kc80  st x1 x2 x3 _ _ _ hW hS (lv_sub hl [0, 1, 2, 3] rfl) h
          · have h := jb_f c53 h
            refine lv_ldc2 (pc := 56) hx hb X.1.2.2.2.1 (X.ts wd1645) d216_56 ?_
            refine lv_lload_n (pc := 59) hx hb d216_59 rfl (lv_at hl 3 rfl) ?_
            refine lv_lmul (pc := 60) hx hb d216_60 ?_
            refine lv_aload_n (pc := 61) hx hb d216_61 rfl (lv_at hl 0 rfl) ?_
            refine m_get (pc := 62) X hW 23 (v := .ref (ad 13)) wd1389 rfl rfl d216_62 ?_
            refine lv_iload_n (pc := 65) hx hb d216_65 rfl (lv_at hl 1 rfl) ?_
            obtain ⟨g14, h⟩ := jg_some h
            refine r_iald (pc := 66) X hW 13 (by decide) rfl (inb_in g14) d216_66 ?_
            refine lv_i2l (pc := 67) hx hb d216_67 rfl ?_
            refine lv_ladd (pc := 68) hx hb d216_68 ?_
            refine lv_ldc2 (pc := 69) hx hb X.1.2.2.2.1 (X.ts wd1646) d216_69 ?_
            refine lv_lsub (pc := 72) hx hb d216_72 ?_
            obtain ⟨v15, ev15, h⟩ := jn_ex h
            refine nm_l ev15 ?_
            refine lv_lstore_n (pc := 73) (lv' := [(3, .long v15), (0, .ref (ad 0)), (1, .int x1), (2, .int x2)]) hx hb d216_73 rfl hl (by decide) rfl (fun ls hl => ?_)
            obtain ⟨v16, ev16, h⟩ := jn_ex h
            refine lv_iinc (pc := 74) (v := v16) (lv' := [(1, .int v16), (3, .long v15), (0, .ref (ad 0)), (2, .int x2)]) hx hb d216_74 hl (k := 2) rfl (by rw [ev16]; rfl) (by decide) rfl (fun ls hl => ?_)
            refine lv_goto (pc := 77) (tgt := 28) hx hb d216_77 (by decide) ?_
            exact hK28 st v16 x2 v15 _ _ _ hW hS (lv_sub hl [2, 0, 3, 1] rfl) h
  have kc23 : ∀ (st : GS) (z0 : Int32) (H : Heap) (locs : List Loc) (ls : Array Slot), GW ρ wM ad st H → va_S (MA wM ad s.heap.size) s.heap H locs → lv_has ls 7 [(0, .ref (ad 0))] → mo_says_23 st z0 = some res → W p l e ({ frames := 1, cells := 0, slots := 0, locals := 20 } : Room) s m args below meth c H locs 0 0 (MQ below (mQ (fun v H1 => v = some (.int res.1) ∧ GW ρ wM ad res.2 H1) (MA wM ad s.heap.size)) args s 0 0 (MA wM ad s.heap.size)) (F0 m 23 ls [.int z0]) := by
    intro st z0 H locs ls hW hS hl h
    unfold mo_says_23 at h
    refine lv_istore_n (pc := 23) (lv' := [(1, .int z0), (0, .ref (ad 0))]) hx hb d216_23 rfl hl (by decide) rfl (fun ls hl => ?_)
    refine lv_iload_n (pc := 24) hx hb d216_24 rfl (lv_at hl 0 rfl) ?_
    refine lv_istore_n (pc := 25) (lv' := [(2, .int z0), (1, .int z0), (0, .ref (ad 0))]) hx hb d216_25 rfl hl (by decide) rfl (fun ls hl => ?_)
    refine lv_lconst (pc := 26) (v := 0) hx hb d216_26 rfl ?_
    refine lv_lstore_n (pc := 27) (lv' := [(3, .long 0), (2, .int z0), (1, .int z0), (0, .ref (ad 0))]) hx hb d216_27 rfl hl (by decide) rfl (fun ls hl => ?_)
    exact kc28  FU st z0 z0 0 _ _ _ hW hS (lv_sub hl [3, 2, 1, 0] rfl) h
  have kc22 : ∀ (st : GS)  (H : Heap) (locs : List Loc) (ls : Array Slot), GW ρ wM ad st H → va_S (MA wM ad s.heap.size) s.heap H locs → lv_has ls 7 [(0, .ref (ad 0))] → mo_says_22 st = some res → W p l e ({ frames := 1, cells := 0, slots := 0, locals := 20 } : Room) s m args below meth c H locs 0 0 (MQ below (mQ (fun v H1 => v = some (.int res.1) ∧ GW ρ wM ad res.2 H1) (MA wM ad s.heap.size)) args s 0 0 (MA wM ad s.heap.size)) (F0 m 22 ls []) := by
    intro st  H locs ls hW hS hl h
    unfold mo_says_22 at h
    refine lv_iconst (pc := 22) (v := 0) hx hb d216_22 (by decide) ?_
    exact kc23  st 0 _ _ _ hW hS (lv_sub hl [0] rfl) h
  unfold f_mo_says at h
  refine lv_aload_n (pc := 0) hx hb d216_0 rfl (lv_at hl 0 rfl) ?_
  refine m_get (pc := 1) X hW 27 (v := .int (st.1 0 27)) wd1393 rfl rfl d216_1 ?_
  refine lv_if_le (pc := 4) (tgt := 22) hx hb d216_4 (by decide) (fun c4 => ?_) (fun c4 => ?_)
  · have h := jb_t c4 h
    exact kc22  st _ _ _ hW hS (lv_sub hl [0] rfl) h
  · have h := jb_f c4 h
    refine lv_aload_n (pc := 7) hx hb d216_7 rfl (lv_at hl 0 rfl) ?_
    refine m_get (pc := 8) X hW 23 (v := .ref (ad 13)) wd1389 rfl rfl d216_8 ?_
    refine lv_iconst (pc := 11) (v := 0) hx hb d216_11 (by decide) ?_
    obtain ⟨g17, h⟩ := jg_some h
    refine r_iald (pc := 12) X hW 13 (by decide) rfl (inb_in g17) d216_12 ?_
    refine lv_bipush (pc := 13) (v := 45) hx hb d216_13 (by decide) ?_
    refine lv_icmp_ne (pc := 15) (tgt := 22) hx hb d216_15 (by decide) (fun c15 => ?_) (fun c15 => ?_)
    · have h := jb_f c15 h
      exact kc22  st _ _ _ hW hS (lv_sub hl [0] rfl) h
    · have h := jb_t c15 h
      refine lv_iconst (pc := 18) (v := 1) hx hb d216_18 (by decide) ?_
      refine lv_goto (pc := 19) (tgt := 23) hx hb d216_19 (by decide) ?_
      exact kc23  st 1 _ _ _ hW hS (lv_sub hl [0] rfl) h
def mo_numberTaken_40  (st : GS)  : Option (UInt64 × GS) := jb ((st.1 0 22) = 0) (some ((st.2.1 0 21), st)) (some (FP.dconst0, st))
def f_mo_numberTaken (st : GS) : Option (UInt64 × GS) := jb ((st.1 0 20) = 4) (jc (f_mo_fail st (FP.d2i (st.2.1 0 21))) (fun q3 => mo_numberTaken_40  q3)) (jb ((st.1 0 20) = 2) (jc (f_mo_says st) (fun q1 => jb (q1.1 = 0) (jc (f_mo_fail q1.2 3) (fun q2 => mo_numberTaken_40  q2)) (mo_numberTaken_40  q1.2))) (mo_numberTaken_40  st))
set_option maxHeartbeats 4000000 in
set_option maxRecDepth 100000 in
theorem c_mo_numberTaken (l : Launch) (ρ : RH) (ad : Nat → Nat) (H : Heap) (st : GS) (res : UInt64 × GS) (hW : GW ρ wM ad st H) (h : f_mo_numberTaken st = some res) : Met l y205 (wsOf y205 b205 1 (some .double)) ({ frames := 2, cells := 0, slots := 0, locals := 46 } : Room) (va_Pc [.ref (ad 0)] (KP ρ H)) (mQ (fun v H1 => v = some (.double res.1) ∧ GW ρ wM ad res.2 H1) (MA wM ad H.size)) 0 0 (MA wM ad H.size) := by
  refine m_ofW (own := "WordFunctionsModel") (plainFor_of_name rfl) rfl (Nat.le_of_ble_eq_true rfl) fun p e s m args below meth c ls hx hb hr hlk _ X hs hl => ?_
  subst hs
  have hS : va_S (MA wM ad s.heap.size) s.heap s.heap [] := va_S.rf
  have hl : lv_has ls 1 [(0, .ref (ad 0))] := hl
  have kc40 : ∀ (st : GS)  (H : Heap) (locs : List Loc) (ls : Array Slot), GW ρ wM ad st H → va_S (MA wM ad s.heap.size) s.heap H locs → lv_has ls 1 [(0, .ref (ad 0))] → mo_numberTaken_40 st = some res → W p l e ({ frames := 2, cells := 0, slots := 0, locals := 46 } : Room) s m args below meth c H locs 0 0 (MQ below (mQ (fun v H1 => v = some (.double res.1) ∧ GW ρ wM ad res.2 H1) (MA wM ad s.heap.size)) args s 0 0 (MA wM ad s.heap.size)) (F0 m 40 ls []) := by
    intro st  H locs ls hW hS hl h
    unfold mo_numberTaken_40 at h
    refine lv_aload_n (pc := 40) hx hb d205_40 rfl (lv_at hl 0 rfl) ?_
    refine m_get (pc := 41) X hW 22 (v := .int (st.1 0 22)) wd1388 rfl rfl d205_41 ?_
    refine lv_if_ne (pc := 44) (tgt := 54) hx hb d205_44 (by decide) (fun c44 => ?_) (fun c44 => ?_)
    · have h := jb_f c44 h
      refine lv_dconst0 (pc := 54) hx hb d205_54 ?_
      obtain rfl := Option.some.inj h
      exact m_dret (pc := 55) hx hb hr hlk hS ⟨rfl, hW⟩ (by decide) (by decide) d205_55
    · have h := jb_t c44 h
      refine lv_aload_n (pc := 47) hx hb d205_47 rfl (lv_at hl 0 rfl) ?_
      refine m_get (pc := 48) X hW 21 (v := .double (st.2.1 0 21)) wd1387 rfl rfl d205_48 ?_
      refine lv_goto (pc := 51) (tgt := 55) hx hb d205_51 (by decide) ?_
      obtain rfl := Option.some.inj h
      exact m_dret (pc := 55) hx hb hr hlk hS ⟨rfl, hW⟩ (by decide) (by decide) d205_55
  unfold f_mo_numberTaken at h
  refine lv_aload_n (pc := 0) hx hb d205_0 rfl (lv_at hl 0 rfl) ?_
  refine m_get (pc := 1) X hW 20 (v := .int (st.1 0 20)) wd1386 rfl rfl d205_1 ?_
  refine lv_iconst (pc := 4) (v := 4) hx hb d205_4 (by decide) ?_
  refine lv_icmp_ne (pc := 5) (tgt := 20) hx hb d205_5 (by decide) (fun c5 => ?_) (fun c5 => ?_)
  · have h := jb_f c5 h
    refine lv_aload_n (pc := 20) hx hb d205_20 rfl (lv_at hl 0 rfl) ?_
    refine m_get (pc := 21) X hW 20 (v := .int (st.1 0 20)) wd1386 rfl rfl d205_21 ?_
    refine lv_iconst (pc := 24) (v := 2) hx hb d205_24 (by decide) ?_
    refine lv_icmp_ne (pc := 25) (tgt := 40) hx hb d205_25 (by decide) (fun c25 => ?_) (fun c25 => ?_)
    · have h := jb_f c25 h
      exact kc40  st _ _ _ hW hS (lv_sub hl [0] rfl) h
    · have h := jb_t c25 h
      refine lv_aload_n (pc := 28) hx hb d205_28 rfl (lv_at hl 0 rfl) ?_
      obtain ⟨q1, hq1, h⟩ := jc_some h
      refine k_callV (pc := 29) (n := 0) X hS (c_mo_says l ρ ad _ st q1 hW hq1) wd1683 wd1680 wd1682 sl216 wd11 (by decide) ⟨rfl, rfl, by decide, by decide⟩ (m_recv X hW) (As := []) (rest := []) rfl rfl hl.1 (Nat.le_of_ble_eq_true rfl) d205_29 ⟨by decide, by decide⟩ (fun q hq => MA.mono hS.1 hq) (fun v H1 locs1 hv _ _ hSq1 => ?_)
      obtain ⟨rfl, hW⟩ := hv
      have hS := hSq1
      refine lv_if_ne (pc := 32) (tgt := 40) hx hb d205_32 (by decide) (fun c32 => ?_) (fun c32 => ?_)
      · have h := jb_f c32 h
        exact kc40  q1.2 _ _ _ hW hS (lv_sub hl [0] rfl) h
      · have h := jb_t c32 h
        refine lv_aload_n (pc := 35) hx hb d205_35 rfl (lv_at hl 0 rfl) ?_
        refine lv_iconst (pc := 36) (v := 3) hx hb d205_36 (by decide) ?_
        obtain ⟨q2, hq2, h⟩ := jc_some h
        refine k_callV (pc := 37) (n := 1) X hS (c_mo_fail l ρ ad _ q1.2 3 q2 hW hq2) wd1621 wd1618 wd1620 sl170 wd11 (by decide) ⟨rfl, rfl, by decide, by decide⟩ (m_recv X hW) (As := [.int 3]) (rest := []) rfl rfl hl.1 (Nat.le_of_ble_eq_true rfl) d205_37 ⟨by decide, by decide⟩ (fun q hq => MA.mono hS.1 hq) (fun v H1 locs1 hv _ _ hSq2 => ?_)
        obtain ⟨rfl, hW⟩ := hv
        have hS := hSq2
        exact kc40  q2 _ _ _ hW hS (lv_sub hl [0] rfl) h
  · have h := jb_t c5 h
    refine lv_aload_n (pc := 8) hx hb d205_8 rfl (lv_at hl 0 rfl) ?_
    refine lv_aload_n (pc := 9) hx hb d205_9 rfl (lv_at hl 0 rfl) ?_
    refine m_get (pc := 10) X hW 21 (v := .double (st.2.1 0 21)) wd1387 rfl rfl d205_10 ?_
    refine lv_d2i (pc := 13) hx hb d205_13 ?_
    obtain ⟨q3, hq3, h⟩ := jc_some h
    refine k_callV (pc := 14) (n := 1) X hS (c_mo_fail l ρ ad _ st (FP.d2i (st.2.1 0 21)) q3 hW hq3) wd1621 wd1618 wd1620 sl170 wd11 (by decide) ⟨rfl, rfl, by decide, by decide⟩ (m_recv X hW) (As := [.int (FP.d2i (st.2.1 0 21))]) (rest := []) rfl rfl hl.1 (Nat.le_of_ble_eq_true rfl) d205_14 ⟨by decide, by decide⟩ (fun q hq => MA.mono hS.1 hq) (fun v H1 locs1 hv _ _ hSq3 => ?_)
    obtain ⟨rfl, hW⟩ := hv
    have hS := hSq3
    refine lv_goto (pc := 17) (tgt := 40) hx hb d205_17 (by decide) ?_
    exact kc40  q3 _ _ _ hW hS (lv_sub hl [0] rfl) h
def f_mo_number (st : GS) (p0 : Int32) : Option (UInt64 × GS) := jc (f_mo_takeOf st p0) (fun q1 => jc (f_mo_numberTaken q1) (fun q2 => some (q2.1, q2.2)))
set_option maxHeartbeats 4000000 in
set_option maxRecDepth 100000 in
theorem c_mo_number (l : Launch) (ρ : RH) (ad : Nat → Nat) (H : Heap) (st : GS) (p0 : Int32) (res : UInt64 × GS) (hW : GW ρ wM ad st H) (h : f_mo_number st p0 = some res) : Met l y204 (wsOf y204 b204 2 (some .double)) ({ frames := 3, cells := 0, slots := 0, locals := 66 } : Room) (va_Pc [.ref (ad 0), .int p0] (KP ρ H)) (mQ (fun v H1 => v = some (.double res.1) ∧ GW ρ wM ad res.2 H1) (MA wM ad H.size)) 0 0 (MA wM ad H.size) := by
  refine m_ofW (own := "WordFunctionsModel") (plainFor_of_name rfl) rfl (Nat.le_of_ble_eq_true rfl) fun p e s m args below meth c ls hx hb hr hlk _ X hs hl => ?_
  subst hs
  have hS : va_S (MA wM ad s.heap.size) s.heap s.heap [] := va_S.rf
  have hl : lv_has ls 2 [(0, .ref (ad 0)), (1, .int p0)] := hl
  unfold f_mo_number at h
  refine lv_aload_n (pc := 0) hx hb d204_0 rfl (lv_at hl 0 rfl) ?_
  refine lv_iload_n (pc := 1) hx hb d204_1 rfl (lv_at hl 1 rfl) ?_
  obtain ⟨q1, hq1, h⟩ := jc_some h
  refine k_callV (pc := 2) (n := 1) X hS (c_mo_takeOf l ρ ad _ st p0 q1 hW hq1) wd1601 wd1598 wd1600 sl224 wd11 (by decide) ⟨rfl, rfl, by decide, by decide⟩ (m_recv X hW) (As := [.int p0]) (rest := []) rfl rfl hl.1 (Nat.le_of_ble_eq_true rfl) d204_2 ⟨by decide, by decide⟩ (fun q hq => MA.mono hS.1 hq) (fun v H1 locs1 hv _ _ hSq1 => ?_)
  obtain ⟨rfl, hW⟩ := hv
  have hS := hSq1
  refine lv_aload_n (pc := 5) hx hb d204_5 rfl (lv_at hl 0 rfl) ?_
  obtain ⟨q2, hq2, h⟩ := jc_some h
  refine k_callV (pc := 6) (n := 0) X hS (c_mo_numberTaken l ρ ad _ q1 q2 hW hq2) wd1679 wd1676 wd1678 sl205 wd11 (by decide) ⟨rfl, rfl, by decide, by decide⟩ (m_recv X hW) (As := []) (rest := []) rfl rfl hl.1 (Nat.le_of_ble_eq_true rfl) d204_6 ⟨by decide, by decide⟩ (fun q hq => MA.mono hS.1 hq) (fun v H1 locs1 hv _ _ hSq2 => ?_)
  obtain ⟨rfl, hW⟩ := hv
  have hS := hSq2
  obtain rfl := Option.some.inj h
  exact m_dret (pc := 9) hx hb hr hlk hS ⟨rfl, hW⟩ (by decide) (by decide) d204_9
def f_mo_cut  (p0 : UInt64) : Option (UInt64) := jc (f_mo_absolute p0) (fun q1 => jb (0 ≤ (Op.cmpValue (FP.dcmp q1 (4845873199050653696 : UInt64)) .g)) (some p0) (some (FP.l2d (FP.d2l p0))))
set_option maxHeartbeats 4000000 in
set_option maxRecDepth 100000 in
theorem c_mo_cut (l : Launch) (ρ : RH) (H : Heap) (p0 : UInt64) (res : UInt64) (h : f_mo_cut p0 = some res) : Met l y156 (wsOf y156 b156 2 (some .double)) ({ frames := 1, cells := 0, slots := 0, locals := 21 } : Room) (va_Pc [.double p0] (KP ρ H)) (mQ (fun v H1 => v = some (.double res) ∧ H1 = H) (fun _ => False)) 0 0 (fun _ => False) := by
  refine m_ofW (own := "WordFunctionsModel") (plainFor_of_name rfl) rfl (Nat.le_of_ble_eq_true rfl) fun p e s m args below meth c ls hx hb hr hlk _ X hs hl => ?_
  subst hs
  have hS : va_S (fun _ => False) s.heap s.heap [] := va_S.rf
  have hl : lv_has ls 2 [(0, .double p0)] := hl
  unfold f_mo_cut at h
  refine lv_dload_n (pc := 0) hx hb d156_0 rfl (lv_at hl 0 rfl) ?_
  obtain ⟨q1, hq1, h⟩ := jc_some h
  refine k_callS (pc := 1) (n := 1) X hS (c_mo_absolute l ρ _ p0 q1 hq1) wd1635 wd1633 wd1634 wd11 (by decide) ⟨rfl, rfl, by decide, by decide⟩ (As := [.double p0]) (rest := []) rfl rfl hl.1 (Nat.le_of_ble_eq_true rfl) d156_1 ⟨by decide, by decide⟩ (fun q hq => False.elim hq) (fun v H1 locs1 hv _ _ hSq1 => ?_)
  obtain ⟨rfl, rfl⟩ := hv
  have hS := hSq1
  refine lv_ldc2d (pc := 4) hx hb X.1.2.2.2.1 (X.ts wd1691) d156_4 ?_
  refine lv_dcmp (pc := 7) hx hb d156_7 ?_
  refine lv_if_ge (pc := 8) (tgt := 17) hx hb d156_8 (by decide) (fun c8 => ?_) (fun c8 => ?_)
  · have h := jb_t c8 h
    refine lv_dload_n (pc := 17) hx hb d156_17 rfl (lv_at hl 0 rfl) ?_
    obtain rfl := Option.some.inj h
    exact m_dret (pc := 18) hx hb hr hlk hS ⟨rfl, rfl⟩ (by decide) (by decide) d156_18
  · have h := jb_f c8 h
    refine lv_dload_n (pc := 11) hx hb d156_11 rfl (lv_at hl 0 rfl) ?_
    refine lv_d2l (pc := 12) hx hb d156_12 ?_
    refine lv_l2d (pc := 13) hx hb d156_13 ?_
    refine lv_goto (pc := 14) (tgt := 18) hx hb d156_14 (by decide) ?_
    obtain rfl := Option.some.inj h
    exact m_dret (pc := 18) hx hb hr hlk hS ⟨rfl, rfl⟩ (by decide) (by decide) d156_18
def f_mo_whole1 (st : GS) (p0 : Int32) : Option (Int32 × GS) := jc (f_mo_number st p0) (fun q1 => jc (f_mo_cut q1.1) (fun q2 => jc (f_mo_absolute q2) (fun q3 => jb ((Op.cmpValue (FP.dcmp q3 (4746794007244308480 : UInt64)) .l) ≤ 0) (some ((FP.d2i q2), q1.2)) (jc (f_mo_fail q1.2 6) (fun q4 => some (0, q4))))))
set_option maxHeartbeats 4000000 in
set_option maxRecDepth 100000 in
theorem c_mo_whole1 (l : Launch) (ρ : RH) (ad : Nat → Nat) (H : Heap) (st : GS) (p0 : Int32) (res : Int32 × GS) (hW : GW ρ wM ad st H) (h : f_mo_whole1 st p0 = some res) : Met l y241 (wsOf y241 b241 4 (some .int)) ({ frames := 4, cells := 0, slots := 0, locals := 87 } : Room) (va_Pc [.ref (ad 0), .int p0] (KP ρ H)) (mQ (fun v H1 => v = some (.int res.1) ∧ GW ρ wM ad res.2 H1) (MA wM ad H.size)) 0 0 (MA wM ad H.size) := by
  refine m_ofW (own := "WordFunctionsModel") (plainFor_of_name rfl) rfl (Nat.le_of_ble_eq_true rfl) fun p e s m args below meth c ls hx hb hr hlk _ X hs hl => ?_
  subst hs
  have hS : va_S (MA wM ad s.heap.size) s.heap s.heap [] := va_S.rf
  have hl : lv_has ls 4 [(0, .ref (ad 0)), (1, .int p0)] := hl
  unfold f_mo_whole1 at h
  refine lv_aload_n (pc := 0) hx hb d241_0 rfl (lv_at hl 0 rfl) ?_
  refine lv_iload_n (pc := 1) hx hb d241_1 rfl (lv_at hl 1 rfl) ?_
  obtain ⟨q1, hq1, h⟩ := jc_some h
  refine k_callV (pc := 2) (n := 1) X hS (c_mo_number l ρ ad _ st p0 q1 hW hq1) wd1675 wd1672 wd1674 sl204 wd11 (by decide) ⟨rfl, rfl, by decide, by decide⟩ (m_recv X hW) (As := [.int p0]) (rest := []) rfl rfl hl.1 (Nat.le_of_ble_eq_true rfl) d241_2 ⟨by decide, by decide⟩ (fun q hq => MA.mono hS.1 hq) (fun v H1 locs1 hv _ _ hSq1 => ?_)
  obtain ⟨rfl, hW⟩ := hv
  have hS := hSq1
  obtain ⟨q2, hq2, h⟩ := jc_some h
  refine k_callS (pc := 5) (n := 1) X hS (c_mo_cut l ρ _ q1.1 q2 hq2) wd1690 wd1688 wd1689 wd11 (by decide) ⟨rfl, rfl, by decide, by decide⟩ (As := [.double q1.1]) (rest := []) rfl rfl hl.1 (Nat.le_of_ble_eq_true rfl) d241_5 ⟨by decide, by decide⟩ (fun q hq => False.elim hq) (fun v H1 locs1 hv _ _ hSq2 => ?_)
  obtain ⟨rfl, rfl⟩ := hv
  have hS := hSq2
  refine lv_dstore_n (pc := 8) (lv' := [(2, .double q2), (0, .ref (ad 0)), (1, .int p0)]) hx hb d241_8 rfl hl (by decide) rfl (fun ls hl => ?_)
  refine lv_dload_n (pc := 9) hx hb d241_9 rfl (lv_at hl 0 rfl) ?_
  obtain ⟨q3, hq3, h⟩ := jc_some h
  refine k_callS (pc := 10) (n := 1) X hS (c_mo_absolute l ρ _ q2 q3 hq3) wd1635 wd1633 wd1634 wd11 (by decide) ⟨rfl, rfl, by decide, by decide⟩ (As := [.double q2]) (rest := []) rfl rfl hl.1 (Nat.le_of_ble_eq_true rfl) d241_10 ⟨by decide, by decide⟩ (fun q hq => False.elim hq) (fun v H1 locs1 hv _ _ hSq3 => ?_)
  obtain ⟨rfl, rfl⟩ := hv
  have hS := hSq3
  refine lv_ldc2d (pc := 13) hx hb X.1.2.2.2.1 (X.ts wd1692) d241_13 ?_
  refine lv_dcmp (pc := 16) hx hb d241_16 ?_
  refine lv_if_le (pc := 17) (tgt := 28) hx hb d241_17 (by decide) (fun c17 => ?_) (fun c17 => ?_)
  · have h := jb_t c17 h
    refine lv_dload_n (pc := 28) hx hb d241_28 rfl (lv_at hl 0 rfl) ?_
    refine lv_d2i (pc := 29) hx hb d241_29 ?_
    obtain rfl := Option.some.inj h
    exact m_iret (pc := 30) hx hb hr hlk hS ⟨rfl, hW⟩ (by decide) (by decide) d241_30
  · have h := jb_f c17 h
    refine lv_aload_n (pc := 20) hx hb d241_20 rfl (lv_at hl 1 rfl) ?_
    refine lv_bipush (pc := 21) (v := 6) hx hb d241_21 (by decide) ?_
    obtain ⟨q4, hq4, h⟩ := jc_some h
    refine k_callV (pc := 23) (n := 1) X hS (c_mo_fail l ρ ad _ q1.2 6 q4 hW hq4) wd1621 wd1618 wd1620 sl170 wd11 (by decide) ⟨rfl, rfl, by decide, by decide⟩ (m_recv X hW) (As := [.int 6]) (rest := []) rfl rfl hl.1 (Nat.le_of_ble_eq_true rfl) d241_23 ⟨by decide, by decide⟩ (fun q hq => MA.mono hS.1 hq) (fun v H1 locs1 hv _ _ hSq4 => ?_)
    obtain ⟨rfl, hW⟩ := hv
    have hS := hSq4
    refine lv_iconst (pc := 26) (v := 0) hx hb d241_26 (by decide) ?_
    obtain rfl := Option.some.inj h
    exact m_iret (pc := 27) hx hb hr hlk hS ⟨rfl, hW⟩ (by decide) (by decide) d241_27
def f_mo_isGiven (st : GS) (p0 : Int32) : Option (Int32) := jb ((st.1 0 7) ≤ p0) (some 0) (some 1)
set_option maxHeartbeats 4000000 in
set_option maxRecDepth 100000 in
theorem c_mo_isGiven (l : Launch) (ρ : RH) (ad : Nat → Nat) (H : Heap) (st : GS) (p0 : Int32) (res : Int32) (hW : GW ρ wM ad st H) (h : f_mo_isGiven st p0 = some res) : Met l y181 (wsOf y181 b181 2 (some .boolean)) ({ frames := 0, cells := 0, slots := 0, locals := 0 } : Room) (va_Pc [.ref (ad 0), .int p0] (KP ρ H)) (mQ (fun v H1 => v = some (.int res) ∧ H1 = H) (fun _ => False)) 0 0 (fun _ => False) := by
  refine m_ofW (own := "WordFunctionsModel") (plainFor_of_name rfl) rfl (Nat.le_of_ble_eq_true rfl) fun p e s m args below meth c ls hx hb hr hlk _ X hs hl => ?_
  subst hs
  have hS : va_S (fun _ => False) s.heap s.heap [] := va_S.rf
  have hl : lv_has ls 2 [(0, .ref (ad 0)), (1, .int p0)] := hl
  unfold f_mo_isGiven at h
  refine lv_iload_n (pc := 0) hx hb d181_0 rfl (lv_at hl 1 rfl) ?_
  refine lv_aload_n (pc := 1) hx hb d181_1 rfl (lv_at hl 0 rfl) ?_
  refine m_get (pc := 2) X hW 7 (v := .int (st.1 0 7)) wd1373 rfl rfl d181_2 ?_
  refine lv_icmp_ge (pc := 5) (tgt := 12) hx hb d181_5 (by decide) (fun c5 => ?_) (fun c5 => ?_)
  · have h := jb_t c5 h
    refine lv_iconst (pc := 12) (v := 0) hx hb d181_12 (by decide) ?_
    obtain rfl := Option.some.inj h
    exact m_zret (pc := 13) hx hb hr hlk hS ⟨rfl, rfl⟩ (by decide) (by decide) d181_13 (by decide)
  · have h := jb_f c5 h
    refine lv_iconst (pc := 8) (v := 1) hx hb d181_8 (by decide) ?_
    refine lv_goto (pc := 9) (tgt := 13) hx hb d181_9 (by decide) ?_
    obtain rfl := Option.some.inj h
    exact m_zret (pc := 13) hx hb hr hlk hS ⟨rfl, rfl⟩ (by decide) (by decide) d181_13 (by decide)
def f_mo_whole2 (st : GS) (p0 : Int32) (p1 : Int32) : Option (Int32 × GS) := jc (f_mo_isGiven st p0) (fun q1 => jb (q1 = 0) (some (p1, st)) (jc (f_mo_isOut st p0) (fun q2 => jb (q2 = 0) (jc (f_mo_whole1 st p0) (fun q3 => some (q3.1, q3.2))) (some (p1, st)))))
set_option maxHeartbeats 4000000 in
set_option maxRecDepth 100000 in
theorem c_mo_whole2 (l : Launch) (ρ : RH) (ad : Nat → Nat) (H : Heap) (st : GS) (p0 : Int32) (p1 : Int32) (res : Int32 × GS) (hW : GW ρ wM ad st H) (h : f_mo_whole2 st p0 p1 = some res) : Met l y242 (wsOf y242 b242 3 (some .int)) ({ frames := 5, cells := 0, slots := 0, locals := 110 } : Room) (va_Pc [.ref (ad 0), .int p0, .int p1] (KP ρ H)) (mQ (fun v H1 => v = some (.int res.1) ∧ GW ρ wM ad res.2 H1) (MA wM ad H.size)) 0 0 (MA wM ad H.size) := by
  refine m_ofW (own := "WordFunctionsModel") (plainFor_of_name rfl) rfl (Nat.le_of_ble_eq_true rfl) fun p e s m args below meth c ls hx hb hr hlk _ X hs hl => ?_
  subst hs
  have hS : va_S (MA wM ad s.heap.size) s.heap s.heap [] := va_S.rf
  have hl : lv_has ls 3 [(0, .ref (ad 0)), (1, .int p0), (2, .int p1)] := hl
  unfold f_mo_whole2 at h
  refine lv_aload_n (pc := 0) hx hb d242_0 rfl (lv_at hl 0 rfl) ?_
  refine lv_iload_n (pc := 1) hx hb d242_1 rfl (lv_at hl 1 rfl) ?_
  obtain ⟨q1, hq1, h⟩ := jc_some h
  refine k_callV (pc := 2) (n := 1) X hS (c_mo_isGiven l ρ ad _ st p0 q1 hW hq1) wd1667 wd1664 wd1666 sl181 wd11 (by decide) ⟨rfl, rfl, by decide, by decide⟩ (m_recv X hW) (As := [.int p0]) (rest := []) rfl rfl hl.1 (Nat.le_of_ble_eq_true rfl) d242_2 ⟨by decide, by decide⟩ (fun q hq => False.elim hq) (fun v H1 locs1 hv _ _ hSq1 => ?_)
  obtain ⟨rfl, rfl⟩ := hv
  have hS := hSq1
  refine lv_if_eq (pc := 5) (tgt := 24) hx hb d242_5 (by decide) (fun c5 => ?_) (fun c5 => ?_)
  · have h := jb_t c5 h
    refine lv_iload_n (pc := 24) hx hb d242_24 rfl (lv_at hl 2 rfl) ?_
    obtain rfl := Option.some.inj h
    exact m_iret (pc := 25) hx hb hr hlk hS ⟨rfl, hW⟩ (by decide) (by decide) d242_25
  · have h := jb_f c5 h
    refine lv_aload_n (pc := 8) hx hb d242_8 rfl (lv_at hl 0 rfl) ?_
    refine lv_iload_n (pc := 9) hx hb d242_9 rfl (lv_at hl 1 rfl) ?_
    obtain ⟨q2, hq2, h⟩ := jc_some h
    refine k_callV (pc := 10) (n := 1) X hS (c_mo_isOut l ρ ad _ st p0 q2 hW hq2) wd1609 wd1606 wd1608 sl183 wd11 (by decide) ⟨rfl, rfl, by decide, by decide⟩ (m_recv X hW) (As := [.int p0]) (rest := []) rfl rfl hl.1 (Nat.le_of_ble_eq_true rfl) d242_10 ⟨by decide, by decide⟩ (fun q hq => False.elim hq) (fun v H1 locs1 hv _ _ hSq2 => ?_)
    obtain ⟨rfl, rfl⟩ := hv
    have hS := hSq2
    refine lv_if_ne (pc := 13) (tgt := 24) hx hb d242_13 (by decide) (fun c13 => ?_) (fun c13 => ?_)
    · have h := jb_f c13 h
      refine lv_iload_n (pc := 24) hx hb d242_24 rfl (lv_at hl 2 rfl) ?_
      obtain rfl := Option.some.inj h
      exact m_iret (pc := 25) hx hb hr hlk hS ⟨rfl, hW⟩ (by decide) (by decide) d242_25
    · have h := jb_t c13 h
      refine lv_aload_n (pc := 16) hx hb d242_16 rfl (lv_at hl 0 rfl) ?_
      refine lv_iload_n (pc := 17) hx hb d242_17 rfl (lv_at hl 1 rfl) ?_
      obtain ⟨q3, hq3, h⟩ := jc_some h
      refine k_callV (pc := 18) (n := 1) X hS (c_mo_whole1 l ρ ad _ st p0 q3 hW hq3) wd1671 wd1668 wd1670 sl241 wd11 (by decide) ⟨rfl, rfl, by decide, by decide⟩ (m_recv X hW) (As := [.int p0]) (rest := []) rfl rfl hl.1 (Nat.le_of_ble_eq_true rfl) d242_18 ⟨by decide, by decide⟩ (fun q hq => MA.mono hS.1 hq) (fun v H1 locs1 hv _ _ hSq3 => ?_)
      obtain ⟨rfl, hW⟩ := hv
      have hS := hSq3
      refine lv_goto (pc := 21) (tgt := 25) hx hb d242_21 (by decide) ?_
      obtain rfl := Option.some.inj h
      exact m_iret (pc := 25) hx hb hr hlk hS ⟨rfl, hW⟩ (by decide) (by decide) d242_25
def f_mo_truth1 (st : GS) (p0 : Int32) : Option (Int32 × GS) := jc (f_mo_number st p0) (fun q1 => jb ((Op.cmpValue (FP.dcmp q1.1 FP.dconst0) .l) = 0) (some (0, q1.2)) (some (1, q1.2)))
set_option maxHeartbeats 4000000 in
set_option maxRecDepth 100000 in
theorem c_mo_truth1 (l : Launch) (ρ : RH) (ad : Nat → Nat) (H : Heap) (st : GS) (p0 : Int32) (res : Int32 × GS) (hW : GW ρ wM ad st H) (h : f_mo_truth1 st p0 = some res) : Met l y234 (wsOf y234 b234 2 (some .boolean)) ({ frames := 4, cells := 0, slots := 0, locals := 87 } : Room) (va_Pc [.ref (ad 0), .int p0] (KP ρ H)) (mQ (fun v H1 => v = some (.int res.1) ∧ GW ρ wM ad res.2 H1) (MA wM ad H.size)) 0 0 (MA wM ad H.size) := by
  refine m_ofW (own := "WordFunctionsModel") (plainFor_of_name rfl) rfl (Nat.le_of_ble_eq_true rfl) fun p e s m args below meth c ls hx hb hr hlk _ X hs hl => ?_
  subst hs
  have hS : va_S (MA wM ad s.heap.size) s.heap s.heap [] := va_S.rf
  have hl : lv_has ls 2 [(0, .ref (ad 0)), (1, .int p0)] := hl
  unfold f_mo_truth1 at h
  refine lv_aload_n (pc := 0) hx hb d234_0 rfl (lv_at hl 0 rfl) ?_
  refine lv_iload_n (pc := 1) hx hb d234_1 rfl (lv_at hl 1 rfl) ?_
  obtain ⟨q1, hq1, h⟩ := jc_some h
  refine k_callV (pc := 2) (n := 1) X hS (c_mo_number l ρ ad _ st p0 q1 hW hq1) wd1675 wd1672 wd1674 sl204 wd11 (by decide) ⟨rfl, rfl, by decide, by decide⟩ (m_recv X hW) (As := [.int p0]) (rest := []) rfl rfl hl.1 (Nat.le_of_ble_eq_true rfl) d234_2 ⟨by decide, by decide⟩ (fun q hq => MA.mono hS.1 hq) (fun v H1 locs1 hv _ _ hSq1 => ?_)
  obtain ⟨rfl, hW⟩ := hv
  have hS := hSq1
  refine lv_dconst0 (pc := 5) hx hb d234_5 ?_
  refine lv_dcmp (pc := 6) hx hb d234_6 ?_
  refine lv_if_eq (pc := 7) (tgt := 14) hx hb d234_7 (by decide) (fun c7 => ?_) (fun c7 => ?_)
  · have h := jb_t c7 h
    refine lv_iconst (pc := 14) (v := 0) hx hb d234_14 (by decide) ?_
    obtain rfl := Option.some.inj h
    exact m_zret (pc := 15) hx hb hr hlk hS ⟨rfl, hW⟩ (by decide) (by decide) d234_15 (by decide)
  · have h := jb_f c7 h
    refine lv_iconst (pc := 10) (v := 1) hx hb d234_10 (by decide) ?_
    refine lv_goto (pc := 11) (tgt := 15) hx hb d234_11 (by decide) ?_
    obtain rfl := Option.some.inj h
    exact m_zret (pc := 15) hx hb hr hlk hS ⟨rfl, hW⟩ (by decide) (by decide) d234_15 (by decide)
def f_mo_truth2 (st : GS) (p0 : Int32) (p1 : Int32) : Option (Int32 × GS) := jc (f_mo_isGiven st p0) (fun q1 => jb (q1 = 0) (jg (isB p1) (some (p1, st))) (jc (f_mo_isOut st p0) (fun q3 => jb (q3 = 0) (jc (f_mo_truth1 st p0) (fun q5 => jg (isB q5.1) (some (q5.1, q5.2)))) (jg (isB p1) (some (p1, st))))))
set_option maxHeartbeats 4000000 in
set_option maxRecDepth 100000 in
theorem c_mo_truth2 (l : Launch) (ρ : RH) (ad : Nat → Nat) (H : Heap) (st : GS) (p0 : Int32) (p1 : Int32) (res : Int32 × GS) (hW : GW ρ wM ad st H) (h : f_mo_truth2 st p0 p1 = some res) : Met l y235 (wsOf y235 b235 3 (some .boolean)) ({ frames := 5, cells := 0, slots := 0, locals := 108 } : Room) (va_Pc [.ref (ad 0), .int p0, .int p1] (KP ρ H)) (mQ (fun v H1 => v = some (.int res.1) ∧ GW ρ wM ad res.2 H1) (MA wM ad H.size)) 0 0 (MA wM ad H.size) := by
  refine m_ofW (own := "WordFunctionsModel") (plainFor_of_name rfl) rfl (Nat.le_of_ble_eq_true rfl) fun p e s m args below meth c ls hx hb hr hlk _ X hs hl => ?_
  subst hs
  have hS : va_S (MA wM ad s.heap.size) s.heap s.heap [] := va_S.rf
  have hl : lv_has ls 3 [(0, .ref (ad 0)), (1, .int p0), (2, .int p1)] := hl
  unfold f_mo_truth2 at h
  refine lv_aload_n (pc := 0) hx hb d235_0 rfl (lv_at hl 0 rfl) ?_
  refine lv_iload_n (pc := 1) hx hb d235_1 rfl (lv_at hl 1 rfl) ?_
  obtain ⟨q1, hq1, h⟩ := jc_some h
  refine k_callV (pc := 2) (n := 1) X hS (c_mo_isGiven l ρ ad _ st p0 q1 hW hq1) wd1667 wd1664 wd1666 sl181 wd11 (by decide) ⟨rfl, rfl, by decide, by decide⟩ (m_recv X hW) (As := [.int p0]) (rest := []) rfl rfl hl.1 (Nat.le_of_ble_eq_true rfl) d235_2 ⟨by decide, by decide⟩ (fun q hq => False.elim hq) (fun v H1 locs1 hv _ _ hSq1 => ?_)
  obtain ⟨rfl, rfl⟩ := hv
  have hS := hSq1
  refine lv_if_eq (pc := 5) (tgt := 24) hx hb d235_5 (by decide) (fun c5 => ?_) (fun c5 => ?_)
  · have h := jb_t c5 h
    refine lv_iload_n (pc := 24) hx hb d235_24 rfl (lv_at hl 2 rfl) ?_
    obtain ⟨g2, h⟩ := jg_some h
    obtain rfl := Option.some.inj h
    exact m_zret (pc := 25) hx hb hr hlk hS ⟨rfl, hW⟩ (by decide) (by decide) d235_25 (isB_nar g2)
  · have h := jb_f c5 h
    refine lv_aload_n (pc := 8) hx hb d235_8 rfl (lv_at hl 0 rfl) ?_
    refine lv_iload_n (pc := 9) hx hb d235_9 rfl (lv_at hl 1 rfl) ?_
    obtain ⟨q3, hq3, h⟩ := jc_some h
    refine k_callV (pc := 10) (n := 1) X hS (c_mo_isOut l ρ ad _ st p0 q3 hW hq3) wd1609 wd1606 wd1608 sl183 wd11 (by decide) ⟨rfl, rfl, by decide, by decide⟩ (m_recv X hW) (As := [.int p0]) (rest := []) rfl rfl hl.1 (Nat.le_of_ble_eq_true rfl) d235_10 ⟨by decide, by decide⟩ (fun q hq => False.elim hq) (fun v H1 locs1 hv _ _ hSq3 => ?_)
    obtain ⟨rfl, rfl⟩ := hv
    have hS := hSq3
    refine lv_if_ne (pc := 13) (tgt := 24) hx hb d235_13 (by decide) (fun c13 => ?_) (fun c13 => ?_)
    · have h := jb_f c13 h
      refine lv_iload_n (pc := 24) hx hb d235_24 rfl (lv_at hl 2 rfl) ?_
      obtain ⟨g4, h⟩ := jg_some h
      obtain rfl := Option.some.inj h
      exact m_zret (pc := 25) hx hb hr hlk hS ⟨rfl, hW⟩ (by decide) (by decide) d235_25 (isB_nar g4)
    · have h := jb_t c13 h
      refine lv_aload_n (pc := 16) hx hb d235_16 rfl (lv_at hl 0 rfl) ?_
      refine lv_iload_n (pc := 17) hx hb d235_17 rfl (lv_at hl 1 rfl) ?_
      obtain ⟨q5, hq5, h⟩ := jc_some h
      refine k_callV (pc := 18) (n := 1) X hS (c_mo_truth1 l ρ ad _ st p0 q5 hW hq5) wd1768 wd1765 wd1767 sl234 wd11 (by decide) ⟨rfl, rfl, by decide, by decide⟩ (m_recv X hW) (As := [.int p0]) (rest := []) rfl rfl hl.1 (Nat.le_of_ble_eq_true rfl) d235_18 ⟨by decide, by decide⟩ (fun q hq => MA.mono hS.1 hq) (fun v H1 locs1 hv _ _ hSq5 => ?_)
      obtain ⟨rfl, hW⟩ := hv
      have hS := hSq5
      refine lv_goto (pc := 21) (tgt := 25) hx hb d235_21 (by decide) ?_
      obtain ⟨g6, h⟩ := jg_some h
      obtain rfl := Option.some.inj h
      exact m_zret (pc := 25) hx hb hr hlk hS ⟨rfl, hW⟩ (by decide) (by decide) d235_25 (isB_nar g6)
def f_mo_write (st : GS) (p0 : Int32) : Option (GS) := jb ((st.1 0 27) = 255) (some st) (jg (inb (st.1 0 27) 256) (jn (uI st 13 (st.1 0 27).toNatClampNeg p0) (fun st2 => jn (uI st2 0 27 ((st2.1 0 27) + 1)) (fun st3 => some st3))))
set_option maxHeartbeats 4000000 in
set_option maxRecDepth 100000 in
theorem c_mo_write (l : Launch) (ρ : RH) (ad : Nat → Nat) (H : Heap) (st : GS) (p0 : Int32) (res : GS) (hW : GW ρ wM ad st H) (h : f_mo_write st p0 = some res) : Met l y246 (wsOf y246 b246 2 none) ({ frames := 0, cells := 0, slots := 0, locals := 0 } : Room) (va_Pc [.ref (ad 0), .int p0] (KP ρ H)) (mQ (fun v H1 => v = none ∧ GW ρ wM ad res H1) (MA wM ad H.size)) 0 0 (MA wM ad H.size) := by
  refine m_ofW (own := "WordFunctionsModel") (plainFor_of_name rfl) rfl (Nat.le_of_ble_eq_true rfl) fun p e s m args below meth c ls hx hb hr hlk _ X hs hl => ?_
  subst hs
  have hS : va_S (MA wM ad s.heap.size) s.heap s.heap [] := va_S.rf
  have hl : lv_has ls 2 [(0, .ref (ad 0)), (1, .int p0)] := hl
  unfold f_mo_write at h
  refine lv_aload_n (pc := 0) hx hb d246_0 rfl (lv_at hl 0 rfl) ?_
  refine m_get (pc := 1) X hW 27 (v := .int (st.1 0 27)) wd1393 rfl rfl d246_1 ?_
  refine lv_sipush (pc := 4) (v := 255) hx hb d246_4 (by decide) ?_
  refine lv_icmp_ne (pc := 7) (tgt := 11) hx hb d246_7 (by decide) (fun c7 => ?_) (fun c7 => ?_)
  · have h := jb_f c7 h
    refine lv_aload_n (pc := 11) hx hb d246_11 rfl (lv_at hl 0 rfl) ?_
    refine m_get (pc := 12) X hW 23 (v := .ref (ad 13)) wd1389 rfl rfl d246_12 ?_
    refine lv_aload_n (pc := 15) hx hb d246_15 rfl (lv_at hl 0 rfl) ?_
    refine m_get (pc := 16) X hW 27 (v := .int (st.1 0 27)) wd1393 rfl rfl d246_16 ?_
    refine lv_iload_n (pc := 19) hx hb d246_19 rfl (lv_at hl 1 rfl) ?_
    obtain ⟨g1, h⟩ := jg_some h
    obtain ⟨st2, est2, h⟩ := jn_ex h
    refine m_iast (pc := 20) X hW hS 13 (by decide) rfl g1 est2 d246_20 (fun H locs hW hS => ?_)
    refine lv_aload_n (pc := 21) hx hb d246_21 rfl (lv_at hl 0 rfl) ?_
    refine lv_dup (pc := 22) hx hb d246_22 rfl ?_
    refine m_get (pc := 23) X hW 27 (v := .int (st2.1 0 27)) wd1393 rfl rfl d246_23 ?_
    refine lv_iconst (pc := 26) (v := 1) hx hb d246_26 (by decide) ?_
    refine lv_iadd (pc := 27) hx hb d246_27 ?_
    obtain ⟨st3, est3, h⟩ := jn_ex h
    refine m_putI (pc := 28) X hW hS 27 est3 wd1393 rfl rfl rfl rfl rfl d246_28 (fun H locs hW hS => ?_)
    obtain rfl := Option.some.inj h
    exact m_vret (pc := 31) hx hb hr hlk hS ⟨rfl, hW⟩ (by decide) (by decide) d246_31
  · have h := jb_t c7 h
    obtain rfl := Option.some.inj h
    exact m_vret (pc := 10) hx hb hr hlk hS ⟨rfl, hW⟩ (by decide) (by decide) d246_10
def mo_writeWord_31 (K3 : GS → Int64 → Int32 → Option (GS)) (st : GS) (x1 : Int64) (x3 : Int32) : Option (GS) := jn (x3 + (-8)) (fun v1 => K3 st x1 v1)
def mo_writeWord_3  : Nat → GS → Int64 → Int32 → Option (GS)
  | 0, _, _, _ => none
  | fu + 1, st, x1, x3 => jb (x3 < 0) (some st) (jb ((lg_cmp ((x1 >>> (x3.toInt64 &&& 63)) &&& (255 : Int64)) 0) = 0) (mo_writeWord_31 (mo_writeWord_3 fu)  st x1 x3) (jc (f_mo_write st (((x1 >>> (x3.toInt64 &&& 63)) &&& (255 : Int64)).toInt32)) (fun q2 => mo_writeWord_31 (mo_writeWord_3 fu)  q2 x1 x3)))
def f_mo_writeWord (st : GS) (p0 : Int64) : Option (GS) := mo_writeWord_3 FU st p0 56
set_option maxHeartbeats 4000000 in
set_option maxRecDepth 100000 in
theorem c_mo_writeWord (l : Launch) (ρ : RH) (ad : Nat → Nat) (H : Heap) (st : GS) (p0 : Int64) (res : GS) (hW : GW ρ wM ad st H) (h : f_mo_writeWord st p0 = some res) : Met l y248 (wsOf y248 b248 4 none) ({ frames := 1, cells := 0, slots := 0, locals := 21 } : Room) (va_Pc [.ref (ad 0), .long p0] (KP ρ H)) (mQ (fun v H1 => v = none ∧ GW ρ wM ad res H1) (MA wM ad H.size)) 0 0 (MA wM ad H.size) := by
  refine m_ofW (own := "WordFunctionsModel") (plainFor_of_name rfl) rfl (Nat.le_of_ble_eq_true rfl) fun p e s m args below meth c ls hx hb hr hlk _ X hs hl => ?_
  subst hs
  have hS : va_S (MA wM ad s.heap.size) s.heap s.heap [] := va_S.rf
  have hl : lv_has ls 4 [(0, .ref (ad 0)), (1, .long p0)] := hl
  have kc31 : ∀ (K3 : GS → Int64 → Int32 → Option (GS)) (hK3 : ∀ (st : GS) (x1 : Int64) (x3 : Int32) (H : Heap) (locs : List Loc) (ls : Array Slot), GW ρ wM ad st H → va_S (MA wM ad s.heap.size) s.heap H locs → lv_has ls 4 [(0, .ref (ad 0)), (1, .long x1), (3, .int x3)] → K3 st x1 x3 = some res → W p l e ({ frames := 1, cells := 0, slots := 0, locals := 21 } : Room) s m args below meth c H locs 0 0 (MQ below (mQ (fun v H1 => v = none ∧ GW ρ wM ad res H1) (MA wM ad s.heap.size)) args s 0 0 (MA wM ad s.heap.size)) (F0 m 3 ls [])), ∀ (st : GS) (x1 : Int64) (x3 : Int32) (H : Heap) (locs : List Loc) (ls : Array Slot), GW ρ wM ad st H → va_S (MA wM ad s.heap.size) s.heap H locs → lv_has ls 4 [(0, .ref (ad 0)), (1, .long x1), (3, .int x3)] → mo_writeWord_31 K3 st x1 x3 = some res → W p l e ({ frames := 1, cells := 0, slots := 0, locals := 21 } : Room) s m args below meth c H locs 0 0 (MQ below (mQ (fun v H1 => v = none ∧ GW ρ wM ad res H1) (MA wM ad s.heap.size)) args s 0 0 (MA wM ad s.heap.size)) (F0 m 31 ls []) := by
    intro K3 hK3
    intro st x1 x3 H locs ls hW hS hl h
    unfold mo_writeWord_31 at h
    obtain ⟨v1, ev1, h⟩ := jn_ex h
    refine lv_iinc (pc := 31) (v := v1) (lv' := [(3, .int v1), (0, .ref (ad 0)), (1, .long x1)]) hx hb d248_31 hl (k := 2) rfl (by rw [ev1]; rfl) (by decide) rfl (fun ls hl => ?_)
    refine lv_goto (pc := 34) (tgt := 3) hx hb d248_34 (by decide) ?_
    exact hK3 st x1 v1 _ _ _ hW hS (lv_sub hl [1, 2, 0] rfl) h
  have kc3 : ∀ (fu : Nat), ∀ (st : GS) (x1 : Int64) (x3 : Int32) (H : Heap) (locs : List Loc) (ls : Array Slot), GW ρ wM ad st H → va_S (MA wM ad s.heap.size) s.heap H locs → lv_has ls 4 [(0, .ref (ad 0)), (1, .long x1), (3, .int x3)] → mo_writeWord_3 fu st x1 x3 = some res → W p l e ({ frames := 1, cells := 0, slots := 0, locals := 21 } : Room) s m args below meth c H locs 0 0 (MQ below (mQ (fun v H1 => v = none ∧ GW ρ wM ad res H1) (MA wM ad s.heap.size)) args s 0 0 (MA wM ad s.heap.size)) (F0 m 3 ls []) := by
    intro  fu
    induction fu with
    | zero => intro st x1 x3 H locs ls hW hS hl h; cases h
    | succ fu hK3 =>
      intro st x1 x3 H locs ls hW hS hl h
      unfold mo_writeWord_3 at h
      refine lv_iload_n (pc := 3) hx hb d248_3 rfl (lv_at hl 2 rfl) ?_
      refine lv_if_lt (pc := 4) (tgt := 37) hx hb d248_4 (by decide) (fun c4 => ?_) (fun c4 => ?_)
      · have h := jb_t c4 h
        obtain rfl := Option.some.inj h
        exact m_vret (pc := 37) hx hb hr hlk hS ⟨rfl, hW⟩ (by decide) (by decide) d248_37
      · have h := jb_f c4 h
        refine lv_lload_n (pc := 7) hx hb d248_7 rfl (lv_at hl 1 rfl) ?_
        refine lv_iload_n (pc := 8) hx hb d248_8 rfl (lv_at hl 2 rfl) ?_
        refine lv_lshr (pc := 9) hx hb d248_9 rfl ?_
        refine lv_ldc2 (pc := 10) hx hb X.1.2.2.2.1 (X.ts wd1628) d248_10 ?_
        refine lv_land (pc := 13) hx hb d248_13 ?_
        refine lv_lconst (pc := 14) (v := 0) hx hb d248_14 rfl ?_
        refine W.lcmp (pc := 15) hx hb d248_15 ?_
        refine lv_if_eq (pc := 16) (tgt := 31) hx hb d248_16 (by decide) (fun c16 => ?_) (fun c16 => ?_)
        · have h := jb_t c16 h
          exact kc31 _ hK3 st x1 x3 _ _ _ hW hS (lv_sub hl [0, 1, 2] rfl) h
        · have h := jb_f c16 h
          refine lv_aload_n (pc := 19) hx hb d248_19 rfl (lv_at hl 0 rfl) ?_
          refine lv_lload_n (pc := 20) hx hb d248_20 rfl (lv_at hl 1 rfl) ?_
          refine lv_iload_n (pc := 21) hx hb d248_21 rfl (lv_at hl 2 rfl) ?_
          refine lv_lshr (pc := 22) hx hb d248_22 rfl ?_
          refine lv_ldc2 (pc := 23) hx hb X.1.2.2.2.1 (X.ts wd1628) d248_23 ?_
          refine lv_land (pc := 26) hx hb d248_26 ?_
          refine lv_l2i (pc := 27) hx hb d248_27 rfl ?_
          obtain ⟨q2, hq2, h⟩ := jc_some h
          refine k_callV (pc := 28) (n := 1) X hS (c_mo_write l ρ ad _ st (((x1 >>> (x3.toInt64 &&& 63)) &&& (255 : Int64)).toInt32) q2 hW hq2) wd1632 wd1629 wd1631 sl246 wd11 (by decide) ⟨rfl, rfl, by decide, by decide⟩ (m_recv X hW) (As := [.int (((x1 >>> (x3.toInt64 &&& 63)) &&& (255 : Int64)).toInt32)]) (rest := []) rfl rfl hl.1 (Nat.le_of_ble_eq_true rfl) d248_28 ⟨by decide, by decide⟩ (fun q hq => MA.mono hS.1 hq) (fun v H1 locs1 hv _ _ hSq2 => ?_)
          obtain ⟨rfl, hW⟩ := hv
          have hS := hSq2
          exact kc31 _ hK3 q2 x1 x3 _ _ _ hW hS (lv_sub hl [0, 1, 2] rfl) h
  unfold f_mo_writeWord at h
  refine lv_bipush (pc := 0) (v := 56) hx hb d248_0 (by decide) ?_
  refine lv_istore_n (pc := 2) (lv' := [(3, .int 56), (0, .ref (ad 0)), (1, .long p0)]) hx hb d248_2 rfl hl (by decide) rfl (fun ls hl => ?_)
  exact kc3  FU st p0 56 _ _ _ hW hS (lv_sub hl [1, 2, 0] rfl) h
def mo_writeNumber_21  : Nat → GS → Int64 → Int64 → Option (GS)
  | 0, _, _, _ => none
  | fu + 1, st, x1, x3 => jb ((lg_cmp x3 0) ≤ 0) (some st) (jg (nzl x3) (jc (f_mo_write st (((48 : Int64) + ((x1 / x3) - (x1 / x3) / (10 : Int64) * (10 : Int64))).toInt32)) (fun q2 => jn (x3 / (10 : Int64)) (fun v3 => mo_writeNumber_21 fu q2 x1 v3))))
def mo_writeNumber_2  : Nat → GS → Int64 → Int64 → Option (GS)
  | 0, _, _, _ => none
  | fu + 1, st, x1, x3 => jg (nzl x3) (jb ((lg_cmp (x1 / x3) (9 : Int64)) ≤ 0) (mo_writeNumber_21 FU st x1 x3) (jn ((10 : Int64) * x3) (fun v5 => mo_writeNumber_2 fu st x1 v5)))
def f_mo_writeNumber (st : GS) (p0 : Int64) : Option (GS) := mo_writeNumber_2 FU st p0 1
set_option maxHeartbeats 4000000 in
set_option maxRecDepth 100000 in
theorem c_mo_writeNumber (l : Launch) (ρ : RH) (ad : Nat → Nat) (H : Heap) (st : GS) (p0 : Int64) (res : GS) (hW : GW ρ wM ad st H) (h : f_mo_writeNumber st p0 = some res) : Met l y247 (wsOf y247 b247 5 none) ({ frames := 1, cells := 0, slots := 0, locals := 21 } : Room) (va_Pc [.ref (ad 0), .long p0] (KP ρ H)) (mQ (fun v H1 => v = none ∧ GW ρ wM ad res H1) (MA wM ad H.size)) 0 0 (MA wM ad H.size) := by
  refine m_ofW (own := "WordFunctionsModel") (plainFor_of_name rfl) rfl (Nat.le_of_ble_eq_true rfl) fun p e s m args below meth c ls hx hb hr hlk _ X hs hl => ?_
  subst hs
  have hS : va_S (MA wM ad s.heap.size) s.heap s.heap [] := va_S.rf
  have hl : lv_has ls 5 [(0, .ref (ad 0)), (1, .long p0)] := hl
  have kc21 : ∀ (fu : Nat), ∀ (st : GS) (x1 : Int64) (x3 : Int64) (H : Heap) (locs : List Loc) (ls : Array Slot), GW ρ wM ad st H → va_S (MA wM ad s.heap.size) s.heap H locs → lv_has ls 5 [(0, .ref (ad 0)), (1, .long x1), (3, .long x3)] → mo_writeNumber_21 fu st x1 x3 = some res → W p l e ({ frames := 1, cells := 0, slots := 0, locals := 21 } : Room) s m args below meth c H locs 0 0 (MQ below (mQ (fun v H1 => v = none ∧ GW ρ wM ad res H1) (MA wM ad s.heap.size)) args s 0 0 (MA wM ad s.heap.size)) (F0 m 21 ls []) := by
    intro  fu
    induction fu with
    | zero => intro st x1 x3 H locs ls hW hS hl h; cases h
    | succ fu hK21 =>
      intro st x1 x3 H locs ls hW hS hl h
      unfold mo_writeNumber_21 at h
      refine lv_lload_n (pc := 21) hx hb d247_21 rfl (lv_at hl 2 rfl) ?_
      refine lv_lconst (pc := 22) (v := 0) hx hb d247_22 rfl ?_
      refine W.lcmp (pc := 23) hx hb d247_23 ?_
      refine lv_if_le (pc := 24) (tgt := 52) hx hb d247_24 (by decide) (fun c24 => ?_) (fun c24 => ?_)
      · have h := jb_t c24 h
        obtain rfl := Option.some.inj h
        exact m_vret (pc := 52) hx hb hr hlk hS ⟨rfl, hW⟩ (by decide) (by decide) d247_52
      · have h := jb_f c24 h
        refine lv_aload_n (pc := 27) hx hb d247_27 rfl (lv_at hl 0 rfl) ?_
        refine lv_ldc2 (pc := 28) hx hb X.1.2.2.2.1 (X.ts wd1646) d247_28 ?_
        refine lv_lload_n (pc := 31) hx hb d247_31 rfl (lv_at hl 1 rfl) ?_
        refine lv_lload_n (pc := 32) hx hb d247_32 rfl (lv_at hl 2 rfl) ?_
        obtain ⟨g1, h⟩ := jg_some h
        refine lv_ldiv (pc := 33) hx hb d247_33 (nzl_ne g1) ?_
        refine lv_ldc2 (pc := 34) hx hb X.1.2.2.2.1 (X.ts wd1645) d247_34 ?_
        refine lv_lrem (pc := 37) hx hb d247_37 (by decide) ?_
        refine lv_ladd (pc := 38) hx hb d247_38 ?_
        refine lv_l2i (pc := 39) hx hb d247_39 rfl ?_
        obtain ⟨q2, hq2, h⟩ := jc_some h
        refine k_callV (pc := 40) (n := 1) X hS (c_mo_write l ρ ad _ st (((48 : Int64) + ((x1 / x3) - (x1 / x3) / (10 : Int64) * (10 : Int64))).toInt32) q2 hW hq2) wd1632 wd1629 wd1631 sl246 wd11 (by decide) ⟨rfl, rfl, by decide, by decide⟩ (m_recv X hW) (As := [.int (((48 : Int64) + ((x1 / x3) - (x1 / x3) / (10 : Int64) * (10 : Int64))).toInt32)]) (rest := []) rfl rfl hl.1 (Nat.le_of_ble_eq_true rfl) d247_40 ⟨by decide, by decide⟩ (fun q hq => MA.mono hS.1 hq) (fun v H1 locs1 hv _ _ hSq2 => ?_)
        obtain ⟨rfl, hW⟩ := hv
        have hS := hSq2
        refine lv_lload_n (pc := 43) hx hb d247_43 rfl (lv_at hl 2 rfl) ?_
        refine lv_ldc2 (pc := 44) hx hb X.1.2.2.2.1 (X.ts wd1645) d247_44 ?_
        refine lv_ldiv (pc := 47) hx hb d247_47 (by decide) ?_
        obtain ⟨v3, ev3, h⟩ := jn_ex h
        refine nm_l ev3 ?_
        refine lv_lstore_n (pc := 48) (lv' := [(3, .long v3), (0, .ref (ad 0)), (1, .long x1)]) hx hb d247_48 rfl hl (by decide) rfl (fun ls hl => ?_)
        refine lv_goto (pc := 49) (tgt := 21) hx hb d247_49 (by decide) ?_
        exact hK21 q2 x1 v3 _ _ _ hW hS (lv_sub hl [1, 2, 0] rfl) h
  have kc2 : ∀ (fu : Nat), ∀ (st : GS) (x1 : Int64) (x3 : Int64) (H : Heap) (locs : List Loc) (ls : Array Slot), GW ρ wM ad st H → va_S (MA wM ad s.heap.size) s.heap H locs → lv_has ls 5 [(0, .ref (ad 0)), (1, .long x1), (3, .long x3)] → mo_writeNumber_2 fu st x1 x3 = some res → W p l e ({ frames := 1, cells := 0, slots := 0, locals := 21 } : Room) s m args below meth c H locs 0 0 (MQ below (mQ (fun v H1 => v = none ∧ GW ρ wM ad res H1) (MA wM ad s.heap.size)) args s 0 0 (MA wM ad s.heap.size)) (F0 m 2 ls []) := by
    intro  fu
    induction fu with
    | zero => intro st x1 x3 H locs ls hW hS hl h; cases h
    | succ fu hK2 =>
      intro st x1 x3 H locs ls hW hS hl h
      unfold mo_writeNumber_2 at h
      refine lv_lload_n (pc := 2) hx hb d247_2 rfl (lv_at hl 1 rfl) ?_
      refine lv_lload_n (pc := 3) hx hb d247_3 rfl (lv_at hl 2 rfl) ?_
      obtain ⟨g4, h⟩ := jg_some h
      refine lv_ldiv (pc := 4) hx hb d247_4 (nzl_ne g4) ?_
      refine lv_ldc2 (pc := 5) hx hb X.1.2.2.2.1 (X.ts wd1644) d247_5 ?_
      refine W.lcmp (pc := 8) hx hb d247_8 ?_
      refine lv_if_le (pc := 9) (tgt := 21) hx hb d247_9 (by decide) (fun c9 => ?_) (fun c9 => ?_)
      · have h := jb_t c9 h
        exact kc21  FU st x1 x3 _ _ _ hW hS (lv_sub hl [0, 1, 2] rfl) h
      · have h := jb_f c9 h
        refine lv_ldc2 (pc := 12) hx hb X.1.2.2.2.1 (X.ts wd1645) d247_12 ?_
        refine lv_lload_n (pc := 15) hx hb d247_15 rfl (lv_at hl 2 rfl) ?_
        refine lv_lmul (pc := 16) hx hb d247_16 ?_
        obtain ⟨v5, ev5, h⟩ := jn_ex h
        refine nm_l ev5 ?_
        refine lv_lstore_n (pc := 17) (lv' := [(3, .long v5), (0, .ref (ad 0)), (1, .long x1)]) hx hb d247_17 rfl hl (by decide) rfl (fun ls hl => ?_)
        refine lv_goto (pc := 18) (tgt := 2) hx hb d247_18 (by decide) ?_
        exact hK2 st x1 v5 _ _ _ hW hS (lv_sub hl [1, 2, 0] rfl) h
  unfold f_mo_writeNumber at h
  refine lv_lconst (pc := 0) (v := 1) hx hb d247_0 rfl ?_
  refine lv_lstore_n (pc := 1) (lv' := [(3, .long 1), (0, .ref (ad 0)), (1, .long p0)]) hx hb d247_1 rfl hl (by decide) rfl (fun ls hl => ?_)
  exact kc2  FU st p0 1 _ _ _ hW hS (lv_sub hl [1, 2, 0] rfl) h
def mo_textTaken_146  : Nat → GS → Int64 → Int64 → Option (GS)
  | 0, _, _, _ => none
  | fu + 1, st, x3, x5 => jb ((lg_cmp x3 0) ≤ 0) (some st) (jg (nzl x5) (jc (f_mo_write st (((48 : Int64) + (x3 / x5)).toInt32)) (fun q2 => jg (nzl x5) (jn (x3 - x3 / x5 * x5) (fun v4 => jn (x5 / (10 : Int64)) (fun v5 => mo_textTaken_146 fu q2 v4 v5))))))
def mo_textTaken_141  (st : GS) (x3 : Int64) : Option (GS) := jn (100 : Int64) (fun v6 => mo_textTaken_146 FU st x3 v6)
def mo_textTaken_114  (st : GS) (x1 : Int64) : Option (GS) := jc (f_mo_writeNumber st (x1 / (1000 : Int64))) (fun q7 => jn (x1 - x1 / (1000 : Int64) * (1000 : Int64)) (fun v8 => jb ((lg_cmp v8 0) ≤ 0) (mo_textTaken_141  q7 v8) (jc (f_mo_write q7 46) (fun q9 => mo_textTaken_141  q9 v8))))
def mo_textTaken_47  (st : GS)  : Option (GS) := jb ((st.1 0 20) = 1) (jc (f_mo_absolute (st.2.1 0 21)) (fun q10 => jb ((Op.cmpValue (FP.dcmp q10 (4786511204640096256 : UInt64)) .l) < 0) (jc (f_mo_absolute (st.2.1 0 21)) (fun q11 => jg (nn (FP.dmul q11 (4652007308841189376 : UInt64))) (jg (nn (FP.dadd (FP.dmul q11 (4652007308841189376 : UInt64)) (4602678819172646912 : UInt64))) (jn (FP.d2l (FP.dadd (FP.dmul q11 (4652007308841189376 : UInt64)) (4602678819172646912 : UInt64))) (fun v14 => jb (0 ≤ (Op.cmpValue (FP.dcmp (st.2.1 0 21) FP.dconst0) .g)) (mo_textTaken_114  st v14) (jb ((lg_cmp v14 0) ≤ 0) (mo_textTaken_114  st v14) (jc (f_mo_write st 45) (fun q15 => mo_textTaken_114  q15 v14)))))))) (jc (f_mo_fail st 3) (fun q16 => some q16)))) (some st)
def mo_textTaken_44  (st : GS) (z1 : Int64) : Option (GS) := jc (f_mo_writeWord st z1) (fun q17 => mo_textTaken_47  q17)
def mo_textTaken_17  (st : GS)  : Option (GS) := jb ((st.1 0 20) = 3) (jb ((Op.cmpValue (FP.dcmp (st.2.1 0 21) FP.dconst0) .l) = 0) (mo_textTaken_44  st (301743231813 : Int64)) (mo_textTaken_44  st (1414681925 : Int64))) (mo_textTaken_47  st)
def f_mo_textTaken (st : GS) : Option (GS) := jb ((st.1 0 20) = 4) (jc (f_mo_fail st (FP.d2i (st.2.1 0 21))) (fun q18 => mo_textTaken_17  q18)) (mo_textTaken_17  st)
set_option maxHeartbeats 4000000 in
set_option maxRecDepth 100000 in
theorem c_mo_textTaken (l : Launch) (ρ : RH) (ad : Nat → Nat) (H : Heap) (st : GS) (res : GS) (hW : GW ρ wM ad st H) (h : f_mo_textTaken st = some res) : Met l y227 (wsOf y227 b227 7 none) ({ frames := 2, cells := 0, slots := 0, locals := 45 } : Room) (va_Pc [.ref (ad 0)] (KP ρ H)) (mQ (fun v H1 => v = none ∧ GW ρ wM ad res H1) (MA wM ad H.size)) 0 0 (MA wM ad H.size) := by
  refine m_ofW (own := "WordFunctionsModel") (plainFor_of_name rfl) rfl (Nat.le_of_ble_eq_true rfl) fun p e s m args below meth c ls hx hb hr hlk _ X hs hl => ?_
  subst hs
  have hS : va_S (MA wM ad s.heap.size) s.heap s.heap [] := va_S.rf
  have hl : lv_has ls 7 [(0, .ref (ad 0))] := hl
  have kc146 : ∀ (fu : Nat), ∀ (st : GS) (x3 : Int64) (x5 : Int64) (H : Heap) (locs : List Loc) (ls : Array Slot), GW ρ wM ad st H → va_S (MA wM ad s.heap.size) s.heap H locs → lv_has ls 7 [(0, .ref (ad 0)), (3, .long x3), (5, .long x5)] → mo_textTaken_146 fu st x3 x5 = some res → W p l e ({ frames := 2, cells := 0, slots := 0, locals := 45 } : Room) s m args below meth c H locs 0 0 (MQ below (mQ (fun v H1 => v = none ∧ GW ρ wM ad res H1) (MA wM ad s.heap.size)) args s 0 0 (MA wM ad s.heap.size)) (F0 m 146 ls []) := by
    intro  fu
    induction fu with
    | zero => intro st x3 x5 H locs ls hW hS hl h; cases h
    | succ fu hK146 =>
      intro st x3 x5 H locs ls hW hS hl h
      unfold mo_textTaken_146 at h
      refine lv_lload_n (pc := 146) hx hb d227_146 rfl (lv_at hl 1 rfl) ?_
      refine lv_lconst (pc := 147) (v := 0) hx hb d227_147 rfl ?_
      refine W.lcmp (pc := 148) hx hb d227_148 ?_
      refine lv_if_le (pc := 149) (tgt := 181) hx hb d227_149 (by decide) (fun c149 => ?_) (fun c149 => ?_)
      · have h := jb_t c149 h
        obtain rfl := Option.some.inj h
        exact m_vret (pc := 181) hx hb hr hlk hS ⟨rfl, hW⟩ (by decide) (by decide) d227_181
      · have h := jb_f c149 h
        refine lv_aload_n (pc := 152) hx hb d227_152 rfl (lv_at hl 0 rfl) ?_
        refine lv_ldc2 (pc := 153) hx hb X.1.2.2.2.1 (X.ts wd1646) d227_153 ?_
        refine lv_lload_n (pc := 156) hx hb d227_156 rfl (lv_at hl 1 rfl) ?_
        refine lv_lload (pc := 157) hx hb d227_157 (lv_at hl 2 rfl) ?_
        obtain ⟨g1, h⟩ := jg_some h
        refine lv_ldiv (pc := 159) hx hb d227_159 (nzl_ne g1) ?_
        refine lv_ladd (pc := 160) hx hb d227_160 ?_
        refine lv_l2i (pc := 161) hx hb d227_161 rfl ?_
        obtain ⟨q2, hq2, h⟩ := jc_some h
        refine k_callV (pc := 162) (n := 1) X hS (c_mo_write l ρ ad _ st (((48 : Int64) + (x3 / x5)).toInt32) q2 hW hq2) wd1632 wd1629 wd1631 sl246 wd11 (by decide) ⟨rfl, rfl, by decide, by decide⟩ (m_recv X hW) (As := [.int (((48 : Int64) + (x3 / x5)).toInt32)]) (rest := []) rfl rfl hl.1 (Nat.le_of_ble_eq_true rfl) d227_162 ⟨by decide, by decide⟩ (fun q hq => MA.mono hS.1 hq) (fun v H1 locs1 hv _ _ hSq2 => ?_)
        obtain ⟨rfl, hW⟩ := hv
        have hS := hSq2
        refine lv_lload_n (pc := 165) hx hb d227_165 rfl (lv_at hl 1 rfl) ?_
        refine lv_lload (pc := 166) hx hb d227_166 (lv_at hl 2 rfl) ?_
        obtain ⟨g3, h⟩ := jg_some h
        refine lv_lrem (pc := 168) hx hb d227_168 (nzl_ne g3) ?_
        obtain ⟨v4, ev4, h⟩ := jn_ex h
        refine nm_l ev4 ?_
        refine lv_lstore_n (pc := 169) (lv' := [(3, .long v4), (0, .ref (ad 0)), (5, .long x5)]) hx hb d227_169 rfl hl (by decide) rfl (fun ls hl => ?_)
        refine lv_lload (pc := 170) hx hb d227_170 (lv_at hl 2 rfl) ?_
        refine lv_ldc2 (pc := 172) hx hb X.1.2.2.2.1 (X.ts wd1645) d227_172 ?_
        refine lv_ldiv (pc := 175) hx hb d227_175 (by decide) ?_
        obtain ⟨v5, ev5, h⟩ := jn_ex h
        refine nm_l ev5 ?_
        refine lv_lstore (pc := 176) (lv' := [(5, .long v5), (3, .long v4), (0, .ref (ad 0))]) hx hb d227_176 hl (by decide) rfl (fun ls hl => ?_)
        refine lv_goto (pc := 178) (tgt := 146) hx hb d227_178 (by decide) ?_
        exact hK146 q2 v4 v5 _ _ _ hW hS (lv_sub hl [2, 1, 0] rfl) h
  have kc141 : ∀ (st : GS) (x3 : Int64) (H : Heap) (locs : List Loc) (ls : Array Slot), GW ρ wM ad st H → va_S (MA wM ad s.heap.size) s.heap H locs → lv_has ls 7 [(0, .ref (ad 0)), (3, .long x3)] → mo_textTaken_141 st x3 = some res → W p l e ({ frames := 2, cells := 0, slots := 0, locals := 45 } : Room) s m args below meth c H locs 0 0 (MQ below (mQ (fun v H1 => v = none ∧ GW ρ wM ad res H1) (MA wM ad s.heap.size)) args s 0 0 (MA wM ad s.heap.size)) (F0 m 141 ls []) := by
    intro st x3 H locs ls hW hS hl h
    unfold mo_textTaken_141 at h
    refine lv_ldc2 (pc := 141) hx hb X.1.2.2.2.1 (X.ts wd1647) d227_141 ?_
    obtain ⟨v6, ev6, h⟩ := jn_ex h
    refine nm_l ev6 ?_
    refine lv_lstore (pc := 144) (lv' := [(5, .long v6), (0, .ref (ad 0)), (3, .long x3)]) hx hb d227_144 hl (by decide) rfl (fun ls hl => ?_)
    exact kc146  FU st x3 v6 _ _ _ hW hS (lv_sub hl [1, 2, 0] rfl) h
  have kc114 : ∀ (st : GS) (x1 : Int64) (H : Heap) (locs : List Loc) (ls : Array Slot), GW ρ wM ad st H → va_S (MA wM ad s.heap.size) s.heap H locs → lv_has ls 7 [(0, .ref (ad 0)), (1, .long x1)] → mo_textTaken_114 st x1 = some res → W p l e ({ frames := 2, cells := 0, slots := 0, locals := 45 } : Room) s m args below meth c H locs 0 0 (MQ below (mQ (fun v H1 => v = none ∧ GW ρ wM ad res H1) (MA wM ad s.heap.size)) args s 0 0 (MA wM ad s.heap.size)) (F0 m 114 ls []) := by
    intro st x1 H locs ls hW hS hl h
    unfold mo_textTaken_114 at h
    refine lv_aload_n (pc := 114) hx hb d227_114 rfl (lv_at hl 0 rfl) ?_
    refine lv_lload_n (pc := 115) hx hb d227_115 rfl (lv_at hl 1 rfl) ?_
    refine lv_ldc2 (pc := 116) hx hb X.1.2.2.2.1 (X.ts wd1639) d227_116 ?_
    refine lv_ldiv (pc := 119) hx hb d227_119 (by decide) ?_
    obtain ⟨q7, hq7, h⟩ := jc_some h
    refine k_callV (pc := 120) (n := 1) X hS (c_mo_writeNumber l ρ ad _ st (x1 / (1000 : Int64)) q7 hW hq7) wd1643 wd1640 wd1642 sl247 wd11 (by decide) ⟨rfl, rfl, by decide, by decide⟩ (m_recv X hW) (As := [.long (x1 / (1000 : Int64))]) (rest := []) rfl rfl hl.1 (Nat.le_of_ble_eq_true rfl) d227_120 ⟨by decide, by decide⟩ (fun q hq => MA.mono hS.1 hq) (fun v H1 locs1 hv _ _ hSq7 => ?_)
    obtain ⟨rfl, hW⟩ := hv
    have hS := hSq7
    refine lv_lload_n (pc := 123) hx hb d227_123 rfl (lv_at hl 1 rfl) ?_
    refine lv_ldc2 (pc := 124) hx hb X.1.2.2.2.1 (X.ts wd1639) d227_124 ?_
    refine lv_lrem (pc := 127) hx hb d227_127 (by decide) ?_
    obtain ⟨v8, ev8, h⟩ := jn_ex h
    refine nm_l ev8 ?_
    refine lv_lstore_n (pc := 128) (lv' := [(3, .long v8), (0, .ref (ad 0)), (1, .long x1)]) hx hb d227_128 rfl hl (by decide) rfl (fun ls hl => ?_)
    refine lv_lload_n (pc := 129) hx hb d227_129 rfl (lv_at hl 0 rfl) ?_
    refine lv_lconst (pc := 130) (v := 0) hx hb d227_130 rfl ?_
    refine W.lcmp (pc := 131) hx hb d227_131 ?_
    refine lv_if_le (pc := 132) (tgt := 141) hx hb d227_132 (by decide) (fun c132 => ?_) (fun c132 => ?_)
    · have h := jb_t c132 h
      exact kc141  q7 v8 _ _ _ hW hS (lv_sub hl [1, 0] rfl) h
    · have h := jb_f c132 h
      refine lv_aload_n (pc := 135) hx hb d227_135 rfl (lv_at hl 1 rfl) ?_
      refine lv_bipush (pc := 136) (v := 46) hx hb d227_136 (by decide) ?_
      obtain ⟨q9, hq9, h⟩ := jc_some h
      refine k_callV (pc := 138) (n := 1) X hS (c_mo_write l ρ ad _ q7 46 q9 hW hq9) wd1632 wd1629 wd1631 sl246 wd11 (by decide) ⟨rfl, rfl, by decide, by decide⟩ (m_recv X hW) (As := [.int 46]) (rest := []) rfl rfl hl.1 (Nat.le_of_ble_eq_true rfl) d227_138 ⟨by decide, by decide⟩ (fun q hq => MA.mono hS.1 hq) (fun v H1 locs1 hv _ _ hSq9 => ?_)
      obtain ⟨rfl, hW⟩ := hv
      have hS := hSq9
      exact kc141  q9 v8 _ _ _ hW hS (lv_sub hl [1, 0] rfl) h
  have kc47 : ∀ (st : GS)  (H : Heap) (locs : List Loc) (ls : Array Slot), GW ρ wM ad st H → va_S (MA wM ad s.heap.size) s.heap H locs → lv_has ls 7 [(0, .ref (ad 0))] → mo_textTaken_47 st = some res → W p l e ({ frames := 2, cells := 0, slots := 0, locals := 45 } : Room) s m args below meth c H locs 0 0 (MQ below (mQ (fun v H1 => v = none ∧ GW ρ wM ad res H1) (MA wM ad s.heap.size)) args s 0 0 (MA wM ad s.heap.size)) (F0 m 47 ls []) := by
    intro st  H locs ls hW hS hl h
    unfold mo_textTaken_47 at h
    refine lv_aload_n (pc := 47) hx hb d227_47 rfl (lv_at hl 0 rfl) ?_
    refine m_get (pc := 48) X hW 20 (v := .int (st.1 0 20)) wd1386 rfl rfl d227_48 ?_
    refine lv_iconst (pc := 51) (v := 1) hx hb d227_51 (by decide) ?_
    refine lv_icmp_eq (pc := 52) (tgt := 56) hx hb d227_52 (by decide) (fun c52 => ?_) (fun c52 => ?_)
    · have h := jb_t c52 h
      refine lv_aload_n (pc := 56) hx hb d227_56 rfl (lv_at hl 0 rfl) ?_
      refine m_get (pc := 57) X hW 21 (v := .double (st.2.1 0 21)) wd1387 rfl rfl d227_57 ?_
      obtain ⟨q10, hq10, h⟩ := jc_some h
      refine k_callS (pc := 60) (n := 1) X hS (c_mo_absolute l ρ _ (st.2.1 0 21) q10 hq10) wd1635 wd1633 wd1634 wd11 (by decide) ⟨rfl, rfl, by decide, by decide⟩ (As := [.double (st.2.1 0 21)]) (rest := []) rfl rfl hl.1 (Nat.le_of_ble_eq_true rfl) d227_60 ⟨by decide, by decide⟩ (fun q hq => False.elim hq) (fun v H1 locs1 hv _ _ hSq10 => ?_)
      obtain ⟨rfl, rfl⟩ := hv
      have hS := hSq10
      refine lv_ldc2d (pc := 63) hx hb X.1.2.2.2.1 (X.ts wd1636) d227_63 ?_
      refine lv_dcmp (pc := 66) hx hb d227_66 ?_
      refine lv_if_lt (pc := 67) (tgt := 76) hx hb d227_67 (by decide) (fun c67 => ?_) (fun c67 => ?_)
      · have h := jb_t c67 h
        refine lv_aload_n (pc := 76) hx hb d227_76 rfl (lv_at hl 0 rfl) ?_
        refine m_get (pc := 77) X hW 21 (v := .double (st.2.1 0 21)) wd1387 rfl rfl d227_77 ?_
        obtain ⟨q11, hq11, h⟩ := jc_some h
        refine k_callS (pc := 80) (n := 1) X hS (c_mo_absolute l ρ _ (st.2.1 0 21) q11 hq11) wd1635 wd1633 wd1634 wd11 (by decide) ⟨rfl, rfl, by decide, by decide⟩ (As := [.double (st.2.1 0 21)]) (rest := []) rfl rfl hl.1 (Nat.le_of_ble_eq_true rfl) d227_80 ⟨by decide, by decide⟩ (fun q hq => False.elim hq) (fun v H1 locs1 hv _ _ hSq11 => ?_)
        obtain ⟨rfl, rfl⟩ := hv
        have hS := hSq11
        refine lv_ldc2d (pc := 83) hx hb X.1.2.2.2.1 (X.ts wd1637) d227_83 ?_
        obtain ⟨g12, h⟩ := jg_some h
        refine lv_dmul (pc := 86) hx hb d227_86 (nn_ok g12) ?_
        refine lv_ldc2d (pc := 87) hx hb X.1.2.2.2.1 (X.ts wd1638) d227_87 ?_
        obtain ⟨g13, h⟩ := jg_some h
        refine lv_dadd (pc := 90) hx hb d227_90 (nn_ok g13) ?_
        refine lv_d2l (pc := 91) hx hb d227_91 ?_
        obtain ⟨v14, ev14, h⟩ := jn_ex h
        refine nm_l ev14 ?_
        refine lv_lstore_n (pc := 92) (lv' := [(1, .long v14), (0, .ref (ad 0))]) hx hb d227_92 rfl hl (by decide) rfl (fun ls hl => ?_)
        refine lv_aload_n (pc := 93) hx hb d227_93 rfl (lv_at hl 1 rfl) ?_
        refine m_get (pc := 94) X hW 21 (v := .double (st.2.1 0 21)) wd1387 rfl rfl d227_94 ?_
        refine lv_dconst0 (pc := 97) hx hb d227_97 ?_
        refine lv_dcmp (pc := 98) hx hb d227_98 ?_
        refine lv_if_ge (pc := 99) (tgt := 114) hx hb d227_99 (by decide) (fun c99 => ?_) (fun c99 => ?_)
        · have h := jb_t c99 h
          exact kc114  st v14 _ _ _ hW hS (lv_sub hl [1, 0] rfl) h
        · have h := jb_f c99 h
          refine lv_lload_n (pc := 102) hx hb d227_102 rfl (lv_at hl 0 rfl) ?_
          refine lv_lconst (pc := 103) (v := 0) hx hb d227_103 rfl ?_
          refine W.lcmp (pc := 104) hx hb d227_104 ?_
          refine lv_if_le (pc := 105) (tgt := 114) hx hb d227_105 (by decide) (fun c105 => ?_) (fun c105 => ?_)
          · have h := jb_t c105 h
            exact kc114  st v14 _ _ _ hW hS (lv_sub hl [1, 0] rfl) h
          · have h := jb_f c105 h
            refine lv_aload_n (pc := 108) hx hb d227_108 rfl (lv_at hl 1 rfl) ?_
            refine lv_bipush (pc := 109) (v := 45) hx hb d227_109 (by decide) ?_
            obtain ⟨q15, hq15, h⟩ := jc_some h
            refine k_callV (pc := 111) (n := 1) X hS (c_mo_write l ρ ad _ st 45 q15 hW hq15) wd1632 wd1629 wd1631 sl246 wd11 (by decide) ⟨rfl, rfl, by decide, by decide⟩ (m_recv X hW) (As := [.int 45]) (rest := []) rfl rfl hl.1 (Nat.le_of_ble_eq_true rfl) d227_111 ⟨by decide, by decide⟩ (fun q hq => MA.mono hS.1 hq) (fun v H1 locs1 hv _ _ hSq15 => ?_)
            obtain ⟨rfl, hW⟩ := hv
            have hS := hSq15
            exact kc114  q15 v14 _ _ _ hW hS (lv_sub hl [1, 0] rfl) h
      · have h := jb_f c67 h
        refine lv_aload_n (pc := 70) hx hb d227_70 rfl (lv_at hl 0 rfl) ?_
        refine lv_iconst (pc := 71) (v := 3) hx hb d227_71 (by decide) ?_
        obtain ⟨q16, hq16, h⟩ := jc_some h
        refine k_callV (pc := 72) (n := 1) X hS (c_mo_fail l ρ ad _ st 3 q16 hW hq16) wd1621 wd1618 wd1620 sl170 wd11 (by decide) ⟨rfl, rfl, by decide, by decide⟩ (m_recv X hW) (As := [.int 3]) (rest := []) rfl rfl hl.1 (Nat.le_of_ble_eq_true rfl) d227_72 ⟨by decide, by decide⟩ (fun q hq => MA.mono hS.1 hq) (fun v H1 locs1 hv _ _ hSq16 => ?_)
        obtain ⟨rfl, hW⟩ := hv
        have hS := hSq16
        obtain rfl := Option.some.inj h
        exact m_vret (pc := 75) hx hb hr hlk hS ⟨rfl, hW⟩ (by decide) (by decide) d227_75
    · have h := jb_f c52 h
      obtain rfl := Option.some.inj h
      exact m_vret (pc := 55) hx hb hr hlk hS ⟨rfl, hW⟩ (by decide) (by decide) d227_55
  have kc44 : ∀ (st : GS) (z1 : Int64) (H : Heap) (locs : List Loc) (ls : Array Slot), GW ρ wM ad st H → va_S (MA wM ad s.heap.size) s.heap H locs → lv_has ls 7 [(0, .ref (ad 0))] → mo_textTaken_44 st z1 = some res → W p l e ({ frames := 2, cells := 0, slots := 0, locals := 45 } : Room) s m args below meth c H locs 0 0 (MQ below (mQ (fun v H1 => v = none ∧ GW ρ wM ad res H1) (MA wM ad s.heap.size)) args s 0 0 (MA wM ad s.heap.size)) (F0 m 44 ls [.long z1, .ref (ad 0)]) := by
    intro st z1 H locs ls hW hS hl h
    unfold mo_textTaken_44 at h
    obtain ⟨q17, hq17, h⟩ := jc_some h
    refine k_callV (pc := 44) (n := 1) X hS (c_mo_writeWord l ρ ad _ st z1 q17 hW hq17) wd1627 wd1624 wd1626 sl248 wd11 (by decide) ⟨rfl, rfl, by decide, by decide⟩ (m_recv X hW) (As := [.long z1]) (rest := []) rfl rfl hl.1 (Nat.le_of_ble_eq_true rfl) d227_44 ⟨by decide, by decide⟩ (fun q hq => MA.mono hS.1 hq) (fun v H1 locs1 hv _ _ hSq17 => ?_)
    obtain ⟨rfl, hW⟩ := hv
    have hS := hSq17
    exact kc47  q17 _ _ _ hW hS (lv_sub hl [0] rfl) h
  have kc17 : ∀ (st : GS)  (H : Heap) (locs : List Loc) (ls : Array Slot), GW ρ wM ad st H → va_S (MA wM ad s.heap.size) s.heap H locs → lv_has ls 7 [(0, .ref (ad 0))] → mo_textTaken_17 st = some res → W p l e ({ frames := 2, cells := 0, slots := 0, locals := 45 } : Room) s m args below meth c H locs 0 0 (MQ below (mQ (fun v H1 => v = none ∧ GW ρ wM ad res H1) (MA wM ad s.heap.size)) args s 0 0 (MA wM ad s.heap.size)) (F0 m 17 ls []) := by
    intro st  H locs ls hW hS hl h
    unfold mo_textTaken_17 at h
    refine lv_aload_n (pc := 17) hx hb d227_17 rfl (lv_at hl 0 rfl) ?_
    refine m_get (pc := 18) X hW 20 (v := .int (st.1 0 20)) wd1386 rfl rfl d227_18 ?_
    refine lv_iconst (pc := 21) (v := 3) hx hb d227_21 (by decide) ?_
    refine lv_icmp_ne (pc := 22) (tgt := 47) hx hb d227_22 (by decide) (fun c22 => ?_) (fun c22 => ?_)
    · have h := jb_f c22 h
      exact kc47  st _ _ _ hW hS (lv_sub hl [0] rfl) h
    · have h := jb_t c22 h
      refine lv_aload_n (pc := 25) hx hb d227_25 rfl (lv_at hl 0 rfl) ?_
      refine lv_aload_n (pc := 26) hx hb d227_26 rfl (lv_at hl 0 rfl) ?_
      refine m_get (pc := 27) X hW 21 (v := .double (st.2.1 0 21)) wd1387 rfl rfl d227_27 ?_
      refine lv_dconst0 (pc := 30) hx hb d227_30 ?_
      refine lv_dcmp (pc := 31) hx hb d227_31 ?_
      refine lv_if_ne (pc := 32) (tgt := 41) hx hb d227_32 (by decide) (fun c32 => ?_) (fun c32 => ?_)
      · have h := jb_f c32 h
        refine lv_ldc2 (pc := 41) hx hb X.1.2.2.2.1 (X.ts wd1623) d227_41 ?_
        exact kc44  st (1414681925 : Int64) _ _ _ hW hS (lv_sub hl [0] rfl) h
      · have h := jb_t c32 h
        refine lv_ldc2 (pc := 35) hx hb X.1.2.2.2.1 (X.ts wd1622) d227_35 ?_
        refine lv_goto (pc := 38) (tgt := 44) hx hb d227_38 (by decide) ?_
        exact kc44  st (301743231813 : Int64) _ _ _ hW hS (lv_sub hl [0] rfl) h
  unfold f_mo_textTaken at h
  refine lv_aload_n (pc := 0) hx hb d227_0 rfl (lv_at hl 0 rfl) ?_
  refine m_get (pc := 1) X hW 20 (v := .int (st.1 0 20)) wd1386 rfl rfl d227_1 ?_
  refine lv_iconst (pc := 4) (v := 4) hx hb d227_4 (by decide) ?_
  refine lv_icmp_ne (pc := 5) (tgt := 17) hx hb d227_5 (by decide) (fun c5 => ?_) (fun c5 => ?_)
  · have h := jb_f c5 h
    exact kc17  st _ _ _ hW hS (lv_sub hl [0] rfl) h
  · have h := jb_t c5 h
    refine lv_aload_n (pc := 8) hx hb d227_8 rfl (lv_at hl 0 rfl) ?_
    refine lv_aload_n (pc := 9) hx hb d227_9 rfl (lv_at hl 0 rfl) ?_
    refine m_get (pc := 10) X hW 21 (v := .double (st.2.1 0 21)) wd1387 rfl rfl d227_10 ?_
    refine lv_d2i (pc := 13) hx hb d227_13 ?_
    obtain ⟨q18, hq18, h⟩ := jc_some h
    refine k_callV (pc := 14) (n := 1) X hS (c_mo_fail l ρ ad _ st (FP.d2i (st.2.1 0 21)) q18 hW hq18) wd1621 wd1618 wd1620 sl170 wd11 (by decide) ⟨rfl, rfl, by decide, by decide⟩ (m_recv X hW) (As := [.int (FP.d2i (st.2.1 0 21))]) (rest := []) rfl rfl hl.1 (Nat.le_of_ble_eq_true rfl) d227_14 ⟨by decide, by decide⟩ (fun q hq => MA.mono hS.1 hq) (fun v H1 locs1 hv _ _ hSq18 => ?_)
    obtain ⟨rfl, hW⟩ := hv
    have hS := hSq18
    exact kc17  q18 _ _ _ hW hS (lv_sub hl [0] rfl) h
def f_mo_textOf (st : GS) (p0 : Int32) : Option (GS) := jc (f_mo_takeOf st p0) (fun q1 => jc (f_mo_textTaken q1) (fun q2 => some q2))
set_option maxHeartbeats 4000000 in
set_option maxRecDepth 100000 in
theorem c_mo_textOf (l : Launch) (ρ : RH) (ad : Nat → Nat) (H : Heap) (st : GS) (p0 : Int32) (res : GS) (hW : GW ρ wM ad st H) (h : f_mo_textOf st p0 = some res) : Met l y226 (wsOf y226 b226 2 none) ({ frames := 3, cells := 0, slots := 0, locals := 71 } : Room) (va_Pc [.ref (ad 0), .int p0] (KP ρ H)) (mQ (fun v H1 => v = none ∧ GW ρ wM ad res H1) (MA wM ad H.size)) 0 0 (MA wM ad H.size) := by
  refine m_ofW (own := "WordFunctionsModel") (plainFor_of_name rfl) rfl (Nat.le_of_ble_eq_true rfl) fun p e s m args below meth c ls hx hb hr hlk _ X hs hl => ?_
  subst hs
  have hS : va_S (MA wM ad s.heap.size) s.heap s.heap [] := va_S.rf
  have hl : lv_has ls 2 [(0, .ref (ad 0)), (1, .int p0)] := hl
  unfold f_mo_textOf at h
  refine lv_aload_n (pc := 0) hx hb d226_0 rfl (lv_at hl 0 rfl) ?_
  refine lv_iload_n (pc := 1) hx hb d226_1 rfl (lv_at hl 1 rfl) ?_
  obtain ⟨q1, hq1, h⟩ := jc_some h
  refine k_callV (pc := 2) (n := 1) X hS (c_mo_takeOf l ρ ad _ st p0 q1 hW hq1) wd1601 wd1598 wd1600 sl224 wd11 (by decide) ⟨rfl, rfl, by decide, by decide⟩ (m_recv X hW) (As := [.int p0]) (rest := []) rfl rfl hl.1 (Nat.le_of_ble_eq_true rfl) d226_2 ⟨by decide, by decide⟩ (fun q hq => MA.mono hS.1 hq) (fun v H1 locs1 hv _ _ hSq1 => ?_)
  obtain ⟨rfl, hW⟩ := hv
  have hS := hSq1
  refine lv_aload_n (pc := 5) hx hb d226_5 rfl (lv_at hl 0 rfl) ?_
  obtain ⟨q2, hq2, h⟩ := jc_some h
  refine k_callV (pc := 6) (n := 0) X hS (c_mo_textTaken l ρ ad _ q1 q2 hW hq2) wd1617 wd1614 wd1616 sl227 wd11 (by decide) ⟨rfl, rfl, by decide, by decide⟩ (m_recv X hW) (As := []) (rest := []) rfl rfl hl.1 (Nat.le_of_ble_eq_true rfl) d226_6 ⟨by decide, by decide⟩ (fun q hq => MA.mono hS.1 hq) (fun v H1 locs1 hv _ _ hSq2 => ?_)
  obtain ⟨rfl, hW⟩ := hv
  have hS := hSq2
  obtain rfl := Option.some.inj h
  exact m_vret (pc := 9) hx hb hr hlk hS ⟨rfl, hW⟩ (by decide) (by decide) d226_9
def f_mo_isCell  (p0 : Int32) (p1 : Int32) : Option (Int32) := jb (p0 < 1) (some 0) (jb (1048576 < p0) (some 0) (jb (p1 < 1) (some 0) (jb (16384 < p1) (some 0) (some 1))))
set_option maxHeartbeats 4000000 in
set_option maxRecDepth 100000 in
theorem c_mo_isCell (l : Launch) (ρ : RH) (H : Heap) (p0 : Int32) (p1 : Int32) (res : Int32) (h : f_mo_isCell p0 p1 = some res) : Met l y178 (wsOf y178 b178 2 (some .boolean)) ({ frames := 0, cells := 0, slots := 0, locals := 0 } : Room) (va_Pc [.int p0, .int p1] (KP ρ H)) (mQ (fun v H1 => v = some (.int res) ∧ H1 = H) (fun _ => False)) 0 0 (fun _ => False) := by
  refine m_ofW (own := "WordFunctionsModel") (plainFor_of_name rfl) rfl (Nat.le_of_ble_eq_true rfl) fun p e s m args below meth c ls hx hb hr hlk _ X hs hl => ?_
  subst hs
  have hS : va_S (fun _ => False) s.heap s.heap [] := va_S.rf
  have hl : lv_has ls 2 [(0, .int p0), (1, .int p1)] := hl
  unfold f_mo_isCell at h
  refine lv_iload_n (pc := 0) hx hb d178_0 rfl (lv_at hl 0 rfl) ?_
  refine lv_iconst (pc := 1) (v := 1) hx hb d178_1 (by decide) ?_
  refine lv_icmp_lt (pc := 2) (tgt := 27) hx hb d178_2 (by decide) (fun c2 => ?_) (fun c2 => ?_)
  · have h := jb_t c2 h
    refine lv_iconst (pc := 27) (v := 0) hx hb d178_27 (by decide) ?_
    obtain rfl := Option.some.inj h
    exact m_zret (pc := 28) hx hb hr hlk hS ⟨rfl, rfl⟩ (by decide) (by decide) d178_28 (by decide)
  · have h := jb_f c2 h
    refine lv_iload_n (pc := 5) hx hb d178_5 rfl (lv_at hl 0 rfl) ?_
    refine lv_ldc (pc := 6) hx hb X.1.2.2.2.1 (X.ts wd1556) d178_6 ?_
    refine lv_icmp_gt (pc := 8) (tgt := 27) hx hb d178_8 (by decide) (fun c8 => ?_) (fun c8 => ?_)
    · have h := jb_t c8 h
      refine lv_iconst (pc := 27) (v := 0) hx hb d178_27 (by decide) ?_
      obtain rfl := Option.some.inj h
      exact m_zret (pc := 28) hx hb hr hlk hS ⟨rfl, rfl⟩ (by decide) (by decide) d178_28 (by decide)
    · have h := jb_f c8 h
      refine lv_iload_n (pc := 11) hx hb d178_11 rfl (lv_at hl 1 rfl) ?_
      refine lv_iconst (pc := 12) (v := 1) hx hb d178_12 (by decide) ?_
      refine lv_icmp_lt (pc := 13) (tgt := 27) hx hb d178_13 (by decide) (fun c13 => ?_) (fun c13 => ?_)
      · have h := jb_t c13 h
        refine lv_iconst (pc := 27) (v := 0) hx hb d178_27 (by decide) ?_
        obtain rfl := Option.some.inj h
        exact m_zret (pc := 28) hx hb hr hlk hS ⟨rfl, rfl⟩ (by decide) (by decide) d178_28 (by decide)
      · have h := jb_f c13 h
        refine lv_iload_n (pc := 16) hx hb d178_16 rfl (lv_at hl 1 rfl) ?_
        refine lv_sipush (pc := 17) (v := 16384) hx hb d178_17 (by decide) ?_
        refine lv_icmp_gt (pc := 20) (tgt := 27) hx hb d178_20 (by decide) (fun c20 => ?_) (fun c20 => ?_)
        · have h := jb_t c20 h
          refine lv_iconst (pc := 27) (v := 0) hx hb d178_27 (by decide) ?_
          obtain rfl := Option.some.inj h
          exact m_zret (pc := 28) hx hb hr hlk hS ⟨rfl, rfl⟩ (by decide) (by decide) d178_28 (by decide)
        · have h := jb_f c20 h
          refine lv_iconst (pc := 23) (v := 1) hx hb d178_23 (by decide) ?_
          refine lv_goto (pc := 24) (tgt := 28) hx hb d178_24 (by decide) ?_
          obtain rfl := Option.some.inj h
          exact m_zret (pc := 28) hx hb hr hlk hS ⟨rfl, rfl⟩ (by decide) (by decide) d178_28 (by decide)
def mo_make_23  (st : GS) (x1 : Int32) (z1 : Int32) : Option (GS) := jg (isB z1) (jn (uI st 0 31 z1) (fun st2 => jb ((st2.1 0 31) = 0) (jg (inb (st2.1 0 30) 256) (jn (uI st2 16 (st2.1 0 30).toNatClampNeg x1) (fun st4 => jn (uI st4 0 30 ((st4.1 0 30) + 1)) (fun st5 => some st5)))) (some st2)))
def mo_make_18  (st : GS) (x1 : Int32) : Option (GS) := mo_make_23  st x1 1
def f_mo_make (st : GS) (p0 : Int32) : Option (GS) := jb ((st.1 0 31) = 0) (jb ((st.1 0 30) = 255) (mo_make_18  st p0) (mo_make_23  st p0 0)) (mo_make_18  st p0)
set_option maxHeartbeats 4000000 in
set_option maxRecDepth 100000 in
theorem c_mo_make (l : Launch) (ρ : RH) (ad : Nat → Nat) (H : Heap) (st : GS) (p0 : Int32) (res : GS) (hW : GW ρ wM ad st H) (h : f_mo_make st p0 = some res) : Met l y195 (wsOf y195 b195 2 none) ({ frames := 0, cells := 0, slots := 0, locals := 0 } : Room) (va_Pc [.ref (ad 0), .int p0] (KP ρ H)) (mQ (fun v H1 => v = none ∧ GW ρ wM ad res H1) (MA wM ad H.size)) 0 0 (MA wM ad H.size) := by
  refine m_ofW (own := "WordFunctionsModel") (plainFor_of_name rfl) rfl (Nat.le_of_ble_eq_true rfl) fun p e s m args below meth c ls hx hb hr hlk _ X hs hl => ?_
  subst hs
  have hS : va_S (MA wM ad s.heap.size) s.heap s.heap [] := va_S.rf
  have hl : lv_has ls 2 [(0, .ref (ad 0)), (1, .int p0)] := hl
  have kc23 : ∀ (st : GS) (x1 : Int32) (z1 : Int32) (H : Heap) (locs : List Loc) (ls : Array Slot), GW ρ wM ad st H → va_S (MA wM ad s.heap.size) s.heap H locs → lv_has ls 2 [(0, .ref (ad 0)), (1, .int x1)] → mo_make_23 st x1 z1 = some res → W p l e ({ frames := 0, cells := 0, slots := 0, locals := 0 } : Room) s m args below meth c H locs 0 0 (MQ below (mQ (fun v H1 => v = none ∧ GW ρ wM ad res H1) (MA wM ad s.heap.size)) args s 0 0 (MA wM ad s.heap.size)) (F0 m 23 ls [.int z1, .ref (ad 0)]) := by
    intro st x1 z1 H locs ls hW hS hl h
    unfold mo_make_23 at h
    obtain ⟨g1, h⟩ := jg_some h
    obtain ⟨st2, est2, h⟩ := jn_ex h
    refine m_putI (pc := 23) X hW hS 31 est2 wd1397 rfl rfl rfl (isB_nar g1) (isB_fit g1) d195_23 (fun H locs hW hS => ?_)
    refine lv_aload_n (pc := 26) hx hb d195_26 rfl (lv_at hl 0 rfl) ?_
    refine m_get (pc := 27) X hW 31 (v := .int (st2.1 0 31)) wd1397 rfl rfl d195_27 ?_
    refine lv_if_eq (pc := 30) (tgt := 34) hx hb d195_30 (by decide) (fun c30 => ?_) (fun c30 => ?_)
    · have h := jb_t c30 h
      refine lv_aload_n (pc := 34) hx hb d195_34 rfl (lv_at hl 0 rfl) ?_
      refine m_get (pc := 35) X hW 26 (v := .ref (ad 16)) wd1392 rfl rfl d195_35 ?_
      refine lv_aload_n (pc := 38) hx hb d195_38 rfl (lv_at hl 0 rfl) ?_
      refine m_get (pc := 39) X hW 30 (v := .int (st2.1 0 30)) wd1396 rfl rfl d195_39 ?_
      refine lv_iload_n (pc := 42) hx hb d195_42 rfl (lv_at hl 1 rfl) ?_
      obtain ⟨g3, h⟩ := jg_some h
      obtain ⟨st4, est4, h⟩ := jn_ex h
      refine m_iast (pc := 43) X hW hS 16 (by decide) rfl g3 est4 d195_43 (fun H locs hW hS => ?_)
      refine lv_aload_n (pc := 44) hx hb d195_44 rfl (lv_at hl 0 rfl) ?_
      refine lv_dup (pc := 45) hx hb d195_45 rfl ?_
      refine m_get (pc := 46) X hW 30 (v := .int (st4.1 0 30)) wd1396 rfl rfl d195_46 ?_
      refine lv_iconst (pc := 49) (v := 1) hx hb d195_49 (by decide) ?_
      refine lv_iadd (pc := 50) hx hb d195_50 ?_
      obtain ⟨st5, est5, h⟩ := jn_ex h
      refine m_putI (pc := 51) X hW hS 30 est5 wd1396 rfl rfl rfl rfl rfl d195_51 (fun H locs hW hS => ?_)
      obtain rfl := Option.some.inj h
      exact m_vret (pc := 54) hx hb hr hlk hS ⟨rfl, hW⟩ (by decide) (by decide) d195_54
    · have h := jb_f c30 h
      obtain rfl := Option.some.inj h
      exact m_vret (pc := 33) hx hb hr hlk hS ⟨rfl, hW⟩ (by decide) (by decide) d195_33
  have kc18 : ∀ (st : GS) (x1 : Int32) (H : Heap) (locs : List Loc) (ls : Array Slot), GW ρ wM ad st H → va_S (MA wM ad s.heap.size) s.heap H locs → lv_has ls 2 [(0, .ref (ad 0)), (1, .int x1)] → mo_make_18 st x1 = some res → W p l e ({ frames := 0, cells := 0, slots := 0, locals := 0 } : Room) s m args below meth c H locs 0 0 (MQ below (mQ (fun v H1 => v = none ∧ GW ρ wM ad res H1) (MA wM ad s.heap.size)) args s 0 0 (MA wM ad s.heap.size)) (F0 m 18 ls [.ref (ad 0)]) := by
    intro st x1 H locs ls hW hS hl h
    unfold mo_make_18 at h
    refine lv_iconst (pc := 18) (v := 1) hx hb d195_18 (by decide) ?_
    refine lv_goto (pc := 19) (tgt := 23) hx hb d195_19 (by decide) ?_
    exact kc23  st x1 1 _ _ _ hW hS (lv_sub hl [0, 1] rfl) h
  unfold f_mo_make at h
  refine lv_aload_n (pc := 0) hx hb d195_0 rfl (lv_at hl 0 rfl) ?_
  refine lv_aload_n (pc := 1) hx hb d195_1 rfl (lv_at hl 0 rfl) ?_
  refine m_get (pc := 2) X hW 31 (v := .int (st.1 0 31)) wd1397 rfl rfl d195_2 ?_
  refine lv_if_ne (pc := 5) (tgt := 18) hx hb d195_5 (by decide) (fun c5 => ?_) (fun c5 => ?_)
  · have h := jb_f c5 h
    exact kc18  st p0 _ _ _ hW hS (lv_sub hl [0, 1] rfl) h
  · have h := jb_t c5 h
    refine lv_aload_n (pc := 8) hx hb d195_8 rfl (lv_at hl 0 rfl) ?_
    refine m_get (pc := 9) X hW 30 (v := .int (st.1 0 30)) wd1396 rfl rfl d195_9 ?_
    refine lv_sipush (pc := 12) (v := 255) hx hb d195_12 (by decide) ?_
    refine lv_icmp_ne (pc := 15) (tgt := 22) hx hb d195_15 (by decide) (fun c15 => ?_) (fun c15 => ?_)
    · have h := jb_f c15 h
      refine lv_iconst (pc := 22) (v := 0) hx hb d195_22 (by decide) ?_
      exact kc23  st p0 0 _ _ _ hW hS (lv_sub hl [0, 1] rfl) h
    · have h := jb_t c15 h
      exact kc18  st p0 _ _ _ hW hS (lv_sub hl [0, 1] rfl) h
def mo_makeOf_3  : Nat → GS → Nat → Int32 → Int32 → Option (GS)
  | 0, _, _, _, _ => none
  | fu + 1, st, x1, x3, x4 => jb (x3 ≤ x4) (some st) (jg (inb x4 256) (jc (f_mo_make st (st.1 x1 x4.toNatClampNeg)) (fun q2 => jn (x4 + 1) (fun v3 => mo_makeOf_3 fu q2 x1 x3 v3))))
def f_mo_makeOf (st : GS) (p0 : Nat) (p1 : Int32) (p2 : Int32) : Option (GS) := mo_makeOf_3 FU st p0 p2 p1
set_option maxHeartbeats 4000000 in
set_option maxRecDepth 100000 in
theorem c_mo_makeOf (l : Launch) (ρ : RH) (ad : Nat → Nat) (H : Heap) (st : GS) (p0 : Nat) (p1 : Int32) (p2 : Int32) (res : GS) (hW : GW ρ wM ad st H) (hp0 : p0 < 23 ∧ tabM p0 = (1, 256)) (h : f_mo_makeOf st p0 p1 p2 = some res) : Met l y197 (wsOf y197 b197 5 none) ({ frames := 1, cells := 0, slots := 0, locals := 21 } : Room) (va_Pc [.ref (ad 0), .ref (ad p0), .int p1, .int p2] (KP ρ H)) (mQ (fun v H1 => v = none ∧ GW ρ wM ad res H1) (MA wM ad H.size)) 0 0 (MA wM ad H.size) := by
  refine m_ofW (own := "WordFunctionsModel") (plainFor_of_name rfl) rfl (Nat.le_of_ble_eq_true rfl) fun p e s m args below meth c ls hx hb hr hlk _ X hs hl => ?_
  subst hs
  have hS : va_S (MA wM ad s.heap.size) s.heap s.heap [] := va_S.rf
  have hl : lv_has ls 5 [(0, .ref (ad 0)), (1, .ref (ad p0)), (2, .int p1), (3, .int p2)] := hl
  have kc3 : ∀ (fu : Nat), ∀ (st : GS) (x1 : Nat) (x3 : Int32) (x4 : Int32) (hx1 : x1 < 23 ∧ tabM x1 = (1, 256)) (H : Heap) (locs : List Loc) (ls : Array Slot), GW ρ wM ad st H → va_S (MA wM ad s.heap.size) s.heap H locs → lv_has ls 5 [(0, .ref (ad 0)), (1, .ref (ad x1)), (3, .int x3), (4, .int x4)] → mo_makeOf_3 fu st x1 x3 x4 = some res → W p l e ({ frames := 1, cells := 0, slots := 0, locals := 21 } : Room) s m args below meth c H locs 0 0 (MQ below (mQ (fun v H1 => v = none ∧ GW ρ wM ad res H1) (MA wM ad s.heap.size)) args s 0 0 (MA wM ad s.heap.size)) (F0 m 3 ls []) := by
    intro  fu
    induction fu with
    | zero => intro st x1 x3 x4 hx1 H locs ls hW hS hl h; cases h
    | succ fu hK3 =>
      intro st x1 x3 x4 hx1 H locs ls hW hS hl h
      unfold mo_makeOf_3 at h
      refine lv_iload (pc := 3) hx hb d197_3 (lv_at hl 3 rfl) ?_
      refine lv_iload_n (pc := 5) hx hb d197_5 rfl (lv_at hl 2 rfl) ?_
      refine lv_icmp_ge (pc := 6) (tgt := 23) hx hb d197_6 (by decide) (fun c6 => ?_) (fun c6 => ?_)
      · have h := jb_t c6 h
        obtain rfl := Option.some.inj h
        exact m_vret (pc := 23) hx hb hr hlk hS ⟨rfl, hW⟩ (by decide) (by decide) d197_23
      · have h := jb_f c6 h
        refine lv_aload_n (pc := 9) hx hb d197_9 rfl (lv_at hl 0 rfl) ?_
        refine lv_aload_n (pc := 10) hx hb d197_10 rfl (lv_at hl 1 rfl) ?_
        refine lv_iload (pc := 11) hx hb d197_11 (lv_at hl 3 rfl) ?_
        obtain ⟨g1, h⟩ := jg_some h
        refine r_iald (pc := 13) X hW x1 hx1.1 hx1.2 (inb_in g1) d197_13 ?_
        obtain ⟨q2, hq2, h⟩ := jc_some h
        refine k_callV (pc := 14) (n := 1) X hS (c_mo_make l ρ ad _ st (st.1 x1 x4.toNatClampNeg) q2 hW hq2) wd1703 wd1700 wd1702 sl195 wd11 (by decide) ⟨rfl, rfl, by decide, by decide⟩ (m_recv X hW) (As := [.int (st.1 x1 x4.toNatClampNeg)]) (rest := []) rfl rfl hl.1 (Nat.le_of_ble_eq_true rfl) d197_14 ⟨by decide, by decide⟩ (fun q hq => MA.mono hS.1 hq) (fun v H1 locs1 hv _ _ hSq2 => ?_)
        obtain ⟨rfl, hW⟩ := hv
        have hS := hSq2
        obtain ⟨v3, ev3, h⟩ := jn_ex h
        refine lv_iinc (pc := 17) (v := v3) (lv' := [(4, .int v3), (0, .ref (ad 0)), (1, .ref (ad x1)), (3, .int x3)]) hx hb d197_17 hl (k := 3) rfl (by rw [ev3]; rfl) (by decide) rfl (fun ls hl => ?_)
        refine lv_goto (pc := 20) (tgt := 3) hx hb d197_20 (by decide) ?_
        exact hK3 q2 x1 x3 v3 hx1 _ _ _ hW hS (lv_sub hl [1, 2, 3, 0] rfl) h
  unfold f_mo_makeOf at h
  refine lv_iload_n (pc := 0) hx hb d197_0 rfl (lv_at hl 2 rfl) ?_
  refine lv_istore (pc := 1) (lv' := [(4, .int p1), (0, .ref (ad 0)), (1, .ref (ad p0)), (2, .int p1), (3, .int p2)]) hx hb d197_1 hl (by decide) rfl (fun ls hl => ?_)
  exact kc3  FU st p0 p2 p1 hp0 _ _ _ hW hS (lv_sub hl [1, 2, 4, 0] rfl) h
def mo_columnLetters_46  (st : GS) (x1 : Int32) : Option (GS) := jc (f_mo_make st (65 + ((x1 - 1) - (x1 - 1) / 26 * 26))) (fun q1 => some q1)
def mo_columnLetters_23  (st : GS) (x1 : Int32) : Option (GS) := jb (x1 ≤ 26) (mo_columnLetters_46  st x1) (jc (f_mo_make st (65 + (((x1 - 27) / 26) - ((x1 - 27) / 26) / 26 * 26))) (fun q2 => mo_columnLetters_46  q2 x1))
def f_mo_columnLetters (st : GS) (p0 : Int32) : Option (GS) := jb (p0 ≤ 702) (mo_columnLetters_23  st p0) (jc (f_mo_make st (65 + ((p0 - 703) / 676))) (fun q3 => mo_columnLetters_23  q3 p0))
set_option maxHeartbeats 4000000 in
set_option maxRecDepth 100000 in
theorem c_mo_columnLetters (l : Launch) (ρ : RH) (ad : Nat → Nat) (H : Heap) (st : GS) (p0 : Int32) (res : GS) (hW : GW ρ wM ad st H) (h : f_mo_columnLetters st p0 = some res) : Met l y153 (wsOf y153 b153 2 none) ({ frames := 1, cells := 0, slots := 0, locals := 21 } : Room) (va_Pc [.ref (ad 0), .int p0] (KP ρ H)) (mQ (fun v H1 => v = none ∧ GW ρ wM ad res H1) (MA wM ad H.size)) 0 0 (MA wM ad H.size) := by
  refine m_ofW (own := "WordFunctionsModel") (plainFor_of_name rfl) rfl (Nat.le_of_ble_eq_true rfl) fun p e s m args below meth c ls hx hb hr hlk _ X hs hl => ?_
  subst hs
  have hS : va_S (MA wM ad s.heap.size) s.heap s.heap [] := va_S.rf
  have hl : lv_has ls 2 [(0, .ref (ad 0)), (1, .int p0)] := hl
  have kc46 : ∀ (st : GS) (x1 : Int32) (H : Heap) (locs : List Loc) (ls : Array Slot), GW ρ wM ad st H → va_S (MA wM ad s.heap.size) s.heap H locs → lv_has ls 2 [(0, .ref (ad 0)), (1, .int x1)] → mo_columnLetters_46 st x1 = some res → W p l e ({ frames := 1, cells := 0, slots := 0, locals := 21 } : Room) s m args below meth c H locs 0 0 (MQ below (mQ (fun v H1 => v = none ∧ GW ρ wM ad res H1) (MA wM ad s.heap.size)) args s 0 0 (MA wM ad s.heap.size)) (F0 m 46 ls []) := by
    intro st x1 H locs ls hW hS hl h
    unfold mo_columnLetters_46 at h
    refine lv_aload_n (pc := 46) hx hb d153_46 rfl (lv_at hl 0 rfl) ?_
    refine lv_bipush (pc := 47) (v := 65) hx hb d153_47 (by decide) ?_
    refine lv_iload_n (pc := 49) hx hb d153_49 rfl (lv_at hl 1 rfl) ?_
    refine lv_iconst (pc := 50) (v := 1) hx hb d153_50 (by decide) ?_
    refine lv_isub (pc := 51) hx hb d153_51 ?_
    refine lv_bipush (pc := 52) (v := 26) hx hb d153_52 (by decide) ?_
    refine lv_irem (pc := 54) hx hb d153_54 (by decide) ?_
    refine lv_iadd (pc := 55) hx hb d153_55 ?_
    obtain ⟨q1, hq1, h⟩ := jc_some h
    refine k_callV (pc := 56) (n := 1) X hS (c_mo_make l ρ ad _ st (65 + ((x1 - 1) - (x1 - 1) / 26 * 26)) q1 hW hq1) wd1703 wd1700 wd1702 sl195 wd11 (by decide) ⟨rfl, rfl, by decide, by decide⟩ (m_recv X hW) (As := [.int (65 + ((x1 - 1) - (x1 - 1) / 26 * 26))]) (rest := []) rfl rfl hl.1 (Nat.le_of_ble_eq_true rfl) d153_56 ⟨by decide, by decide⟩ (fun q hq => MA.mono hS.1 hq) (fun v H1 locs1 hv _ _ hSq1 => ?_)
    obtain ⟨rfl, hW⟩ := hv
    have hS := hSq1
    obtain rfl := Option.some.inj h
    exact m_vret (pc := 59) hx hb hr hlk hS ⟨rfl, hW⟩ (by decide) (by decide) d153_59
  have kc23 : ∀ (st : GS) (x1 : Int32) (H : Heap) (locs : List Loc) (ls : Array Slot), GW ρ wM ad st H → va_S (MA wM ad s.heap.size) s.heap H locs → lv_has ls 2 [(0, .ref (ad 0)), (1, .int x1)] → mo_columnLetters_23 st x1 = some res → W p l e ({ frames := 1, cells := 0, slots := 0, locals := 21 } : Room) s m args below meth c H locs 0 0 (MQ below (mQ (fun v H1 => v = none ∧ GW ρ wM ad res H1) (MA wM ad s.heap.size)) args s 0 0 (MA wM ad s.heap.size)) (F0 m 23 ls []) := by
    intro st x1 H locs ls hW hS hl h
    unfold mo_columnLetters_23 at h
    refine lv_iload_n (pc := 23) hx hb d153_23 rfl (lv_at hl 1 rfl) ?_
    refine lv_bipush (pc := 24) (v := 26) hx hb d153_24 (by decide) ?_
    refine lv_icmp_le (pc := 26) (tgt := 46) hx hb d153_26 (by decide) (fun c26 => ?_) (fun c26 => ?_)
    · have h := jb_t c26 h
      exact kc46  st x1 _ _ _ hW hS (lv_sub hl [0, 1] rfl) h
    · have h := jb_f c26 h
      refine lv_aload_n (pc := 29) hx hb d153_29 rfl (lv_at hl 0 rfl) ?_
      refine lv_bipush (pc := 30) (v := 65) hx hb d153_30 (by decide) ?_
      refine lv_iload_n (pc := 32) hx hb d153_32 rfl (lv_at hl 1 rfl) ?_
      refine lv_bipush (pc := 33) (v := 27) hx hb d153_33 (by decide) ?_
      refine lv_isub (pc := 35) hx hb d153_35 ?_
      refine lv_bipush (pc := 36) (v := 26) hx hb d153_36 (by decide) ?_
      refine lv_idiv (pc := 38) hx hb d153_38 (by decide) ?_
      refine lv_bipush (pc := 39) (v := 26) hx hb d153_39 (by decide) ?_
      refine lv_irem (pc := 41) hx hb d153_41 (by decide) ?_
      refine lv_iadd (pc := 42) hx hb d153_42 ?_
      obtain ⟨q2, hq2, h⟩ := jc_some h
      refine k_callV (pc := 43) (n := 1) X hS (c_mo_make l ρ ad _ st (65 + (((x1 - 27) / 26) - ((x1 - 27) / 26) / 26 * 26)) q2 hW hq2) wd1703 wd1700 wd1702 sl195 wd11 (by decide) ⟨rfl, rfl, by decide, by decide⟩ (m_recv X hW) (As := [.int (65 + (((x1 - 27) / 26) - ((x1 - 27) / 26) / 26 * 26))]) (rest := []) rfl rfl hl.1 (Nat.le_of_ble_eq_true rfl) d153_43 ⟨by decide, by decide⟩ (fun q hq => MA.mono hS.1 hq) (fun v H1 locs1 hv _ _ hSq2 => ?_)
      obtain ⟨rfl, hW⟩ := hv
      have hS := hSq2
      exact kc46  q2 x1 _ _ _ hW hS (lv_sub hl [0, 1] rfl) h
  unfold f_mo_columnLetters at h
  refine lv_iload_n (pc := 0) hx hb d153_0 rfl (lv_at hl 1 rfl) ?_
  refine lv_sipush (pc := 1) (v := 702) hx hb d153_1 (by decide) ?_
  refine lv_icmp_le (pc := 4) (tgt := 23) hx hb d153_4 (by decide) (fun c4 => ?_) (fun c4 => ?_)
  · have h := jb_t c4 h
    exact kc23  st p0 _ _ _ hW hS (lv_sub hl [0, 1] rfl) h
  · have h := jb_f c4 h
    refine lv_aload_n (pc := 7) hx hb d153_7 rfl (lv_at hl 0 rfl) ?_
    refine lv_bipush (pc := 8) (v := 65) hx hb d153_8 (by decide) ?_
    refine lv_iload_n (pc := 10) hx hb d153_10 rfl (lv_at hl 1 rfl) ?_
    refine lv_sipush (pc := 11) (v := 703) hx hb d153_11 (by decide) ?_
    refine lv_isub (pc := 14) hx hb d153_14 ?_
    refine lv_sipush (pc := 15) (v := 676) hx hb d153_15 (by decide) ?_
    refine lv_idiv (pc := 18) hx hb d153_18 (by decide) ?_
    refine lv_iadd (pc := 19) hx hb d153_19 ?_
    obtain ⟨q3, hq3, h⟩ := jc_some h
    refine k_callV (pc := 20) (n := 1) X hS (c_mo_make l ρ ad _ st (65 + ((p0 - 703) / 676)) q3 hW hq3) wd1703 wd1700 wd1702 sl195 wd11 (by decide) ⟨rfl, rfl, by decide, by decide⟩ (m_recv X hW) (As := [.int (65 + ((p0 - 703) / 676))]) (rest := []) rfl rfl hl.1 (Nat.le_of_ble_eq_true rfl) d153_20 ⟨by decide, by decide⟩ (fun q hq => MA.mono hS.1 hq) (fun v H1 locs1 hv _ _ hSq3 => ?_)
    obtain ⟨rfl, hW⟩ := hv
    have hS := hSq3
    exact kc23  q3 p0 _ _ _ hW hS (lv_sub hl [0, 1] rfl) h
def mo_makeNumber_18  : Nat → GS → Int32 → Int32 → Option (GS)
  | 0, _, _, _ => none
  | fu + 1, st, x1, x2 => jb (x2 ≤ 0) (some st) (jg (nz x2) (jc (f_mo_make st (48 + ((x1 / x2) - (x1 / x2) / 10 * 10))) (fun q2 => jn (x2 / 10) (fun v3 => mo_makeNumber_18 fu q2 x1 v3))))
def mo_makeNumber_2  : Nat → GS → Int32 → Int32 → Option (GS)
  | 0, _, _, _ => none
  | fu + 1, st, x1, x2 => jg (nz x2) (jb ((x1 / x2) ≤ 9) (mo_makeNumber_18 FU st x1 x2) (jn (10 * x2) (fun v5 => mo_makeNumber_2 fu st x1 v5)))
def f_mo_makeNumber (st : GS) (p0 : Int32) : Option (GS) := mo_makeNumber_2 FU st p0 1
set_option maxHeartbeats 4000000 in
set_option maxRecDepth 100000 in
theorem c_mo_makeNumber (l : Launch) (ρ : RH) (ad : Nat → Nat) (H : Heap) (st : GS) (p0 : Int32) (res : GS) (hW : GW ρ wM ad st H) (h : f_mo_makeNumber st p0 = some res) : Met l y196 (wsOf y196 b196 3 none) ({ frames := 1, cells := 0, slots := 0, locals := 21 } : Room) (va_Pc [.ref (ad 0), .int p0] (KP ρ H)) (mQ (fun v H1 => v = none ∧ GW ρ wM ad res H1) (MA wM ad H.size)) 0 0 (MA wM ad H.size) := by
  refine m_ofW (own := "WordFunctionsModel") (plainFor_of_name rfl) rfl (Nat.le_of_ble_eq_true rfl) fun p e s m args below meth c ls hx hb hr hlk _ X hs hl => ?_
  subst hs
  have hS : va_S (MA wM ad s.heap.size) s.heap s.heap [] := va_S.rf
  have hl : lv_has ls 3 [(0, .ref (ad 0)), (1, .int p0)] := hl
  have kc18 : ∀ (fu : Nat), ∀ (st : GS) (x1 : Int32) (x2 : Int32) (H : Heap) (locs : List Loc) (ls : Array Slot), GW ρ wM ad st H → va_S (MA wM ad s.heap.size) s.heap H locs → lv_has ls 3 [(0, .ref (ad 0)), (1, .int x1), (2, .int x2)] → mo_makeNumber_18 fu st x1 x2 = some res → W p l e ({ frames := 1, cells := 0, slots := 0, locals := 21 } : Room) s m args below meth c H locs 0 0 (MQ below (mQ (fun v H1 => v = none ∧ GW ρ wM ad res H1) (MA wM ad s.heap.size)) args s 0 0 (MA wM ad s.heap.size)) (F0 m 18 ls []) := by
    intro  fu
    induction fu with
    | zero => intro st x1 x2 H locs ls hW hS hl h; cases h
    | succ fu hK18 =>
      intro st x1 x2 H locs ls hW hS hl h
      unfold mo_makeNumber_18 at h
      refine lv_iload_n (pc := 18) hx hb d196_18 rfl (lv_at hl 2 rfl) ?_
      refine lv_if_le (pc := 19) (tgt := 43) hx hb d196_19 (by decide) (fun c19 => ?_) (fun c19 => ?_)
      · have h := jb_t c19 h
        obtain rfl := Option.some.inj h
        exact m_vret (pc := 43) hx hb hr hlk hS ⟨rfl, hW⟩ (by decide) (by decide) d196_43
      · have h := jb_f c19 h
        refine lv_aload_n (pc := 22) hx hb d196_22 rfl (lv_at hl 0 rfl) ?_
        refine lv_bipush (pc := 23) (v := 48) hx hb d196_23 (by decide) ?_
        refine lv_iload_n (pc := 25) hx hb d196_25 rfl (lv_at hl 1 rfl) ?_
        refine lv_iload_n (pc := 26) hx hb d196_26 rfl (lv_at hl 2 rfl) ?_
        obtain ⟨g1, h⟩ := jg_some h
        refine lv_idiv (pc := 27) hx hb d196_27 (nz_ne g1) ?_
        refine lv_bipush (pc := 28) (v := 10) hx hb d196_28 (by decide) ?_
        refine lv_irem (pc := 30) hx hb d196_30 (by decide) ?_
        refine lv_iadd (pc := 31) hx hb d196_31 ?_
        obtain ⟨q2, hq2, h⟩ := jc_some h
        refine k_callV (pc := 32) (n := 1) X hS (c_mo_make l ρ ad _ st (48 + ((x1 / x2) - (x1 / x2) / 10 * 10)) q2 hW hq2) wd1703 wd1700 wd1702 sl195 wd11 (by decide) ⟨rfl, rfl, by decide, by decide⟩ (m_recv X hW) (As := [.int (48 + ((x1 / x2) - (x1 / x2) / 10 * 10))]) (rest := []) rfl rfl hl.1 (Nat.le_of_ble_eq_true rfl) d196_32 ⟨by decide, by decide⟩ (fun q hq => MA.mono hS.1 hq) (fun v H1 locs1 hv _ _ hSq2 => ?_)
        obtain ⟨rfl, hW⟩ := hv
        have hS := hSq2
        refine lv_iload_n (pc := 35) hx hb d196_35 rfl (lv_at hl 2 rfl) ?_
        refine lv_bipush (pc := 36) (v := 10) hx hb d196_36 (by decide) ?_
        refine lv_idiv (pc := 38) hx hb d196_38 (by decide) ?_
        obtain ⟨v3, ev3, h⟩ := jn_ex h
        refine nm_i ev3 ?_
        refine lv_istore_n (pc := 39) (lv' := [(2, .int v3), (0, .ref (ad 0)), (1, .int x1)]) hx hb d196_39 rfl hl (by decide) rfl (fun ls hl => ?_)
        refine lv_goto (pc := 40) (tgt := 18) hx hb d196_40 (by decide) ?_
        exact hK18 q2 x1 v3 _ _ _ hW hS (lv_sub hl [1, 2, 0] rfl) h
  have kc2 : ∀ (fu : Nat), ∀ (st : GS) (x1 : Int32) (x2 : Int32) (H : Heap) (locs : List Loc) (ls : Array Slot), GW ρ wM ad st H → va_S (MA wM ad s.heap.size) s.heap H locs → lv_has ls 3 [(0, .ref (ad 0)), (1, .int x1), (2, .int x2)] → mo_makeNumber_2 fu st x1 x2 = some res → W p l e ({ frames := 1, cells := 0, slots := 0, locals := 21 } : Room) s m args below meth c H locs 0 0 (MQ below (mQ (fun v H1 => v = none ∧ GW ρ wM ad res H1) (MA wM ad s.heap.size)) args s 0 0 (MA wM ad s.heap.size)) (F0 m 2 ls []) := by
    intro  fu
    induction fu with
    | zero => intro st x1 x2 H locs ls hW hS hl h; cases h
    | succ fu hK2 =>
      intro st x1 x2 H locs ls hW hS hl h
      unfold mo_makeNumber_2 at h
      refine lv_iload_n (pc := 2) hx hb d196_2 rfl (lv_at hl 1 rfl) ?_
      refine lv_iload_n (pc := 3) hx hb d196_3 rfl (lv_at hl 2 rfl) ?_
      obtain ⟨g4, h⟩ := jg_some h
      refine lv_idiv (pc := 4) hx hb d196_4 (nz_ne g4) ?_
      refine lv_bipush (pc := 5) (v := 9) hx hb d196_5 (by decide) ?_
      refine lv_icmp_le (pc := 7) (tgt := 18) hx hb d196_7 (by decide) (fun c7 => ?_) (fun c7 => ?_)
      · have h := jb_t c7 h
        exact kc18  FU st x1 x2 _ _ _ hW hS (lv_sub hl [0, 1, 2] rfl) h
      · have h := jb_f c7 h
        refine lv_bipush (pc := 10) (v := 10) hx hb d196_10 (by decide) ?_
        refine lv_iload_n (pc := 12) hx hb d196_12 rfl (lv_at hl 2 rfl) ?_
        refine lv_imul (pc := 13) hx hb d196_13 ?_
        obtain ⟨v5, ev5, h⟩ := jn_ex h
        refine nm_i ev5 ?_
        refine lv_istore_n (pc := 14) (lv' := [(2, .int v5), (0, .ref (ad 0)), (1, .int x1)]) hx hb d196_14 rfl hl (by decide) rfl (fun ls hl => ?_)
        refine lv_goto (pc := 15) (tgt := 2) hx hb d196_15 (by decide) ?_
        exact hK2 st x1 v5 _ _ _ hW hS (lv_sub hl [1, 2, 0] rfl) h
  unfold f_mo_makeNumber at h
  refine lv_iconst (pc := 0) (v := 1) hx hb d196_0 (by decide) ?_
  refine lv_istore_n (pc := 1) (lv' := [(2, .int 1), (0, .ref (ad 0)), (1, .int p0)]) hx hb d196_1 rfl hl (by decide) rfl (fun ls hl => ?_)
  exact kc2  FU st p0 1 _ _ _ hW hS (lv_sub hl [1, 2, 0] rfl) h
def mo_bracketed_15  (st : GS) (x2 : Int32) (x3 : Int32) : Option (GS) := jc (f_mo_makeNumber st x2) (fun q1 => jb (x3 = 0) (jc (f_mo_make q1 93) (fun q2 => some q2)) (some q1))
def f_mo_bracketed (st : GS) (p0 : Int32) (p1 : Int32) (p2 : Int32) : Option (GS) := jc (f_mo_make st p0) (fun q3 => jb (p2 = 0) (jc (f_mo_make q3 91) (fun q4 => mo_bracketed_15  q4 p1 p2)) (mo_bracketed_15  q3 p1 p2))
set_option maxHeartbeats 4000000 in
set_option maxRecDepth 100000 in
theorem c_mo_bracketed (l : Launch) (ρ : RH) (ad : Nat → Nat) (H : Heap) (st : GS) (p0 : Int32) (p1 : Int32) (p2 : Int32) (res : GS) (hW : GW ρ wM ad st H) (h : f_mo_bracketed st p0 p1 p2 = some res) : Met l y150 (wsOf y150 b150 4 none) ({ frames := 2, cells := 0, slots := 0, locals := 43 } : Room) (va_Pc [.ref (ad 0), .int p0, .int p1, .int p2] (KP ρ H)) (mQ (fun v H1 => v = none ∧ GW ρ wM ad res H1) (MA wM ad H.size)) 0 0 (MA wM ad H.size) := by
  refine m_ofW (own := "WordFunctionsModel") (plainFor_of_name rfl) rfl (Nat.le_of_ble_eq_true rfl) fun p e s m args below meth c ls hx hb hr hlk _ X hs hl => ?_
  subst hs
  have hS : va_S (MA wM ad s.heap.size) s.heap s.heap [] := va_S.rf
  have hl : lv_has ls 4 [(0, .ref (ad 0)), (1, .int p0), (2, .int p1), (3, .int p2)] := hl
  have kc15 : ∀ (st : GS) (x2 : Int32) (x3 : Int32) (H : Heap) (locs : List Loc) (ls : Array Slot), GW ρ wM ad st H → va_S (MA wM ad s.heap.size) s.heap H locs → lv_has ls 4 [(0, .ref (ad 0)), (2, .int x2), (3, .int x3)] → mo_bracketed_15 st x2 x3 = some res → W p l e ({ frames := 2, cells := 0, slots := 0, locals := 43 } : Room) s m args below meth c H locs 0 0 (MQ below (mQ (fun v H1 => v = none ∧ GW ρ wM ad res H1) (MA wM ad s.heap.size)) args s 0 0 (MA wM ad s.heap.size)) (F0 m 15 ls []) := by
    intro st x2 x3 H locs ls hW hS hl h
    unfold mo_bracketed_15 at h
    refine lv_aload_n (pc := 15) hx hb d150_15 rfl (lv_at hl 0 rfl) ?_
    refine lv_iload_n (pc := 16) hx hb d150_16 rfl (lv_at hl 1 rfl) ?_
    obtain ⟨q1, hq1, h⟩ := jc_some h
    refine k_callV (pc := 17) (n := 1) X hS (c_mo_makeNumber l ρ ad _ st x2 q1 hW hq1) wd1865 wd1862 wd1864 sl196 wd11 (by decide) ⟨rfl, rfl, by decide, by decide⟩ (m_recv X hW) (As := [.int x2]) (rest := []) rfl rfl hl.1 (Nat.le_of_ble_eq_true rfl) d150_17 ⟨by decide, by decide⟩ (fun q hq => MA.mono hS.1 hq) (fun v H1 locs1 hv _ _ hSq1 => ?_)
    obtain ⟨rfl, hW⟩ := hv
    have hS := hSq1
    refine lv_iload_n (pc := 20) hx hb d150_20 rfl (lv_at hl 2 rfl) ?_
    refine lv_if_ne (pc := 21) (tgt := 30) hx hb d150_21 (by decide) (fun c21 => ?_) (fun c21 => ?_)
    · have h := jb_f c21 h
      obtain rfl := Option.some.inj h
      exact m_vret (pc := 30) hx hb hr hlk hS ⟨rfl, hW⟩ (by decide) (by decide) d150_30
    · have h := jb_t c21 h
      refine lv_aload_n (pc := 24) hx hb d150_24 rfl (lv_at hl 0 rfl) ?_
      refine lv_bipush (pc := 25) (v := 93) hx hb d150_25 (by decide) ?_
      obtain ⟨q2, hq2, h⟩ := jc_some h
      refine k_callV (pc := 27) (n := 1) X hS (c_mo_make l ρ ad _ q1 93 q2 hW hq2) wd1703 wd1700 wd1702 sl195 wd11 (by decide) ⟨rfl, rfl, by decide, by decide⟩ (m_recv X hW) (As := [.int 93]) (rest := []) rfl rfl hl.1 (Nat.le_of_ble_eq_true rfl) d150_27 ⟨by decide, by decide⟩ (fun q hq => MA.mono hS.1 hq) (fun v H1 locs1 hv _ _ hSq2 => ?_)
      obtain ⟨rfl, hW⟩ := hv
      have hS := hSq2
      obtain rfl := Option.some.inj h
      exact m_vret (pc := 30) hx hb hr hlk hS ⟨rfl, hW⟩ (by decide) (by decide) d150_30
  unfold f_mo_bracketed at h
  refine lv_aload_n (pc := 0) hx hb d150_0 rfl (lv_at hl 0 rfl) ?_
  refine lv_iload_n (pc := 1) hx hb d150_1 rfl (lv_at hl 1 rfl) ?_
  obtain ⟨q3, hq3, h⟩ := jc_some h
  refine k_callV (pc := 2) (n := 1) X hS (c_mo_make l ρ ad _ st p0 q3 hW hq3) wd1703 wd1700 wd1702 sl195 wd11 (by decide) ⟨rfl, rfl, by decide, by decide⟩ (m_recv X hW) (As := [.int p0]) (rest := []) rfl rfl hl.1 (Nat.le_of_ble_eq_true rfl) d150_2 ⟨by decide, by decide⟩ (fun q hq => MA.mono hS.1 hq) (fun v H1 locs1 hv _ _ hSq3 => ?_)
  obtain ⟨rfl, hW⟩ := hv
  have hS := hSq3
  refine lv_iload_n (pc := 5) hx hb d150_5 rfl (lv_at hl 3 rfl) ?_
  refine lv_if_ne (pc := 6) (tgt := 15) hx hb d150_6 (by decide) (fun c6 => ?_) (fun c6 => ?_)
  · have h := jb_f c6 h
    exact kc15  q3 p1 p2 _ _ _ hW hS (lv_sub hl [0, 2, 3] rfl) h
  · have h := jb_t c6 h
    refine lv_aload_n (pc := 9) hx hb d150_9 rfl (lv_at hl 0 rfl) ?_
    refine lv_bipush (pc := 10) (v := 91) hx hb d150_10 (by decide) ?_
    obtain ⟨q4, hq4, h⟩ := jc_some h
    refine k_callV (pc := 12) (n := 1) X hS (c_mo_make l ρ ad _ q3 91 q4 hW hq4) wd1703 wd1700 wd1702 sl195 wd11 (by decide) ⟨rfl, rfl, by decide, by decide⟩ (m_recv X hW) (As := [.int 91]) (rest := []) rfl rfl hl.1 (Nat.le_of_ble_eq_true rfl) d150_12 ⟨by decide, by decide⟩ (fun q hq => MA.mono hS.1 hq) (fun v H1 locs1 hv _ _ hSq4 => ?_)
    obtain ⟨rfl, hW⟩ := hv
    have hS := hSq4
    exact kc15  q4 p1 p2 _ _ _ hW hS (lv_sub hl [0, 2, 3] rfl) h
def mo_answerText_15  : Nat → GS → Int32 → Option (GS)
  | 0, _, _ => none
  | fu + 1, st, x1 => jb ((st.1 0 30) ≤ x1) (jb ((st.1 0 31) = 0) (some st) (jc (f_mo_fail st 3) (fun q1 => some q1))) (jg (inb x1 256) (jg (inb x1 256) (jn (uI st 17 x1.toNatClampNeg (st.1 16 x1.toNatClampNeg)) (fun st4 => jn (x1 + 1) (fun v5 => mo_answerText_15 fu st4 v5)))))
def f_mo_answerText (st : GS) : Option (GS) := jn (uI st 0 32 2) (fun st6 => jn (uI st6 0 33 (st6.1 0 30)) (fun st7 => mo_answerText_15 FU st7 0))
set_option maxHeartbeats 4000000 in
set_option maxRecDepth 100000 in
theorem c_mo_answerText (l : Launch) (ρ : RH) (ad : Nat → Nat) (H : Heap) (st : GS) (res : GS) (hW : GW ρ wM ad st H) (h : f_mo_answerText st = some res) : Met l y144 (wsOf y144 b144 2 none) ({ frames := 1, cells := 0, slots := 0, locals := 21 } : Room) (va_Pc [.ref (ad 0)] (KP ρ H)) (mQ (fun v H1 => v = none ∧ GW ρ wM ad res H1) (MA wM ad H.size)) 0 0 (MA wM ad H.size) := by
  refine m_ofW (own := "WordFunctionsModel") (plainFor_of_name rfl) rfl (Nat.le_of_ble_eq_true rfl) fun p e s m args below meth c ls hx hb hr hlk _ X hs hl => ?_
  subst hs
  have hS : va_S (MA wM ad s.heap.size) s.heap s.heap [] := va_S.rf
  have hl : lv_has ls 2 [(0, .ref (ad 0))] := hl
  have kc15 : ∀ (fu : Nat), ∀ (st : GS) (x1 : Int32) (H : Heap) (locs : List Loc) (ls : Array Slot), GW ρ wM ad st H → va_S (MA wM ad s.heap.size) s.heap H locs → lv_has ls 2 [(0, .ref (ad 0)), (1, .int x1)] → mo_answerText_15 fu st x1 = some res → W p l e ({ frames := 1, cells := 0, slots := 0, locals := 21 } : Room) s m args below meth c H locs 0 0 (MQ below (mQ (fun v H1 => v = none ∧ GW ρ wM ad res H1) (MA wM ad s.heap.size)) args s 0 0 (MA wM ad s.heap.size)) (F0 m 15 ls []) := by
    intro  fu
    induction fu with
    | zero => intro st x1 H locs ls hW hS hl h; cases h
    | succ fu hK15 =>
      intro st x1 H locs ls hW hS hl h
      unfold mo_answerText_15 at h
      refine lv_iload_n (pc := 15) hx hb d144_15 rfl (lv_at hl 1 rfl) ?_
      refine lv_aload_n (pc := 16) hx hb d144_16 rfl (lv_at hl 0 rfl) ?_
      refine m_get (pc := 17) X hW 30 (v := .int (st.1 0 30)) wd1396 rfl rfl d144_17 ?_
      refine lv_icmp_ge (pc := 20) (tgt := 41) hx hb d144_20 (by decide) (fun c20 => ?_) (fun c20 => ?_)
      · have h := jb_t c20 h
        refine lv_aload_n (pc := 41) hx hb d144_41 rfl (lv_at hl 0 rfl) ?_
        refine m_get (pc := 42) X hW 31 (v := .int (st.1 0 31)) wd1397 rfl rfl d144_42 ?_
        refine lv_if_eq (pc := 45) (tgt := 53) hx hb d144_45 (by decide) (fun c45 => ?_) (fun c45 => ?_)
        · have h := jb_t c45 h
          obtain rfl := Option.some.inj h
          exact m_vret (pc := 53) hx hb hr hlk hS ⟨rfl, hW⟩ (by decide) (by decide) d144_53
        · have h := jb_f c45 h
          refine lv_aload_n (pc := 48) hx hb d144_48 rfl (lv_at hl 0 rfl) ?_
          refine lv_iconst (pc := 49) (v := 3) hx hb d144_49 (by decide) ?_
          obtain ⟨q1, hq1, h⟩ := jc_some h
          refine k_callV (pc := 50) (n := 1) X hS (c_mo_fail l ρ ad _ st 3 q1 hW hq1) wd1621 wd1618 wd1620 sl170 wd11 (by decide) ⟨rfl, rfl, by decide, by decide⟩ (m_recv X hW) (As := [.int 3]) (rest := []) rfl rfl hl.1 (Nat.le_of_ble_eq_true rfl) d144_50 ⟨by decide, by decide⟩ (fun q hq => MA.mono hS.1 hq) (fun v H1 locs1 hv _ _ hSq1 => ?_)
          obtain ⟨rfl, hW⟩ := hv
          have hS := hSq1
          obtain rfl := Option.some.inj h
          exact m_vret (pc := 53) hx hb hr hlk hS ⟨rfl, hW⟩ (by decide) (by decide) d144_53
      · have h := jb_f c20 h
        refine lv_aload_n (pc := 23) hx hb d144_23 rfl (lv_at hl 0 rfl) ?_
        refine m_get (pc := 24) X hW 35 (v := .ref (ad 17)) wd1401 rfl rfl d144_24 ?_
        refine lv_iload_n (pc := 27) hx hb d144_27 rfl (lv_at hl 1 rfl) ?_
        refine lv_aload_n (pc := 28) hx hb d144_28 rfl (lv_at hl 0 rfl) ?_
        refine m_get (pc := 29) X hW 26 (v := .ref (ad 16)) wd1392 rfl rfl d144_29 ?_
        refine lv_iload_n (pc := 32) hx hb d144_32 rfl (lv_at hl 1 rfl) ?_
        obtain ⟨g2, h⟩ := jg_some h
        refine r_iald (pc := 33) X hW 16 (by decide) rfl (inb_in g2) d144_33 ?_
        obtain ⟨g3, h⟩ := jg_some h
        obtain ⟨st4, est4, h⟩ := jn_ex h
        refine m_iast (pc := 34) X hW hS 17 (by decide) rfl g3 est4 d144_34 (fun H locs hW hS => ?_)
        obtain ⟨v5, ev5, h⟩ := jn_ex h
        refine lv_iinc (pc := 35) (v := v5) (lv' := [(1, .int v5), (0, .ref (ad 0))]) hx hb d144_35 hl (k := 1) rfl (by rw [ev5]; rfl) (by decide) rfl (fun ls hl => ?_)
        refine lv_goto (pc := 38) (tgt := 15) hx hb d144_38 (by decide) ?_
        exact hK15 st4 v5 _ _ _ hW hS (lv_sub hl [1, 0] rfl) h
  unfold f_mo_answerText at h
  refine lv_aload_n (pc := 0) hx hb d144_0 rfl (lv_at hl 0 rfl) ?_
  refine lv_iconst (pc := 1) (v := 2) hx hb d144_1 (by decide) ?_
  obtain ⟨st6, est6, h⟩ := jn_ex h
  refine m_putI (pc := 2) X hW hS 32 est6 wd1398 rfl rfl rfl rfl rfl d144_2 (fun H locs hW hS => ?_)
  refine lv_aload_n (pc := 5) hx hb d144_5 rfl (lv_at hl 0 rfl) ?_
  refine lv_aload_n (pc := 6) hx hb d144_6 rfl (lv_at hl 0 rfl) ?_
  refine m_get (pc := 7) X hW 30 (v := .int (st6.1 0 30)) wd1396 rfl rfl d144_7 ?_
  obtain ⟨st7, est7, h⟩ := jn_ex h
  refine m_putI (pc := 10) X hW hS 33 est7 wd1399 rfl rfl rfl rfl rfl d144_10 (fun H locs hW hS => ?_)
  refine lv_iconst (pc := 13) (v := 0) hx hb d144_13 (by decide) ?_
  refine lv_istore_n (pc := 14) (lv' := [(1, .int 0), (0, .ref (ad 0))]) hx hb d144_14 rfl hl (by decide) rfl (fun ls hl => ?_)
  exact kc15  FU st7 0 _ _ _ hW hS (lv_sub hl [1, 0] rfl) h
