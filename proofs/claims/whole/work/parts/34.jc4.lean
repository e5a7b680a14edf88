abbrev b105 : ByteArray := prog_9_method_3_code
theorem d105_0 : decode b105 0 = .ok ((.aload_n 0), 1) := by decide +kernel
theorem d105_1 : decode b105 1 = .ok ((.iconst 0), 1) := by decide +kernel
theorem d105_2 : decode b105 2 = .ok ((.putfield 19), 3) := by decide +kernel
theorem d105_5 : decode b105 5 = .ok ((.iconst 0), 1) := by decide +kernel
theorem d105_6 : decode b105 6 = .ok ((.istore_n 2), 1) := by decide +kernel
theorem d105_7 : decode b105 7 = .ok ((.iload_n 2), 1) := by decide +kernel
theorem d105_8 : decode b105 8 = .ok ((.aload_n 1), 1) := by decide +kernel
theorem d105_9 : decode b105 9 = .ok ((.invokevirtual 23), 3) := by decide +kernel
theorem d105_12 : decode b105 12 = .ok ((.if_icmp .ge 141), 3) := by decide +kernel
theorem d105_15 : decode b105 15 = .ok ((.aload_n 0), 1) := by decide +kernel
theorem d105_16 : decode b105 16 = .ok ((.getfield 19), 3) := by decide +kernel
theorem d105_19 : decode b105 19 = .ok ((.aload_n 0), 1) := by decide +kernel
theorem d105_20 : decode b105 20 = .ok ((.getfield 9), 3) := by decide +kernel
theorem d105_23 : decode b105 23 = .ok (.arraylength, 1) := by decide +kernel
theorem d105_24 : decode b105 24 = .ok ((.if_icmp .ge 129), 3) := by decide +kernel
theorem d105_27 : decode b105 27 = .ok ((.aload_n 1), 1) := by decide +kernel
theorem d105_28 : decode b105 28 = .ok ((.iload_n 2), 1) := by decide +kernel
theorem d105_29 : decode b105 29 = .ok ((.invokevirtual 29), 3) := by decide +kernel
theorem d105_32 : decode b105 32 = .ok ((.istore_n 3), 1) := by decide +kernel
theorem d105_33 : decode b105 33 = .ok ((.iload_n 3), 1) := by decide +kernel
theorem d105_34 : decode b105 34 = .ok ((.bipush 126), 2) := by decide +kernel
theorem d105_36 : decode b105 36 = .ok ((.if_icmp .ne 46), 3) := by decide +kernel
theorem d105_39 : decode b105 39 = .ok ((.iload_n 2), 1) := by decide +kernel
theorem d105_40 : decode b105 40 = .ok ((.iconst 1), 1) := by decide +kernel
theorem d105_41 : decode b105 41 = .ok (.iadd, 1) := by decide +kernel
theorem d105_42 : decode b105 42 = .ok ((.aload_n 1), 1) := by decide +kernel
theorem d105_43 : decode b105 43 = .ok ((.invokevirtual 23), 3) := by decide +kernel
theorem d105_46 : decode b105 46 = .ok ((.if_icmp .ge 36), 3) := by decide +kernel
theorem d105_49 : decode b105 49 = .ok ((.aload_n 1), 1) := by decide +kernel
theorem d105_50 : decode b105 50 = .ok ((.iload_n 2), 1) := by decide +kernel
theorem d105_51 : decode b105 51 = .ok ((.iconst 1), 1) := by decide +kernel
theorem d105_52 : decode b105 52 = .ok (.iadd, 1) := by decide +kernel
theorem d105_53 : decode b105 53 = .ok ((.invokevirtual 29), 3) := by decide +kernel
theorem d105_56 : decode b105 56 = .ok ((.invokestatic 33), 3) := by decide +kernel
theorem d105_59 : decode b105 59 = .ok ((.ifCond .eq 23), 3) := by decide +kernel
theorem d105_62 : decode b105 62 = .ok ((.iinc 2 1), 3) := by decide +kernel
theorem d105_65 : decode b105 65 = .ok ((.aload_n 0), 1) := by decide +kernel
theorem d105_66 : decode b105 66 = .ok ((.getfield 9), 3) := by decide +kernel
theorem d105_69 : decode b105 69 = .ok ((.aload_n 0), 1) := by decide +kernel
theorem d105_70 : decode b105 70 = .ok ((.getfield 19), 3) := by decide +kernel
theorem d105_73 : decode b105 73 = .ok ((.aload_n 1), 1) := by decide +kernel
theorem d105_74 : decode b105 74 = .ok ((.iload_n 2), 1) := by decide +kernel
theorem d105_75 : decode b105 75 = .ok ((.invokevirtual 29), 3) := by decide +kernel
theorem d105_78 : decode b105 78 = .ok (.iastore, 1) := by decide +kernel
theorem d105_79 : decode b105 79 = .ok ((.goto 58), 3) := by decide +kernel
theorem d105_82 : decode b105 82 = .ok ((.iload_n 3), 1) := by decide +kernel
theorem d105_83 : decode b105 83 = .ok ((.bipush 63), 2) := by decide +kernel
theorem d105_85 : decode b105 85 = .ok ((.if_icmp .ne 18), 3) := by decide +kernel
theorem d105_88 : decode b105 88 = .ok ((.aload_n 0), 1) := by decide +kernel
theorem d105_89 : decode b105 89 = .ok ((.getfield 9), 3) := by decide +kernel
theorem d105_92 : decode b105 92 = .ok ((.aload_n 0), 1) := by decide +kernel
theorem d105_93 : decode b105 93 = .ok ((.getfield 19), 3) := by decide +kernel
theorem d105_96 : decode b105 96 = .ok ((.sipush 256), 3) := by decide +kernel
theorem d105_99 : decode b105 99 = .ok (.iastore, 1) := by decide +kernel
theorem d105_100 : decode b105 100 = .ok ((.goto 37), 3) := by decide +kernel
theorem d105_103 : decode b105 103 = .ok ((.iload_n 3), 1) := by decide +kernel
theorem d105_104 : decode b105 104 = .ok ((.bipush 42), 2) := by decide +kernel
theorem d105_106 : decode b105 106 = .ok ((.if_icmp .ne 18), 3) := by decide +kernel
theorem d105_109 : decode b105 109 = .ok ((.aload_n 0), 1) := by decide +kernel
theorem d105_110 : decode b105 110 = .ok ((.getfield 9), 3) := by decide +kernel
theorem d105_113 : decode b105 113 = .ok ((.aload_n 0), 1) := by decide +kernel
theorem d105_114 : decode b105 114 = .ok ((.getfield 19), 3) := by decide +kernel
theorem d105_117 : decode b105 117 = .ok ((.sipush 257), 3) := by decide +kernel
theorem d105_120 : decode b105 120 = .ok (.iastore, 1) := by decide +kernel
theorem d105_121 : decode b105 121 = .ok ((.goto 16), 3) := by decide +kernel
theorem d105_124 : decode b105 124 = .ok ((.aload_n 0), 1) := by decide +kernel
theorem d105_125 : decode b105 125 = .ok ((.getfield 9), 3) := by decide +kernel
theorem d105_128 : decode b105 128 = .ok ((.aload_n 0), 1) := by decide +kernel
theorem d105_129 : decode b105 129 = .ok ((.getfield 19), 3) := by decide +kernel
theorem d105_132 : decode b105 132 = .ok ((.iload_n 3), 1) := by decide +kernel
theorem d105_133 : decode b105 133 = .ok ((.invokestatic 37), 3) := by decide +kernel
theorem d105_136 : decode b105 136 = .ok (.iastore, 1) := by decide +kernel
theorem d105_137 : decode b105 137 = .ok ((.aload_n 0), 1) := by decide +kernel
theorem d105_138 : decode b105 138 = .ok (.dup, 1) := by decide +kernel
theorem d105_139 : decode b105 139 = .ok ((.getfield 19), 3) := by decide +kernel
theorem d105_142 : decode b105 142 = .ok ((.iconst 1), 1) := by decide +kernel
theorem d105_143 : decode b105 143 = .ok (.iadd, 1) := by decide +kernel
theorem d105_144 : decode b105 144 = .ok ((.putfield 19), 3) := by decide +kernel
theorem d105_147 : decode b105 147 = .ok ((.iinc 2 1), 3) := by decide +kernel
theorem d105_150 : decode b105 150 = .ok ((.goto (-143)), 3) := by decide +kernel
theorem d105_153 : decode b105 153 = .ok (.return_, 1) := by decide +kernel
abbrev b103 : ByteArray := prog_9_method_4_code
theorem d103_0 : decode b103 0 = .ok ((.aload_n 1), 1) := by decide +kernel
theorem d103_1 : decode b103 1 = .ok ((.invokevirtual 23), 3) := by decide +kernel
theorem d103_4 : decode b103 4 = .ok ((.sipush 255), 3) := by decide +kernel
theorem d103_7 : decode b103 7 = .ok ((.invokestatic 41), 3) := by decide +kernel
theorem d103_10 : decode b103 10 = .ok ((.istore_n 3), 1) := by decide +kernel
theorem d103_11 : decode b103 11 = .ok ((.iconst 0), 1) := by decide +kernel
theorem d103_12 : decode b103 12 = .ok ((.istore 4), 2) := by decide +kernel
theorem d103_14 : decode b103 14 = .ok ((.iload 4), 2) := by decide +kernel
theorem d103_16 : decode b103 16 = .ok ((.iload_n 3), 1) := by decide +kernel
theorem d103_17 : decode b103 17 = .ok ((.if_icmp .gt 31), 3) := by decide +kernel
theorem d103_20 : decode b103 20 = .ok ((.aload_n 0), 1) := by decide +kernel
theorem d103_21 : decode b103 21 = .ok ((.getfield 15), 3) := by decide +kernel
theorem d103_24 : decode b103 24 = .ok ((.iload 4), 2) := by decide +kernel
theorem d103_26 : decode b103 26 = .ok ((.iload_n 2), 1) := by decide +kernel
theorem d103_27 : decode b103 27 = .ok ((.ifCond .eq 9), 3) := by decide +kernel
theorem d103_30 : decode b103 30 = .ok ((.iload 4), 2) := by decide +kernel
theorem d103_32 : decode b103 32 = .ok ((.iload_n 3), 1) := by decide +kernel
theorem d103_33 : decode b103 33 = .ok ((.if_icmp .ne 7), 3) := by decide +kernel
theorem d103_36 : decode b103 36 = .ok ((.iconst 1), 1) := by decide +kernel
theorem d103_37 : decode b103 37 = .ok ((.goto 4), 3) := by decide +kernel
theorem d103_40 : decode b103 40 = .ok ((.iconst 0), 1) := by decide +kernel
theorem d103_41 : decode b103 41 = .ok (.bastore, 1) := by decide +kernel
theorem d103_42 : decode b103 42 = .ok ((.iinc 4 1), 3) := by decide +kernel
theorem d103_45 : decode b103 45 = .ok ((.goto (-31)), 3) := by decide +kernel
theorem d103_48 : decode b103 48 = .ok ((.aload_n 0), 1) := by decide +kernel
theorem d103_49 : decode b103 49 = .ok ((.getfield 19), 3) := by decide +kernel
theorem d103_52 : decode b103 52 = .ok ((.iconst 1), 1) := by decide +kernel
theorem d103_53 : decode b103 53 = .ok (.isub, 1) := by decide +kernel
theorem d103_54 : decode b103 54 = .ok ((.istore 4), 2) := by decide +kernel
theorem d103_56 : decode b103 56 = .ok ((.iload 4), 2) := by decide +kernel
theorem d103_58 : decode b103 58 = .ok ((.ifCond .lt 147), 3) := by decide +kernel
theorem d103_61 : decode b103 61 = .ok ((.aload_n 0), 1) := by decide +kernel
theorem d103_62 : decode b103 62 = .ok ((.getfield 9), 3) := by decide +kernel
theorem d103_65 : decode b103 65 = .ok ((.iload 4), 2) := by decide +kernel
theorem d103_67 : decode b103 67 = .ok (.iaload, 1) := by decide +kernel
theorem d103_68 : decode b103 68 = .ok ((.istore 5), 2) := by decide +kernel
theorem d103_70 : decode b103 70 = .ok ((.iload 5), 2) := by decide +kernel
theorem d103_72 : decode b103 72 = .ok ((.sipush 257), 3) := by decide +kernel
theorem d103_75 : decode b103 75 = .ok ((.if_icmp .ne 56), 3) := by decide +kernel
theorem d103_78 : decode b103 78 = .ok ((.iload_n 3), 1) := by decide +kernel
theorem d103_79 : decode b103 79 = .ok ((.iconst 1), 1) := by decide +kernel
theorem d103_80 : decode b103 80 = .ok (.isub, 1) := by decide +kernel
theorem d103_81 : decode b103 81 = .ok ((.istore 6), 2) := by decide +kernel
theorem d103_83 : decode b103 83 = .ok ((.iload 6), 2) := by decide +kernel
theorem d103_85 : decode b103 85 = .ok ((.ifCond .lt 43), 3) := by decide +kernel
theorem d103_88 : decode b103 88 = .ok ((.aload_n 0), 1) := by decide +kernel
theorem d103_89 : decode b103 89 = .ok ((.getfield 15), 3) := by decide +kernel
theorem d103_92 : decode b103 92 = .ok ((.iload 6), 2) := by decide +kernel
theorem d103_94 : decode b103 94 = .ok ((.aload_n 0), 1) := by decide +kernel
theorem d103_95 : decode b103 95 = .ok ((.getfield 15), 3) := by decide +kernel
theorem d103_98 : decode b103 98 = .ok ((.iload 6), 2) := by decide +kernel
theorem d103_100 : decode b103 100 = .ok (.baload, 1) := by decide +kernel
theorem d103_101 : decode b103 101 = .ok ((.ifCond .ne 15), 3) := by decide +kernel
theorem d103_104 : decode b103 104 = .ok ((.aload_n 0), 1) := by decide +kernel
theorem d103_105 : decode b103 105 = .ok ((.getfield 15), 3) := by decide +kernel
theorem d103_108 : decode b103 108 = .ok ((.iload 6), 2) := by decide +kernel
theorem d103_110 : decode b103 110 = .ok ((.iconst 1), 1) := by decide +kernel
theorem d103_111 : decode b103 111 = .ok (.iadd, 1) := by decide +kernel
theorem d103_112 : decode b103 112 = .ok (.baload, 1) := by decide +kernel
theorem d103_113 : decode b103 113 = .ok ((.ifCond .eq 7), 3) := by decide +kernel
theorem d103_116 : decode b103 116 = .ok ((.iconst 1), 1) := by decide +kernel
theorem d103_117 : decode b103 117 = .ok ((.goto 4), 3) := by decide +kernel
theorem d103_120 : decode b103 120 = .ok ((.iconst 0), 1) := by decide +kernel
theorem d103_121 : decode b103 121 = .ok (.bastore, 1) := by decide +kernel
theorem d103_122 : decode b103 122 = .ok ((.iinc 6 (-1)), 3) := by decide +kernel
theorem d103_125 : decode b103 125 = .ok ((.goto (-42)), 3) := by decide +kernel
theorem d103_128 : decode b103 128 = .ok ((.goto 71), 3) := by decide +kernel
theorem d103_131 : decode b103 131 = .ok ((.iconst 0), 1) := by decide +kernel
theorem d103_132 : decode b103 132 = .ok ((.istore 6), 2) := by decide +kernel
theorem d103_134 : decode b103 134 = .ok ((.iload 6), 2) := by decide +kernel
theorem d103_136 : decode b103 136 = .ok ((.iload_n 3), 1) := by decide +kernel
theorem d103_137 : decode b103 137 = .ok ((.if_icmp .ge 55), 3) := by decide +kernel
theorem d103_140 : decode b103 140 = .ok ((.aload_n 0), 1) := by decide +kernel
theorem d103_141 : decode b103 141 = .ok ((.getfield 15), 3) := by decide +kernel
theorem d103_144 : decode b103 144 = .ok ((.iload 6), 2) := by decide +kernel
theorem d103_146 : decode b103 146 = .ok ((.aload_n 0), 1) := by decide +kernel
theorem d103_147 : decode b103 147 = .ok ((.getfield 15), 3) := by decide +kernel
theorem d103_150 : decode b103 150 = .ok ((.iload 6), 2) := by decide +kernel
theorem d103_152 : decode b103 152 = .ok ((.iconst 1), 1) := by decide +kernel
theorem d103_153 : decode b103 153 = .ok (.iadd, 1) := by decide +kernel
theorem d103_154 : decode b103 154 = .ok (.baload, 1) := by decide +kernel
theorem d103_155 : decode b103 155 = .ok ((.ifCond .eq 29), 3) := by decide +kernel
theorem d103_158 : decode b103 158 = .ok ((.iload 5), 2) := by decide +kernel
theorem d103_160 : decode b103 160 = .ok ((.sipush 256), 3) := by decide +kernel
theorem d103_163 : decode b103 163 = .ok ((.if_icmp .eq 17), 3) := by decide +kernel
theorem d103_166 : decode b103 166 = .ok ((.iload 5), 2) := by decide +kernel
theorem d103_168 : decode b103 168 = .ok ((.aload_n 1), 1) := by decide +kernel
theorem d103_169 : decode b103 169 = .ok ((.iload 6), 2) := by decide +kernel
theorem d103_171 : decode b103 171 = .ok ((.invokevirtual 29), 3) := by decide +kernel
theorem d103_174 : decode b103 174 = .ok ((.invokestatic 37), 3) := by decide +kernel
theorem d103_177 : decode b103 177 = .ok ((.if_icmp .ne 7), 3) := by decide +kernel
theorem d103_180 : decode b103 180 = .ok ((.iconst 1), 1) := by decide +kernel
theorem d103_181 : decode b103 181 = .ok ((.goto 4), 3) := by decide +kernel
theorem d103_184 : decode b103 184 = .ok ((.iconst 0), 1) := by decide +kernel
theorem d103_185 : decode b103 185 = .ok (.bastore, 1) := by decide +kernel
theorem d103_186 : decode b103 186 = .ok ((.iinc 6 1), 3) := by decide +kernel
theorem d103_189 : decode b103 189 = .ok ((.goto (-55)), 3) := by decide +kernel
theorem d103_192 : decode b103 192 = .ok ((.aload_n 0), 1) := by decide +kernel
theorem d103_193 : decode b103 193 = .ok ((.getfield 15), 3) := by decide +kernel
theorem d103_196 : decode b103 196 = .ok ((.iload_n 3), 1) := by decide +kernel
theorem d103_197 : decode b103 197 = .ok ((.iconst 0), 1) := by decide +kernel
theorem d103_198 : decode b103 198 = .ok (.bastore, 1) := by decide +kernel
theorem d103_199 : decode b103 199 = .ok ((.iinc 4 (-1)), 3) := by decide +kernel
theorem d103_202 : decode b103 202 = .ok ((.goto (-146)), 3) := by decide +kernel
theorem d103_205 : decode b103 205 = .ok ((.aload_n 0), 1) := by decide +kernel
theorem d103_206 : decode b103 206 = .ok ((.getfield 15), 3) := by decide +kernel
theorem d103_209 : decode b103 209 = .ok ((.iconst 0), 1) := by decide +kernel
theorem d103_210 : decode b103 210 = .ok (.baload, 1) := by decide +kernel
theorem d103_211 : decode b103 211 = .ok (.ireturn, 1) := by decide +kernel
abbrev b99 : ByteArray := prog_8_method_6_code
theorem d99_0 : decode b99 0 = .ok ((.aload_n 0), 1) := by decide +kernel
theorem d99_1 : decode b99 1 = .ok ((.getfield 55), 3) := by decide +kernel
theorem d99_4 : decode b99 4 = .ok ((.iconst 2), 1) := by decide +kernel
theorem d99_5 : decode b99 5 = .ok ((.if_icmp .eq 37), 3) := by decide +kernel
theorem d99_8 : decode b99 8 = .ok ((.aload_n 0), 1) := by decide +kernel
theorem d99_9 : decode b99 9 = .ok ((.getfield 59), 3) := by decide +kernel
theorem d99_12 : decode b99 12 = .ok ((.aload_n 1), 1) := by decide +kernel
theorem d99_13 : decode b99 13 = .ok ((.getfield 59), 3) := by decide +kernel
theorem d99_16 : decode b99 16 = .ok ((.dcmp .g), 1) := by decide +kernel
theorem d99_17 : decode b99 17 = .ok ((.ifCond .ge 7), 3) := by decide +kernel
theorem d99_20 : decode b99 20 = .ok ((.iconst (-1)), 1) := by decide +kernel
theorem d99_21 : decode b99 21 = .ok ((.goto 20), 3) := by decide +kernel
theorem d99_24 : decode b99 24 = .ok ((.aload_n 0), 1) := by decide +kernel
theorem d99_25 : decode b99 25 = .ok ((.getfield 59), 3) := by decide +kernel
theorem d99_28 : decode b99 28 = .ok ((.aload_n 1), 1) := by decide +kernel
theorem d99_29 : decode b99 29 = .ok ((.getfield 59), 3) := by decide +kernel
theorem d99_32 : decode b99 32 = .ok ((.dcmp .l), 1) := by decide +kernel
theorem d99_33 : decode b99 33 = .ok ((.ifCond .le 7), 3) := by decide +kernel
theorem d99_36 : decode b99 36 = .ok ((.iconst 1), 1) := by decide +kernel
theorem d99_37 : decode b99 37 = .ok ((.goto 4), 3) := by decide +kernel
theorem d99_40 : decode b99 40 = .ok ((.iconst 0), 1) := by decide +kernel
theorem d99_41 : decode b99 41 = .ok (.ireturn, 1) := by decide +kernel
theorem d99_42 : decode b99 42 = .ok ((.aload_n 0), 1) := by decide +kernel
theorem d99_43 : decode b99 43 = .ok ((.getfield 67), 3) := by decide +kernel
theorem d99_46 : decode b99 46 = .ok ((.invokevirtual 94), 3) := by decide +kernel
theorem d99_49 : decode b99 49 = .ok ((.aload_n 1), 1) := by decide +kernel
theorem d99_50 : decode b99 50 = .ok ((.getfield 67), 3) := by decide +kernel
theorem d99_53 : decode b99 53 = .ok ((.invokevirtual 94), 3) := by decide +kernel
theorem d99_56 : decode b99 56 = .ok ((.invokestatic 98), 3) := by decide +kernel
theorem d99_59 : decode b99 59 = .ok ((.istore_n 2), 1) := by decide +kernel
theorem d99_60 : decode b99 60 = .ok ((.iconst 0), 1) := by decide +kernel
theorem d99_61 : decode b99 61 = .ok ((.istore_n 3), 1) := by decide +kernel
theorem d99_62 : decode b99 62 = .ok ((.iload_n 3), 1) := by decide +kernel
theorem d99_63 : decode b99 63 = .ok ((.iload_n 2), 1) := by decide +kernel
theorem d99_64 : decode b99 64 = .ok ((.if_icmp .ge 42), 3) := by decide +kernel
theorem d99_67 : decode b99 67 = .ok ((.aload_n 0), 1) := by decide +kernel
theorem d99_68 : decode b99 68 = .ok ((.getfield 67), 3) := by decide +kernel
theorem d99_71 : decode b99 71 = .ok ((.iload_n 3), 1) := by decide +kernel
theorem d99_72 : decode b99 72 = .ok ((.invokevirtual 104), 3) := by decide +kernel
theorem d99_75 : decode b99 75 = .ok ((.invokestatic 108), 3) := by decide +kernel
theorem d99_78 : decode b99 78 = .ok ((.aload_n 1), 1) := by decide +kernel
theorem d99_79 : decode b99 79 = .ok ((.getfield 67), 3) := by decide +kernel
theorem d99_82 : decode b99 82 = .ok ((.iload_n 3), 1) := by decide +kernel
theorem d99_83 : decode b99 83 = .ok ((.invokevirtual 104), 3) := by decide +kernel
theorem d99_86 : decode b99 86 = .ok ((.invokestatic 108), 3) := by decide +kernel
theorem d99_89 : decode b99 89 = .ok (.isub, 1) := by decide +kernel
theorem d99_90 : decode b99 90 = .ok ((.istore 4), 2) := by decide +kernel
theorem d99_92 : decode b99 92 = .ok ((.iload 4), 2) := by decide +kernel
theorem d99_94 : decode b99 94 = .ok ((.ifCond .eq 6), 3) := by decide +kernel
theorem d99_97 : decode b99 97 = .ok ((.iload 4), 2) := by decide +kernel
theorem d99_99 : decode b99 99 = .ok (.ireturn, 1) := by decide +kernel
theorem d99_100 : decode b99 100 = .ok ((.iinc 3 1), 3) := by decide +kernel
theorem d99_103 : decode b99 103 = .ok ((.goto (-41)), 3) := by decide +kernel
theorem d99_106 : decode b99 106 = .ok ((.aload_n 0), 1) := by decide +kernel
theorem d99_107 : decode b99 107 = .ok ((.getfield 67), 3) := by decide +kernel
theorem d99_110 : decode b99 110 = .ok ((.invokevirtual 94), 3) := by decide +kernel
theorem d99_113 : decode b99 113 = .ok ((.aload_n 1), 1) := by decide +kernel
theorem d99_114 : decode b99 114 = .ok ((.getfield 67), 3) := by decide +kernel
theorem d99_117 : decode b99 117 = .ok ((.invokevirtual 94), 3) := by decide +kernel
theorem d99_120 : decode b99 120 = .ok (.isub, 1) := by decide +kernel
theorem d99_121 : decode b99 121 = .ok (.ireturn, 1) := by decide +kernel
abbrev b93 : ByteArray := prog_8_method_5_code
theorem d93_0 : decode b93 0 = .ok ((.iload_n 1), 1) := by decide +kernel
theorem d93_1 : decode b93 1 = .ok ((.ifCond .ne 13), 3) := by decide +kernel
theorem d93_4 : decode b93 4 = .ok ((.iload_n 0), 1) := by decide +kernel
theorem d93_5 : decode b93 5 = .ok ((.ifCond .ne 7), 3) := by decide +kernel
theorem d93_8 : decode b93 8 = .ok ((.iconst 1), 1) := by decide +kernel
theorem d93_9 : decode b93 9 = .ok ((.goto 4), 3) := by decide +kernel
theorem d93_12 : decode b93 12 = .ok ((.iconst 0), 1) := by decide +kernel
theorem d93_13 : decode b93 13 = .ok (.ireturn, 1) := by decide +kernel
theorem d93_14 : decode b93 14 = .ok ((.iload_n 1), 1) := by decide +kernel
theorem d93_15 : decode b93 15 = .ok ((.iconst 1), 1) := by decide +kernel
theorem d93_16 : decode b93 16 = .ok ((.if_icmp .ne 15), 3) := by decide +kernel
theorem d93_19 : decode b93 19 = .ok ((.iload_n 0), 1) := by decide +kernel
theorem d93_20 : decode b93 20 = .ok ((.ifCond .gt 7), 3) := by decide +kernel
theorem d93_23 : decode b93 23 = .ok ((.iconst 1), 1) := by decide +kernel
theorem d93_24 : decode b93 24 = .ok ((.goto 16), 3) := by decide +kernel
theorem d93_27 : decode b93 27 = .ok ((.iconst 0), 1) := by decide +kernel
theorem d93_28 : decode b93 28 = .ok ((.goto 12), 3) := by decide +kernel
theorem d93_31 : decode b93 31 = .ok ((.iload_n 0), 1) := by decide +kernel
theorem d93_32 : decode b93 32 = .ok ((.ifCond .lt 7), 3) := by decide +kernel
theorem d93_35 : decode b93 35 = .ok ((.iconst 1), 1) := by decide +kernel
theorem d93_36 : decode b93 36 = .ok ((.goto 4), 3) := by decide +kernel
theorem d93_39 : decode b93 39 = .ok ((.iconst 0), 1) := by decide +kernel
theorem d93_40 : decode b93 40 = .ok (.ireturn, 1) := by decide +kernel
abbrev b92 : ByteArray := prog_8_method_4_code
theorem d92_0 : decode b92 0 = .ok ((.iload 5), 2) := by decide +kernel
theorem d92_2 : decode b92 2 = .ok ((.ifCond .ne 39), 3) := by decide +kernel
theorem d92_5 : decode b92 5 = .ok ((.aload_n 1), 1) := by decide +kernel
theorem d92_6 : decode b92 6 = .ok ((.getfield 55), 3) := by decide +kernel
theorem d92_9 : decode b92 9 = .ok ((.iconst 2), 1) := by decide +kernel
theorem d92_10 : decode b92 10 = .ok ((.if_icmp .ne 31), 3) := by decide +kernel
theorem d92_13 : decode b92 13 = .ok ((.aload_n 1), 1) := by decide +kernel
theorem d92_14 : decode b92 14 = .ok ((.getfield 67), 3) := by decide +kernel
theorem d92_17 : decode b92 17 = .ok ((.bipush 63), 2) := by decide +kernel
theorem d92_19 : decode b92 19 = .ok ((.invokevirtual 71), 3) := by decide +kernel
theorem d92_22 : decode b92 22 = .ok ((.ifCond .ge 15), 3) := by decide +kernel
theorem d92_25 : decode b92 25 = .ok ((.aload_n 1), 1) := by decide +kernel
theorem d92_26 : decode b92 26 = .ok ((.getfield 67), 3) := by decide +kernel
theorem d92_29 : decode b92 29 = .ok ((.bipush 42), 2) := by decide +kernel
theorem d92_31 : decode b92 31 = .ok ((.invokevirtual 71), 3) := by decide +kernel
theorem d92_34 : decode b92 34 = .ok ((.ifCond .lt 7), 3) := by decide +kernel
theorem d92_37 : decode b92 37 = .ok ((.iconst 1), 1) := by decide +kernel
theorem d92_38 : decode b92 38 = .ok ((.goto 4), 3) := by decide +kernel
theorem d92_41 : decode b92 41 = .ok ((.iconst 0), 1) := by decide +kernel
theorem d92_42 : decode b92 42 = .ok ((.istore 6), 2) := by decide +kernel
theorem d92_44 : decode b92 44 = .ok ((.iload 6), 2) := by decide +kernel
theorem d92_46 : decode b92 46 = .ok ((.ifCond .eq 14), 3) := by decide +kernel
theorem d92_49 : decode b92 49 = .ok ((.aload_n 0), 1) := by decide +kernel
theorem d92_50 : decode b92 50 = .ok ((.getfield 15), 3) := by decide +kernel
theorem d92_53 : decode b92 53 = .ok ((.aload_n 1), 1) := by decide +kernel
theorem d92_54 : decode b92 54 = .ok ((.getfield 67), 3) := by decide +kernel
theorem d92_57 : decode b92 57 = .ok ((.invokevirtual 76), 3) := by decide +kernel
theorem d92_60 : decode b92 60 = .ok ((.iconst (-1)), 1) := by decide +kernel
theorem d92_61 : decode b92 61 = .ok ((.istore 7), 2) := by decide +kernel
theorem d92_63 : decode b92 63 = .ok ((.iconst 0), 1) := by decide +kernel
theorem d92_64 : decode b92 64 = .ok ((.istore 8), 2) := by decide +kernel
theorem d92_66 : decode b92 66 = .ok ((.iload 8), 2) := by decide +kernel
theorem d92_68 : decode b92 68 = .ok ((.iload 4), 2) := by decide +kernel
theorem d92_70 : decode b92 70 = .ok ((.if_icmp .ge 96), 3) := by decide +kernel
theorem d92_73 : decode b92 73 = .ok ((.aload_n 0), 1) := by decide +kernel
theorem d92_74 : decode b92 74 = .ok ((.getfield 9), 3) := by decide +kernel
theorem d92_77 : decode b92 77 = .ok ((.iload_n 2), 1) := by decide +kernel
theorem d92_78 : decode b92 78 = .ok ((.iload 8), 2) := by decide +kernel
theorem d92_80 : decode b92 80 = .ok ((.iload_n 3), 1) := by decide +kernel
theorem d92_81 : decode b92 81 = .ok (.imul, 1) := by decide +kernel
theorem d92_82 : decode b92 82 = .ok ((.invokevirtual 51), 3) := by decide +kernel
theorem d92_85 : decode b92 85 = .ok ((.astore 9), 2) := by decide +kernel
theorem d92_87 : decode b92 87 = .ok ((.aload 9), 2) := by decide +kernel
theorem d92_89 : decode b92 89 = .ok ((.getfield 55), 3) := by decide +kernel
theorem d92_92 : decode b92 92 = .ok ((.aload_n 1), 1) := by decide +kernel
theorem d92_93 : decode b92 93 = .ok ((.getfield 55), 3) := by decide +kernel
theorem d92_96 : decode b92 96 = .ok ((.if_icmp .ne 64), 3) := by decide +kernel
theorem d92_99 : decode b92 99 = .ok ((.iload 6), 2) := by decide +kernel
theorem d92_101 : decode b92 101 = .ok ((.ifCond .eq 19), 3) := by decide +kernel
theorem d92_104 : decode b92 104 = .ok ((.aload_n 0), 1) := by decide +kernel
theorem d92_105 : decode b92 105 = .ok ((.getfield 15), 3) := by decide +kernel
theorem d92_108 : decode b92 108 = .ok ((.aload 9), 2) := by decide +kernel
theorem d92_110 : decode b92 110 = .ok ((.getfield 67), 3) := by decide +kernel
theorem d92_113 : decode b92 113 = .ok ((.iconst 1), 1) := by decide +kernel
theorem d92_114 : decode b92 114 = .ok ((.invokevirtual 82), 3) := by decide +kernel
theorem d92_117 : decode b92 117 = .ok ((.goto 14), 3) := by decide +kernel
theorem d92_120 : decode b92 120 = .ok ((.aload 9), 2) := by decide +kernel
theorem d92_122 : decode b92 122 = .ok ((.aload_n 1), 1) := by decide +kernel
theorem d92_123 : decode b92 123 = .ok ((.invokestatic 86), 3) := by decide +kernel
theorem d92_126 : decode b92 126 = .ok ((.iload 5), 2) := by decide +kernel
theorem d92_128 : decode b92 128 = .ok ((.invokestatic 90), 3) := by decide +kernel
theorem d92_131 : decode b92 131 = .ok ((.istore 10), 2) := by decide +kernel
theorem d92_133 : decode b92 133 = .ok ((.iload 10), 2) := by decide +kernel
theorem d92_135 : decode b92 135 = .ok ((.ifCond .eq 11), 3) := by decide +kernel
theorem d92_138 : decode b92 138 = .ok ((.iload 5), 2) := by decide +kernel
theorem d92_140 : decode b92 140 = .ok ((.ifCond .ne 6), 3) := by decide +kernel
theorem d92_143 : decode b92 143 = .ok ((.iload 8), 2) := by decide +kernel
theorem d92_145 : decode b92 145 = .ok (.ireturn, 1) := by decide +kernel
theorem d92_146 : decode b92 146 = .ok ((.iload 10), 2) := by decide +kernel
theorem d92_148 : decode b92 148 = .ok ((.ifCond .eq 8), 3) := by decide +kernel
theorem d92_151 : decode b92 151 = .ok ((.iload 8), 2) := by decide +kernel
theorem d92_153 : decode b92 153 = .ok ((.goto 5), 3) := by decide +kernel
theorem d92_156 : decode b92 156 = .ok ((.iload 7), 2) := by decide +kernel
theorem d92_158 : decode b92 158 = .ok ((.istore 7), 2) := by decide +kernel
theorem d92_160 : decode b92 160 = .ok ((.iinc 8 1), 3) := by decide +kernel
theorem d92_163 : decode b92 163 = .ok ((.goto (-97)), 3) := by decide +kernel
theorem d92_166 : decode b92 166 = .ok ((.iload 7), 2) := by decide +kernel
theorem d92_168 : decode b92 168 = .ok (.ireturn, 1) := by decide +kernel
abbrev b100 : ByteArray := prog_8_method_3_code
theorem d100_0 : decode b100 0 = .ok ((.aload_n 0), 1) := by decide +kernel
theorem d100_1 : decode b100 1 = .ok ((.getfield 9), 3) := by decide +kernel
theorem d100_4 : decode b100 4 = .ok ((.iconst 0), 1) := by decide +kernel
theorem d100_5 : decode b100 5 = .ok ((.iconst 0), 1) := by decide +kernel
theorem d100_6 : decode b100 6 = .ok ((.invokevirtual 51), 3) := by decide +kernel
theorem d100_9 : decode b100 9 = .ok ((.astore_n 1), 1) := by decide +kernel
theorem d100_10 : decode b100 10 = .ok ((.aload_n 1), 1) := by decide +kernel
theorem d100_11 : decode b100 11 = .ok ((.getfield 55), 3) := by decide +kernel
theorem d100_14 : decode b100 14 = .ok ((.iconst 4), 1) := by decide +kernel
theorem d100_15 : decode b100 15 = .ok ((.if_icmp .ne 15), 3) := by decide +kernel
theorem d100_18 : decode b100 18 = .ok ((.aload_n 0), 1) := by decide +kernel
theorem d100_19 : decode b100 19 = .ok ((.getfield 9), 3) := by decide +kernel
theorem d100_22 : decode b100 22 = .ok ((.aload_n 1), 1) := by decide +kernel
theorem d100_23 : decode b100 23 = .ok ((.getfield 59), 3) := by decide +kernel
theorem d100_26 : decode b100 26 = .ok (.d2i, 1) := by decide +kernel
theorem d100_27 : decode b100 27 = .ok ((.invokevirtual 63), 3) := by decide +kernel
theorem d100_30 : decode b100 30 = .ok ((.aload_n 1), 1) := by decide +kernel
theorem d100_31 : decode b100 31 = .ok ((.getfield 55), 3) := by decide +kernel
theorem d100_34 : decode b100 34 = .ok ((.ifCond .ne 10), 3) := by decide +kernel
theorem d100_37 : decode b100 37 = .ok ((.dconst 0), 1) := by decide +kernel
theorem d100_38 : decode b100 38 = .ok ((.invokestatic 39), 3) := by decide +kernel
theorem d100_41 : decode b100 41 = .ok ((.goto 4), 3) := by decide +kernel
theorem d100_44 : decode b100 44 = .ok ((.aload_n 1), 1) := by decide +kernel
theorem d100_45 : decode b100 45 = .ok (.areturn, 1) := by decide +kernel
abbrev b94 : ByteArray := prog_8_method_7_code
theorem d94_0 : decode b94 0 = .ok ((.aload_n 0), 1) := by decide +kernel
theorem d94_1 : decode b94 1 = .ok ((.invokevirtual 112), 3) := by decide +kernel
theorem d94_4 : decode b94 4 = .ok ((.astore_n 2), 1) := by decide +kernel
theorem d94_5 : decode b94 5 = .ok ((.aload_n 0), 1) := by decide +kernel
theorem d94_6 : decode b94 6 = .ok ((.getfield 9), 3) := by decide +kernel
theorem d94_9 : decode b94 9 = .ok ((.iconst 2), 1) := by decide +kernel
theorem d94_10 : decode b94 10 = .ok ((.invokevirtual 115), 3) := by decide +kernel
theorem d94_13 : decode b94 13 = .ok ((.istore_n 3), 1) := by decide +kernel
theorem d94_14 : decode b94 14 = .ok ((.aload_n 0), 1) := by decide +kernel
theorem d94_15 : decode b94 15 = .ok ((.getfield 9), 3) := by decide +kernel
theorem d94_18 : decode b94 18 = .ok ((.iconst 3), 1) := by decide +kernel
theorem d94_19 : decode b94 19 = .ok ((.iconst 1), 1) := by decide +kernel
theorem d94_20 : decode b94 20 = .ok ((.invokevirtual 118), 3) := by decide +kernel
theorem d94_23 : decode b94 23 = .ok ((.ifCond .eq 7), 3) := by decide +kernel
theorem d94_26 : decode b94 26 = .ok ((.iconst 1), 1) := by decide +kernel
theorem d94_27 : decode b94 27 = .ok ((.goto 4), 3) := by decide +kernel
theorem d94_30 : decode b94 30 = .ok ((.iconst 0), 1) := by decide +kernel
theorem d94_31 : decode b94 31 = .ok ((.istore 4), 2) := by decide +kernel
theorem d94_33 : decode b94 33 = .ok ((.aload_n 0), 1) := by decide +kernel
theorem d94_34 : decode b94 34 = .ok ((.getfield 9), 3) := by decide +kernel
theorem d94_37 : decode b94 37 = .ok ((.iconst 1), 1) := by decide +kernel
theorem d94_38 : decode b94 38 = .ok ((.invokevirtual 33), 3) := by decide +kernel
theorem d94_41 : decode b94 41 = .ok ((.istore 5), 2) := by decide +kernel
theorem d94_43 : decode b94 43 = .ok ((.aload_n 0), 1) := by decide +kernel
theorem d94_44 : decode b94 44 = .ok ((.getfield 9), 3) := by decide +kernel
theorem d94_47 : decode b94 47 = .ok ((.iconst 1), 1) := by decide +kernel
theorem d94_48 : decode b94 48 = .ok ((.invokevirtual 45), 3) := by decide +kernel
theorem d94_51 : decode b94 51 = .ok ((.istore 6), 2) := by decide +kernel
theorem d94_53 : decode b94 53 = .ok ((.iload_n 3), 1) := by decide +kernel
theorem d94_54 : decode b94 54 = .ok ((.iconst 1), 1) := by decide +kernel
theorem d94_55 : decode b94 55 = .ok ((.if_icmp .ge 8), 3) := by decide +kernel
theorem d94_58 : decode b94 58 = .ok ((.iconst 3), 1) := by decide +kernel
theorem d94_59 : decode b94 59 = .ok ((.invokestatic 122), 3) := by decide +kernel
theorem d94_62 : decode b94 62 = .ok (.areturn, 1) := by decide +kernel
theorem d94_63 : decode b94 63 = .ok ((.iload_n 3), 1) := by decide +kernel
theorem d94_64 : decode b94 64 = .ok ((.iload_n 1), 1) := by decide +kernel
theorem d94_65 : decode b94 65 = .ok ((.ifCond .eq 8), 3) := by decide +kernel
theorem d94_68 : decode b94 68 = .ok ((.iload 6), 2) := by decide +kernel
theorem d94_70 : decode b94 70 = .ok ((.goto 5), 3) := by decide +kernel
theorem d94_73 : decode b94 73 = .ok ((.iload 5), 2) := by decide +kernel
theorem d94_75 : decode b94 75 = .ok ((.if_icmp .le 8), 3) := by decide +kernel
theorem d94_78 : decode b94 78 = .ok ((.iconst 4), 1) := by decide +kernel
theorem d94_79 : decode b94 79 = .ok ((.invokestatic 122), 3) := by decide +kernel
theorem d94_82 : decode b94 82 = .ok (.areturn, 1) := by decide +kernel
theorem d94_83 : decode b94 83 = .ok ((.iload_n 1), 1) := by decide +kernel
theorem d94_84 : decode b94 84 = .ok ((.ifCond .eq 18), 3) := by decide +kernel
theorem d94_87 : decode b94 87 = .ok ((.aload_n 0), 1) := by decide +kernel
theorem d94_88 : decode b94 88 = .ok ((.aload_n 2), 1) := by decide +kernel
theorem d94_89 : decode b94 89 = .ok ((.iconst 1), 1) := by decide +kernel
theorem d94_90 : decode b94 90 = .ok ((.iload 6), 2) := by decide +kernel
theorem d94_92 : decode b94 92 = .ok ((.iload 5), 2) := by decide +kernel
theorem d94_94 : decode b94 94 = .ok ((.iload 4), 2) := by decide +kernel
theorem d94_96 : decode b94 96 = .ok ((.invokevirtual 126), 3) := by decide +kernel
theorem d94_99 : decode b94 99 = .ok ((.goto 14), 3) := by decide +kernel
theorem d94_102 : decode b94 102 = .ok ((.aload_n 0), 1) := by decide +kernel
theorem d94_103 : decode b94 103 = .ok ((.aload_n 2), 1) := by decide +kernel
theorem d94_104 : decode b94 104 = .ok ((.iconst 1), 1) := by decide +kernel
theorem d94_105 : decode b94 105 = .ok ((.iconst 1), 1) := by decide +kernel
theorem d94_106 : decode b94 106 = .ok ((.iload 6), 2) := by decide +kernel
theorem d94_108 : decode b94 108 = .ok ((.iload 4), 2) := by decide +kernel
theorem d94_110 : decode b94 110 = .ok ((.invokevirtual 126), 3) := by decide +kernel
theorem d94_113 : decode b94 113 = .ok ((.istore 7), 2) := by decide +kernel
theorem d94_115 : decode b94 115 = .ok ((.iload 7), 2) := by decide +kernel
theorem d94_117 : decode b94 117 = .ok ((.iconst (-1)), 1) := by decide +kernel
theorem d94_118 : decode b94 118 = .ok ((.if_icmp .ne 9), 3) := by decide +kernel
theorem d94_121 : decode b94 121 = .ok ((.bipush 7), 2) := by decide +kernel
theorem d94_123 : decode b94 123 = .ok ((.invokestatic 122), 3) := by decide +kernel
theorem d94_126 : decode b94 126 = .ok (.areturn, 1) := by decide +kernel
theorem d94_127 : decode b94 127 = .ok ((.iload_n 1), 1) := by decide +kernel
theorem d94_128 : decode b94 128 = .ok ((.ifCond .eq 19), 3) := by decide +kernel
theorem d94_131 : decode b94 131 = .ok ((.aload_n 0), 1) := by decide +kernel
theorem d94_132 : decode b94 132 = .ok ((.getfield 9), 3) := by decide +kernel
theorem d94_135 : decode b94 135 = .ok ((.iconst 1), 1) := by decide +kernel
theorem d94_136 : decode b94 136 = .ok ((.iload 7), 2) := by decide +kernel
theorem d94_138 : decode b94 138 = .ok ((.iload_n 3), 1) := by decide +kernel
theorem d94_139 : decode b94 139 = .ok ((.iconst 1), 1) := by decide +kernel
theorem d94_140 : decode b94 140 = .ok (.isub, 1) := by decide +kernel
theorem d94_141 : decode b94 141 = .ok ((.invokevirtual 130), 3) := by decide +kernel
theorem d94_144 : decode b94 144 = .ok ((.goto 16), 3) := by decide +kernel
theorem d94_147 : decode b94 147 = .ok ((.aload_n 0), 1) := by decide +kernel
theorem d94_148 : decode b94 148 = .ok ((.getfield 9), 3) := by decide +kernel
theorem d94_151 : decode b94 151 = .ok ((.iconst 1), 1) := by decide +kernel
theorem d94_152 : decode b94 152 = .ok ((.iload_n 3), 1) := by decide +kernel
theorem d94_153 : decode b94 153 = .ok ((.iconst 1), 1) := by decide +kernel
theorem d94_154 : decode b94 154 = .ok (.isub, 1) := by decide +kernel
theorem d94_155 : decode b94 155 = .ok ((.iload 7), 2) := by decide +kernel
theorem d94_157 : decode b94 157 = .ok ((.invokevirtual 130), 3) := by decide +kernel
theorem d94_160 : decode b94 160 = .ok (.areturn, 1) := by decide +kernel
abbrev b95 : ByteArray := prog_8_method_10_code
theorem d95_0 : decode b95 0 = .ok ((.aload_n 0), 1) := by decide +kernel
theorem d95_1 : decode b95 1 = .ok ((.getfield 9), 3) := by decide +kernel
theorem d95_4 : decode b95 4 = .ok ((.iconst 0), 1) := by decide +kernel
theorem d95_5 : decode b95 5 = .ok ((.invokevirtual 33), 3) := by decide +kernel
theorem d95_8 : decode b95 8 = .ok ((.istore_n 2), 1) := by decide +kernel
theorem d95_9 : decode b95 9 = .ok ((.aload_n 0), 1) := by decide +kernel
theorem d95_10 : decode b95 10 = .ok ((.getfield 9), 3) := by decide +kernel
theorem d95_13 : decode b95 13 = .ok ((.iconst 0), 1) := by decide +kernel
theorem d95_14 : decode b95 14 = .ok ((.invokevirtual 45), 3) := by decide +kernel
theorem d95_17 : decode b95 17 = .ok ((.istore_n 3), 1) := by decide +kernel
theorem d95_18 : decode b95 18 = .ok ((.aload_n 0), 1) := by decide +kernel
theorem d95_19 : decode b95 19 = .ok ((.getfield 9), 3) := by decide +kernel
theorem d95_22 : decode b95 22 = .ok ((.iconst 2), 1) := by decide +kernel
theorem d95_23 : decode b95 23 = .ok ((.invokevirtual 144), 3) := by decide +kernel
theorem d95_26 : decode b95 26 = .ok ((.istore 4), 2) := by decide +kernel
theorem d95_28 : decode b95 28 = .ok ((.aload_n 0), 1) := by decide +kernel
theorem d95_29 : decode b95 29 = .ok ((.getfield 9), 3) := by decide +kernel
theorem d95_32 : decode b95 32 = .ok ((.iconst 1), 1) := by decide +kernel
theorem d95_33 : decode b95 33 = .ok ((.invokevirtual 115), 3) := by decide +kernel
theorem d95_36 : decode b95 36 = .ok ((.istore 5), 2) := by decide +kernel
theorem d95_38 : decode b95 38 = .ok ((.iload 4), 2) := by decide +kernel
theorem d95_40 : decode b95 40 = .ok ((.ifCond .eq 14), 3) := by decide +kernel
theorem d95_43 : decode b95 43 = .ok ((.aload_n 0), 1) := by decide +kernel
theorem d95_44 : decode b95 44 = .ok ((.getfield 9), 3) := by decide +kernel
theorem d95_47 : decode b95 47 = .ok ((.iconst 2), 1) := by decide +kernel
theorem d95_48 : decode b95 48 = .ok ((.invokevirtual 115), 3) := by decide +kernel
theorem d95_51 : decode b95 51 = .ok ((.goto 4), 3) := by decide +kernel
theorem d95_54 : decode b95 54 = .ok ((.iconst 1), 1) := by decide +kernel
theorem d95_55 : decode b95 55 = .ok ((.istore 6), 2) := by decide +kernel
theorem d95_57 : decode b95 57 = .ok ((.iload 4), 2) := by decide +kernel
theorem d95_59 : decode b95 59 = .ok ((.ifCond .ne 15), 3) := by decide +kernel
theorem d95_62 : decode b95 62 = .ok ((.iload_n 2), 1) := by decide +kernel
theorem d95_63 : decode b95 63 = .ok ((.iconst 1), 1) := by decide +kernel
theorem d95_64 : decode b95 64 = .ok ((.if_icmp .ne 10), 3) := by decide +kernel
theorem d95_67 : decode b95 67 = .ok ((.iload 5), 2) := by decide +kernel
theorem d95_69 : decode b95 69 = .ok ((.istore 6), 2) := by decide +kernel
theorem d95_71 : decode b95 71 = .ok ((.iconst 1), 1) := by decide +kernel
theorem d95_72 : decode b95 72 = .ok ((.istore 5), 2) := by decide +kernel
theorem d95_74 : decode b95 74 = .ok ((.aload_n 0), 1) := by decide +kernel
theorem d95_75 : decode b95 75 = .ok ((.getfield 9), 3) := by decide +kernel
theorem d95_78 : decode b95 78 = .ok ((.getfield 147), 3) := by decide +kernel
theorem d95_81 : decode b95 81 = .ok ((.ifCond .eq 20), 3) := by decide +kernel
theorem d95_84 : decode b95 84 = .ok ((.aload_n 1), 1) := by decide +kernel
theorem d95_85 : decode b95 85 = .ok ((.aload_n 0), 1) := by decide +kernel
theorem d95_86 : decode b95 86 = .ok ((.getfield 9), 3) := by decide +kernel
theorem d95_89 : decode b95 89 = .ok ((.getfield 147), 3) := by decide +kernel
theorem d95_92 : decode b95 92 = .ok ((.invokestatic 122), 3) := by decide +kernel
theorem d95_95 : decode b95 95 = .ok ((.invokevirtual 150), 3) := by decide +kernel
theorem d95_98 : decode b95 98 = .ok ((.goto 91), 3) := by decide +kernel
theorem d95_101 : decode b95 101 = .ok ((.iload 5), 2) := by decide +kernel
theorem d95_103 : decode b95 103 = .ok ((.ifCond .lt 8), 3) := by decide +kernel
theorem d95_106 : decode b95 106 = .ok ((.iload 6), 2) := by decide +kernel
theorem d95_108 : decode b95 108 = .ok ((.ifCond .ge 14), 3) := by decide +kernel
theorem d95_111 : decode b95 111 = .ok ((.aload_n 1), 1) := by decide +kernel
theorem d95_112 : decode b95 112 = .ok ((.iconst 3), 1) := by decide +kernel
theorem d95_113 : decode b95 113 = .ok ((.invokestatic 122), 3) := by decide +kernel
theorem d95_116 : decode b95 116 = .ok ((.invokevirtual 150), 3) := by decide +kernel
theorem d95_119 : decode b95 119 = .ok ((.goto 70), 3) := by decide +kernel
theorem d95_122 : decode b95 122 = .ok ((.iload 5), 2) := by decide +kernel
theorem d95_124 : decode b95 124 = .ok ((.iload_n 2), 1) := by decide +kernel
theorem d95_125 : decode b95 125 = .ok ((.if_icmp .gt 9), 3) := by decide +kernel
theorem d95_128 : decode b95 128 = .ok ((.iload 6), 2) := by decide +kernel
theorem d95_130 : decode b95 130 = .ok ((.iload_n 3), 1) := by decide +kernel
theorem d95_131 : decode b95 131 = .ok ((.if_icmp .le 14), 3) := by decide +kernel
theorem d95_134 : decode b95 134 = .ok ((.aload_n 1), 1) := by decide +kernel
theorem d95_135 : decode b95 135 = .ok ((.iconst 4), 1) := by decide +kernel
theorem d95_136 : decode b95 136 = .ok ((.invokestatic 122), 3) := by decide +kernel
theorem d95_139 : decode b95 139 = .ok ((.invokevirtual 150), 3) := by decide +kernel
theorem d95_142 : decode b95 142 = .ok ((.goto 47), 3) := by decide +kernel
theorem d95_145 : decode b95 145 = .ok ((.aload_n 1), 1) := by decide +kernel
theorem d95_146 : decode b95 146 = .ok ((.aload_n 0), 1) := by decide +kernel
theorem d95_147 : decode b95 147 = .ok ((.getfield 9), 3) := by decide +kernel
theorem d95_150 : decode b95 150 = .ok ((.iload 5), 2) := by decide +kernel
theorem d95_152 : decode b95 152 = .ok ((.iconst 1), 1) := by decide +kernel
theorem d95_153 : decode b95 153 = .ok (.isub, 1) := by decide +kernel
theorem d95_154 : decode b95 154 = .ok ((.iconst 0), 1) := by decide +kernel
theorem d95_155 : decode b95 155 = .ok ((.invokestatic 156), 3) := by decide +kernel
theorem d95_158 : decode b95 158 = .ok ((.iload 6), 2) := by decide +kernel
theorem d95_160 : decode b95 160 = .ok ((.iconst 1), 1) := by decide +kernel
theorem d95_161 : decode b95 161 = .ok (.isub, 1) := by decide +kernel
theorem d95_162 : decode b95 162 = .ok ((.iconst 0), 1) := by decide +kernel
theorem d95_163 : decode b95 163 = .ok ((.invokestatic 156), 3) := by decide +kernel
theorem d95_166 : decode b95 166 = .ok ((.iload 5), 2) := by decide +kernel
theorem d95_168 : decode b95 168 = .ok ((.ifCond .ne 7), 3) := by decide +kernel
theorem d95_171 : decode b95 171 = .ok ((.iload_n 2), 1) := by decide +kernel
theorem d95_172 : decode b95 172 = .ok ((.goto 4), 3) := by decide +kernel
theorem d95_175 : decode b95 175 = .ok ((.iconst 1), 1) := by decide +kernel
theorem d95_176 : decode b95 176 = .ok ((.iload 6), 2) := by decide +kernel
theorem d95_178 : decode b95 178 = .ok ((.ifCond .ne 7), 3) := by decide +kernel
theorem d95_181 : decode b95 181 = .ok ((.iload_n 3), 1) := by decide +kernel
theorem d95_182 : decode b95 182 = .ok ((.goto 4), 3) := by decide +kernel
theorem d95_185 : decode b95 185 = .ok ((.iconst 1), 1) := by decide +kernel
theorem d95_186 : decode b95 186 = .ok ((.invokevirtual 159), 3) := by decide +kernel
theorem d95_189 : decode b95 189 = .ok (.return_, 1) := by decide +kernel
abbrev b96 : ByteArray := prog_8_method_8_code
theorem d96_0 : decode b96 0 = .ok ((.aload_n 0), 1) := by decide +kernel
theorem d96_1 : decode b96 1 = .ok ((.invokevirtual 112), 3) := by decide +kernel
theorem d96_4 : decode b96 4 = .ok ((.astore_n 1), 1) := by decide +kernel
theorem d96_5 : decode b96 5 = .ok ((.aload_n 0), 1) := by decide +kernel
theorem d96_6 : decode b96 6 = .ok ((.getfield 9), 3) := by decide +kernel
theorem d96_9 : decode b96 9 = .ok ((.iconst 1), 1) := by decide +kernel
theorem d96_10 : decode b96 10 = .ok ((.invokevirtual 33), 3) := by decide +kernel
theorem d96_13 : decode b96 13 = .ok ((.istore_n 2), 1) := by decide +kernel
theorem d96_14 : decode b96 14 = .ok ((.aload_n 0), 1) := by decide +kernel
theorem d96_15 : decode b96 15 = .ok ((.getfield 9), 3) := by decide +kernel
theorem d96_18 : decode b96 18 = .ok ((.iconst 1), 1) := by decide +kernel
theorem d96_19 : decode b96 19 = .ok ((.invokevirtual 45), 3) := by decide +kernel
theorem d96_22 : decode b96 22 = .ok ((.istore_n 3), 1) := by decide +kernel
theorem d96_23 : decode b96 23 = .ok ((.aload_n 0), 1) := by decide +kernel
theorem d96_24 : decode b96 24 = .ok ((.getfield 9), 3) := by decide +kernel
theorem d96_27 : decode b96 27 = .ok ((.iconst 2), 1) := by decide +kernel
theorem d96_28 : decode b96 28 = .ok ((.invokevirtual 134), 3) := by decide +kernel
theorem d96_31 : decode b96 31 = .ok ((.ifCond .ne 47), 3) := by decide +kernel
theorem d96_34 : decode b96 34 = .ok ((.aload_n 0), 1) := by decide +kernel
theorem d96_35 : decode b96 35 = .ok ((.aload_n 1), 1) := by decide +kernel
theorem d96_36 : decode b96 36 = .ok ((.iconst 1), 1) := by decide +kernel
theorem d96_37 : decode b96 37 = .ok ((.iconst 1), 1) := by decide +kernel
theorem d96_38 : decode b96 38 = .ok ((.iload_n 2), 1) := by decide +kernel
theorem d96_39 : decode b96 39 = .ok ((.iload_n 3), 1) := by decide +kernel
theorem d96_40 : decode b96 40 = .ok (.imul, 1) := by decide +kernel
theorem d96_41 : decode b96 41 = .ok ((.iconst 1), 1) := by decide +kernel
theorem d96_42 : decode b96 42 = .ok ((.invokevirtual 126), 3) := by decide +kernel
theorem d96_45 : decode b96 45 = .ok ((.istore 4), 2) := by decide +kernel
theorem d96_47 : decode b96 47 = .ok ((.iload 4), 2) := by decide +kernel
theorem d96_49 : decode b96 49 = .ok ((.aload_n 0), 1) := by decide +kernel
theorem d96_50 : decode b96 50 = .ok ((.getfield 9), 3) := by decide +kernel
theorem d96_53 : decode b96 53 = .ok ((.iconst 2), 1) := by decide +kernel
theorem d96_54 : decode b96 54 = .ok ((.invokevirtual 138), 3) := by decide +kernel
theorem d96_57 : decode b96 57 = .ok ((.if_icmp .lt 6), 3) := by decide +kernel
theorem d96_60 : decode b96 60 = .ok ((.iconst (-1)), 1) := by decide +kernel
theorem d96_61 : decode b96 61 = .ok ((.istore 4), 2) := by decide +kernel
theorem d96_63 : decode b96 63 = .ok ((.aload_n 0), 1) := by decide +kernel
theorem d96_64 : decode b96 64 = .ok ((.getfield 9), 3) := by decide +kernel
theorem d96_67 : decode b96 67 = .ok ((.iconst 2), 1) := by decide +kernel
theorem d96_68 : decode b96 68 = .ok ((.iload 4), 2) := by decide +kernel
theorem d96_70 : decode b96 70 = .ok ((.invokevirtual 51), 3) := by decide +kernel
theorem d96_73 : decode b96 73 = .ok ((.astore 5), 2) := by decide +kernel
theorem d96_75 : decode b96 75 = .ok ((.goto 63), 3) := by decide +kernel
theorem d96_78 : decode b96 78 = .ok ((.iload_n 3), 1) := by decide +kernel
theorem d96_79 : decode b96 79 = .ok ((.iload_n 2), 1) := by decide +kernel
theorem d96_80 : decode b96 80 = .ok ((.if_icmp .le 32), 3) := by decide +kernel
theorem d96_83 : decode b96 83 = .ok ((.aload_n 0), 1) := by decide +kernel
theorem d96_84 : decode b96 84 = .ok ((.aload_n 1), 1) := by decide +kernel
theorem d96_85 : decode b96 85 = .ok ((.iconst 1), 1) := by decide +kernel
theorem d96_86 : decode b96 86 = .ok ((.iconst 1), 1) := by decide +kernel
theorem d96_87 : decode b96 87 = .ok ((.iload_n 3), 1) := by decide +kernel
theorem d96_88 : decode b96 88 = .ok ((.iconst 1), 1) := by decide +kernel
theorem d96_89 : decode b96 89 = .ok ((.invokevirtual 126), 3) := by decide +kernel
theorem d96_92 : decode b96 92 = .ok ((.istore 4), 2) := by decide +kernel
theorem d96_94 : decode b96 94 = .ok ((.aload_n 0), 1) := by decide +kernel
theorem d96_95 : decode b96 95 = .ok ((.getfield 9), 3) := by decide +kernel
theorem d96_98 : decode b96 98 = .ok ((.iconst 1), 1) := by decide +kernel
theorem d96_99 : decode b96 99 = .ok ((.iload_n 2), 1) := by decide +kernel
theorem d96_100 : decode b96 100 = .ok ((.iconst 1), 1) := by decide +kernel
theorem d96_101 : decode b96 101 = .ok (.isub, 1) := by decide +kernel
theorem d96_102 : decode b96 102 = .ok ((.iload 4), 2) := by decide +kernel
theorem d96_104 : decode b96 104 = .ok ((.invokevirtual 130), 3) := by decide +kernel
theorem d96_107 : decode b96 107 = .ok ((.astore 5), 2) := by decide +kernel
theorem d96_109 : decode b96 109 = .ok ((.goto 29), 3) := by decide +kernel
theorem d96_112 : decode b96 112 = .ok ((.aload_n 0), 1) := by decide +kernel
theorem d96_113 : decode b96 113 = .ok ((.aload_n 1), 1) := by decide +kernel
theorem d96_114 : decode b96 114 = .ok ((.iconst 1), 1) := by decide +kernel
theorem d96_115 : decode b96 115 = .ok ((.iload_n 3), 1) := by decide +kernel
theorem d96_116 : decode b96 116 = .ok ((.iload_n 2), 1) := by decide +kernel
theorem d96_117 : decode b96 117 = .ok ((.iconst 1), 1) := by decide +kernel
theorem d96_118 : decode b96 118 = .ok ((.invokevirtual 126), 3) := by decide +kernel
theorem d96_121 : decode b96 121 = .ok ((.istore 4), 2) := by decide +kernel
theorem d96_123 : decode b96 123 = .ok ((.aload_n 0), 1) := by decide +kernel
theorem d96_124 : decode b96 124 = .ok ((.getfield 9), 3) := by decide +kernel
theorem d96_127 : decode b96 127 = .ok ((.iconst 1), 1) := by decide +kernel
theorem d96_128 : decode b96 128 = .ok ((.iload 4), 2) := by decide +kernel
theorem d96_130 : decode b96 130 = .ok ((.iload_n 3), 1) := by decide +kernel
theorem d96_131 : decode b96 131 = .ok ((.iconst 1), 1) := by decide +kernel
theorem d96_132 : decode b96 132 = .ok (.isub, 1) := by decide +kernel
theorem d96_133 : decode b96 133 = .ok ((.invokevirtual 130), 3) := by decide +kernel
theorem d96_136 : decode b96 136 = .ok ((.astore 5), 2) := by decide +kernel
theorem d96_138 : decode b96 138 = .ok ((.iload 4), 2) := by decide +kernel
theorem d96_140 : decode b96 140 = .ok ((.iconst (-1)), 1) := by decide +kernel
theorem d96_141 : decode b96 141 = .ok ((.if_icmp .ne 11), 3) := by decide +kernel
theorem d96_144 : decode b96 144 = .ok ((.bipush 7), 2) := by decide +kernel
theorem d96_146 : decode b96 146 = .ok ((.invokestatic 122), 3) := by decide +kernel
theorem d96_149 : decode b96 149 = .ok ((.goto 5), 3) := by decide +kernel
theorem d96_152 : decode b96 152 = .ok ((.aload 5), 2) := by decide +kernel
theorem d96_154 : decode b96 154 = .ok (.areturn, 1) := by decide +kernel
abbrev b97 : ByteArray := prog_8_method_9_code
theorem d97_0 : decode b97 0 = .ok ((.aload_n 0), 1) := by decide +kernel
theorem d97_1 : decode b97 1 = .ok ((.invokevirtual 112), 3) := by decide +kernel
theorem d97_4 : decode b97 4 = .ok ((.astore_n 1), 1) := by decide +kernel
theorem d97_5 : decode b97 5 = .ok ((.aload_n 0), 1) := by decide +kernel
theorem d97_6 : decode b97 6 = .ok ((.getfield 9), 3) := by decide +kernel
theorem d97_9 : decode b97 9 = .ok ((.iconst 2), 1) := by decide +kernel
theorem d97_10 : decode b97 10 = .ok ((.iconst 1), 1) := by decide +kernel
theorem d97_11 : decode b97 11 = .ok ((.invokevirtual 141), 3) := by decide +kernel
theorem d97_14 : decode b97 14 = .ok ((.istore_n 2), 1) := by decide +kernel
theorem d97_15 : decode b97 15 = .ok ((.aload_n 0), 1) := by decide +kernel
theorem d97_16 : decode b97 16 = .ok ((.getfield 9), 3) := by decide +kernel
theorem d97_19 : decode b97 19 = .ok ((.iconst 1), 1) := by decide +kernel
theorem d97_20 : decode b97 20 = .ok ((.invokevirtual 33), 3) := by decide +kernel
theorem d97_23 : decode b97 23 = .ok ((.iconst 1), 1) := by decide +kernel
theorem d97_24 : decode b97 24 = .ok ((.if_icmp .le 21), 3) := by decide +kernel
theorem d97_27 : decode b97 27 = .ok ((.aload_n 0), 1) := by decide +kernel
theorem d97_28 : decode b97 28 = .ok ((.getfield 9), 3) := by decide +kernel
theorem d97_31 : decode b97 31 = .ok ((.iconst 1), 1) := by decide +kernel
theorem d97_32 : decode b97 32 = .ok ((.invokevirtual 45), 3) := by decide +kernel
theorem d97_35 : decode b97 35 = .ok ((.iconst 1), 1) := by decide +kernel
theorem d97_36 : decode b97 36 = .ok ((.if_icmp .le 9), 3) := by decide +kernel
theorem d97_39 : decode b97 39 = .ok ((.bipush 7), 2) := by decide +kernel
theorem d97_41 : decode b97 41 = .ok ((.invokestatic 122), 3) := by decide +kernel
theorem d97_44 : decode b97 44 = .ok (.areturn, 1) := by decide +kernel
theorem d97_45 : decode b97 45 = .ok ((.iload_n 2), 1) := by decide +kernel
theorem d97_46 : decode b97 46 = .ok ((.ifCond .ne 7), 3) := by decide +kernel
theorem d97_49 : decode b97 49 = .ok ((.iconst 0), 1) := by decide +kernel
theorem d97_50 : decode b97 50 = .ok ((.goto 12), 3) := by decide +kernel
theorem d97_53 : decode b97 53 = .ok ((.iload_n 2), 1) := by decide +kernel
theorem d97_54 : decode b97 54 = .ok ((.ifCond .le 7), 3) := by decide +kernel
theorem d97_57 : decode b97 57 = .ok ((.iconst 1), 1) := by decide +kernel
theorem d97_58 : decode b97 58 = .ok ((.goto 4), 3) := by decide +kernel
theorem d97_61 : decode b97 61 = .ok ((.iconst (-1)), 1) := by decide +kernel
theorem d97_62 : decode b97 62 = .ok ((.istore_n 3), 1) := by decide +kernel
theorem d97_63 : decode b97 63 = .ok ((.aload_n 0), 1) := by decide +kernel
theorem d97_64 : decode b97 64 = .ok ((.aload_n 1), 1) := by decide +kernel
theorem d97_65 : decode b97 65 = .ok ((.iconst 1), 1) := by decide +kernel
theorem d97_66 : decode b97 66 = .ok ((.iconst 1), 1) := by decide +kernel
theorem d97_67 : decode b97 67 = .ok ((.aload_n 0), 1) := by decide +kernel
theorem d97_68 : decode b97 68 = .ok ((.getfield 9), 3) := by decide +kernel
theorem d97_71 : decode b97 71 = .ok ((.iconst 1), 1) := by decide +kernel
theorem d97_72 : decode b97 72 = .ok ((.invokevirtual 138), 3) := by decide +kernel
theorem d97_75 : decode b97 75 = .ok ((.iload_n 3), 1) := by decide +kernel
theorem d97_76 : decode b97 76 = .ok ((.invokevirtual 126), 3) := by decide +kernel
theorem d97_79 : decode b97 79 = .ok ((.istore 4), 2) := by decide +kernel
theorem d97_81 : decode b97 81 = .ok ((.iload 4), 2) := by decide +kernel
theorem d97_83 : decode b97 83 = .ok ((.iconst (-1)), 1) := by decide +kernel
theorem d97_84 : decode b97 84 = .ok ((.if_icmp .ne 11), 3) := by decide +kernel
theorem d97_87 : decode b97 87 = .ok ((.bipush 7), 2) := by decide +kernel
theorem d97_89 : decode b97 89 = .ok ((.invokestatic 122), 3) := by decide +kernel
theorem d97_92 : decode b97 92 = .ok ((.goto 11), 3) := by decide +kernel
theorem d97_95 : decode b97 95 = .ok ((.iload 4), 2) := by decide +kernel
theorem d97_97 : decode b97 97 = .ok ((.iconst 1), 1) := by decide +kernel
theorem d97_98 : decode b97 98 = .ok (.iadd, 1) := by decide +kernel
theorem d97_99 : decode b97 99 = .ok (.i2d, 1) := by decide +kernel
theorem d97_100 : decode b97 100 = .ok ((.invokestatic 39), 3) := by decide +kernel
theorem d97_103 : decode b97 103 = .ok (.areturn, 1) := by decide +kernel
abbrev b98 : ByteArray := prog_8_method_2_code
theorem d98_0 : decode b98 0 = .ok ((.iload_n 1), 1) := by decide +kernel
theorem d98_1 : decode b98 1 = .ok ((.tableswitch 111 90 98 #[51, 57, 63, 68, 111, 73, 79, 85, 98]), 51) := by decide +kernel
theorem d98_52 : decode b98 52 = .ok ((.aload_n 0), 1) := by decide +kernel
theorem d98_53 : decode b98 53 = .ok ((.iconst 1), 1) := by decide +kernel
theorem d98_54 : decode b98 54 = .ok ((.invokevirtual 19), 3) := by decide +kernel
theorem d98_57 : decode b98 57 = .ok (.areturn, 1) := by decide +kernel
theorem d98_58 : decode b98 58 = .ok ((.aload_n 0), 1) := by decide +kernel
theorem d98_59 : decode b98 59 = .ok ((.iconst 0), 1) := by decide +kernel
theorem d98_60 : decode b98 60 = .ok ((.invokevirtual 19), 3) := by decide +kernel
theorem d98_63 : decode b98 63 = .ok (.areturn, 1) := by decide +kernel
theorem d98_64 : decode b98 64 = .ok ((.aload_n 0), 1) := by decide +kernel
theorem d98_65 : decode b98 65 = .ok ((.invokevirtual 23), 3) := by decide +kernel
theorem d98_68 : decode b98 68 = .ok (.areturn, 1) := by decide +kernel
theorem d98_69 : decode b98 69 = .ok ((.aload_n 0), 1) := by decide +kernel
theorem d98_70 : decode b98 70 = .ok ((.invokevirtual 27), 3) := by decide +kernel
theorem d98_73 : decode b98 73 = .ok (.areturn, 1) := by decide +kernel
theorem d98_74 : decode b98 74 = .ok ((.aload_n 0), 1) := by decide +kernel
theorem d98_75 : decode b98 75 = .ok ((.iconst 0), 1) := by decide +kernel
theorem d98_76 : decode b98 76 = .ok ((.invokevirtual 30), 3) := by decide +kernel
theorem d98_79 : decode b98 79 = .ok (.areturn, 1) := by decide +kernel
theorem d98_80 : decode b98 80 = .ok ((.aload_n 0), 1) := by decide +kernel
theorem d98_81 : decode b98 81 = .ok ((.iconst 1), 1) := by decide +kernel
theorem d98_82 : decode b98 82 = .ok ((.invokevirtual 30), 3) := by decide +kernel
theorem d98_85 : decode b98 85 = .ok (.areturn, 1) := by decide +kernel
theorem d98_86 : decode b98 86 = .ok ((.aload_n 0), 1) := by decide +kernel
theorem d98_87 : decode b98 87 = .ok ((.getfield 9), 3) := by decide +kernel
theorem d98_90 : decode b98 90 = .ok ((.iconst 0), 1) := by decide +kernel
theorem d98_91 : decode b98 91 = .ok ((.invokevirtual 33), 3) := by decide +kernel
theorem d98_94 : decode b98 94 = .ok (.i2d, 1) := by decide +kernel
theorem d98_95 : decode b98 95 = .ok ((.invokestatic 39), 3) := by decide +kernel
theorem d98_98 : decode b98 98 = .ok (.areturn, 1) := by decide +kernel
theorem d98_99 : decode b98 99 = .ok ((.aload_n 0), 1) := by decide +kernel
theorem d98_100 : decode b98 100 = .ok ((.getfield 9), 3) := by decide +kernel
theorem d98_103 : decode b98 103 = .ok ((.iconst 0), 1) := by decide +kernel
theorem d98_104 : decode b98 104 = .ok ((.invokevirtual 45), 3) := by decide +kernel
theorem d98_107 : decode b98 107 = .ok (.i2d, 1) := by decide +kernel
theorem d98_108 : decode b98 108 = .ok ((.invokestatic 39), 3) := by decide +kernel
theorem d98_111 : decode b98 111 = .ok (.areturn, 1) := by decide +kernel
theorem d98_112 : decode b98 112 = .ok ((.aload_n 0), 1) := by decide +kernel
theorem d98_113 : decode b98 113 = .ok ((.invokevirtual 48), 3) := by decide +kernel
theorem d98_116 : decode b98 116 = .ok (.areturn, 1) := by decide +kernel
abbrev b104 : ByteArray := prog_9_method_5_code
theorem d104_0 : decode b104 0 = .ok ((.aload_n 0), 1) := by decide +kernel
theorem d104_1 : decode b104 1 = .ok ((.aload_n 1), 1) := by decide +kernel
theorem d104_2 : decode b104 2 = .ok ((.iconst 0), 1) := by decide +kernel
theorem d104_3 : decode b104 3 = .ok ((.invokevirtual 47), 3) := by decide +kernel
theorem d104_6 : decode b104 6 = .ok (.pop, 1) := by decide +kernel
theorem d104_7 : decode b104 7 = .ok ((.iload_n 2), 1) := by decide +kernel
theorem d104_8 : decode b104 8 = .ok ((.istore_n 3), 1) := by decide +kernel
theorem d104_9 : decode b104 9 = .ok ((.iload_n 3), 1) := by decide +kernel
theorem d104_10 : decode b104 10 = .ok ((.aload_n 1), 1) := by decide +kernel
theorem d104_11 : decode b104 11 = .ok ((.invokevirtual 23), 3) := by decide +kernel
theorem d104_14 : decode b104 14 = .ok ((.if_icmp .gt 29), 3) := by decide +kernel
theorem d104_17 : decode b104 17 = .ok ((.iload_n 3), 1) := by decide +kernel
theorem d104_18 : decode b104 18 = .ok ((.aload_n 0), 1) := by decide +kernel
theorem d104_19 : decode b104 19 = .ok ((.getfield 15), 3) := by decide +kernel
theorem d104_22 : decode b104 22 = .ok (.arraylength, 1) := by decide +kernel
theorem d104_23 : decode b104 23 = .ok ((.if_icmp .ge 20), 3) := by decide +kernel
theorem d104_26 : decode b104 26 = .ok ((.aload_n 0), 1) := by decide +kernel
theorem d104_27 : decode b104 27 = .ok ((.getfield 15), 3) := by decide +kernel
theorem d104_30 : decode b104 30 = .ok ((.iload_n 3), 1) := by decide +kernel
theorem d104_31 : decode b104 31 = .ok (.baload, 1) := by decide +kernel
theorem d104_32 : decode b104 32 = .ok ((.ifCond .eq 5), 3) := by decide +kernel
theorem d104_35 : decode b104 35 = .ok ((.iload_n 3), 1) := by decide +kernel
theorem d104_36 : decode b104 36 = .ok (.ireturn, 1) := by decide +kernel
theorem d104_37 : decode b104 37 = .ok ((.iinc 3 1), 3) := by decide +kernel
theorem d104_40 : decode b104 40 = .ok ((.goto (-31)), 3) := by decide +kernel
theorem d104_43 : decode b104 43 = .ok ((.iconst (-1)), 1) := by decide +kernel
theorem d104_44 : decode b104 44 = .ok (.ireturn, 1) := by decide +kernel
abbrev b107 : ByteArray := prog_10_method_15_code
theorem d107_0 : decode b107 0 = .ok ((.aload_n 0), 1) := by decide +kernel
theorem d107_1 : decode b107 1 = .ok ((.invokevirtual 155), 3) := by decide +kernel
theorem d107_4 : decode b107 4 = .ok ((.sipush 255), 3) := by decide +kernel
theorem d107_7 : decode b107 7 = .ok ((.if_icmp .gt 9), 3) := by decide +kernel
theorem d107_10 : decode b107 10 = .ok ((.aload_n 0), 1) := by decide +kernel
theorem d107_11 : decode b107 11 = .ok ((.aload_n 1), 1) := by decide +kernel
theorem d107_12 : decode b107 12 = .ok ((.invokevirtual 139), 3) := by decide +kernel
theorem d107_15 : decode b107 15 = .ok (.pop, 1) := by decide +kernel
theorem d107_16 : decode b107 16 = .ok (.return_, 1) := by decide +kernel
abbrev b108 : ByteArray := prog_10_method_21_code
theorem d108_0 : decode b108 0 = .ok ((.aload_n 0), 1) := by decide +kernel
theorem d108_1 : decode b108 1 = .ok ((.getfield 9), 3) := by decide +kernel
theorem d108_4 : decode b108 4 = .ok ((.iconst 0), 1) := by decide +kernel
theorem d108_5 : decode b108 5 = .ok ((.invokevirtual 209), 3) := by decide +kernel
theorem d108_8 : decode b108 8 = .ok ((.dstore_n 1), 1) := by decide +kernel
theorem d108_9 : decode b108 9 = .ok ((.aload_n 0), 1) := by decide +kernel
theorem d108_10 : decode b108 10 = .ok ((.getfield 9), 3) := by decide +kernel
theorem d108_13 : decode b108 13 = .ok ((.iconst 1), 1) := by decide +kernel
theorem d108_14 : decode b108 14 = .ok ((.invokevirtual 114), 3) := by decide +kernel
theorem d108_17 : decode b108 17 = .ok ((.istore_n 3), 1) := by decide +kernel
theorem d108_18 : decode b108 18 = .ok ((.aload_n 0), 1) := by decide +kernel
theorem d108_19 : decode b108 19 = .ok ((.getfield 9), 3) := by decide +kernel
theorem d108_22 : decode b108 22 = .ok ((.iconst 2), 1) := by decide +kernel
theorem d108_23 : decode b108 23 = .ok ((.iconst 0), 1) := by decide +kernel
theorem d108_24 : decode b108 24 = .ok ((.invokevirtual 93), 3) := by decide +kernel
theorem d108_27 : decode b108 27 = .ok ((.istore 4), 2) := by decide +kernel
theorem d108_29 : decode b108 29 = .ok ((.dload_n 1), 1) := by decide +kernel
theorem d108_30 : decode b108 30 = .ok ((.ldc2_w 213), 3) := by decide +kernel
theorem d108_33 : decode b108 33 = .ok ((.dcmp .g), 1) := by decide +kernel
theorem d108_34 : decode b108 34 = .ok ((.ifCond .le 35), 3) := by decide +kernel
theorem d108_37 : decode b108 37 = .ok ((.dload_n 1), 1) := by decide +kernel
theorem d108_38 : decode b108 38 = .ok ((.ldc2_w 215), 3) := by decide +kernel
theorem d108_41 : decode b108 41 = .ok ((.dcmp .l), 1) := by decide +kernel
theorem d108_42 : decode b108 42 = .ok ((.ifCond .ge 27), 3) := by decide +kernel
theorem d108_45 : decode b108 45 = .ok ((.iload_n 3), 1) := by decide +kernel
theorem d108_46 : decode b108 46 = .ok ((.iconst 2), 1) := by decide +kernel
theorem d108_47 : decode b108 47 = .ok ((.if_icmp .lt 22), 3) := by decide +kernel
theorem d108_50 : decode b108 50 = .ok ((.iload_n 3), 1) := by decide +kernel
theorem d108_51 : decode b108 51 = .ok ((.bipush 36), 2) := by decide +kernel
theorem d108_53 : decode b108 53 = .ok ((.if_icmp .gt 16), 3) := by decide +kernel
theorem d108_56 : decode b108 56 = .ok ((.iload 4), 2) := by decide +kernel
theorem d108_58 : decode b108 58 = .ok ((.ifCond .lt 11), 3) := by decide +kernel
theorem d108_61 : decode b108 61 = .ok ((.iload 4), 2) := by decide +kernel
theorem d108_63 : decode b108 63 = .ok ((.sipush 255), 3) := by decide +kernel
theorem d108_66 : decode b108 66 = .ok ((.if_icmp .le 9), 3) := by decide +kernel
theorem d108_69 : decode b108 69 = .ok ((.bipush 6), 2) := by decide +kernel
theorem d108_71 : decode b108 71 = .ok ((.invokestatic 97), 3) := by decide +kernel
theorem d108_74 : decode b108 74 = .ok (.areturn, 1) := by decide +kernel
theorem d108_75 : decode b108 75 = .ok ((.new 136), 3) := by decide +kernel
theorem d108_78 : decode b108 78 = .ok (.dup, 1) := by decide +kernel
theorem d108_79 : decode b108 79 = .ok ((.invokespecial 138), 3) := by decide +kernel
theorem d108_82 : decode b108 82 = .ok ((.astore 5), 2) := by decide +kernel
theorem d108_84 : decode b108 84 = .ok ((.dload_n 1), 1) := by decide +kernel
theorem d108_85 : decode b108 85 = .ok (.d2l, 1) := by decide +kernel
theorem d108_86 : decode b108 86 = .ok ((.lstore 6), 2) := by decide +kernel
theorem d108_88 : decode b108 88 = .ok ((.iload 4), 2) := by decide +kernel
theorem d108_90 : decode b108 90 = .ok ((.iconst 1), 1) := by decide +kernel
theorem d108_91 : decode b108 91 = .ok ((.invokestatic 217), 3) := by decide +kernel
theorem d108_94 : decode b108 94 = .ok ((.istore 8), 2) := by decide +kernel
theorem d108_96 : decode b108 96 = .ok ((.iconst 0), 1) := by decide +kernel
theorem d108_97 : decode b108 97 = .ok ((.istore 9), 2) := by decide +kernel
theorem d108_99 : decode b108 99 = .ok ((.iload 9), 2) := by decide +kernel
theorem d108_101 : decode b108 101 = .ok ((.sipush 255), 3) := by decide +kernel
theorem d108_104 : decode b108 104 = .ok ((.if_icmp .ge 68), 3) := by decide +kernel
theorem d108_107 : decode b108 107 = .ok ((.iload 9), 2) := by decide +kernel
theorem d108_109 : decode b108 109 = .ok ((.iload 8), 2) := by decide +kernel
theorem d108_111 : decode b108 111 = .ok ((.if_icmp .lt 10), 3) := by decide +kernel
theorem d108_114 : decode b108 114 = .ok ((.lload 6), 2) := by decide +kernel
theorem d108_116 : decode b108 116 = .ok ((.lconst 0), 1) := by decide +kernel
theorem d108_117 : decode b108 117 = .ok (.lcmp, 1) := by decide +kernel
theorem d108_118 : decode b108 118 = .ok ((.ifCond .le 54), 3) := by decide +kernel
theorem d108_121 : decode b108 121 = .ok ((.lload 6), 2) := by decide +kernel
theorem d108_123 : decode b108 123 = .ok ((.iload_n 3), 1) := by decide +kernel
theorem d108_124 : decode b108 124 = .ok (.i2l, 1) := by decide +kernel
theorem d108_125 : decode b108 125 = .ok (.lrem, 1) := by decide +kernel
theorem d108_126 : decode b108 126 = .ok (.l2i, 1) := by decide +kernel
theorem d108_127 : decode b108 127 = .ok ((.istore 10), 2) := by decide +kernel
theorem d108_129 : decode b108 129 = .ok ((.aload 5), 2) := by decide +kernel
theorem d108_131 : decode b108 131 = .ok ((.iload 10), 2) := by decide +kernel
theorem d108_133 : decode b108 133 = .ok ((.bipush 10), 2) := by decide +kernel
theorem d108_135 : decode b108 135 = .ok ((.if_icmp .ge 11), 3) := by decide +kernel
theorem d108_138 : decode b108 138 = .ok ((.bipush 48), 2) := by decide +kernel
theorem d108_140 : decode b108 140 = .ok ((.iload 10), 2) := by decide +kernel
theorem d108_142 : decode b108 142 = .ok (.iadd, 1) := by decide +kernel
theorem d108_143 : decode b108 143 = .ok ((.goto 11), 3) := by decide +kernel
theorem d108_146 : decode b108 146 = .ok ((.bipush 65), 2) := by decide +kernel
theorem d108_148 : decode b108 148 = .ok ((.iload 10), 2) := by decide +kernel
theorem d108_150 : decode b108 150 = .ok (.iadd, 1) := by decide +kernel
theorem d108_151 : decode b108 151 = .ok ((.bipush 10), 2) := by decide +kernel
theorem d108_153 : decode b108 153 = .ok (.isub, 1) := by decide +kernel
theorem d108_154 : decode b108 154 = .ok (.i2c, 1) := by decide +kernel
theorem d108_155 : decode b108 155 = .ok ((.invokevirtual 156), 3) := by decide +kernel
theorem d108_158 : decode b108 158 = .ok (.pop, 1) := by decide +kernel
theorem d108_159 : decode b108 159 = .ok ((.lload 6), 2) := by decide +kernel
theorem d108_161 : decode b108 161 = .ok ((.iload_n 3), 1) := by decide +kernel
theorem d108_162 : decode b108 162 = .ok (.i2l, 1) := by decide +kernel
theorem d108_163 : decode b108 163 = .ok (.ldiv, 1) := by decide +kernel
theorem d108_164 : decode b108 164 = .ok ((.lstore 6), 2) := by decide +kernel
theorem d108_166 : decode b108 166 = .ok ((.iinc 9 1), 3) := by decide +kernel
theorem d108_169 : decode b108 169 = .ok ((.goto (-70)), 3) := by decide +kernel
theorem d108_172 : decode b108 172 = .ok ((.aload 5), 2) := by decide +kernel
theorem d108_174 : decode b108 174 = .ok ((.invokevirtual 220), 3) := by decide +kernel
theorem d108_177 : decode b108 177 = .ok (.pop, 1) := by decide +kernel
theorem d108_178 : decode b108 178 = .ok ((.aload 5), 2) := by decide +kernel
theorem d108_180 : decode b108 180 = .ok ((.invokestatic 143), 3) := by decide +kernel
theorem d108_183 : decode b108 183 = .ok (.areturn, 1) := by decide +kernel
abbrev b109 : ByteArray := prog_10_method_18_code
theorem d109_0 : decode b109 0 = .ok ((.aload_n 0), 1) := by decide +kernel
theorem d109_1 : decode b109 1 = .ok ((.getfield 9), 3) := by decide +kernel
theorem d109_4 : decode b109 4 = .ok ((.iconst 0), 1) := by decide +kernel
theorem d109_5 : decode b109 5 = .ok ((.invokevirtual 114), 3) := by decide +kernel
theorem d109_8 : decode b109 8 = .ok ((.istore_n 1), 1) := by decide +kernel
theorem d109_9 : decode b109 9 = .ok ((.iload_n 1), 1) := by decide +kernel
theorem d109_10 : decode b109 10 = .ok ((.iconst 1), 1) := by decide +kernel
theorem d109_11 : decode b109 11 = .ok ((.if_icmp .lt 10), 3) := by decide +kernel
theorem d109_14 : decode b109 14 = .ok ((.iload_n 1), 1) := by decide +kernel
theorem d109_15 : decode b109 15 = .ok ((.sipush 255), 3) := by decide +kernel
theorem d109_18 : decode b109 18 = .ok ((.if_icmp .le 8), 3) := by decide +kernel
theorem d109_21 : decode b109 21 = .ok ((.iconst 3), 1) := by decide +kernel
theorem d109_22 : decode b109 22 = .ok ((.invokestatic 97), 3) := by decide +kernel
theorem d109_25 : decode b109 25 = .ok (.areturn, 1) := by decide +kernel
theorem d109_26 : decode b109 26 = .ok ((.new 136), 3) := by decide +kernel
theorem d109_29 : decode b109 29 = .ok (.dup, 1) := by decide +kernel
theorem d109_30 : decode b109 30 = .ok ((.invokespecial 138), 3) := by decide +kernel
theorem d109_33 : decode b109 33 = .ok ((.astore_n 2), 1) := by decide +kernel
theorem d109_34 : decode b109 34 = .ok ((.aload_n 2), 1) := by decide +kernel
theorem d109_35 : decode b109 35 = .ok ((.iload_n 1), 1) := by decide +kernel
theorem d109_36 : decode b109 36 = .ok (.i2c, 1) := by decide +kernel
theorem d109_37 : decode b109 37 = .ok ((.invokevirtual 156), 3) := by decide +kernel
theorem d109_40 : decode b109 40 = .ok (.pop, 1) := by decide +kernel
theorem d109_41 : decode b109 41 = .ok ((.aload_n 2), 1) := by decide +kernel
theorem d109_42 : decode b109 42 = .ok ((.invokestatic 143), 3) := by decide +kernel
theorem d109_45 : decode b109 45 = .ok (.areturn, 1) := by decide +kernel
abbrev b110 : ByteArray := prog_10_method_19_code
theorem d110_0 : decode b110 0 = .ok ((.aload_n 0), 1) := by decide +kernel
theorem d110_1 : decode b110 1 = .ok ((.getfield 9), 3) := by decide +kernel
theorem d110_4 : decode b110 4 = .ok ((.iconst 0), 1) := by decide +kernel
theorem d110_5 : decode b110 5 = .ok ((.invokevirtual 19), 3) := by decide +kernel
theorem d110_8 : decode b110 8 = .ok ((.astore_n 1), 1) := by decide +kernel
theorem d110_9 : decode b110 9 = .ok ((.aload_n 1), 1) := by decide +kernel
theorem d110_10 : decode b110 10 = .ok ((.invokevirtual 151), 3) := by decide +kernel
theorem d110_13 : decode b110 13 = .ok ((.ifCond .eq 10), 3) := by decide +kernel
theorem d110_16 : decode b110 16 = .ok ((.iconst 3), 1) := by decide +kernel
theorem d110_17 : decode b110 17 = .ok ((.invokestatic 97), 3) := by decide +kernel
theorem d110_20 : decode b110 20 = .ok ((.goto 12), 3) := by decide +kernel
theorem d110_23 : decode b110 23 = .ok ((.aload_n 1), 1) := by decide +kernel
theorem d110_24 : decode b110 24 = .ok ((.iconst 0), 1) := by decide +kernel
theorem d110_25 : decode b110 25 = .ok ((.invokevirtual 118), 3) := by decide +kernel
theorem d110_28 : decode b110 28 = .ok (.i2d, 1) := by decide +kernel
theorem d110_29 : decode b110 29 = .ok ((.invokestatic 31), 3) := by decide +kernel
theorem d110_32 : decode b110 32 = .ok (.areturn, 1) := by decide +kernel
abbrev b111 : ByteArray := prog_10_method_14_code
theorem d111_0 : decode b111 0 = .ok ((.new 136), 3) := by decide +kernel
theorem d111_3 : decode b111 3 = .ok (.dup, 1) := by decide +kernel
theorem d111_4 : decode b111 4 = .ok ((.invokespecial 138), 3) := by decide +kernel
theorem d111_7 : decode b111 7 = .ok ((.astore_n 1), 1) := by decide +kernel
theorem d111_8 : decode b111 8 = .ok ((.iconst 0), 1) := by decide +kernel
theorem d111_9 : decode b111 9 = .ok ((.istore_n 2), 1) := by decide +kernel
theorem d111_10 : decode b111 10 = .ok ((.iload_n 2), 1) := by decide +kernel
theorem d111_11 : decode b111 11 = .ok ((.aload_n 0), 1) := by decide +kernel
theorem d111_12 : decode b111 12 = .ok ((.getfield 9), 3) := by decide +kernel
theorem d111_15 : decode b111 15 = .ok ((.getfield 172), 3) := by decide +kernel
theorem d111_18 : decode b111 18 = .ok ((.if_icmp .ge 21), 3) := by decide +kernel
theorem d111_21 : decode b111 21 = .ok ((.aload_n 1), 1) := by decide +kernel
theorem d111_22 : decode b111 22 = .ok ((.aload_n 0), 1) := by decide +kernel
theorem d111_23 : decode b111 23 = .ok ((.getfield 9), 3) := by decide +kernel
theorem d111_26 : decode b111 26 = .ok ((.iload_n 2), 1) := by decide +kernel
theorem d111_27 : decode b111 27 = .ok ((.invokevirtual 19), 3) := by decide +kernel
theorem d111_30 : decode b111 30 = .ok ((.invokestatic 176), 3) := by decide +kernel
theorem d111_33 : decode b111 33 = .ok ((.iinc 2 1), 3) := by decide +kernel
theorem d111_36 : decode b111 36 = .ok ((.goto (-26)), 3) := by decide +kernel
theorem d111_39 : decode b111 39 = .ok ((.aload_n 1), 1) := by decide +kernel
theorem d111_40 : decode b111 40 = .ok ((.invokestatic 143), 3) := by decide +kernel
theorem d111_43 : decode b111 43 = .ok (.areturn, 1) := by decide +kernel
abbrev b113 : ByteArray := prog_10_method_22_code
theorem d113_0 : decode b113 0 = .ok ((.iload_n 0), 1) := by decide +kernel
theorem d113_1 : decode b113 1 = .ok ((.bipush 48), 2) := by decide +kernel
theorem d113_3 : decode b113 3 = .ok ((.if_icmp .lt 14), 3) := by decide +kernel
theorem d113_6 : decode b113 6 = .ok ((.iload_n 0), 1) := by decide +kernel
theorem d113_7 : decode b113 7 = .ok ((.bipush 57), 2) := by decide +kernel
theorem d113_9 : decode b113 9 = .ok ((.if_icmp .gt 8), 3) := by decide +kernel
theorem d113_12 : decode b113 12 = .ok ((.iload_n 0), 1) := by decide +kernel
theorem d113_13 : decode b113 13 = .ok ((.bipush 48), 2) := by decide +kernel
theorem d113_15 : decode b113 15 = .ok (.isub, 1) := by decide +kernel
theorem d113_16 : decode b113 16 = .ok (.ireturn, 1) := by decide +kernel
theorem d113_17 : decode b113 17 = .ok ((.iload_n 0), 1) := by decide +kernel
theorem d113_18 : decode b113 18 = .ok ((.invokestatic 168), 3) := by decide +kernel
theorem d113_21 : decode b113 21 = .ok ((.ifCond .eq 16), 3) := by decide +kernel
theorem d113_24 : decode b113 24 = .ok ((.iload_n 0), 1) := by decide +kernel
theorem d113_25 : decode b113 25 = .ok ((.invokestatic 161), 3) := by decide +kernel
theorem d113_28 : decode b113 28 = .ok ((.bipush 65), 2) := by decide +kernel
theorem d113_30 : decode b113 30 = .ok (.isub, 1) := by decide +kernel
theorem d113_31 : decode b113 31 = .ok ((.bipush 10), 2) := by decide +kernel
theorem d113_33 : decode b113 33 = .ok (.iadd, 1) := by decide +kernel
theorem d113_34 : decode b113 34 = .ok ((.goto 4), 3) := by decide +kernel
theorem d113_37 : decode b113 37 = .ok ((.iconst (-1)), 1) := by decide +kernel
theorem d113_38 : decode b113 38 = .ok (.ireturn, 1) := by decide +kernel
abbrev b112 : ByteArray := prog_10_method_23_code
theorem d112_0 : decode b112 0 = .ok ((.aload_n 0), 1) := by decide +kernel
theorem d112_1 : decode b112 1 = .ok ((.getfield 9), 3) := by decide +kernel
theorem d112_4 : decode b112 4 = .ok ((.iconst 0), 1) := by decide +kernel
theorem d112_5 : decode b112 5 = .ok ((.invokevirtual 19), 3) := by decide +kernel
theorem d112_8 : decode b112 8 = .ok ((.astore_n 1), 1) := by decide +kernel
theorem d112_9 : decode b112 9 = .ok ((.aload_n 0), 1) := by decide +kernel
theorem d112_10 : decode b112 10 = .ok ((.getfield 9), 3) := by decide +kernel
theorem d112_13 : decode b112 13 = .ok ((.iconst 1), 1) := by decide +kernel
theorem d112_14 : decode b112 14 = .ok ((.invokevirtual 114), 3) := by decide +kernel
theorem d112_17 : decode b112 17 = .ok ((.istore_n 2), 1) := by decide +kernel
theorem d112_18 : decode b112 18 = .ok ((.iload_n 2), 1) := by decide +kernel
theorem d112_19 : decode b112 19 = .ok ((.iconst 2), 1) := by decide +kernel
theorem d112_20 : decode b112 20 = .ok ((.if_icmp .lt 9), 3) := by decide +kernel
theorem d112_23 : decode b112 23 = .ok ((.iload_n 2), 1) := by decide +kernel
theorem d112_24 : decode b112 24 = .ok ((.bipush 36), 2) := by decide +kernel
theorem d112_26 : decode b112 26 = .ok ((.if_icmp .le 9), 3) := by decide +kernel
theorem d112_29 : decode b112 29 = .ok ((.bipush 6), 2) := by decide +kernel
theorem d112_31 : decode b112 31 = .ok ((.invokestatic 97), 3) := by decide +kernel
theorem d112_34 : decode b112 34 = .ok (.areturn, 1) := by decide +kernel
theorem d112_35 : decode b112 35 = .ok ((.lconst 0), 1) := by decide +kernel
theorem d112_36 : decode b112 36 = .ok ((.lstore_n 3), 1) := by decide +kernel
theorem d112_37 : decode b112 37 = .ok ((.iconst 0), 1) := by decide +kernel
theorem d112_38 : decode b112 38 = .ok ((.istore 5), 2) := by decide +kernel
theorem d112_40 : decode b112 40 = .ok ((.iload 5), 2) := by decide +kernel
theorem d112_42 : decode b112 42 = .ok ((.aload_n 1), 1) := by decide +kernel
theorem d112_43 : decode b112 43 = .ok ((.invokevirtual 25), 3) := by decide +kernel
theorem d112_46 : decode b112 46 = .ok ((.if_icmp .ge 55), 3) := by decide +kernel
theorem d112_49 : decode b112 49 = .ok ((.aload_n 1), 1) := by decide +kernel
theorem d112_50 : decode b112 50 = .ok ((.iload 5), 2) := by decide +kernel
theorem d112_52 : decode b112 52 = .ok ((.invokevirtual 118), 3) := by decide +kernel
theorem d112_55 : decode b112 55 = .ok ((.invokestatic 224), 3) := by decide +kernel
theorem d112_58 : decode b112 58 = .ok ((.istore 6), 2) := by decide +kernel
theorem d112_60 : decode b112 60 = .ok ((.lload_n 3), 1) := by decide +kernel
theorem d112_61 : decode b112 61 = .ok ((.iload_n 2), 1) := by decide +kernel
theorem d112_62 : decode b112 62 = .ok (.i2l, 1) := by decide +kernel
theorem d112_63 : decode b112 63 = .ok (.lmul, 1) := by decide +kernel
theorem d112_64 : decode b112 64 = .ok ((.iload 6), 2) := by decide +kernel
theorem d112_66 : decode b112 66 = .ok (.i2l, 1) := by decide +kernel
theorem d112_67 : decode b112 67 = .ok (.ladd, 1) := by decide +kernel
theorem d112_68 : decode b112 68 = .ok ((.lstore_n 3), 1) := by decide +kernel
theorem d112_69 : decode b112 69 = .ok ((.iload 6), 2) := by decide +kernel
theorem d112_71 : decode b112 71 = .ok ((.iconst (-1)), 1) := by decide +kernel
theorem d112_72 : decode b112 72 = .ok ((.if_icmp .eq 17), 3) := by decide +kernel
theorem d112_75 : decode b112 75 = .ok ((.iload 6), 2) := by decide +kernel
theorem d112_77 : decode b112 77 = .ok ((.iload_n 2), 1) := by decide +kernel
theorem d112_78 : decode b112 78 = .ok ((.if_icmp .ge 11), 3) := by decide +kernel
theorem d112_81 : decode b112 81 = .ok ((.lload_n 3), 1) := by decide +kernel
theorem d112_82 : decode b112 82 = .ok ((.ldc2_w 228), 3) := by decide +kernel
theorem d112_85 : decode b112 85 = .ok (.lcmp, 1) := by decide +kernel
theorem d112_86 : decode b112 86 = .ok ((.ifCond .le 9), 3) := by decide +kernel
theorem d112_89 : decode b112 89 = .ok ((.bipush 6), 2) := by decide +kernel
theorem d112_91 : decode b112 91 = .ok ((.invokestatic 97), 3) := by decide +kernel
theorem d112_94 : decode b112 94 = .ok (.areturn, 1) := by decide +kernel
theorem d112_95 : decode b112 95 = .ok ((.iinc 5 1), 3) := by decide +kernel
theorem d112_98 : decode b112 98 = .ok ((.goto (-58)), 3) := by decide +kernel
theorem d112_101 : decode b112 101 = .ok ((.lload_n 3), 1) := by decide +kernel
theorem d112_102 : decode b112 102 = .ok (.l2d, 1) := by decide +kernel
theorem d112_103 : decode b112 103 = .ok ((.invokestatic 31), 3) := by decide +kernel
theorem d112_106 : decode b112 106 = .ok (.areturn, 1) := by decide +kernel
abbrev b114 : ByteArray := prog_10_method_17_code
theorem d114_0 : decode b114 0 = .ok ((.aload_n 0), 1) := by decide +kernel
theorem d114_1 : decode b114 1 = .ok ((.getfield 9), 3) := by decide +kernel
theorem d114_4 : decode b114 4 = .ok ((.iconst 0), 1) := by decide +kernel
theorem d114_5 : decode b114 5 = .ok ((.invokevirtual 19), 3) := by decide +kernel
theorem d114_8 : decode b114 8 = .ok ((.astore_n 1), 1) := by decide +kernel
theorem d114_9 : decode b114 9 = .ok ((.aload_n 0), 1) := by decide +kernel
theorem d114_10 : decode b114 10 = .ok ((.getfield 9), 3) := by decide +kernel
theorem d114_13 : decode b114 13 = .ok ((.iconst 1), 1) := by decide +kernel
theorem d114_14 : decode b114 14 = .ok ((.invokevirtual 19), 3) := by decide +kernel
theorem d114_17 : decode b114 17 = .ok ((.astore_n 2), 1) := by decide +kernel
theorem d114_18 : decode b114 18 = .ok ((.aload_n 1), 1) := by decide +kernel
theorem d114_19 : decode b114 19 = .ok ((.aload_n 2), 1) := by decide +kernel
theorem d114_20 : decode b114 20 = .ok ((.invokevirtual 196), 3) := by decide +kernel
theorem d114_23 : decode b114 23 = .ok ((.invokestatic 200), 3) := by decide +kernel
theorem d114_26 : decode b114 26 = .ok (.areturn, 1) := by decide +kernel
abbrev b116 : ByteArray := prog_10_method_5_code
theorem d116_0 : decode b116 0 = .ok ((.iload_n 2), 1) := by decide +kernel
theorem d116_1 : decode b116 1 = .ok ((.ifCond .lt 16), 3) := by decide +kernel
theorem d116_4 : decode b116 4 = .ok ((.iload_n 2), 1) := by decide +kernel
theorem d116_5 : decode b116 5 = .ok ((.aload_n 1), 1) := by decide +kernel
theorem d116_6 : decode b116 6 = .ok ((.invokevirtual 25), 3) := by decide +kernel
theorem d116_9 : decode b116 9 = .ok ((.aload_n 0), 1) := by decide +kernel
theorem d116_10 : decode b116 10 = .ok ((.invokevirtual 25), 3) := by decide +kernel
theorem d116_13 : decode b116 13 = .ok (.isub, 1) := by decide +kernel
theorem d116_14 : decode b116 14 = .ok ((.if_icmp .le 5), 3) := by decide +kernel
theorem d116_17 : decode b116 17 = .ok ((.iconst 0), 1) := by decide +kernel
theorem d116_18 : decode b116 18 = .ok (.ireturn, 1) := by decide +kernel
theorem d116_19 : decode b116 19 = .ok ((.iconst 0), 1) := by decide +kernel
theorem d116_20 : decode b116 20 = .ok ((.istore_n 3), 1) := by decide +kernel
theorem d116_21 : decode b116 21 = .ok ((.iload_n 3), 1) := by decide +kernel
theorem d116_22 : decode b116 22 = .ok ((.aload_n 0), 1) := by decide +kernel
theorem d116_23 : decode b116 23 = .ok ((.invokevirtual 25), 3) := by decide +kernel
theorem d116_26 : decode b116 26 = .ok ((.if_icmp .ge 26), 3) := by decide +kernel
theorem d116_29 : decode b116 29 = .ok ((.aload_n 1), 1) := by decide +kernel
theorem d116_30 : decode b116 30 = .ok ((.iload_n 2), 1) := by decide +kernel
theorem d116_31 : decode b116 31 = .ok ((.iload_n 3), 1) := by decide +kernel
theorem d116_32 : decode b116 32 = .ok (.iadd, 1) := by decide +kernel
theorem d116_33 : decode b116 33 = .ok ((.invokevirtual 118), 3) := by decide +kernel
theorem d116_36 : decode b116 36 = .ok ((.aload_n 0), 1) := by decide +kernel
theorem d116_37 : decode b116 37 = .ok ((.iload_n 3), 1) := by decide +kernel
theorem d116_38 : decode b116 38 = .ok ((.invokevirtual 118), 3) := by decide +kernel
theorem d116_41 : decode b116 41 = .ok ((.if_icmp .eq 5), 3) := by decide +kernel
theorem d116_44 : decode b116 44 = .ok ((.iconst 0), 1) := by decide +kernel
theorem d116_45 : decode b116 45 = .ok (.ireturn, 1) := by decide +kernel
theorem d116_46 : decode b116 46 = .ok ((.iinc 3 1), 3) := by decide +kernel
theorem d116_49 : decode b116 49 = .ok ((.goto (-28)), 3) := by decide +kernel
theorem d116_52 : decode b116 52 = .ok ((.iconst 1), 1) := by decide +kernel
theorem d116_53 : decode b116 53 = .ok (.ireturn, 1) := by decide +kernel
abbrev b115 : ByteArray := prog_10_method_6_code
theorem d115_0 : decode b115 0 = .ok ((.aload_n 0), 1) := by decide +kernel
theorem d115_1 : decode b115 1 = .ok ((.getfield 9), 3) := by decide +kernel
theorem d115_4 : decode b115 4 = .ok ((.iconst 0), 1) := by decide +kernel
theorem d115_5 : decode b115 5 = .ok ((.invokevirtual 19), 3) := by decide +kernel
theorem d115_8 : decode b115 8 = .ok ((.astore_n 1), 1) := by decide +kernel
theorem d115_9 : decode b115 9 = .ok ((.aload_n 0), 1) := by decide +kernel
theorem d115_10 : decode b115 10 = .ok ((.getfield 9), 3) := by decide +kernel
theorem d115_13 : decode b115 13 = .ok ((.iconst 1), 1) := by decide +kernel
theorem d115_14 : decode b115 14 = .ok ((.invokevirtual 19), 3) := by decide +kernel
theorem d115_17 : decode b115 17 = .ok ((.astore_n 2), 1) := by decide +kernel
theorem d115_18 : decode b115 18 = .ok ((.aload_n 0), 1) := by decide +kernel
theorem d115_19 : decode b115 19 = .ok ((.getfield 9), 3) := by decide +kernel
theorem d115_22 : decode b115 22 = .ok ((.iconst 2), 1) := by decide +kernel
theorem d115_23 : decode b115 23 = .ok ((.iconst 1), 1) := by decide +kernel
theorem d115_24 : decode b115 24 = .ok ((.invokevirtual 93), 3) := by decide +kernel
theorem d115_27 : decode b115 27 = .ok ((.istore_n 3), 1) := by decide +kernel
theorem d115_28 : decode b115 28 = .ok ((.iload_n 3), 1) := by decide +kernel
theorem d115_29 : decode b115 29 = .ok ((.iconst 1), 1) := by decide +kernel
theorem d115_30 : decode b115 30 = .ok ((.if_icmp .lt 47), 3) := by decide +kernel
theorem d115_33 : decode b115 33 = .ok ((.iload_n 3), 1) := by decide +kernel
theorem d115_34 : decode b115 34 = .ok ((.iconst 1), 1) := by decide +kernel
theorem d115_35 : decode b115 35 = .ok (.isub, 1) := by decide +kernel
theorem d115_36 : decode b115 36 = .ok ((.istore 4), 2) := by decide +kernel
theorem d115_38 : decode b115 38 = .ok ((.iload 4), 2) := by decide +kernel
theorem d115_40 : decode b115 40 = .ok ((.aload_n 2), 1) := by decide +kernel
theorem d115_41 : decode b115 41 = .ok ((.invokevirtual 25), 3) := by decide +kernel
theorem d115_44 : decode b115 44 = .ok ((.aload_n 1), 1) := by decide +kernel
theorem d115_45 : decode b115 45 = .ok ((.invokevirtual 25), 3) := by decide +kernel
theorem d115_48 : decode b115 48 = .ok (.isub, 1) := by decide +kernel
theorem d115_49 : decode b115 49 = .ok ((.if_icmp .gt 28), 3) := by decide +kernel
theorem d115_52 : decode b115 52 = .ok ((.aload_n 1), 1) := by decide +kernel
theorem d115_53 : decode b115 53 = .ok ((.aload_n 2), 1) := by decide +kernel
theorem d115_54 : decode b115 54 = .ok ((.iload 4), 2) := by decide +kernel
theorem d115_56 : decode b115 56 = .ok ((.invokestatic 122), 3) := by decide +kernel
theorem d115_59 : decode b115 59 = .ok ((.ifCond .eq 12), 3) := by decide +kernel
theorem d115_62 : decode b115 62 = .ok ((.iload 4), 2) := by decide +kernel
theorem d115_64 : decode b115 64 = .ok ((.iconst 1), 1) := by decide +kernel
theorem d115_65 : decode b115 65 = .ok (.iadd, 1) := by decide +kernel
theorem d115_66 : decode b115 66 = .ok (.i2d, 1) := by decide +kernel
theorem d115_67 : decode b115 67 = .ok ((.invokestatic 31), 3) := by decide +kernel
theorem d115_70 : decode b115 70 = .ok (.areturn, 1) := by decide +kernel
theorem d115_71 : decode b115 71 = .ok ((.iinc 4 1), 3) := by decide +kernel
theorem d115_74 : decode b115 74 = .ok ((.goto (-36)), 3) := by decide +kernel
theorem d115_77 : decode b115 77 = .ok ((.iconst 3), 1) := by decide +kernel
theorem d115_78 : decode b115 78 = .ok ((.invokestatic 97), 3) := by decide +kernel
theorem d115_81 : decode b115 81 = .ok (.areturn, 1) := by decide +kernel
def pa_read_137 (K7 : CS → TT → Int32 → Option (CS)) (st : CS) (x1 : TT) (x2 : Int32) : Option (CS) := jn (uC st 7 1 ((st.1 7 1) + 1)) (fun st1 => jn (x2 + 1) (fun v2 => K7 st1 x1 v2))
def pa_read_82 (K7 : CS → TT → Int32 → Option (CS)) (st : CS) (x1 : TT) (x2 : Int32) (x3 : Int32) : Option (CS) := jb (x3 = 63) (jg (inb (st.1 7 1) 255) (jn (uC st 43 (st.1 7 1).toNatClampNeg 256) (fun st9 => pa_read_137 K7 st9 x1 x2))) (jb (x3 = 42) (jg (inb (st.1 7 1) 255) (jn (uC st 43 (st.1 7 1).toNatClampNeg 257) (fun st7 => pa_read_137 K7 st7 x1 x2))) (jc (f_wf_great x3) (fun q3 => jg (inb (st.1 7 1) 255) (jn (uC st 43 (st.1 7 1).toNatClampNeg q3) (fun st5 => pa_read_137 K7 st5 x1 x2)))))
def pa_read_7  : Nat → CS → TT → Int32 → Option (CS)
  | 0, _, _, _ => none
  | fu + 1, st, x1, x2 => jc (f_js_length x1) (fun q10 => jb (q10 ≤ x2) (some st) (jb (255 ≤ (st.1 7 1)) (some st) (jc (f_js_charAt x1 x2) (fun q11 => jb (q11 = 126) (jc (f_js_length x1) (fun q12 => jb (q12 ≤ (x2 + 1)) (pa_read_82 (pa_read_7 fu) st x1 x2 q11) (jc (f_js_charAt x1 (x2 + 1)) (fun q13 => jc (f_pa_isSpecial q13) (fun q14 => jb (q14 = 0) (pa_read_82 (pa_read_7 fu) st x1 x2 q11) (jn (x2 + 1) (fun v15 => jc (f_js_charAt x1 v15) (fun q16 => jg (inb (st.1 7 1) 255) (jn (uC st 43 (st.1 7 1).toNatClampNeg q16) (fun st18 => pa_read_137 (pa_read_7 fu) st18 x1 v15)))))))))) (pa_read_82 (pa_read_7 fu) st x1 x2 q11)))))
def f_pa_read (st : CS) (p0 : TT) : Option (CS) := jn (uC st 7 1 0) (fun st19 => pa_read_7 FU st19 p0 0)
set_option maxHeartbeats 4000000 in
set_option maxRecDepth 100000 in
theorem c_pa_read (l : Launch) (ρ : RH) (ad : Nat → Nat) (H : Heap) (P : Nat → Prop) (st : CS) (ap0 : Nat) (p0 : TT) (res : CS) (hW : CW ρ P ad st H) (fap0 : isS ρ P H ap0 p0) (h : f_pa_read st p0 = some res) : Met l y105 (wsOf y105 b105 4 none) ({ frames := 13, cells := 0, slots := 0, locals := 621 } : Room) (va_Pc [.ref (ad 7), .ref ap0] (KP ρ H)) (mQ (fun v H1 => v = none ∧ CW ρ P ad res H1) (MA wC ad H.size)) 0 0 (MA wC ad H.size) := by
  refine m_ofW (own := "WordFunctions$Pattern") (plainFor_of_name rfl) rfl (Nat.le_of_ble_eq_true rfl) fun p e s m args below meth c ls hx hb hr hlk _ X hs hl => ?_
  subst hs
  have hS : va_S (MA wC ad s.heap.size) s.heap s.heap [] := va_S.rf
  have hSz := hS.1
  have hAz : ∀ q, s.heap.size ≤ q → (MA wC ad s.heap.size) q := fun q hq => Or.inr hq
  have hAp : ∀ i, i < 46 → (MA wC ad s.heap.size) (ad i) := fun i hi => MA.in hi
  have hPp : ∀ i, i < 46 → P (ad i) := hW.1
  have hl : lv_has ls 4 [(0, .ref (ad 7)), (1, .ref ap0)] := hl
  have kc137 : ∀ (K7 : CS → TT → Int32 → Option (CS)) (hK7 : ∀ (st : CS) (x1 : TT) (x2 : Int32) (ax1 : Nat) (H : Heap) (locs : List Loc) (ls : Array Slot), CW ρ P ad st H → va_S (MA wC ad s.heap.size) s.heap H locs → isS ρ P H ax1 x1 → lv_has ls 4 [(0, .ref (ad 7)), (1, .ref ax1), (2, .int x2)] → K7 st x1 x2 = some res → W p l e ({ frames := 13, cells := 0, slots := 0, locals := 621 } : Room) s m args below meth c H locs 0 0 (MQ below (mQ (fun v H1 => v = none ∧ CW ρ P ad res H1) (MA wC ad s.heap.size)) args s 0 0 (MA wC ad s.heap.size)) (F0 m 7 ls [])), ∀ (st : CS) (x1 : TT) (x2 : Int32) (ax1 : Nat) (H : Heap) (locs : List Loc) (ls : Array Slot), CW ρ P ad st H → va_S (MA wC ad s.heap.size) s.heap H locs → isS ρ P H ax1 x1 → lv_has ls 4 [(0, .ref (ad 7)), (1, .ref ax1), (2, .int x2)] → pa_read_137 K7 st x1 x2 = some res → W p l e ({ frames := 13, cells := 0, slots := 0, locals := 621 } : Room) s m args below meth c H locs 0 0 (MQ below (mQ (fun v H1 => v = none ∧ CW ρ P ad res H1) (MA wC ad s.heap.size)) args s 0 0 (MA wC ad s.heap.size)) (F0 m 137 ls []) := by
    intro K7 hK7
    intro st x1 x2 ax1 H locs ls hW hS fax1 hl h
    have hSz := hS.1
    unfold pa_read_137 at h
    refine lv_aload_n (pc := 137) hx hb d105_137 rfl (lv_at hl 0 rfl) ?_
    refine lv_dup (pc := 138) hx hb d105_138 rfl ?_
    refine c_getI (pc := 139) X hW 7 1 0 (C := "WordFunctions$Pattern") (T := T0) (N := 3) (by decide) rfl rfl rfl rfl tin0 rfl wd46 rfl d105_139 ?_
    refine lv_iconst (pc := 142) (v := 1) hx hb d105_142 (by decide) ?_
    refine lv_iadd (pc := 143) hx hb d105_143 ?_
    obtain ⟨st1, est1, h⟩ := jn_ex h
    refine c_putI (pc := 144) X hW hS 7 1 0 (C := "WordFunctions$Pattern") (T := T0) (N := 3) est1 (hAp _ (by decide)) (by decide) rfl rfl rfl rfl tin0 ty0 tyo0 tnm0 rfl wd46 rfl rfl rfl rfl d105_144 (fun H locs hW hS hk => ?_)
    have fax1 := fax1.keep hk (fun _ _ z => z)
    have hSz := hS.1
    obtain ⟨v2, ev2, h⟩ := jn_ex h
    refine lv_iinc (pc := 147) (v := v2) (lv' := [(2, .int v2), (0, .ref (ad 7)), (1, .ref ax1)]) hx hb d105_147 hl (k := 2) rfl (by rw [ev2]; rfl) (by decide) rfl (fun ls hl => ?_)
    refine lv_goto (pc := 150) (tgt := 7) hx hb d105_150 (by decide) ?_
    exact hK7 st1 x1 v2 ax1 _ _ _ hW hS fax1 (lv_sub hl [1, 2, 0] rfl) h
  have kc82 : ∀ (K7 : CS → TT → Int32 → Option (CS)) (hK7 : ∀ (st : CS) (x1 : TT) (x2 : Int32) (ax1 : Nat) (H : Heap) (locs : List Loc) (ls : Array Slot), CW ρ P ad st H → va_S (MA wC ad s.heap.size) s.heap H locs → isS ρ P H ax1 x1 → lv_has ls 4 [(0, .ref (ad 7)), (1, .ref ax1), (2, .int x2)] → K7 st x1 x2 = some res → W p l e ({ frames := 13, cells := 0, slots := 0, locals := 621 } : Room) s m args below meth c H locs 0 0 (MQ below (mQ (fun v H1 => v = none ∧ CW ρ P ad res H1) (MA wC ad s.heap.size)) args s 0 0 (MA wC ad s.heap.size)) (F0 m 7 ls [])), ∀ (st : CS) (x1 : TT) (x2 : Int32) (x3 : Int32) (ax1 : Nat) (H : Heap) (locs : List Loc) (ls : Array Slot), CW ρ P ad st H → va_S (MA wC ad s.heap.size) s.heap H locs → isS ρ P H ax1 x1 → lv_has ls 4 [(0, .ref (ad 7)), (1, .ref ax1), (2, .int x2), (3, .int x3)] → pa_read_82 K7 st x1 x2 x3 = some res → W p l e ({ frames := 13, cells := 0, slots := 0, locals := 621 } : Room) s m args below meth c H locs 0 0 (MQ below (mQ (fun v H1 => v = none ∧ CW ρ P ad res H1) (MA wC ad s.heap.size)) args s 0 0 (MA wC ad s.heap.size)) (F0 m 82 ls []) := by
    intro K7 hK7
    intro st x1 x2 x3 ax1 H locs ls hW hS fax1 hl h
    have hSz := hS.1
    unfold pa_read_82 at h
    refine lv_iload_n (pc := 82) hx hb d105_82 rfl (lv_at hl 3 rfl) ?_
    refine lv_bipush (pc := 83) (v := 63) hx hb d105_83 (by decide) ?_
    refine lv_icmp_ne (pc := 85) (tgt := 103) hx hb d105_85 (by decide) (fun c85 => ?_) (fun c85 => ?_)
    · have h := jb_f c85 h
      refine lv_iload_n (pc := 103) hx hb d105_103 rfl (lv_at hl 3 rfl) ?_
      refine lv_bipush (pc := 104) (v := 42) hx hb d105_104 (by decide) ?_
      refine lv_icmp_ne (pc := 106) (tgt := 124) hx hb d105_106 (by decide) (fun c106 => ?_) (fun c106 => ?_)
      · have h := jb_f c106 h
        refine lv_aload_n (pc := 124) hx hb d105_124 rfl (lv_at hl 0 rfl) ?_
        refine c_getK (pc := 125) X hW 7 0 0 43 (C := "WordFunctions$Pattern") (T := T0) (N := 3) (by decide) rfl rfl rfl rfl tin0 rfl wd45 rfl rfl d105_125 ?_
        refine lv_aload_n (pc := 128) hx hb d105_128 rfl (lv_at hl 0 rfl) ?_
        refine c_getI (pc := 129) X hW 7 1 0 (C := "WordFunctions$Pattern") (T := T0) (N := 3) (by decide) rfl rfl rfl rfl tin0 rfl wd46 rfl d105_129 ?_
        refine lv_iload_n (pc := 132) hx hb d105_132 rfl (lv_at hl 3 rfl) ?_
        obtain ⟨q3, hq3, h⟩ := jc_some h
        refine k_callSN (pc := 133) (n := 1) X hS (c_wf_great l ρ _ P x3 q3 hW.2.2.1 hW.2.1  hq3) wd985 3 rfl wd984 wd1 (by decide) ⟨rfl, rfl, Nat.le_of_ble_eq_true rfl, Nat.le_of_ble_eq_true rfl⟩ (As := [.int x3]) (rest := [.int (st.1 7 1), .ref (ad 43)]) rfl rfl hl.1 (Nat.le_of_ble_eq_true rfl) d105_133 ⟨Nat.le_refl _, Nat.le_refl _⟩ (fun q hq => False.elim hq) (fun v H1 locs1 hv _ _ hSq3 => ?_)
        obtain ⟨rfl, rfl⟩ := hv
        have hS := hSq3
        have hSz := hS.1
        obtain ⟨g4, h⟩ := jg_some h
        obtain ⟨st5, est5, h⟩ := jn_ex h
        refine c_iast (pc := 136) X hW hS 43 (hAp 43 (by decide)) (by decide) rfl g4 est5 d105_136 (fun H locs hW hS hk => ?_)
        have fax1 := fax1.keep hk (fun _ _ z => z)
        have hSz := hS.1
        exact kc137 _ hK7  st5 x1 x2 ax1 _ _ _ hW hS fax1 (lv_sub hl [0, 1, 2] rfl) h
      · have h := jb_t c106 h
        refine lv_aload_n (pc := 109) hx hb d105_109 rfl (lv_at hl 0 rfl) ?_
        refine c_getK (pc := 110) X hW 7 0 0 43 (C := "WordFunctions$Pattern") (T := T0) (N := 3) (by decide) rfl rfl rfl rfl tin0 rfl wd45 rfl rfl d105_110 ?_
        refine lv_aload_n (pc := 113) hx hb d105_113 rfl (lv_at hl 0 rfl) ?_
        refine c_getI (pc := 114) X hW 7 1 0 (C := "WordFunctions$Pattern") (T := T0) (N := 3) (by decide) rfl rfl rfl rfl tin0 rfl wd46 rfl d105_114 ?_
        refine lv_sipush (pc := 117) (v := 257) hx hb d105_117 (by decide) ?_
        obtain ⟨g6, h⟩ := jg_some h
        obtain ⟨st7, est7, h⟩ := jn_ex h
        refine c_iast (pc := 120) X hW hS 43 (hAp 43 (by decide)) (by decide) rfl g6 est7 d105_120 (fun H locs hW hS hk => ?_)
        have fax1 := fax1.keep hk (fun _ _ z => z)
        have hSz := hS.1
        refine lv_goto (pc := 121) (tgt := 137) hx hb d105_121 (by decide) ?_
        exact kc137 _ hK7  st7 x1 x2 ax1 _ _ _ hW hS fax1 (lv_sub hl [0, 1, 2] rfl) h
    · have h := jb_t c85 h
      refine lv_aload_n (pc := 88) hx hb d105_88 rfl (lv_at hl 0 rfl) ?_
      refine c_getK (pc := 89) X hW 7 0 0 43 (C := "WordFunctions$Pattern") (T := T0) (N := 3) (by decide) rfl rfl rfl rfl tin0 rfl wd45 rfl rfl d105_89 ?_
      refine lv_aload_n (pc := 92) hx hb d105_92 rfl (lv_at hl 0 rfl) ?_
      refine c_getI (pc := 93) X hW 7 1 0 (C := "WordFunctions$Pattern") (T := T0) (N := 3) (by decide) rfl rfl rfl rfl tin0 rfl wd46 rfl d105_93 ?_
      refine lv_sipush (pc := 96) (v := 256) hx hb d105_96 (by decide) ?_
      obtain ⟨g8, h⟩ := jg_some h
      obtain ⟨st9, est9, h⟩ := jn_ex h
      refine c_iast (pc := 99) X hW hS 43 (hAp 43 (by decide)) (by decide) rfl g8 est9 d105_99 (fun H locs hW hS hk => ?_)
      have fax1 := fax1.keep hk (fun _ _ z => z)
      have hSz := hS.1
      refine lv_goto (pc := 100) (tgt := 137) hx hb d105_100 (by decide) ?_
      exact kc137 _ hK7  st9 x1 x2 ax1 _ _ _ hW hS fax1 (lv_sub hl [0, 1, 2] rfl) h
  have kc7 : ∀ (fu : Nat), ∀ (st : CS) (x1 : TT) (x2 : Int32) (ax1 : Nat) (H : Heap) (locs : List Loc) (ls : Array Slot), CW ρ P ad st H → va_S (MA wC ad s.heap.size) s.heap H locs → isS ρ P H ax1 x1 → lv_has ls 4 [(0, .ref (ad 7)), (1, .ref ax1), (2, .int x2)] → pa_read_7 fu st x1 x2 = some res → W p l e ({ frames := 13, cells := 0, slots := 0, locals := 621 } : Room) s m args below meth c H locs 0 0 (MQ below (mQ (fun v H1 => v = none ∧ CW ρ P ad res H1) (MA wC ad s.heap.size)) args s 0 0 (MA wC ad s.heap.size)) (F0 m 7 ls []) := by
    intro  fu
    induction fu with
    | zero => intro st x1 x2 ax1 H locs ls hW hS fax1 hl h; cases h
    | succ fu hK7 =>
      intro st x1 x2 ax1 H locs ls hW hS fax1 hl h
      have hSz := hS.1
      unfold pa_read_7 at h
      refine lv_iload_n (pc := 7) hx hb d105_7 rfl (lv_at hl 2 rfl) ?_
      refine lv_aload_n (pc := 8) hx hb d105_8 rfl (lv_at hl 1 rfl) ?_
      obtain ⟨q10, hq10, h⟩ := jc_some h
      refine k_callV (pc := 9) (n := 0) X hS (c_js_length l ρ _ P ax1 x1 q10 hW.2.2.1 hW.2.1 fax1 hq10) wd538 wd978 wd536 wd537 wd14 (by decide) ⟨rfl, rfl, Nat.le_of_ble_eq_true rfl, Nat.le_of_ble_eq_true rfl⟩ (s_recv X fax1) (As := []) (rest := [.int x2]) rfl rfl hl.1 (Nat.le_of_ble_eq_true rfl) d105_9 ⟨Nat.le_refl _, Nat.le_refl _⟩ (fun q hq => False.elim hq) (fun v H1 locs1 hv _ _ hSq10 => ?_)
      obtain ⟨rfl, rfl⟩ := hv
      have hS := hSq10
      have hSz := hS.1
      refine lv_icmp_ge (pc := 12) (tgt := 153) hx hb d105_12 (by decide) (fun c12 => ?_) (fun c12 => ?_)
      · have h := jb_t c12 h
        obtain rfl := Option.some.inj h
        exact m_vret (pc := 153) hx hb hr hlk hS ⟨rfl, hW⟩ (Nat.le_refl _) (Nat.le_refl _) d105_153
      · have h := jb_f c12 h
        refine lv_aload_n (pc := 15) hx hb d105_15 rfl (lv_at hl 0 rfl) ?_
        refine c_getI (pc := 16) X hW 7 1 0 (C := "WordFunctions$Pattern") (T := T0) (N := 3) (by decide) rfl rfl rfl rfl tin0 rfl wd46 rfl d105_16 ?_
        refine lv_aload_n (pc := 19) hx hb d105_19 rfl (lv_at hl 0 rfl) ?_
        refine c_getK (pc := 20) X hW 7 0 0 43 (C := "WordFunctions$Pattern") (T := T0) (N := 3) (by decide) rfl rfl rfl rfl tin0 rfl wd45 rfl rfl d105_20 ?_
        refine c_alen (pc := 23) (v := 255) X hW 43 (by decide) rfl (by decide) (by decide) d105_23 ?_
        refine lv_icmp_ge (pc := 24) (tgt := 153) hx hb d105_24 (by decide) (fun c24 => ?_) (fun c24 => ?_)
        · have h := jb_t c24 h
          obtain rfl := Option.some.inj h
          exact m_vret (pc := 153) hx hb hr hlk hS ⟨rfl, hW⟩ (Nat.le_refl _) (Nat.le_refl _) d105_153
        · have h := jb_f c24 h
          refine lv_aload_n (pc := 27) hx hb d105_27 rfl (lv_at hl 1 rfl) ?_
          refine lv_iload_n (pc := 28) hx hb d105_28 rfl (lv_at hl 2 rfl) ?_
          obtain ⟨q11, hq11, h⟩ := jc_some h
          refine k_callV (pc := 29) (n := 1) X hS (c_js_charAt l ρ _ P ax1 x1 x2 q11 hW.2.2.1 hW.2.1 fax1 hq11) wd683 wd979 wd681 wd682 wd14 (by decide) ⟨rfl, rfl, Nat.le_of_ble_eq_true rfl, Nat.le_of_ble_eq_true rfl⟩ (s_recv X fax1) (As := [.int x2]) (rest := []) rfl rfl hl.1 (Nat.le_of_ble_eq_true rfl) d105_29 ⟨Nat.le_refl _, Nat.le_refl _⟩ (fun q hq => False.elim hq) (fun v H1 locs1 hv _ _ hSq11 => ?_)
          obtain ⟨rfl, rfl⟩ := hv
          have hS := hSq11
          have hSz := hS.1
          refine lv_istore_n (pc := 32) (lv' := [(3, .int q11), (0, .ref (ad 7)), (1, .ref ax1), (2, .int x2)]) hx hb d105_32 rfl hl (by decide) rfl (fun ls hl => ?_)
          refine lv_iload_n (pc := 33) hx hb d105_33 rfl (lv_at hl 0 rfl) ?_
          refine lv_bipush (pc := 34) (v := 126) hx hb d105_34 (by decide) ?_
          refine lv_icmp_ne (pc := 36) (tgt := 82) hx hb d105_36 (by decide) (fun c36 => ?_) (fun c36 => ?_)
          · have h := jb_f c36 h
            exact kc82 _ hK7  st x1 x2 q11 ax1 _ _ _ hW hS fax1 (lv_sub hl [1, 2, 3, 0] rfl) h
          · have h := jb_t c36 h
            refine lv_iload_n (pc := 39) hx hb d105_39 rfl (lv_at hl 3 rfl) ?_
            refine lv_iconst (pc := 40) (v := 1) hx hb d105_40 (by decide) ?_
            refine lv_iadd (pc := 41) hx hb d105_41 ?_
            refine lv_aload_n (pc := 42) hx hb d105_42 rfl (lv_at hl 2 rfl) ?_
            obtain ⟨q12, hq12, h⟩ := jc_some h
            refine k_callV (pc := 43) (n := 0) X hS (c_js_length l ρ _ P ax1 x1 q12 hW.2.2.1 hW.2.1 fax1 hq12) wd538 wd978 wd536 wd537 wd14 (by decide) ⟨rfl, rfl, Nat.le_of_ble_eq_true rfl, Nat.le_of_ble_eq_true rfl⟩ (s_recv X fax1) (As := []) (rest := [.int (x2 + 1)]) rfl rfl hl.1 (Nat.le_of_ble_eq_true rfl) d105_43 ⟨Nat.le_refl _, Nat.le_refl _⟩ (fun q hq => False.elim hq) (fun v H1 locs1 hv _ _ hSq12 => ?_)
            obtain ⟨rfl, rfl⟩ := hv
            have hS := hSq12
            have hSz := hS.1
            refine lv_icmp_ge (pc := 46) (tgt := 82) hx hb d105_46 (by decide) (fun c46 => ?_) (fun c46 => ?_)
            · have h := jb_t c46 h
              exact kc82 _ hK7  st x1 x2 q11 ax1 _ _ _ hW hS fax1 (lv_sub hl [1, 2, 3, 0] rfl) h
            · have h := jb_f c46 h
              refine lv_aload_n (pc := 49) hx hb d105_49 rfl (lv_at hl 2 rfl) ?_
              refine lv_iload_n (pc := 50) hx hb d105_50 rfl (lv_at hl 3 rfl) ?_
              refine lv_iconst (pc := 51) (v := 1) hx hb d105_51 (by decide) ?_
              refine lv_iadd (pc := 52) hx hb d105_52 ?_
              obtain ⟨q13, hq13, h⟩ := jc_some h
              refine k_callV (pc := 53) (n := 1) X hS (c_js_charAt l ρ _ P ax1 x1 (x2 + 1) q13 hW.2.2.1 hW.2.1 fax1 hq13) wd683 wd979 wd681 wd682 wd14 (by decide) ⟨rfl, rfl, Nat.le_of_ble_eq_true rfl, Nat.le_of_ble_eq_true rfl⟩ (s_recv X fax1) (As := [.int (x2 + 1)]) (rest := []) rfl rfl hl.1 (Nat.le_of_ble_eq_true rfl) d105_53 ⟨Nat.le_refl _, Nat.le_refl _⟩ (fun q hq => False.elim hq) (fun v H1 locs1 hv _ _ hSq13 => ?_)
              obtain ⟨rfl, rfl⟩ := hv
              have hS := hSq13
              have hSz := hS.1
              obtain ⟨q14, hq14, h⟩ := jc_some h
              refine k_callS (pc := 56) (n := 1) X hS (c_pa_isSpecial l ρ _ P q13 q14 hW.2.2.1 hW.2.1  hq14) wd982 wd980 wd981 wd2 (by decide) ⟨rfl, rfl, Nat.le_of_ble_eq_true rfl, Nat.le_of_ble_eq_true rfl⟩ (As := [.int q13]) (rest := []) rfl rfl hl.1 (Nat.le_of_ble_eq_true rfl) d105_56 ⟨Nat.le_refl _, Nat.le_refl _⟩ (fun q hq => False.elim hq) (fun v H1 locs1 hv _ _ hSq14 => ?_)
              obtain ⟨rfl, rfl⟩ := hv
              have hS := hSq14
              have hSz := hS.1
              refine lv_if_eq (pc := 59) (tgt := 82) hx hb d105_59 (by decide) (fun c59 => ?_) (fun c59 => ?_)
              · have h := jb_t c59 h
                exact kc82 _ hK7  st x1 x2 q11 ax1 _ _ _ hW hS fax1 (lv_sub hl [1, 2, 3, 0] rfl) h
              · have h := jb_f c59 h
                obtain ⟨v15, ev15, h⟩ := jn_ex h
                refine lv_iinc (pc := 62) (v := v15) (lv' := [(2, .int v15), (3, .int q11), (0, .ref (ad 7)), (1, .ref ax1)]) hx hb d105_62 hl (k := 3) rfl (by rw [ev15]; rfl) (by decide) rfl (fun ls hl => ?_)
                refine lv_aload_n (pc := 65) hx hb d105_65 rfl (lv_at hl 2 rfl) ?_
                refine c_getK (pc := 66) X hW 7 0 0 43 (C := "WordFunctions$Pattern") (T := T0) (N := 3) (by decide) rfl rfl rfl rfl tin0 rfl wd45 rfl rfl d105_66 ?_
                refine lv_aload_n (pc := 69) hx hb d105_69 rfl (lv_at hl 2 rfl) ?_
                refine c_getI (pc := 70) X hW 7 1 0 (C := "WordFunctions$Pattern") (T := T0) (N := 3) (by decide) rfl rfl rfl rfl tin0 rfl wd46 rfl d105_70 ?_
                refine lv_aload_n (pc := 73) hx hb d105_73 rfl (lv_at hl 3 rfl) ?_
                refine lv_iload_n (pc := 74) hx hb d105_74 rfl (lv_at hl 0 rfl) ?_
                obtain ⟨q16, hq16, h⟩ := jc_some h
                refine k_callV (pc := 75) (n := 1) X hS (c_js_charAt l ρ _ P ax1 x1 v15 q16 hW.2.2.1 hW.2.1 fax1 hq16) wd683 wd979 wd681 wd682 wd14 (by decide) ⟨rfl, rfl, Nat.le_of_ble_eq_true rfl, Nat.le_of_ble_eq_true rfl⟩ (s_recv X fax1) (As := [.int v15]) (rest := [.int (st.1 7 1), .ref (ad 43)]) rfl rfl hl.1 (Nat.le_of_ble_eq_true rfl) d105_75 ⟨Nat.le_refl _, Nat.le_refl _⟩ (fun q hq => False.elim hq) (fun v H1 locs1 hv _ _ hSq16 => ?_)
                obtain ⟨rfl, rfl⟩ := hv
                have hS := hSq16
                have hSz := hS.1
                obtain ⟨g17, h⟩ := jg_some h
                obtain ⟨st18, est18, h⟩ := jn_ex h
                refine c_iast (pc := 78) X hW hS 43 (hAp 43 (by decide)) (by decide) rfl g17 est18 d105_78 (fun H locs hW hS hk => ?_)
                have fax1 := fax1.keep hk (fun _ _ z => z)
                have hSz := hS.1
                refine lv_goto (pc := 79) (tgt := 137) hx hb d105_79 (by decide) ?_
                exact kc137 _ hK7  st18 x1 v15 ax1 _ _ _ hW hS fax1 (lv_sub hl [2, 3, 0] rfl) h
  unfold f_pa_read at h
  refine lv_aload_n (pc := 0) hx hb d105_0 rfl (lv_at hl 0 rfl) ?_
  refine lv_iconst (pc := 1) (v := 0) hx hb d105_1 (by decide) ?_
  obtain ⟨st19, est19, h⟩ := jn_ex h
  refine c_putI (pc := 2) X hW hS 7 1 0 (C := "WordFunctions$Pattern") (T := T0) (N := 3) est19 (hAp _ (by decide)) (by decide) rfl rfl rfl rfl tin0 ty0 tyo0 tnm0 rfl wd46 rfl rfl rfl rfl d105_2 (fun H locs hW hS hk => ?_)
  have fap0 := fap0.keep hk (fun _ _ z => z)
  have hSz := hS.1
  refine lv_iconst (pc := 5) (v := 0) hx hb d105_5 (by decide) ?_
  refine lv_istore_n (pc := 6) (lv' := [(2, .int 0), (0, .ref (ad 7)), (1, .ref ap0)]) hx hb d105_6 rfl hl (by decide) rfl (fun ls hl => ?_)
  exact kc7  FU st19 p0 0 ap0 _ _ _ hW hS fap0 (lv_sub hl [1, 2, 0] rfl) h
def pa_matches_199 (K56 : CS → TT → Int32 → Int32 → Option (Int32 × CS)) (st : CS) (x1 : TT) (x3 : Int32) (x4 : Int32) : Option (Int32 × CS) := jn (x4 + (-1)) (fun v1 => K56 st x1 x3 v1)
def pa_matches_185 (K56 : CS → TT → Int32 → Int32 → Option (Int32 × CS)) (K134 : CS → TT → Int32 → Int32 → Int32 → Int32 → Option (Int32 × CS)) (st : CS) (x1 : TT) (x3 : Int32) (x4 : Int32) (x5 : Int32) (x6 : Int32) (z1 : Int32) (z2 : Int32) : Option (Int32 × CS) := jg (inb z1 256) (jg (isB z2) (jn (uC st 44 z1.toNatClampNeg z2) (fun st4 => jn (x6 + 1) (fun v5 => K134 st4 x1 x3 x4 x5 v5))))
def pa_matches_184 (K56 : CS → TT → Int32 → Int32 → Option (Int32 × CS)) (K134 : CS → TT → Int32 → Int32 → Int32 → Int32 → Option (Int32 × CS)) (st : CS) (x1 : TT) (x3 : Int32) (x4 : Int32) (x5 : Int32) (x6 : Int32) (z1 : Int32) : Option (Int32 × CS) := pa_matches_185 K56 K134 st x1 x3 x4 x5 x6 z1 0
def pa_matches_180 (K56 : CS → TT → Int32 → Int32 → Option (Int32 × CS)) (K134 : CS → TT → Int32 → Int32 → Int32 → Int32 → Option (Int32 × CS)) (st : CS) (x1 : TT) (x3 : Int32) (x4 : Int32) (x5 : Int32) (x6 : Int32) (z1 : Int32) : Option (Int32 × CS) := pa_matches_185 K56 K134 st x1 x3 x4 x5 x6 z1 1
def pa_matches_134 (K56 : CS → TT → Int32 → Int32 → Option (Int32 × CS)) : Nat → CS → TT → Int32 → Int32 → Int32 → Int32 → Option (Int32 × CS)
  | 0, _, _, _, _, _, _ => none
  | fu + 1, st, x1, x3, x4, x5, x6 => jb (x3 ≤ x6) (jg (inb x3 256) (jn (uC st 44 x3.toNatClampNeg 0) (fun st7 => pa_matches_199 K56 st7 x1 x3 x4))) (jg (inb (x6 + 1) 256) (jb ((st.1 44 (x6 + 1).toNatClampNeg) = 0) (pa_matches_184 K56 (pa_matches_134 K56 fu) st x1 x3 x4 x5 x6 x6) (jb (x5 = 256) (pa_matches_180 K56 (pa_matches_134 K56 fu) st x1 x3 x4 x5 x6 x6) (jc (f_js_charAt x1 x6) (fun q9 => jc (f_wf_great q9) (fun q10 => jb (x5 = q10) (pa_matches_180 K56 (pa_matches_134 K56 fu) st x1 x3 x4 x5 x6 x6) (pa_matches_184 K56 (pa_matches_134 K56 fu) st x1 x3 x4 x5 x6 x6)))))))
def pa_matches_121 (K56 : CS → TT → Int32 → Int32 → Option (Int32 × CS)) (K83 : CS → TT → Int32 → Int32 → Int32 → Option (Int32 × CS)) (st : CS) (x1 : TT) (x3 : Int32) (x4 : Int32) (x6 : Int32) (z1 : Int32) (z2 : Int32) : Option (Int32 × CS) := jg (inb z1 256) (jg (isB z2) (jn (uC st 44 z1.toNatClampNeg z2) (fun st13 => jn (x6 + (-1)) (fun v14 => K83 st13 x1 x3 x4 v14))))
def pa_matches_116 (K56 : CS → TT → Int32 → Int32 → Option (Int32 × CS)) (K83 : CS → TT → Int32 → Int32 → Int32 → Option (Int32 × CS)) (st : CS) (x1 : TT) (x3 : Int32) (x4 : Int32) (x6 : Int32) (z1 : Int32) : Option (Int32 × CS) := pa_matches_121 K56 K83 st x1 x3 x4 x6 z1 1
def pa_matches_83 (K56 : CS → TT → Int32 → Int32 → Option (Int32 × CS)) : Nat → CS → TT → Int32 → Int32 → Int32 → Option (Int32 × CS)
  | 0, _, _, _, _, _ => none
  | fu + 1, st, x1, x3, x4, x6 => jb (x6 < 0) (pa_matches_199 K56 st x1 x3 x4) (jg (inb x6 256) (jb ((st.1 44 x6.toNatClampNeg) = 0) (jg (inb (x6 + 1) 256) (jb ((st.1 44 (x6 + 1).toNatClampNeg) = 0) (pa_matches_121 K56 (pa_matches_83 K56 fu) st x1 x3 x4 x6 x6 0) (pa_matches_116 K56 (pa_matches_83 K56 fu) st x1 x3 x4 x6 x6))) (pa_matches_116 K56 (pa_matches_83 K56 fu) st x1 x3 x4 x6 x6)))
def pa_matches_56  : Nat → CS → TT → Int32 → Int32 → Option (Int32 × CS)
  | 0, _, _, _, _ => none
  | fu + 1, st, x1, x3, x4 => jb (x4 < 0) (jg (inb 0 256) (jg (isB (st.1 44 (0 : Int32).toNatClampNeg)) (some ((st.1 44 (0 : Int32).toNatClampNeg), st)))) (jg (inb x4 255) (jn (st.1 43 x4.toNatClampNeg) (fun v20 => jb (v20 = 257) (jn (x3 - 1) (fun v21 => pa_matches_83 (pa_matches_56 fu) FU st x1 x3 x4 v21)) (pa_matches_134 (pa_matches_56 fu) FU st x1 x3 x4 v20 0))))
def pa_matches_41 (K14 : CS → TT → Int32 → Int32 → Int32 → Option (Int32 × CS)) (st : CS) (x1 : TT) (x2 : Int32) (x3 : Int32) (x4 : Int32) (z1 : Int32) (z2 : Int32) : Option (Int32 × CS) := jg (inb z1 256) (jg (isB z2) (jn (uC st 44 z1.toNatClampNeg z2) (fun st24 => jn (x4 + 1) (fun v25 => K14 st24 x1 x2 x3 v25))))
def pa_matches_36 (K14 : CS → TT → Int32 → Int32 → Int32 → Option (Int32 × CS)) (st : CS) (x1 : TT) (x2 : Int32) (x3 : Int32) (x4 : Int32) (z1 : Int32) : Option (Int32 × CS) := pa_matches_41 K14 st x1 x2 x3 x4 z1 1
def pa_matches_14  : Nat → CS → TT → Int32 → Int32 → Int32 → Option (Int32 × CS)
  | 0, _, _, _, _, _ => none
  | fu + 1, st, x1, x2, x3, x4 => jb (x3 < x4) (jn ((st.1 7 1) - 1) (fun v26 => pa_matches_56 FU st x1 x3 v26)) (jb (x2 = 0) (pa_matches_36 (pa_matches_14 fu) st x1 x2 x3 x4 x4) (jb (x4 = x3) (pa_matches_36 (pa_matches_14 fu) st x1 x2 x3 x4 x4) (pa_matches_41 (pa_matches_14 fu) st x1 x2 x3 x4 x4 0)))
def f_pa_matches (st : CS) (p0 : TT) (p1 : Int32) : Option (Int32 × CS) := jc (f_js_length p0) (fun q27 => jc (f_ma_min q27 255) (fun q28 => pa_matches_14 FU st p0 p1 q28 0))
set_option maxHeartbeats 4000000 in
set_option maxRecDepth 100000 in
theorem c_pa_matches (l : Launch) (ρ : RH) (ad : Nat → Nat) (H : Heap) (P : Nat → Prop) (st : CS) (ap0 : Nat) (p0 : TT) (p1 : Int32) (res : Int32 × CS) (hW : CW ρ P ad st H) (fap0 : isS ρ P H ap0 p0) (h : f_pa_matches st p0 p1 = some res) : Met l y103 (wsOf y103 b103 7 (some .boolean)) ({ frames := 13, cells := 0, slots := 0, locals := 621 } : Room) (va_Pc [.ref (ad 7), .ref ap0, .int p1] (KP ρ H)) (mQ (fun v H1 => v = some (.int res.1) ∧ CW ρ P ad res.2 H1) (MA wC ad H.size)) 0 0 (MA wC ad H.size) := by
  refine m_ofW (own := "WordFunctions$Pattern") (plainFor_of_name rfl) rfl (Nat.le_of_ble_eq_true rfl) fun p e s m args below meth c ls hx hb hr hlk _ X hs hl => ?_
  subst hs
  have hS : va_S (MA wC ad s.heap.size) s.heap s.heap [] := va_S.rf
  have hSz := hS.1
  have hAz : ∀ q, s.heap.size ≤ q → (MA wC ad s.heap.size) q := fun q hq => Or.inr hq
  have hAp : ∀ i, i < 46 → (MA wC ad s.heap.size) (ad i) := fun i hi => MA.in hi
  have hPp : ∀ i, i < 46 → P (ad i) := hW.1
  have hl : lv_has ls 7 [(0, .ref (ad 7)), (1, .ref ap0), (2, .int p1)] := hl
  have kc199 : ∀ (K56 : CS → TT → Int32 → Int32 → Option (Int32 × CS)) (hK56 : ∀ (st : CS) (x1 : TT) (x3 : Int32) (x4 : Int32) (ax1 : Nat) (H : Heap) (locs : List Loc) (ls : Array Slot), CW ρ P ad st H → va_S (MA wC ad s.heap.size) s.heap H locs → isS ρ P H ax1 x1 → lv_has ls 7 [(0, .ref (ad 7)), (1, .ref ax1), (3, .int x3), (4, .int x4)] → K56 st x1 x3 x4 = some res → W p l e ({ frames := 13, cells := 0, slots := 0, locals := 621 } : Room) s m args below meth c H locs 0 0 (MQ below (mQ (fun v H1 => v = some (.int res.1) ∧ CW ρ P ad res.2 H1) (MA wC ad s.heap.size)) args s 0 0 (MA wC ad s.heap.size)) (F0 m 56 ls [])), ∀ (st : CS) (x1 : TT) (x3 : Int32) (x4 : Int32) (ax1 : Nat) (H : Heap) (locs : List Loc) (ls : Array Slot), CW ρ P ad st H → va_S (MA wC ad s.heap.size) s.heap H locs → isS ρ P H ax1 x1 → lv_has ls 7 [(0, .ref (ad 7)), (1, .ref ax1), (3, .int x3), (4, .int x4)] → pa_matches_199 K56 st x1 x3 x4 = some res → W p l e ({ frames := 13, cells := 0, slots := 0, locals := 621 } : Room) s m args below meth c H locs 0 0 (MQ below (mQ (fun v H1 => v = some (.int res.1) ∧ CW ρ P ad res.2 H1) (MA wC ad s.heap.size)) args s 0 0 (MA wC ad s.heap.size)) (F0 m 199 ls []) := by
    intro K56 hK56
    intro st x1 x3 x4 ax1 H locs ls hW hS fax1 hl h
    have hSz := hS.1
    unfold pa_matches_199 at h
    obtain ⟨v1, ev1, h⟩ := jn_ex h
    refine lv_iinc (pc := 199) (v := v1) (lv' := [(4, .int v1), (0, .ref (ad 7)), (1, .ref ax1), (3, .int x3)]) hx hb d103_199 hl (k := 3) rfl (by rw [ev1]; rfl) (by decide) rfl (fun ls hl => ?_)
    refine lv_goto (pc := 202) (tgt := 56) hx hb d103_202 (by decide) ?_
    exact hK56 st x1 x3 v1 ax1 _ _ _ hW hS fax1 (lv_sub hl [1, 2, 3, 0] rfl) h
  have kc185 : ∀ (K56 : CS → TT → Int32 → Int32 → Option (Int32 × CS)) (hK56 : ∀ (st : CS) (x1 : TT) (x3 : Int32) (x4 : Int32) (ax1 : Nat) (H : Heap) (locs : List Loc) (ls : Array Slot), CW ρ P ad st H → va_S (MA wC ad s.heap.size) s.heap H locs → isS ρ P H ax1 x1 → lv_has ls 7 [(0, .ref (ad 7)), (1, .ref ax1), (3, .int x3), (4, .int x4)] → K56 st x1 x3 x4 = some res → W p l e ({ frames := 13, cells := 0, slots := 0, locals := 621 } : Room) s m args below meth c H locs 0 0 (MQ below (mQ (fun v H1 => v = some (.int res.1) ∧ CW ρ P ad res.2 H1) (MA wC ad s.heap.size)) args s 0 0 (MA wC ad s.heap.size)) (F0 m 56 ls [])) (K134 : CS → TT → Int32 → Int32 → Int32 → Int32 → Option (Int32 × CS)) (hK134 : ∀ (st : CS) (x1 : TT) (x3 : Int32) (x4 : Int32) (x5 : Int32) (x6 : Int32) (ax1 : Nat) (H : Heap) (locs : List Loc) (ls : Array Slot), CW ρ P ad st H → va_S (MA wC ad s.heap.size) s.heap H locs → isS ρ P H ax1 x1 → lv_has ls 7 [(0, .ref (ad 7)), (1, .ref ax1), (3, .int x3), (4, .int x4), (5, .int x5), (6, .int x6)] → K134 st x1 x3 x4 x5 x6 = some res → W p l e ({ frames := 13, cells := 0, slots := 0, locals := 621 } : Room) s m args below meth c H locs 0 0 (MQ below (mQ (fun v H1 => v = some (.int res.1) ∧ CW ρ P ad res.2 H1) (MA wC ad s.heap.size)) args s 0 0 (MA wC ad s.heap.size)) (F0 m 134 ls [])), ∀ (st : CS) (x1 : TT) (x3 : Int32) (x4 : Int32) (x5 : Int32) (x6 : Int32) (z1 : Int32) (z2 : Int32) (ax1 : Nat) (H : Heap) (locs : List Loc) (ls : Array Slot), CW ρ P ad st H → va_S (MA wC ad s.heap.size) s.heap H locs → isS ρ P H ax1 x1 → lv_has ls 7 [(0, .ref (ad 7)), (1, .ref ax1), (3, .int x3), (4, .int x4), (5, .int x5), (6, .int x6)] → pa_matches_185 K56 K134 st x1 x3 x4 x5 x6 z1 z2 = some res → W p l e ({ frames := 13, cells := 0, slots := 0, locals := 621 } : Room) s m args below meth c H locs 0 0 (MQ below (mQ (fun v H1 => v = some (.int res.1) ∧ CW ρ P ad res.2 H1) (MA wC ad s.heap.size)) args s 0 0 (MA wC ad s.heap.size)) (F0 m 185 ls [.int z2, .int z1, .ref (ad 44)]) := by
    intro K56 hK56 K134 hK134
    intro st x1 x3 x4 x5 x6 z1 z2 ax1 H locs ls hW hS fax1 hl h
    have hSz := hS.1
    unfold pa_matches_185 at h
    obtain ⟨g2, h⟩ := jg_some h
    obtain ⟨g3, h⟩ := jg_some h
    obtain ⟨st4, est4, h⟩ := jn_ex h
    refine c_zast (pc := 185) X hW hS 44 (hAp 44 (by decide)) (by decide) rfl g3 g2 est4 d103_185 (fun H locs hW hS hk => ?_)
    have fax1 := fax1.keep hk (fun _ _ z => z)
    have hSz := hS.1
    obtain ⟨v5, ev5, h⟩ := jn_ex h
    refine lv_iinc (pc := 186) (v := v5) (lv' := [(6, .int v5), (0, .ref (ad 7)), (1, .ref ax1), (3, .int x3), (4, .int x4), (5, .int x5)]) hx hb d103_186 hl (k := 5) rfl (by rw [ev5]; rfl) (by decide) rfl (fun ls hl => ?_)
    refine lv_goto (pc := 189) (tgt := 134) hx hb d103_189 (by decide) ?_
    exact hK134 st4 x1 x3 x4 x5 v5 ax1 _ _ _ hW hS fax1 (lv_sub hl [1, 2, 3, 4, 5, 0] rfl) h
  have kc184 : ∀ (K56 : CS → TT → Int32 → Int32 → Option (Int32 × CS)) (hK56 : ∀ (st : CS) (x1 : TT) (x3 : Int32) (x4 : Int32) (ax1 : Nat) (H : Heap) (locs : List Loc) (ls : Array Slot), CW ρ P ad st H → va_S (MA wC ad s.heap.size) s.heap H locs → isS ρ P H ax1 x1 → lv_has ls 7 [(0, .ref (ad 7)), (1, .ref ax1), (3, .int x3), (4, .int x4)] → K56 st x1 x3 x4 = some res → W p l e ({ frames := 13, cells := 0, slots := 0, locals := 621 } : Room) s m args below meth c H locs 0 0 (MQ below (mQ (fun v H1 => v = some (.int res.1) ∧ CW ρ P ad res.2 H1) (MA wC ad s.heap.size)) args s 0 0 (MA wC ad s.heap.size)) (F0 m 56 ls [])) (K134 : CS → TT → Int32 → Int32 → Int32 → Int32 → Option (Int32 × CS)) (hK134 : ∀ (st : CS) (x1 : TT) (x3 : Int32) (x4 : Int32) (x5 : Int32) (x6 : Int32) (ax1 : Nat) (H : Heap) (locs : List Loc) (ls : Array Slot), CW ρ P ad st H → va_S (MA wC ad s.heap.size) s.heap H locs → isS ρ P H ax1 x1 → lv_has ls 7 [(0, .ref (ad 7)), (1, .ref ax1), (3, .int x3), (4, .int x4), (5, .int x5), (6, .int x6)] → K134 st x1 x3 x4 x5 x6 = some res → W p l e ({ frames := 13, cells := 0, slots := 0, locals := 621 } : Room) s m args below meth c H locs 0 0 (MQ below (mQ (fun v H1 => v = some (.int res.1) ∧ CW ρ P ad res.2 H1) (MA wC ad s.heap.size)) args s 0 0 (MA wC ad s.heap.size)) (F0 m 134 ls [])), ∀ (st : CS) (x1 : TT) (x3 : Int32) (x4 : Int32) (x5 : Int32) (x6 : Int32) (z1 : Int32) (ax1 : Nat) (H : Heap) (locs : List Loc) (ls : Array Slot), CW ρ P ad st H → va_S (MA wC ad s.heap.size) s.heap H locs → isS ρ P H ax1 x1 → lv_has ls 7 [(0, .ref (ad 7)), (1, .ref ax1), (3, .int x3), (4, .int x4), (5, .int x5), (6, .int x6)] → pa_matches_184 K56 K134 st x1 x3 x4 x5 x6 z1 = some res → W p l e ({ frames := 13, cells := 0, slots := 0, locals := 621 } : Room) s m args below meth c H locs 0 0 (MQ below (mQ (fun v H1 => v = some (.int res.1) ∧ CW ρ P ad res.2 H1) (MA wC ad s.heap.size)) args s 0 0 (MA wC ad s.heap.size)) (F0 m 184 ls [.int z1, .ref (ad 44)]) := by
    intro K56 hK56 K134 hK134
    intro st x1 x3 x4 x5 x6 z1 ax1 H locs ls hW hS fax1 hl h
    have hSz := hS.1
    unfold pa_matches_184 at h
    refine lv_iconst (pc := 184) (v := 0) hx hb d103_184 (by decide) ?_
    exact kc185 _ hK56 _ hK134  st x1 x3 x4 x5 x6 z1 0 ax1 _ _ _ hW hS fax1 (lv_sub hl [0, 1, 2, 3, 4, 5] rfl) h
  have kc180 : ∀ (K56 : CS → TT → Int32 → Int32 → Option (Int32 × CS)) (hK56 : ∀ (st : CS) (x1 : TT) (x3 : Int32) (x4 : Int32) (ax1 : Nat) (H : Heap) (locs : List Loc) (ls : Array Slot), CW ρ P ad st H → va_S (MA wC ad s.heap.size) s.heap H locs → isS ρ P H ax1 x1 → lv_has ls 7 [(0, .ref (ad 7)), (1, .ref ax1), (3, .int x3), (4, .int x4)] → K56 st x1 x3 x4 = some res → W p l e ({ frames := 13, cells := 0, slots := 0, locals := 621 } : Room) s m args below meth c H locs 0 0 (MQ below (mQ (fun v H1 => v = some (.int res.1) ∧ CW ρ P ad res.2 H1) (MA wC ad s.heap.size)) args s 0 0 (MA wC ad s.heap.size)) (F0 m 56 ls [])) (K134 : CS → TT → Int32 → Int32 → Int32 → Int32 → Option (Int32 × CS)) (hK134 : ∀ (st : CS) (x1 : TT) (x3 : Int32) (x4 : Int32) (x5 : Int32) (x6 : Int32) (ax1 : Nat) (H : Heap) (locs : List Loc) (ls : Array Slot), CW ρ P ad st H → va_S (MA wC ad s.heap.size) s.heap H locs → isS ρ P H ax1 x1 → lv_has ls 7 [(0, .ref (ad 7)), (1, .ref ax1), (3, .int x3), (4, .int x4), (5, .int x5), (6, .int x6)] → K134 st x1 x3 x4 x5 x6 = some res → W p l e ({ frames := 13, cells := 0, slots := 0, locals := 621 } : Room) s m args below meth c H locs 0 0 (MQ below (mQ (fun v H1 => v = some (.int res.1) ∧ CW ρ P ad res.2 H1) (MA wC ad s.heap.size)) args s 0 0 (MA wC ad s.heap.size)) (F0 m 134 ls [])), ∀ (st : CS) (x1 : TT) (x3 : Int32) (x4 : Int32) (x5 : Int32) (x6 : Int32) (z1 : Int32) (ax1 : Nat) (H : Heap) (locs : List Loc) (ls : Array Slot), CW ρ P ad st H → va_S (MA wC ad s.heap.size) s.heap H locs → isS ρ P H ax1 x1 → lv_has ls 7 [(0, .ref (ad 7)), (1, .ref ax1), (3, .int x3), (4, .int x4), (5, .int x5), (6, .int x6)] → pa_matches_180 K56 K134 st x1 x3 x4 x5 x6 z1 = some res → W p l e ({ frames := 13, cells := 0, slots := 0, locals := 621 } : Room) s m args below meth c H locs 0 0 (MQ below (mQ (fun v H1 => v = some (.int res.1) ∧ CW ρ P ad res.2 H1) (MA wC ad s.heap.size)) args s 0 0 (MA wC ad s.heap.size)) (F0 m 180 ls [.int z1, .ref (ad 44)]) := by
    intro K56 hK56 K134 hK134
    intro st x1 x3 x4 x5 x6 z1 ax1 H locs ls hW hS fax1 hl h
    have hSz := hS.1
    unfold pa_matches_180 at h
    refine lv_iconst (pc := 180) (v := 1) hx hb d103_180 (by decide) ?_
    refine lv_goto (pc := 181) (tgt := 185) hx hb d103_181 (by decide) ?_
    exact kc185 _ hK56 _ hK134  st x1 x3 x4 x5 x6 z1 1 ax1 _ _ _ hW hS fax1 (lv_sub hl [0, 1, 2, 3, 4, 5] rfl) h
  have kc134 : ∀ (K56 : CS → TT → Int32 → Int32 → Option (Int32 × CS)) (hK56 : ∀ (st : CS) (x1 : TT) (x3 : Int32) (x4 : Int32) (ax1 : Nat) (H : Heap) (locs : List Loc) (ls : Array Slot), CW ρ P ad st H → va_S (MA wC ad s.heap.size) s.heap H locs → isS ρ P H ax1 x1 → lv_has ls 7 [(0, .ref (ad 7)), (1, .ref ax1), (3, .int x3), (4, .int x4)] → K56 st x1 x3 x4 = some res → W p l e ({ frames := 13, cells := 0, slots := 0, locals := 621 } : Room) s m args below meth c H locs 0 0 (MQ below (mQ (fun v H1 => v = some (.int res.1) ∧ CW ρ P ad res.2 H1) (MA wC ad s.heap.size)) args s 0 0 (MA wC ad s.heap.size)) (F0 m 56 ls [])) (fu : Nat), ∀ (st : CS) (x1 : TT) (x3 : Int32) (x4 : Int32) (x5 : Int32) (x6 : Int32) (ax1 : Nat) (H : Heap) (locs : List Loc) (ls : Array Slot), CW ρ P ad st H → va_S (MA wC ad s.heap.size) s.heap H locs → isS ρ P H ax1 x1 → lv_has ls 7 [(0, .ref (ad 7)), (1, .ref ax1), (3, .int x3), (4, .int x4), (5, .int x5), (6, .int x6)] → pa_matches_134 K56 fu st x1 x3 x4 x5 x6 = some res → W p l e ({ frames := 13, cells := 0, slots := 0, locals := 621 } : Room) s m args below meth c H locs 0 0 (MQ below (mQ (fun v H1 => v = some (.int res.1) ∧ CW ρ P ad res.2 H1) (MA wC ad s.heap.size)) args s 0 0 (MA wC ad s.heap.size)) (F0 m 134 ls []) := by
    intro K56 hK56 fu
    induction fu with
    | zero => intro st x1 x3 x4 x5 x6 ax1 H locs ls hW hS fax1 hl h; cases h
    | succ fu hK134 =>
      intro st x1 x3 x4 x5 x6 ax1 H locs ls hW hS fax1 hl h
      have hSz := hS.1
      unfold pa_matches_134 at h
      refine lv_iload (pc := 134) hx hb d103_134 (lv_at hl 5 rfl) ?_
      refine lv_iload_n (pc := 136) hx hb d103_136 rfl (lv_at hl 2 rfl) ?_
      refine lv_icmp_ge (pc := 137) (tgt := 192) hx hb d103_137 (by decide) (fun c137 => ?_) (fun c137 => ?_)
      · have h := jb_t c137 h
        refine lv_aload_n (pc := 192) hx hb d103_192 rfl (lv_at hl 0 rfl) ?_
        refine c_getK (pc := 193) X hW 7 2 0 44 (C := "WordFunctions$Pattern") (T := T0) (N := 3) (by decide) rfl rfl rfl rfl tin0 rfl wd47 rfl rfl d103_193 ?_
        refine lv_iload_n (pc := 196) hx hb d103_196 rfl (lv_at hl 2 rfl) ?_
        refine lv_iconst (pc := 197) (v := 0) hx hb d103_197 (by decide) ?_
        obtain ⟨g6, h⟩ := jg_some h
        obtain ⟨st7, est7, h⟩ := jn_ex h
        refine c_zast (pc := 198) X hW hS 44 (hAp 44 (by decide)) (by decide) rfl (by decide) g6 est7 d103_198 (fun H locs hW hS hk => ?_)
        have fax1 := fax1.keep hk (fun _ _ z => z)
        have hSz := hS.1
        exact kc199 _ hK56  st7 x1 x3 x4 ax1 _ _ _ hW hS fax1 (lv_sub hl [0, 1, 2, 3] rfl) h
      · have h := jb_f c137 h
        refine lv_aload_n (pc := 140) hx hb d103_140 rfl (lv_at hl 0 rfl) ?_
        refine c_getK (pc := 141) X hW 7 2 0 44 (C := "WordFunctions$Pattern") (T := T0) (N := 3) (by decide) rfl rfl rfl rfl tin0 rfl wd47 rfl rfl d103_141 ?_
        refine lv_iload (pc := 144) hx hb d103_144 (lv_at hl 5 rfl) ?_
        refine lv_aload_n (pc := 146) hx hb d103_146 rfl (lv_at hl 0 rfl) ?_
        refine c_getK (pc := 147) X hW 7 2 0 44 (C := "WordFunctions$Pattern") (T := T0) (N := 3) (by decide) rfl rfl rfl rfl tin0 rfl wd47 rfl rfl d103_147 ?_
        refine lv_iload (pc := 150) hx hb d103_150 (lv_at hl 5 rfl) ?_
        refine lv_iconst (pc := 152) (v := 1) hx hb d103_152 (by decide) ?_
        refine lv_iadd (pc := 153) hx hb d103_153 ?_
        obtain ⟨g8, h⟩ := jg_some h
        refine c_zald (pc := 154) X hW 44 (by decide) rfl g8 d103_154 ?_
        refine lv_if_eq (pc := 155) (tgt := 184) hx hb d103_155 (by decide) (fun c155 => ?_) (fun c155 => ?_)
        · have h := jb_t c155 h
          exact kc184 _ hK56 _ hK134  st x1 x3 x4 x5 x6 x6 ax1 _ _ _ hW hS fax1 (lv_sub hl [0, 1, 2, 3, 4, 5] rfl) h
        · have h := jb_f c155 h
          refine lv_iload (pc := 158) hx hb d103_158 (lv_at hl 4 rfl) ?_
          refine lv_sipush (pc := 160) (v := 256) hx hb d103_160 (by decide) ?_
          refine lv_icmp_eq (pc := 163) (tgt := 180) hx hb d103_163 (by decide) (fun c163 => ?_) (fun c163 => ?_)
          · have h := jb_t c163 h
            exact kc180 _ hK56 _ hK134  st x1 x3 x4 x5 x6 x6 ax1 _ _ _ hW hS fax1 (lv_sub hl [0, 1, 2, 3, 4, 5] rfl) h
          · have h := jb_f c163 h
            refine lv_iload (pc := 166) hx hb d103_166 (lv_at hl 4 rfl) ?_
            refine lv_aload_n (pc := 168) hx hb d103_168 rfl (lv_at hl 1 rfl) ?_
            refine lv_iload (pc := 169) hx hb d103_169 (lv_at hl 5 rfl) ?_
            obtain ⟨q9, hq9, h⟩ := jc_some h
            refine k_callV (pc := 171) (n := 1) X hS (c_js_charAt l ρ _ P ax1 x1 x6 q9 hW.2.2.1 hW.2.1 fax1 hq9) wd683 wd979 wd681 wd682 wd14 (by decide) ⟨rfl, rfl, Nat.le_of_ble_eq_true rfl, Nat.le_of_ble_eq_true rfl⟩ (s_recv X fax1) (As := [.int x6]) (rest := [.int x5, .int x6, .ref (ad 44)]) rfl rfl hl.1 (Nat.le_of_ble_eq_true rfl) d103_171 ⟨Nat.le_refl _, Nat.le_refl _⟩ (fun q hq => False.elim hq) (fun v H1 locs1 hv _ _ hSq9 => ?_)
            obtain ⟨rfl, rfl⟩ := hv
            have hS := hSq9
            have hSz := hS.1
            obtain ⟨q10, hq10, h⟩ := jc_some h
            refine k_callSN (pc := 174) (n := 1) X hS (c_wf_great l ρ _ P q9 q10 hW.2.2.1 hW.2.1  hq10) wd985 3 rfl wd984 wd1 (by decide) ⟨rfl, rfl, Nat.le_of_ble_eq_true rfl, Nat.le_of_ble_eq_true rfl⟩ (As := [.int q9]) (rest := [.int x5, .int x6, .ref (ad 44)]) rfl rfl hl.1 (Nat.le_of_ble_eq_true rfl) d103_174 ⟨Nat.le_refl _, Nat.le_refl _⟩ (fun q hq => False.elim hq) (fun v H1 locs1 hv _ _ hSq10 => ?_)
            obtain ⟨rfl, rfl⟩ := hv
            have hS := hSq10
            have hSz := hS.1
            refine lv_icmp_ne (pc := 177) (tgt := 184) hx hb d103_177 (by decide) (fun c177 => ?_) (fun c177 => ?_)
            · have h := jb_f c177 h
              exact kc184 _ hK56 _ hK134  st x1 x3 x4 x5 x6 x6 ax1 _ _ _ hW hS fax1 (lv_sub hl [0, 1, 2, 3, 4, 5] rfl) h
            · have h := jb_t c177 h
              exact kc180 _ hK56 _ hK134  st x1 x3 x4 x5 x6 x6 ax1 _ _ _ hW hS fax1 (lv_sub hl [0, 1, 2, 3, 4, 5] rfl) h
  have kc121 : ∀ (K56 : CS → TT → Int32 → Int32 → Option (Int32 × CS)) (hK56 : ∀ (st : CS) (x1 : TT) (x3 : Int32) (x4 : Int32) (ax1 : Nat) (H : Heap) (locs : List Loc) (ls : Array Slot), CW ρ P ad st H → va_S (MA wC ad s.heap.size) s.heap H locs → isS ρ P H ax1 x1 → lv_has ls 7 [(0, .ref (ad 7)), (1, .ref ax1), (3, .int x3), (4, .int x4)] → K56 st x1 x3 x4 = some res → W p l e ({ frames := 13, cells := 0, slots := 0, locals := 621 } : Room) s m args below meth c H locs 0 0 (MQ below (mQ (fun v H1 => v = some (.int res.1) ∧ CW ρ P ad res.2 H1) (MA wC ad s.heap.size)) args s 0 0 (MA wC ad s.heap.size)) (F0 m 56 ls [])) (K83 : CS → TT → Int32 → Int32 → Int32 → Option (Int32 × CS)) (hK83 : ∀ (st : CS) (x1 : TT) (x3 : Int32) (x4 : Int32) (x6 : Int32) (ax1 : Nat) (H : Heap) (locs : List Loc) (ls : Array Slot), CW ρ P ad st H → va_S (MA wC ad s.heap.size) s.heap H locs → isS ρ P H ax1 x1 → lv_has ls 7 [(0, .ref (ad 7)), (1, .ref ax1), (3, .int x3), (4, .int x4), (6, .int x6)] → K83 st x1 x3 x4 x6 = some res → W p l e ({ frames := 13, cells := 0, slots := 0, locals := 621 } : Room) s m args below meth c H locs 0 0 (MQ below (mQ (fun v H1 => v = some (.int res.1) ∧ CW ρ P ad res.2 H1) (MA wC ad s.heap.size)) args s 0 0 (MA wC ad s.heap.size)) (F0 m 83 ls [])), ∀ (st : CS) (x1 : TT) (x3 : Int32) (x4 : Int32) (x6 : Int32) (z1 : Int32) (z2 : Int32) (ax1 : Nat) (H : Heap) (locs : List Loc) (ls : Array Slot), CW ρ P ad st H → va_S (MA wC ad s.heap.size) s.heap H locs → isS ρ P H ax1 x1 → lv_has ls 7 [(0, .ref (ad 7)), (1, .ref ax1), (3, .int x3), (4, .int x4), (6, .int x6)] → pa_matches_121 K56 K83 st x1 x3 x4 x6 z1 z2 = some res → W p l e ({ frames := 13, cells := 0, slots := 0, locals := 621 } : Room) s m args below meth c H locs 0 0 (MQ below (mQ (fun v H1 => v = some (.int res.1) ∧ CW ρ P ad res.2 H1) (MA wC ad s.heap.size)) args s 0 0 (MA wC ad s.heap.size)) (F0 m 121 ls [.int z2, .int z1, .ref (ad 44)]) := by
    intro K56 hK56 K83 hK83
    intro st x1 x3 x4 x6 z1 z2 ax1 H locs ls hW hS fax1 hl h
    have hSz := hS.1
    unfold pa_matches_121 at h
    obtain ⟨g11, h⟩ := jg_some h
    obtain ⟨g12, h⟩ := jg_some h
    obtain ⟨st13, est13, h⟩ := jn_ex h
    refine c_zast (pc := 121) X hW hS 44 (hAp 44 (by decide)) (by decide) rfl g12 g11 est13 d103_121 (fun H locs hW hS hk => ?_)
    have fax1 := fax1.keep hk (fun _ _ z => z)
    have hSz := hS.1
    obtain ⟨v14, ev14, h⟩ := jn_ex h
    refine lv_iinc (pc := 122) (v := v14) (lv' := [(6, .int v14), (0, .ref (ad 7)), (1, .ref ax1), (3, .int x3), (4, .int x4)]) hx hb d103_122 hl (k := 4) rfl (by rw [ev14]; rfl) (by decide) rfl (fun ls hl => ?_)
    refine lv_goto (pc := 125) (tgt := 83) hx hb d103_125 (by decide) ?_
    exact hK83 st13 x1 x3 x4 v14 ax1 _ _ _ hW hS fax1 (lv_sub hl [1, 2, 3, 4, 0] rfl) h
  have kc116 : ∀ (K56 : CS → TT → Int32 → Int32 → Option (Int32 × CS)) (hK56 : ∀ (st : CS) (x1 : TT) (x3 : Int32) (x4 : Int32) (ax1 : Nat) (H : Heap) (locs : List Loc) (ls : Array Slot), CW ρ P ad st H → va_S (MA wC ad s.heap.size) s.heap H locs → isS ρ P H ax1 x1 → lv_has ls 7 [(0, .ref (ad 7)), (1, .ref ax1), (3, .int x3), (4, .int x4)] → K56 st x1 x3 x4 = some res → W p l e ({ frames := 13, cells := 0, slots := 0, locals := 621 } : Room) s m args below meth c H locs 0 0 (MQ below (mQ (fun v H1 => v = some (.int res.1) ∧ CW ρ P ad res.2 H1) (MA wC ad s.heap.size)) args s 0 0 (MA wC ad s.heap.size)) (F0 m 56 ls [])) (K83 : CS → TT → Int32 → Int32 → Int32 → Option (Int32 × CS)) (hK83 : ∀ (st : CS) (x1 : TT) (x3 : Int32) (x4 : Int32) (x6 : Int32) (ax1 : Nat) (H : Heap) (locs : List Loc) (ls : Array Slot), CW ρ P ad st H → va_S (MA wC ad s.heap.size) s.heap H locs → isS ρ P H ax1 x1 → lv_has ls 7 [(0, .ref (ad 7)), (1, .ref ax1), (3, .int x3), (4, .int x4), (6, .int x6)] → K83 st x1 x3 x4 x6 = some res → W p l e ({ frames := 13, cells := 0, slots := 0, locals := 621 } : Room) s m args below meth c H locs 0 0 (MQ below (mQ (fun v H1 => v = some (.int res.1) ∧ CW ρ P ad res.2 H1) (MA wC ad s.heap.size)) args s 0 0 (MA wC ad s.heap.size)) (F0 m 83 ls [])), ∀ (st : CS) (x1 : TT) (x3 : Int32) (x4 : Int32) (x6 : Int32) (z1 : Int32) (ax1 : Nat) (H : Heap) (locs : List Loc) (ls : Array Slot), CW ρ P ad st H → va_S (MA wC ad s.heap.size) s.heap H locs → isS ρ P H ax1 x1 → lv_has ls 7 [(0, .ref (ad 7)), (1, .ref ax1), (3, .int x3), (4, .int x4), (6, .int x6)] → pa_matches_116 K56 K83 st x1 x3 x4 x6 z1 = some res → W p l e ({ frames := 13, cells := 0, slots := 0, locals := 621 } : Room) s m args below meth c H locs 0 0 (MQ below (mQ (fun v H1 => v = some (.int res.1) ∧ CW ρ P ad res.2 H1) (MA wC ad s.heap.size)) args s 0 0 (MA wC ad s.heap.size)) (F0 m 116 ls [.int z1, .ref (ad 44)]) := by
    intro K56 hK56 K83 hK83
    intro st x1 x3 x4 x6 z1 ax1 H locs ls hW hS fax1 hl h
    have hSz := hS.1
    unfold pa_matches_116 at h
    refine lv_iconst (pc := 116) (v := 1) hx hb d103_116 (by decide) ?_
    refine lv_goto (pc := 117) (tgt := 121) hx hb d103_117 (by decide) ?_
    exact kc121 _ hK56 _ hK83  st x1 x3 x4 x6 z1 1 ax1 _ _ _ hW hS fax1 (lv_sub hl [0, 1, 2, 3, 4] rfl) h
  have kc83 : ∀ (K56 : CS → TT → Int32 → Int32 → Option (Int32 × CS)) (hK56 : ∀ (st : CS) (x1 : TT) (x3 : Int32) (x4 : Int32) (ax1 : Nat) (H : Heap) (locs : List Loc) (ls : Array Slot), CW ρ P ad st H → va_S (MA wC ad s.heap.size) s.heap H locs → isS ρ P H ax1 x1 → lv_has ls 7 [(0, .ref (ad 7)), (1, .ref ax1), (3, .int x3), (4, .int x4)] → K56 st x1 x3 x4 = some res → W p l e ({ frames := 13, cells := 0, slots := 0, locals := 621 } : Room) s m args below meth c H locs 0 0 (MQ below (mQ (fun v H1 => v = some (.int res.1) ∧ CW ρ P ad res.2 H1) (MA wC ad s.heap.size)) args s 0 0 (MA wC ad s.heap.size)) (F0 m 56 ls [])) (fu : Nat), ∀ (st : CS) (x1 : TT) (x3 : Int32) (x4 : Int32) (x6 : Int32) (ax1 : Nat) (H : Heap) (locs : List Loc) (ls : Array Slot), CW ρ P ad st H → va_S (MA wC ad s.heap.size) s.heap H locs → isS ρ P H ax1 x1 → lv_has ls 7 [(0, .ref (ad 7)), (1, .ref ax1), (3, .int x3), (4, .int x4), (6, .int x6)] → pa_matches_83 K56 fu st x1 x3 x4 x6 = some res → W p l e ({ frames := 13, cells := 0, slots := 0, locals := 621 } : Room) s m args below meth c H locs 0 0 (MQ below (mQ (fun v H1 => v = some (.int res.1) ∧ CW ρ P ad res.2 H1) (MA wC ad s.heap.size)) args s 0 0 (MA wC ad s.heap.size)) (F0 m 83 ls []) := by
    intro K56 hK56 fu
    induction fu with
    | zero => intro st x1 x3 x4 x6 ax1 H locs ls hW hS fax1 hl h; cases h
    | succ fu hK83 =>
      intro st x1 x3 x4 x6 ax1 H locs ls hW hS fax1 hl h
      have hSz := hS.1
      unfold pa_matches_83 at h
      refine lv_iload (pc := 83) hx hb d103_83 (lv_at hl 4 rfl) ?_
      refine lv_if_lt (pc := 85) (tgt := 128) hx hb d103_85 (by decide) (fun c85 => ?_) (fun c85 => ?_)
      · have h := jb_t c85 h
        refine lv_goto (pc := 128) (tgt := 199) hx hb d103_128 (by decide) ?_
        exact kc199 _ hK56  st x1 x3 x4 ax1 _ _ _ hW hS fax1 (lv_sub hl [0, 1, 2, 3] rfl) h
      · have h := jb_f c85 h
        refine lv_aload_n (pc := 88) hx hb d103_88 rfl (lv_at hl 0 rfl) ?_
        refine c_getK (pc := 89) X hW 7 2 0 44 (C := "WordFunctions$Pattern") (T := T0) (N := 3) (by decide) rfl rfl rfl rfl tin0 rfl wd47 rfl rfl d103_89 ?_
        refine lv_iload (pc := 92) hx hb d103_92 (lv_at hl 4 rfl) ?_
        refine lv_aload_n (pc := 94) hx hb d103_94 rfl (lv_at hl 0 rfl) ?_
        refine c_getK (pc := 95) X hW 7 2 0 44 (C := "WordFunctions$Pattern") (T := T0) (N := 3) (by decide) rfl rfl rfl rfl tin0 rfl wd47 rfl rfl d103_95 ?_
        refine lv_iload (pc := 98) hx hb d103_98 (lv_at hl 4 rfl) ?_
        obtain ⟨g15, h⟩ := jg_some h
        refine c_zald (pc := 100) X hW 44 (by decide) rfl g15 d103_100 ?_
        refine lv_if_ne (pc := 101) (tgt := 116) hx hb d103_101 (by decide) (fun c101 => ?_) (fun c101 => ?_)
        · have h := jb_f c101 h
          exact kc116 _ hK56 _ hK83  st x1 x3 x4 x6 x6 ax1 _ _ _ hW hS fax1 (lv_sub hl [0, 1, 2, 3, 4] rfl) h
        · have h := jb_t c101 h
          refine lv_aload_n (pc := 104) hx hb d103_104 rfl (lv_at hl 0 rfl) ?_
          refine c_getK (pc := 105) X hW 7 2 0 44 (C := "WordFunctions$Pattern") (T := T0) (N := 3) (by decide) rfl rfl rfl rfl tin0 rfl wd47 rfl rfl d103_105 ?_
          refine lv_iload (pc := 108) hx hb d103_108 (lv_at hl 4 rfl) ?_
          refine lv_iconst (pc := 110) (v := 1) hx hb d103_110 (by decide) ?_
          refine lv_iadd (pc := 111) hx hb d103_111 ?_
          obtain ⟨g16, h⟩ := jg_some h
          refine c_zald (pc := 112) X hW 44 (by decide) rfl g16 d103_112 ?_
          refine lv_if_eq (pc := 113) (tgt := 120) hx hb d103_113 (by decide) (fun c113 => ?_) (fun c113 => ?_)
          · have h := jb_t c113 h
            refine lv_iconst (pc := 120) (v := 0) hx hb d103_120 (by decide) ?_
            exact kc121 _ hK56 _ hK83  st x1 x3 x4 x6 x6 0 ax1 _ _ _ hW hS fax1 (lv_sub hl [0, 1, 2, 3, 4] rfl) h
          · have h := jb_f c113 h
            exact kc116 _ hK56 _ hK83  st x1 x3 x4 x6 x6 ax1 _ _ _ hW hS fax1 (lv_sub hl [0, 1, 2, 3, 4] rfl) h
  have kc56 : ∀ (fu : Nat), ∀ (st : CS) (x1 : TT) (x3 : Int32) (x4 : Int32) (ax1 : Nat) (H : Heap) (locs : List Loc) (ls : Array Slot), CW ρ P ad st H → va_S (MA wC ad s.heap.size) s.heap H locs → isS ρ P H ax1 x1 → lv_has ls 7 [(0, .ref (ad 7)), (1, .ref ax1), (3, .int x3), (4, .int x4)] → pa_matches_56 fu st x1 x3 x4 = some res → W p l e ({ frames := 13, cells := 0, slots := 0, locals := 621 } : Room) s m args below meth c H locs 0 0 (MQ below (mQ (fun v H1 => v = some (.int res.1) ∧ CW ρ P ad res.2 H1) (MA wC ad s.heap.size)) args s 0 0 (MA wC ad s.heap.size)) (F0 m 56 ls []) := by
    intro  fu
    induction fu with
    | zero => intro st x1 x3 x4 ax1 H locs ls hW hS fax1 hl h; cases h
    | succ fu hK56 =>
      intro st x1 x3 x4 ax1 H locs ls hW hS fax1 hl h
      have hSz := hS.1
      unfold pa_matches_56 at h
      refine lv_iload (pc := 56) hx hb d103_56 (lv_at hl 3 rfl) ?_
      refine lv_if_lt (pc := 58) (tgt := 205) hx hb d103_58 (by decide) (fun c58 => ?_) (fun c58 => ?_)
      · have h := jb_t c58 h
        refine lv_aload_n (pc := 205) hx hb d103_205 rfl (lv_at hl 0 rfl) ?_
        refine c_getK (pc := 206) X hW 7 2 0 44 (C := "WordFunctions$Pattern") (T := T0) (N := 3) (by decide) rfl rfl rfl rfl tin0 rfl wd47 rfl rfl d103_206 ?_
        refine lv_iconst (pc := 209) (v := 0) hx hb d103_209 (by decide) ?_
        obtain ⟨g17, h⟩ := jg_some h
        refine c_zald (pc := 210) X hW 44 (by decide) rfl g17 d103_210 ?_
        obtain ⟨g18, h⟩ := jg_some h
        obtain rfl := Option.some.inj h
        exact m_zret (pc := 211) hx hb hr hlk hS ⟨rfl, hW⟩ (Nat.le_refl _) (Nat.le_refl _) d103_211 (isB_nar g18)
      · have h := jb_f c58 h
        refine lv_aload_n (pc := 61) hx hb d103_61 rfl (lv_at hl 0 rfl) ?_
        refine c_getK (pc := 62) X hW 7 0 0 43 (C := "WordFunctions$Pattern") (T := T0) (N := 3) (by decide) rfl rfl rfl rfl tin0 rfl wd45 rfl rfl d103_62 ?_
        refine lv_iload (pc := 65) hx hb d103_65 (lv_at hl 3 rfl) ?_
        obtain ⟨g19, h⟩ := jg_some h
        refine c_iald (pc := 67) X hW 43 (by decide) rfl g19 d103_67 ?_
        obtain ⟨v20, ev20, h⟩ := jn_ex h
        refine nm_i ev20 ?_
        refine lv_istore (pc := 68) (lv' := [(5, .int v20), (0, .ref (ad 7)), (1, .ref ax1), (3, .int x3), (4, .int x4)]) hx hb d103_68 hl (by decide) rfl (fun ls hl => ?_)
        refine lv_iload (pc := 70) hx hb d103_70 (lv_at hl 0 rfl) ?_
        refine lv_sipush (pc := 72) (v := 257) hx hb d103_72 (by decide) ?_
        refine lv_icmp_ne (pc := 75) (tgt := 131) hx hb d103_75 (by decide) (fun c75 => ?_) (fun c75 => ?_)
        · have h := jb_f c75 h
          refine lv_iconst (pc := 131) (v := 0) hx hb d103_131 (by decide) ?_
          refine lv_istore (pc := 132) (lv' := [(6, .int 0), (5, .int v20), (0, .ref (ad 7)), (1, .ref ax1), (3, .int x3), (4, .int x4)]) hx hb d103_132 hl (by decide) rfl (fun ls hl => ?_)
          exact kc134 _ hK56 FU st x1 x3 x4 v20 0 ax1 _ _ _ hW hS fax1 (lv_sub hl [2, 3, 4, 5, 1, 0] rfl) h
        · have h := jb_t c75 h
          refine lv_iload_n (pc := 78) hx hb d103_78 rfl (lv_at hl 3 rfl) ?_
          refine lv_iconst (pc := 79) (v := 1) hx hb d103_79 (by decide) ?_
          refine lv_isub (pc := 80) hx hb d103_80 ?_
          obtain ⟨v21, ev21, h⟩ := jn_ex h
          refine nm_i ev21 ?_
          refine lv_istore (pc := 81) (lv' := [(6, .int v21), (5, .int v20), (0, .ref (ad 7)), (1, .ref ax1), (3, .int x3), (4, .int x4)]) hx hb d103_81 hl (by decide) rfl (fun ls hl => ?_)
          exact kc83 _ hK56 FU st x1 x3 x4 v21 ax1 _ _ _ hW hS fax1 (lv_sub hl [2, 3, 4, 5, 0] rfl) h
  have kc41 : ∀ (K14 : CS → TT → Int32 → Int32 → Int32 → Option (Int32 × CS)) (hK14 : ∀ (st : CS) (x1 : TT) (x2 : Int32) (x3 : Int32) (x4 : Int32) (ax1 : Nat) (H : Heap) (locs : List Loc) (ls : Array Slot), CW ρ P ad st H → va_S (MA wC ad s.heap.size) s.heap H locs → isS ρ P H ax1 x1 → lv_has ls 7 [(0, .ref (ad 7)), (1, .ref ax1), (2, .int x2), (3, .int x3), (4, .int x4)] → K14 st x1 x2 x3 x4 = some res → W p l e ({ frames := 13, cells := 0, slots := 0, locals := 621 } : Room) s m args below meth c H locs 0 0 (MQ below (mQ (fun v H1 => v = some (.int res.1) ∧ CW ρ P ad res.2 H1) (MA wC ad s.heap.size)) args s 0 0 (MA wC ad s.heap.size)) (F0 m 14 ls [])), ∀ (st : CS) (x1 : TT) (x2 : Int32) (x3 : Int32) (x4 : Int32) (z1 : Int32) (z2 : Int32) (ax1 : Nat) (H : Heap) (locs : List Loc) (ls : Array Slot), CW ρ P ad st H → va_S (MA wC ad s.heap.size) s.heap H locs → isS ρ P H ax1 x1 → lv_has ls 7 [(0, .ref (ad 7)), (1, .ref ax1), (2, .int x2), (3, .int x3), (4, .int x4)] → pa_matches_41 K14 st x1 x2 x3 x4 z1 z2 = some res → W p l e ({ frames := 13, cells := 0, slots := 0, locals := 621 } : Room) s m args below meth c H locs 0 0 (MQ below (mQ (fun v H1 => v = some (.int res.1) ∧ CW ρ P ad res.2 H1) (MA wC ad s.heap.size)) args s 0 0 (MA wC ad s.heap.size)) (F0 m 41 ls [.int z2, .int z1, .ref (ad 44)]) := by
    intro K14 hK14
    intro st x1 x2 x3 x4 z1 z2 ax1 H locs ls hW hS fax1 hl h
    have hSz := hS.1
    unfold pa_matches_41 at h
    obtain ⟨g22, h⟩ := jg_some h
    obtain ⟨g23, h⟩ := jg_some h
    obtain ⟨st24, est24, h⟩ := jn_ex h
    refine c_zast (pc := 41) X hW hS 44 (hAp 44 (by decide)) (by decide) rfl g23 g22 est24 d103_41 (fun H locs hW hS hk => ?_)
    have fax1 := fax1.keep hk (fun _ _ z => z)
    have hSz := hS.1
    obtain ⟨v25, ev25, h⟩ := jn_ex h
    refine lv_iinc (pc := 42) (v := v25) (lv' := [(4, .int v25), (0, .ref (ad 7)), (1, .ref ax1), (2, .int x2), (3, .int x3)]) hx hb d103_42 hl (k := 4) rfl (by rw [ev25]; rfl) (by decide) rfl (fun ls hl => ?_)
    refine lv_goto (pc := 45) (tgt := 14) hx hb d103_45 (by decide) ?_
    exact hK14 st24 x1 x2 x3 v25 ax1 _ _ _ hW hS fax1 (lv_sub hl [1, 2, 3, 4, 0] rfl) h
  have kc36 : ∀ (K14 : CS → TT → Int32 → Int32 → Int32 → Option (Int32 × CS)) (hK14 : ∀ (st : CS) (x1 : TT) (x2 : Int32) (x3 : Int32) (x4 : Int32) (ax1 : Nat) (H : Heap) (locs : List Loc) (ls : Array Slot), CW ρ P ad st H → va_S (MA wC ad s.heap.size) s.heap H locs → isS ρ P H ax1 x1 → lv_has ls 7 [(0, .ref (ad 7)), (1, .ref ax1), (2, .int x2), (3, .int x3), (4, .int x4)] → K14 st x1 x2 x3 x4 = some res → W p l e ({ frames := 13, cells := 0, slots := 0, locals := 621 } : Room) s m args below meth c H locs 0 0 (MQ below (mQ (fun v H1 => v = some (.int res.1) ∧ CW ρ P ad res.2 H1) (MA wC ad s.heap.size)) args s 0 0 (MA wC ad s.heap.size)) (F0 m 14 ls [])), ∀ (st : CS) (x1 : TT) (x2 : Int32) (x3 : Int32) (x4 : Int32) (z1 : Int32) (ax1 : Nat) (H : Heap) (locs : List Loc) (ls : Array Slot), CW ρ P ad st H → va_S (MA wC ad s.heap.size) s.heap H locs → isS ρ P H ax1 x1 → lv_has ls 7 [(0, .ref (ad 7)), (1, .ref ax1), (2, .int x2), (3, .int x3), (4, .int x4)] → pa_matches_36 K14 st x1 x2 x3 x4 z1 = some res → W p l e ({ frames := 13, cells := 0, slots := 0, locals := 621 } : Room) s m args below meth c H locs 0 0 (MQ below (mQ (fun v H1 => v = some (.int res.1) ∧ CW ρ P ad res.2 H1) (MA wC ad s.heap.size)) args s 0 0 (MA wC ad s.heap.size)) (F0 m 36 ls [.int z1, .ref (ad 44)]) := by
    intro K14 hK14
    intro st x1 x2 x3 x4 z1 ax1 H locs ls hW hS fax1 hl h
    have hSz := hS.1
    unfold pa_matches_36 at h
    refine lv_iconst (pc := 36) (v := 1) hx hb d103_36 (by decide) ?_
    refine lv_goto (pc := 37) (tgt := 41) hx hb d103_37 (by decide) ?_
    exact kc41 _ hK14  st x1 x2 x3 x4 z1 1 ax1 _ _ _ hW hS fax1 (lv_sub hl [0, 1, 2, 3, 4] rfl) h
  have kc14 : ∀ (fu : Nat), ∀ (st : CS) (x1 : TT) (x2 : Int32) (x3 : Int32) (x4 : Int32) (ax1 : Nat) (H : Heap) (locs : List Loc) (ls : Array Slot), CW ρ P ad st H → va_S (MA wC ad s.heap.size) s.heap H locs → isS ρ P H ax1 x1 → lv_has ls 7 [(0, .ref (ad 7)), (1, .ref ax1), (2, .int x2), (3, .int x3), (4, .int x4)] → pa_matches_14 fu st x1 x2 x3 x4 = some res → W p l e ({ frames := 13, cells := 0, slots := 0, locals := 621 } : Room) s m args below meth c H locs 0 0 (MQ below (mQ (fun v H1 => v = some (.int res.1) ∧ CW ρ P ad res.2 H1) (MA wC ad s.heap.size)) args s 0 0 (MA wC ad s.heap.size)) (F0 m 14 ls []) := by
    intro  fu
    induction fu with
    | zero => intro st x1 x2 x3 x4 ax1 H locs ls hW hS fax1 hl h; cases h
    | succ fu hK14 =>
      intro st x1 x2 x3 x4 ax1 H locs ls hW hS fax1 hl h
      have hSz := hS.1
      unfold pa_matches_14 at h
      refine lv_iload (pc := 14) hx hb d103_14 (lv_at hl 4 rfl) ?_
      refine lv_iload_n (pc := 16) hx hb d103_16 rfl (lv_at hl 3 rfl) ?_
      refine lv_icmp_gt (pc := 17) (tgt := 48) hx hb d103_17 (by decide) (fun c17 => ?_) (fun c17 => ?_)
      · have h := jb_t c17 h
        refine lv_aload_n (pc := 48) hx hb d103_48 rfl (lv_at hl 0 rfl) ?_
        refine c_getI (pc := 49) X hW 7 1 0 (C := "WordFunctions$Pattern") (T := T0) (N := 3) (by decide) rfl rfl rfl rfl tin0 rfl wd46 rfl d103_49 ?_
        refine lv_iconst (pc := 52) (v := 1) hx hb d103_52 (by decide) ?_
        refine lv_isub (pc := 53) hx hb d103_53 ?_
        obtain ⟨v26, ev26, h⟩ := jn_ex h
        refine nm_i ev26 ?_
        refine lv_istore (pc := 54) (lv' := [(4, .int v26), (0, .ref (ad 7)), (1, .ref ax1), (2, .int x2), (3, .int x3)]) hx hb d103_54 hl (by decide) rfl (fun ls hl => ?_)
        exact kc56  FU st x1 x3 v26 ax1 _ _ _ hW hS fax1 (lv_sub hl [1, 2, 4, 0] rfl) h
      · have h := jb_f c17 h
        refine lv_aload_n (pc := 20) hx hb d103_20 rfl (lv_at hl 0 rfl) ?_
        refine c_getK (pc := 21) X hW 7 2 0 44 (C := "WordFunctions$Pattern") (T := T0) (N := 3) (by decide) rfl rfl rfl rfl tin0 rfl wd47 rfl rfl d103_21 ?_
        refine lv_iload (pc := 24) hx hb d103_24 (lv_at hl 4 rfl) ?_
        refine lv_iload_n (pc := 26) hx hb d103_26 rfl (lv_at hl 2 rfl) ?_
        refine lv_if_eq (pc := 27) (tgt := 36) hx hb d103_27 (by decide) (fun c27 => ?_) (fun c27 => ?_)
        · have h := jb_t c27 h
          exact kc36 _ hK14  st x1 x2 x3 x4 x4 ax1 _ _ _ hW hS fax1 (lv_sub hl [0, 1, 2, 3, 4] rfl) h
        · have h := jb_f c27 h
          refine lv_iload (pc := 30) hx hb d103_30 (lv_at hl 4 rfl) ?_
          refine lv_iload_n (pc := 32) hx hb d103_32 rfl (lv_at hl 3 rfl) ?_
          refine lv_icmp_ne (pc := 33) (tgt := 40) hx hb d103_33 (by decide) (fun c33 => ?_) (fun c33 => ?_)
          · have h := jb_f c33 h
            refine lv_iconst (pc := 40) (v := 0) hx hb d103_40 (by decide) ?_
            exact kc41 _ hK14  st x1 x2 x3 x4 x4 0 ax1 _ _ _ hW hS fax1 (lv_sub hl [0, 1, 2, 3, 4] rfl) h
          · have h := jb_t c33 h
            exact kc36 _ hK14  st x1 x2 x3 x4 x4 ax1 _ _ _ hW hS fax1 (lv_sub hl [0, 1, 2, 3, 4] rfl) h
  unfold f_pa_matches at h
  refine lv_aload_n (pc := 0) hx hb d103_0 rfl (lv_at hl 1 rfl) ?_
  obtain ⟨q27, hq27, h⟩ := jc_some h
  refine k_callV (pc := 1) (n := 0) X hS (c_js_length l ρ _ P ap0 p0 q27 hW.2.2.1 hW.2.1 fap0 hq27) wd538 wd978 wd536 wd537 wd14 (by decide) ⟨rfl, rfl, Nat.le_of_ble_eq_true rfl, Nat.le_of_ble_eq_true rfl⟩ (s_recv X fap0) (As := []) (rest := []) rfl rfl hl.1 (Nat.le_of_ble_eq_true rfl) d103_1 ⟨Nat.le_refl _, Nat.le_refl _⟩ (fun q hq => False.elim hq) (fun v H1 locs1 hv _ _ hSq27 => ?_)
  obtain ⟨rfl, rfl⟩ := hv
  have hS := hSq27
  have hSz := hS.1
  refine lv_sipush (pc := 4) (v := 255) hx hb d103_4 (by decide) ?_
  obtain ⟨q28, hq28, h⟩ := jc_some h
  refine k_callS (pc := 7) (n := 2) X hS (c_ma_min l ρ _ P q27 255 q28 hW.2.2.1 hW.2.1  hq28) wd351 wd994 wd350 wd17 (by decide) ⟨rfl, rfl, Nat.le_of_ble_eq_true rfl, Nat.le_of_ble_eq_true rfl⟩ (As := [.int q27, .int 255]) (rest := []) rfl rfl hl.1 (Nat.le_of_ble_eq_true rfl) d103_7 ⟨Nat.le_refl _, Nat.le_refl _⟩ (fun q hq => False.elim hq) (fun v H1 locs1 hv _ _ hSq28 => ?_)
  obtain ⟨rfl, rfl⟩ := hv
  have hS := hSq28
  have hSz := hS.1
  refine lv_istore_n (pc := 10) (lv' := [(3, .int q28), (0, .ref (ad 7)), (1, .ref ap0), (2, .int p1)]) hx hb d103_10 rfl hl (by decide) rfl (fun ls hl => ?_)
  refine lv_iconst (pc := 11) (v := 0) hx hb d103_11 (by decide) ?_
  refine lv_istore (pc := 12) (lv' := [(4, .int 0), (3, .int q28), (0, .ref (ad 7)), (1, .ref ap0), (2, .int p1)]) hx hb d103_12 hl (by decide) rfl (fun ls hl => ?_)
  exact kc14  FU st p0 p1 q28 0 ap0 _ _ _ hW hS fap0 (lv_sub hl [2, 3, 4, 1, 0] rfl) h
def lu_order_62  : Nat → VV → VV → Int32 → Int32 → Option (Int32)
  | 0, _, _, _, _ => none
  | fu + 1, x0, x1, x2, x3 => jb (x2 ≤ x3) (jc (f_js_length x0.2.2) (fun q2 => jc (f_js_length x1.2.2) (fun q4 => some (q2 - q4)))) (jc (f_js_charAt x0.2.2 x3) (fun q6 => jc (f_wf_great q6) (fun q7 => jc (f_js_charAt x1.2.2 x3) (fun q9 => jc (f_wf_great q9) (fun q10 => jn (q7 - q10) (fun v11 => jb (v11 = 0) (jn (x3 + 1) (fun v12 => lu_order_62 fu x0 x1 x2 v12)) (some v11)))))))
def f_lu_order  (p0 : VV) (p1 : VV) : Option (Int32) := jb (p0.1 = 2) (jc (f_js_length p0.2.2) (fun q14 => jc (f_js_length p1.2.2) (fun q16 => jc (f_ma_min q14 q16) (fun q17 => lu_order_62 FU p0 p1 q17 0)))) (jb (0 ≤ (Op.cmpValue (FP.dcmp p0.2.1 p1.2.1) .g)) (jb ((Op.cmpValue (FP.dcmp p0.2.1 p1.2.1) .l) ≤ 0) (some 0) (some 1)) (some (-1)))
set_option maxHeartbeats 4000000 in
set_option maxRecDepth 100000 in
theorem c_lu_order (l : Launch) (ρ : RH) (H : Heap) (P : Nat → Prop) (ap0 : Nat) (p0 : VV) (ap1 : Nat) (p1 : VV) (res : Int32) (hC : CC ρ P H) (hPb : ∀ q, P q → q < H.size) (fap0 : isV ρ P H ap0 p0) (fap1 : isV ρ P H ap1 p1) (h : f_lu_order p0 p1 = some res) : Met l y99 (wsOf y99 b99 5 (some .int)) ({ frames := 13, cells := 0, slots := 0, locals := 621 } : Room) (va_Pc [.ref ap0, .ref ap1] (KP ρ H)) (mQ (fun v H1 => v = some (.int res) ∧ H1 = H) (fun _ => False)) 0 0 (fun _ => False) := by
  refine m_ofW (own := "WordFunctions$LookUps") (plainFor_of_name rfl) rfl (Nat.le_of_ble_eq_true rfl) fun p e s m args below meth c ls hx hb hr hlk _ X hs hl => ?_
  subst hs
  have hS : va_S (fun _ => False) s.heap s.heap [] := va_S.rf
  have hSz := hS.1
  have hl : lv_has ls 5 [(0, .ref ap0), (1, .ref ap1)] := hl
  have kc62 : ∀ (fu : Nat), ∀ (x0 : VV) (x1 : VV) (x2 : Int32) (x3 : Int32) (ax0 : Nat) (ax1 : Nat) (locs : List Loc) (ls : Array Slot), va_S (fun _ => False) s.heap s.heap locs → isV ρ P s.heap ax0 x0 → isV ρ P s.heap ax1 x1 → lv_has ls 5 [(0, .ref ax0), (1, .ref ax1), (2, .int x2), (3, .int x3)] → lu_order_62 fu x0 x1 x2 x3 = some res → W p l e ({ frames := 13, cells := 0, slots := 0, locals := 621 } : Room) s m args below meth c s.heap locs 0 0 (MQ below (mQ (fun v H1 => v = some (.int res) ∧ H1 = s.heap) (fun _ => False)) args s 0 0 (fun _ => False)) (F0 m 62 ls []) := by
    intro  fu
    induction fu with
    | zero => intro x0 x1 x2 x3 ax0 ax1 locs ls hS fax0 fax1 hl h; cases h
    | succ fu hK62 =>
      intro x0 x1 x2 x3 ax0 ax1 locs ls hS fax0 fax1 hl h
      have hSz := hS.1
      unfold lu_order_62 at h
      refine lv_iload_n (pc := 62) hx hb d99_62 rfl (lv_at hl 3 rfl) ?_
      refine lv_iload_n (pc := 63) hx hb d99_63 rfl (lv_at hl 2 rfl) ?_
      refine lv_icmp_ge (pc := 64) (tgt := 106) hx hb d99_64 (by decide) (fun c64 => ?_) (fun c64 => ?_)
      · have h := jb_t c64 h
        refine lv_aload_n (pc := 106) hx hb d99_106 rfl (lv_at hl 0 rfl) ?_
        refine v_text (pc := 107) X fax0 wd88 d99_107 (fun u1 fu1 => ?_)
        obtain ⟨q2, hq2, h⟩ := jc_some h
        refine k_callV (pc := 110) (n := 0) X hS (c_js_length l ρ _ P u1 x0.2.2 q2 hC hPb fu1 hq2) wd538 wd1136 wd536 wd537 wd14 (by decide) ⟨rfl, rfl, Nat.le_of_ble_eq_true rfl, Nat.le_of_ble_eq_true rfl⟩ (s_recv X fu1) (As := []) (rest := []) rfl rfl hl.1 (Nat.le_of_ble_eq_true rfl) d99_110 ⟨Nat.le_refl _, Nat.le_refl _⟩ (fun q hq => False.elim hq) (fun v H1 locs1 hv _ _ hSq2 => ?_)
        obtain ⟨rfl, rfl⟩ := hv
        have hS := hSq2
        have hSz := hS.1
        refine lv_aload_n (pc := 113) hx hb d99_113 rfl (lv_at hl 1 rfl) ?_
        refine v_text (pc := 114) X fax1 wd88 d99_114 (fun u3 fu3 => ?_)
        obtain ⟨q4, hq4, h⟩ := jc_some h
        refine k_callV (pc := 117) (n := 0) X hS (c_js_length l ρ _ P u3 x1.2.2 q4 hC hPb fu3 hq4) wd538 wd1136 wd536 wd537 wd14 (by decide) ⟨rfl, rfl, Nat.le_of_ble_eq_true rfl, Nat.le_of_ble_eq_true rfl⟩ (s_recv X fu3) (As := []) (rest := [.int q2]) rfl rfl hl.1 (Nat.le_of_ble_eq_true rfl) d99_117 ⟨Nat.le_refl _, Nat.le_refl _⟩ (fun q hq => False.elim hq) (fun v H1 locs1 hv _ _ hSq4 => ?_)
        obtain ⟨rfl, rfl⟩ := hv
        have hS := hSq4
        have hSz := hS.1
        refine lv_isub (pc := 120) hx hb d99_120 ?_
        obtain rfl := Option.some.inj h
        exact m_iret (pc := 121) hx hb hr hlk hS ⟨rfl, rfl⟩ (Nat.le_refl _) (Nat.le_refl _) d99_121
      · have h := jb_f c64 h
        refine lv_aload_n (pc := 67) hx hb d99_67 rfl (lv_at hl 0 rfl) ?_
        refine v_text (pc := 68) X fax0 wd88 d99_68 (fun u5 fu5 => ?_)
        refine lv_iload_n (pc := 71) hx hb d99_71 rfl (lv_at hl 3 rfl) ?_
        obtain ⟨q6, hq6, h⟩ := jc_some h
        refine k_callV (pc := 72) (n := 1) X hS (c_js_charAt l ρ _ P u5 x0.2.2 x3 q6 hC hPb fu5 hq6) wd683 wd1138 wd681 wd682 wd14 (by decide) ⟨rfl, rfl, Nat.le_of_ble_eq_true rfl, Nat.le_of_ble_eq_true rfl⟩ (s_recv X fu5) (As := [.int x3]) (rest := []) rfl rfl hl.1 (Nat.le_of_ble_eq_true rfl) d99_72 ⟨Nat.le_refl _, Nat.le_refl _⟩ (fun q hq => False.elim hq) (fun v H1 locs1 hv _ _ hSq6 => ?_)
        obtain ⟨rfl, rfl⟩ := hv
        have hS := hSq6
        have hSz := hS.1
        obtain ⟨q7, hq7, h⟩ := jc_some h
        refine k_callSN (pc := 75) (n := 1) X hS (c_wf_great l ρ _ P q6 q7 hC hPb  hq7) wd985 8 rfl wd984 wd1 (by decide) ⟨rfl, rfl, Nat.le_of_ble_eq_true rfl, Nat.le_of_ble_eq_true rfl⟩ (As := [.int q6]) (rest := []) rfl rfl hl.1 (Nat.le_of_ble_eq_true rfl) d99_75 ⟨Nat.le_refl _, Nat.le_refl _⟩ (fun q hq => False.elim hq) (fun v H1 locs1 hv _ _ hSq7 => ?_)
        obtain ⟨rfl, rfl⟩ := hv
        have hS := hSq7
        have hSz := hS.1
        refine lv_aload_n (pc := 78) hx hb d99_78 rfl (lv_at hl 1 rfl) ?_
        refine v_text (pc := 79) X fax1 wd88 d99_79 (fun u8 fu8 => ?_)
        refine lv_iload_n (pc := 82) hx hb d99_82 rfl (lv_at hl 3 rfl) ?_
        obtain ⟨q9, hq9, h⟩ := jc_some h
        refine k_callV (pc := 83) (n := 1) X hS (c_js_charAt l ρ _ P u8 x1.2.2 x3 q9 hC hPb fu8 hq9) wd683 wd1138 wd681 wd682 wd14 (by decide) ⟨rfl, rfl, Nat.le_of_ble_eq_true rfl, Nat.le_of_ble_eq_true rfl⟩ (s_recv X fu8) (As := [.int x3]) (rest := [.int q7]) rfl rfl hl.1 (Nat.le_of_ble_eq_true rfl) d99_83 ⟨Nat.le_refl _, Nat.le_refl _⟩ (fun q hq => False.elim hq) (fun v H1 locs1 hv _ _ hSq9 => ?_)
        obtain ⟨rfl, rfl⟩ := hv
        have hS := hSq9
        have hSz := hS.1
        obtain ⟨q10, hq10, h⟩ := jc_some h
        refine k_callSN (pc := 86) (n := 1) X hS (c_wf_great l ρ _ P q9 q10 hC hPb  hq10) wd985 8 rfl wd984 wd1 (by decide) ⟨rfl, rfl, Nat.le_of_ble_eq_true rfl, Nat.le_of_ble_eq_true rfl⟩ (As := [.int q9]) (rest := [.int q7]) rfl rfl hl.1 (Nat.le_of_ble_eq_true rfl) d99_86 ⟨Nat.le_refl _, Nat.le_refl _⟩ (fun q hq => False.elim hq) (fun v H1 locs1 hv _ _ hSq10 => ?_)
        obtain ⟨rfl, rfl⟩ := hv
        have hS := hSq10
        have hSz := hS.1
        refine lv_isub (pc := 89) hx hb d99_89 ?_
        obtain ⟨v11, ev11, h⟩ := jn_ex h
        refine nm_i ev11 ?_
        refine lv_istore (pc := 90) (lv' := [(4, .int v11), (0, .ref ax0), (1, .ref ax1), (2, .int x2), (3, .int x3)]) hx hb d99_90 hl (by decide) rfl (fun ls hl => ?_)
        refine lv_iload (pc := 92) hx hb d99_92 (lv_at hl 0 rfl) ?_
        refine lv_if_eq (pc := 94) (tgt := 100) hx hb d99_94 (by decide) (fun c94 => ?_) (fun c94 => ?_)
        · have h := jb_t c94 h
          obtain ⟨v12, ev12, h⟩ := jn_ex h
          refine lv_iinc (pc := 100) (v := v12) (lv' := [(3, .int v12), (4, .int v11), (0, .ref ax0), (1, .ref ax1), (2, .int x2)]) hx hb d99_100 hl (k := 4) rfl (by rw [ev12]; rfl) (by decide) rfl (fun ls hl => ?_)
          refine lv_goto (pc := 103) (tgt := 62) hx hb d99_103 (by decide) ?_
          exact hK62 x0 x1 x2 v12 ax0 ax1 _ _ hS fax0 fax1 (lv_sub hl [2, 3, 4, 0] rfl) h
        · have h := jb_f c94 h
          refine lv_iload (pc := 97) hx hb d99_97 (lv_at hl 0 rfl) ?_
          obtain rfl := Option.some.inj h
          exact m_iret (pc := 99) hx hb hr hlk hS ⟨rfl, rfl⟩ (Nat.le_refl _) (Nat.le_refl _) d99_99
  unfold f_lu_order at h
  refine lv_aload_n (pc := 0) hx hb d99_0 rfl (lv_at hl 0 rfl) ?_
  refine v_kind (pc := 1) X fap0 wd77 d99_1 ?_
  refine lv_iconst (pc := 4) (v := 2) hx hb d99_4 (by decide) ?_
  refine lv_icmp_eq (pc := 5) (tgt := 42) hx hb d99_5 (by decide) (fun c5 => ?_) (fun c5 => ?_)
  · have h := jb_t c5 h
    refine lv_aload_n (pc := 42) hx hb d99_42 rfl (lv_at hl 0 rfl) ?_
    refine v_text (pc := 43) X fap0 wd88 d99_43 (fun u13 fu13 => ?_)
    obtain ⟨q14, hq14, h⟩ := jc_some h
    refine k_callV (pc := 46) (n := 0) X hS (c_js_length l ρ _ P u13 p0.2.2 q14 hC hPb fu13 hq14) wd538 wd1136 wd536 wd537 wd14 (by decide) ⟨rfl, rfl, Nat.le_of_ble_eq_true rfl, Nat.le_of_ble_eq_true rfl⟩ (s_recv X fu13) (As := []) (rest := []) rfl rfl hl.1 (Nat.le_of_ble_eq_true rfl) d99_46 ⟨Nat.le_refl _, Nat.le_refl _⟩ (fun q hq => False.elim hq) (fun v H1 locs1 hv _ _ hSq14 => ?_)
    obtain ⟨rfl, rfl⟩ := hv
    have hS := hSq14
    have hSz := hS.1
    refine lv_aload_n (pc := 49) hx hb d99_49 rfl (lv_at hl 1 rfl) ?_
    refine v_text (pc := 50) X fap1 wd88 d99_50 (fun u15 fu15 => ?_)
    obtain ⟨q16, hq16, h⟩ := jc_some h
    refine k_callV (pc := 53) (n := 0) X hS (c_js_length l ρ _ P u15 p1.2.2 q16 hC hPb fu15 hq16) wd538 wd1136 wd536 wd537 wd14 (by decide) ⟨rfl, rfl, Nat.le_of_ble_eq_true rfl, Nat.le_of_ble_eq_true rfl⟩ (s_recv X fu15) (As := []) (rest := [.int q14]) rfl rfl hl.1 (Nat.le_of_ble_eq_true rfl) d99_53 ⟨Nat.le_refl _, Nat.le_refl _⟩ (fun q hq => False.elim hq) (fun v H1 locs1 hv _ _ hSq16 => ?_)
    obtain ⟨rfl, rfl⟩ := hv
    have hS := hSq16
    have hSz := hS.1
    obtain ⟨q17, hq17, h⟩ := jc_some h
    refine k_callS (pc := 56) (n := 2) X hS (c_ma_min l ρ _ P q14 q16 q17 hC hPb  hq17) wd351 wd1137 wd350 wd17 (by decide) ⟨rfl, rfl, Nat.le_of_ble_eq_true rfl, Nat.le_of_ble_eq_true rfl⟩ (As := [.int q14, .int q16]) (rest := []) rfl rfl hl.1 (Nat.le_of_ble_eq_true rfl) d99_56 ⟨Nat.le_refl _, Nat.le_refl _⟩ (fun q hq => False.elim hq) (fun v H1 locs1 hv _ _ hSq17 => ?_)
    obtain ⟨rfl, rfl⟩ := hv
    have hS := hSq17
    have hSz := hS.1
    refine lv_istore_n (pc := 59) (lv' := [(2, .int q17), (0, .ref ap0), (1, .ref ap1)]) hx hb d99_59 rfl hl (by decide) rfl (fun ls hl => ?_)
    refine lv_iconst (pc := 60) (v := 0) hx hb d99_60 (by decide) ?_
    refine lv_istore_n (pc := 61) (lv' := [(3, .int 0), (2, .int q17), (0, .ref ap0), (1, .ref ap1)]) hx hb d99_61 rfl hl (by decide) rfl (fun ls hl => ?_)
    exact kc62  FU p0 p1 q17 0 ap0 ap1 _ _ hS fap0 fap1 (lv_sub hl [2, 3, 1, 0] rfl) h
  · have h := jb_f c5 h
    refine lv_aload_n (pc := 8) hx hb d99_8 rfl (lv_at hl 0 rfl) ?_
    refine v_number (pc := 9) X fap0 wd83 d99_9 ?_
    refine lv_aload_n (pc := 12) hx hb d99_12 rfl (lv_at hl 1 rfl) ?_
    refine v_number (pc := 13) X fap1 wd83 d99_13 ?_
    refine lv_dcmp (pc := 16) hx hb d99_16 ?_
    refine lv_if_ge (pc := 17) (tgt := 24) hx hb d99_17 (by decide) (fun c17 => ?_) (fun c17 => ?_)
    · have h := jb_t c17 h
      refine lv_aload_n (pc := 24) hx hb d99_24 rfl (lv_at hl 0 rfl) ?_
      refine v_number (pc := 25) X fap0 wd83 d99_25 ?_
      refine lv_aload_n (pc := 28) hx hb d99_28 rfl (lv_at hl 1 rfl) ?_
      refine v_number (pc := 29) X fap1 wd83 d99_29 ?_
      refine lv_dcmp (pc := 32) hx hb d99_32 ?_
      refine lv_if_le (pc := 33) (tgt := 40) hx hb d99_33 (by decide) (fun c33 => ?_) (fun c33 => ?_)
      · have h := jb_t c33 h
        refine lv_iconst (pc := 40) (v := 0) hx hb d99_40 (by decide) ?_
        obtain rfl := Option.some.inj h
        exact m_iret (pc := 41) hx hb hr hlk hS ⟨rfl, rfl⟩ (Nat.le_refl _) (Nat.le_refl _) d99_41
      · have h := jb_f c33 h
        refine lv_iconst (pc := 36) (v := 1) hx hb d99_36 (by decide) ?_
        refine lv_goto (pc := 37) (tgt := 41) hx hb d99_37 (by decide) ?_
        obtain rfl := Option.some.inj h
        exact m_iret (pc := 41) hx hb hr hlk hS ⟨rfl, rfl⟩ (Nat.le_refl _) (Nat.le_refl _) d99_41
    · have h := jb_f c17 h
      refine lv_iconst (pc := 20) (v := (-1)) hx hb d99_20 (by decide) ?_
      refine lv_goto (pc := 21) (tgt := 41) hx hb d99_21 (by decide) ?_
      obtain rfl := Option.some.inj h
      exact m_iret (pc := 41) hx hb hr hlk hS ⟨rfl, rfl⟩ (Nat.le_refl _) (Nat.le_refl _) d99_41
def f_lu_fits  (p0 : Int32) (p1 : Int32) : Option (Int32) := jb (p1 = 0) (jb (p0 = 0) (some 1) (some 0)) (jb (p1 = 1) (jb (0 < p0) (some 0) (some 1)) (jb (p0 < 0) (some 0) (some 1)))
set_option maxHeartbeats 4000000 in
set_option maxRecDepth 100000 in
theorem c_lu_fits (l : Launch) (ρ : RH) (H : Heap) (P : Nat → Prop) (p0 : Int32) (p1 : Int32) (res : Int32) (hC : CC ρ P H) (hPb : ∀ q, P q → q < H.size) (h : f_lu_fits p0 p1 = some res) : Met l y93 (wsOf y93 b93 2 (some .boolean)) ({ frames := 0, cells := 0, slots := 0, locals := 0 } : Room) (va_Pc [.int p0, .int p1] (KP ρ H)) (mQ (fun v H1 => v = some (.int res) ∧ H1 = H) (fun _ => False)) 0 0 (fun _ => False) := by
  refine m_ofW (own := "WordFunctions$LookUps") (plainFor_of_name rfl) rfl (Nat.le_of_ble_eq_true rfl) fun p e s m args below meth c ls hx hb hr hlk _ X hs hl => ?_
  subst hs
  have hS : va_S (fun _ => False) s.heap s.heap [] := va_S.rf
  have hSz := hS.1
  have hl : lv_has ls 2 [(0, .int p0), (1, .int p1)] := hl
  unfold f_lu_fits at h
  refine lv_iload_n (pc := 0) hx hb d93_0 rfl (lv_at hl 1 rfl) ?_
  refine lv_if_ne (pc := 1) (tgt := 14) hx hb d93_1 (by decide) (fun c1 => ?_) (fun c1 => ?_)
  · have h := jb_f c1 h
    refine lv_iload_n (pc := 14) hx hb d93_14 rfl (lv_at hl 1 rfl) ?_
    refine lv_iconst (pc := 15) (v := 1) hx hb d93_15 (by decide) ?_
    refine lv_icmp_ne (pc := 16) (tgt := 31) hx hb d93_16 (by decide) (fun c16 => ?_) (fun c16 => ?_)
    · have h := jb_f c16 h
      refine lv_iload_n (pc := 31) hx hb d93_31 rfl (lv_at hl 0 rfl) ?_
      refine lv_if_lt (pc := 32) (tgt := 39) hx hb d93_32 (by decide) (fun c32 => ?_) (fun c32 => ?_)
      · have h := jb_t c32 h
        refine lv_iconst (pc := 39) (v := 0) hx hb d93_39 (by decide) ?_
        obtain rfl := Option.some.inj h
        exact m_zret (pc := 40) hx hb hr hlk hS ⟨rfl, rfl⟩ (Nat.le_refl _) (Nat.le_refl _) d93_40 (by decide)
      · have h := jb_f c32 h
        refine lv_iconst (pc := 35) (v := 1) hx hb d93_35 (by decide) ?_
        refine lv_goto (pc := 36) (tgt := 40) hx hb d93_36 (by decide) ?_
        obtain rfl := Option.some.inj h
        exact m_zret (pc := 40) hx hb hr hlk hS ⟨rfl, rfl⟩ (Nat.le_refl _) (Nat.le_refl _) d93_40 (by decide)
    · have h := jb_t c16 h
      refine lv_iload_n (pc := 19) hx hb d93_19 rfl (lv_at hl 0 rfl) ?_
      refine lv_if_gt (pc := 20) (tgt := 27) hx hb d93_20 (by decide) (fun c20 => ?_) (fun c20 => ?_)
      · have h := jb_t c20 h
        refine lv_iconst (pc := 27) (v := 0) hx hb d93_27 (by decide) ?_
        refine lv_goto (pc := 28) (tgt := 40) hx hb d93_28 (by decide) ?_
        obtain rfl := Option.some.inj h
        exact m_zret (pc := 40) hx hb hr hlk hS ⟨rfl, rfl⟩ (Nat.le_refl _) (Nat.le_refl _) d93_40 (by decide)
      · have h := jb_f c20 h
        refine lv_iconst (pc := 23) (v := 1) hx hb d93_23 (by decide) ?_
        refine lv_goto (pc := 24) (tgt := 40) hx hb d93_24 (by decide) ?_
        obtain rfl := Option.some.inj h
        exact m_zret (pc := 40) hx hb hr hlk hS ⟨rfl, rfl⟩ (Nat.le_refl _) (Nat.le_refl _) d93_40 (by decide)
  · have h := jb_t c1 h
    refine lv_iload_n (pc := 4) hx hb d93_4 rfl (lv_at hl 0 rfl) ?_
    refine lv_if_ne (pc := 5) (tgt := 12) hx hb d93_5 (by decide) (fun c5 => ?_) (fun c5 => ?_)
    · have h := jb_f c5 h
      refine lv_iconst (pc := 12) (v := 0) hx hb d93_12 (by decide) ?_
      obtain rfl := Option.some.inj h
      exact m_zret (pc := 13) hx hb hr hlk hS ⟨rfl, rfl⟩ (Nat.le_refl _) (Nat.le_refl _) d93_13 (by decide)
    · have h := jb_t c5 h
      refine lv_iconst (pc := 8) (v := 1) hx hb d93_8 (by decide) ?_
      refine lv_goto (pc := 9) (tgt := 13) hx hb d93_9 (by decide) ?_
      obtain rfl := Option.some.inj h
      exact m_zret (pc := 13) hx hb hr hlk hS ⟨rfl, rfl⟩ (Nat.le_refl _) (Nat.le_refl _) d93_13 (by decide)
def lu_find_160 (K66 : CS → VV → Int32 → Int32 → Int32 → Int32 → Int32 → Int32 → Int32 → Option (Int32 × CS)) (st : CS) (x1 : VV) (x2 : Int32) (x3 : Int32) (x4 : Int32) (x5 : Int32) (x6 : Int32) (x7 : Int32) (x8 : Int32) : Option (Int32 × CS) := jn (x8 + 1) (fun v1 => K66 st x1 x2 x3 x4 x5 x6 x7 v1)
def lu_find_158 (K66 : CS → VV → Int32 → Int32 → Int32 → Int32 → Int32 → Int32 → Int32 → Option (Int32 × CS)) (st : CS) (x1 : VV) (x2 : Int32) (x3 : Int32) (x4 : Int32) (x5 : Int32) (x6 : Int32) (x8 : Int32) (z0 : Int32) : Option (Int32 × CS) := lu_find_160 K66 st x1 x2 x3 x4 x5 x6 z0 x8
def lu_find_146 (K66 : CS → VV → Int32 → Int32 → Int32 → Int32 → Int32 → Int32 → Int32 → Option (Int32 × CS)) (st : CS) (x1 : VV) (x2 : Int32) (x3 : Int32) (x4 : Int32) (x5 : Int32) (x6 : Int32) (x7 : Int32) (x8 : Int32) (x10 : Int32) : Option (Int32 × CS) := jb (x10 = 0) (lu_find_158 K66 st x1 x2 x3 x4 x5 x6 x8 x7) (lu_find_158 K66 st x1 x2 x3 x4 x5 x6 x8 x8)
def lu_find_131 (K66 : CS → VV → Int32 → Int32 → Int32 → Int32 → Int32 → Int32 → Int32 → Option (Int32 × CS)) (st : CS) (x1 : VV) (x2 : Int32) (x3 : Int32) (x4 : Int32) (x5 : Int32) (x6 : Int32) (x7 : Int32) (x8 : Int32) (z0 : Int32) : Option (Int32 × CS) := jb (z0 = 0) (lu_find_146 K66 st x1 x2 x3 x4 x5 x6 x7 x8 z0) (jb (x5 = 0) (some (x8, st)) (lu_find_146 K66 st x1 x2 x3 x4 x5 x6 x7 x8 z0))
def lu_find_66  : Nat → CS → VV → Int32 → Int32 → Int32 → Int32 → Int32 → Int32 → Int32 → Option (Int32 × CS)
  | 0, _, _, _, _, _, _, _, _, _ => none
  | fu + 1, st, x1, x2, x3, x4, x5, x6, x7, x8 => jb (x4 ≤ x8) (some (x7, st)) (jc (f_ar_nth st x2 (x8 * x3)) (fun q2 => jb (q2.1 = x1.1) (jb (x6 = 0) (jc (f_lu_order q2 x1) (fun q4 => jc (f_lu_fits q4 x5) (fun q5 => lu_find_131 (lu_find_66 fu) st x1 x2 x3 x4 x5 x6 x7 x8 q5))) (jc (f_pa_matches st q2.2.2 1) (fun q7 => lu_find_131 (lu_find_66 fu) q7.2 x1 x2 x3 x4 x5 x6 x7 x8 q7.1))) (lu_find_160 (lu_find_66 fu) st x1 x2 x3 x4 x5 x6 x7 x8)))
def lu_find_60  (st : CS) (x1 : VV) (x2 : Int32) (x3 : Int32) (x4 : Int32) (x5 : Int32) (x6 : Int32) : Option (Int32 × CS) := lu_find_66 FU st x1 x2 x3 x4 x5 x6 (-1) 0
def lu_find_42  (st : CS) (x1 : VV) (x2 : Int32) (x3 : Int32) (x4 : Int32) (x5 : Int32) (z0 : Int32) : Option (Int32 × CS) := jb (z0 = 0) (lu_find_60 st x1 x2 x3 x4 x5 z0) (jc (f_pa_read st x1.2.2) (fun q9 => lu_find_60 q9 x1 x2 x3 x4 x5 z0))
def lu_find_41  (st : CS) (x1 : VV) (x2 : Int32) (x3 : Int32) (x4 : Int32) (x5 : Int32) : Option (Int32 × CS) := lu_find_42 st x1 x2 x3 x4 x5 0
def lu_find_37  (st : CS) (x1 : VV) (x2 : Int32) (x3 : Int32) (x4 : Int32) (x5 : Int32) : Option (Int32 × CS) := lu_find_42 st x1 x2 x3 x4 x5 1
def f_lu_find (st : CS) (p0 : VV) (p1 : Int32) (p2 : Int32) (p3 : Int32) (p4 : Int32) : Option (Int32 × CS) := jb (p4 = 0) (jb (p0.1 = 2) (jc (f_js_indexOf p0.2.2 63) (fun q11 => jb (0 ≤ q11) (lu_find_37 st p0 p1 p2 p3 p4) (jc (f_js_indexOf p0.2.2 42) (fun q13 => jb (q13 < 0) (lu_find_41 st p0 p1 p2 p3 p4) (lu_find_37 st p0 p1 p2 p3 p4))))) (lu_find_41 st p0 p1 p2 p3 p4)) (lu_find_41 st p0 p1 p2 p3 p4)
set_option maxHeartbeats 4000000 in
set_option maxRecDepth 100000 in
theorem c_lu_find (l : Launch) (ρ : RH) (ad : Nat → Nat) (H : Heap) (P : Nat → Prop) (st : CS) (ap0 : Nat) (p0 : VV) (p1 : Int32) (p2 : Int32) (p3 : Int32) (p4 : Int32) (res : Int32 × CS) (hW : CW ρ P ad st H) (fap0 : isV ρ P H ap0 p0) (h : f_lu_find st p0 p1 p2 p3 p4 = some res) : Met l y92 (wsOf y92 b92 11 (some .int)) ({ frames := 14, cells := 0, slots := 0, locals := 647 } : Room) (va_Pc [.ref (ad 4), .ref ap0, .int p1, .int p2, .int p3, .int p4] (KP ρ H)) (mQ (fun v H1 => v = some (.int res.1) ∧ CW ρ P ad res.2 H1) (MA wC ad H.size)) 0 0 (MA wC ad H.size) := by
  refine m_ofW (own := "WordFunctions$LookUps") (plainFor_of_name rfl) rfl (Nat.le_of_ble_eq_true rfl) fun p e s m args below meth c ls hx hb hr hlk _ X hs hl => ?_
  subst hs
  have hS : va_S (MA wC ad s.heap.size) s.heap s.heap [] := va_S.rf
  have hSz := hS.1
  have hAz : ∀ q, s.heap.size ≤ q → (MA wC ad s.heap.size) q := fun q hq => Or.inr hq
  have hAp : ∀ i, i < 46 → (MA wC ad s.heap.size) (ad i) := fun i hi => MA.in hi
  have hPp : ∀ i, i < 46 → P (ad i) := hW.1
  have hl : lv_has ls 11 [(0, .ref (ad 4)), (1, .ref ap0), (2, .int p1), (3, .int p2), (4, .int p3), (5, .int p4)] := hl
  have kc160 : ∀ (K66 : CS → VV → Int32 → Int32 → Int32 → Int32 → Int32 → Int32 → Int32 → Option (Int32 × CS)) (hK66 : ∀ (st : CS) (x1 : VV) (x2 : Int32) (x3 : Int32) (x4 : Int32) (x5 : Int32) (x6 : Int32) (x7 : Int32) (x8 : Int32) (ax1 : Nat) (H : Heap) (locs : List Loc) (ls : Array Slot), CW ρ P ad st H → va_S (MA wC ad s.heap.size) s.heap H locs → isV ρ P H ax1 x1 → lv_has ls 11 [(0, .ref (ad 4)), (1, .ref ax1), (2, .int x2), (3, .int x3), (4, .int x4), (5, .int x5), (6, .int x6), (7, .int x7), (8, .int x8)] → K66 st x1 x2 x3 x4 x5 x6 x7 x8 = some res → W p l e ({ frames := 14, cells := 0, slots := 0, locals := 647 } : Room) s m args below meth c H locs 0 0 (MQ below (mQ (fun v H1 => v = some (.int res.1) ∧ CW ρ P ad res.2 H1) (MA wC ad s.heap.size)) args s 0 0 (MA wC ad s.heap.size)) (F0 m 66 ls [])), ∀ (st : CS) (x1 : VV) (x2 : Int32) (x3 : Int32) (x4 : Int32) (x5 : Int32) (x6 : Int32) (x7 : Int32) (x8 : Int32) (ax1 : Nat) (H : Heap) (locs : List Loc) (ls : Array Slot), CW ρ P ad st H → va_S (MA wC ad s.heap.size) s.heap H locs → isV ρ P H ax1 x1 → lv_has ls 11 [(0, .ref (ad 4)), (1, .ref ax1), (2, .int x2), (3, .int x3), (4, .int x4), (5, .int x5), (6, .int x6), (7, .int x7), (8, .int x8)] → lu_find_160 K66 st x1 x2 x3 x4 x5 x6 x7 x8 = some res → W p l e ({ frames := 14, cells := 0, slots := 0, locals := 647 } : Room) s m args below meth c H locs 0 0 (MQ below (mQ (fun v H1 => v = some (.int res.1) ∧ CW ρ P ad res.2 H1) (MA wC ad s.heap.size)) args s 0 0 (MA wC ad s.heap.size)) (F0 m 160 ls []) := by
    intro K66 hK66
    intro st x1 x2 x3 x4 x5 x6 x7 x8 ax1 H locs ls hW hS fax1 hl h
    have hSz := hS.1
    unfold lu_find_160 at h
    obtain ⟨v1, ev1, h⟩ := jn_ex h
    refine lv_iinc (pc := 160) (v := v1) (lv' := [(8, .int v1), (0, .ref (ad 4)), (1, .ref ax1), (2, .int x2), (3, .int x3), (4, .int x4), (5, .int x5), (6, .int x6), (7, .int x7)]) hx hb d92_160 hl (k := 8) rfl (by rw [ev1]; rfl) (by decide) rfl (fun ls hl => ?_)
    refine lv_goto (pc := 163) (tgt := 66) hx hb d92_163 (by decide) ?_
    exact hK66 st x1 x2 x3 x4 x5 x6 x7 v1 ax1 _ _ _ hW hS fax1 (lv_sub hl [1, 2, 3, 4, 5, 6, 7, 8, 0] rfl) h
  have kc158 : ∀ (K66 : CS → VV → Int32 → Int32 → Int32 → Int32 → Int32 → Int32 → Int32 → Option (Int32 × CS)) (hK66 : ∀ (st : CS) (x1 : VV) (x2 : Int32) (x3 : Int32) (x4 : Int32) (x5 : Int32) (x6 : Int32) (x7 : Int32) (x8 : Int32) (ax1 : Nat) (H : Heap) (locs : List Loc) (ls : Array Slot), CW ρ P ad st H → va_S (MA wC ad s.heap.size) s.heap H locs → isV ρ P H ax1 x1 → lv_has ls 11 [(0, .ref (ad 4)), (1, .ref ax1), (2, .int x2), (3, .int x3), (4, .int x4), (5, .int x5), (6, .int x6), (7, .int x7), (8, .int x8)] → K66 st x1 x2 x3 x4 x5 x6 x7 x8 = some res → W p l e ({ frames := 14, cells := 0, slots := 0, locals := 647 } : Room) s m args below meth c H locs 0 0 (MQ below (mQ (fun v H1 => v = some (.int res.1) ∧ CW ρ P ad res.2 H1) (MA wC ad s.heap.size)) args s 0 0 (MA wC ad s.heap.size)) (F0 m 66 ls [])), ∀ (st : CS) (x1 : VV) (x2 : Int32) (x3 : Int32) (x4 : Int32) (x5 : Int32) (x6 : Int32) (x8 : Int32) (z0 : Int32) (ax1 : Nat) (H : Heap) (locs : List Loc) (ls : Array Slot), CW ρ P ad st H → va_S (MA wC ad s.heap.size) s.heap H locs → isV ρ P H ax1 x1 → lv_has ls 11 [(0, .ref (ad 4)), (1, .ref ax1), (2, .int x2), (3, .int x3), (4, .int x4), (5, .int x5), (6, .int x6), (8, .int x8)] → lu_find_158 K66 st x1 x2 x3 x4 x5 x6 x8 z0 = some res → W p l e ({ frames := 14, cells := 0, slots := 0, locals := 647 } : Room) s m args below meth c H locs 0 0 (MQ below (mQ (fun v H1 => v = some (.int res.1) ∧ CW ρ P ad res.2 H1) (MA wC ad s.heap.size)) args s 0 0 (MA wC ad s.heap.size)) (F0 m 158 ls [.int z0]) := by
    intro K66 hK66
    intro st x1 x2 x3 x4 x5 x6 x8 z0 ax1 H locs ls hW hS fax1 hl h
    have hSz := hS.1
    unfold lu_find_158 at h
    refine lv_istore (pc := 158) (lv' := [(7, .int z0), (0, .ref (ad 4)), (1, .ref ax1), (2, .int x2), (3, .int x3), (4, .int x4), (5, .int x5), (6, .int x6), (8, .int x8)]) hx hb d92_158 hl (by decide) rfl (fun ls hl => ?_)
    exact kc160 _ hK66  st x1 x2 x3 x4 x5 x6 z0 x8 ax1 _ _ _ hW hS fax1 (lv_sub hl [1, 2, 3, 4, 5, 6, 7, 0, 8] rfl) h
  have kc146 : ∀ (K66 : CS → VV → Int32 → Int32 → Int32 → Int32 → Int32 → Int32 → Int32 → Option (Int32 × CS)) (hK66 : ∀ (st : CS) (x1 : VV) (x2 : Int32) (x3 : Int32) (x4 : Int32) (x5 : Int32) (x6 : Int32) (x7 : Int32) (x8 : Int32) (ax1 : Nat) (H : Heap) (locs : List Loc) (ls : Array Slot), CW ρ P ad st H → va_S (MA wC ad s.heap.size) s.heap H locs → isV ρ P H ax1 x1 → lv_has ls 11 [(0, .ref (ad 4)), (1, .ref ax1), (2, .int x2), (3, .int x3), (4, .int x4), (5, .int x5), (6, .int x6), (7, .int x7), (8, .int x8)] → K66 st x1 x2 x3 x4 x5 x6 x7 x8 = some res → W p l e ({ frames := 14, cells := 0, slots := 0, locals := 647 } : Room) s m args below meth c H locs 0 0 (MQ below (mQ (fun v H1 => v = some (.int res.1) ∧ CW ρ P ad res.2 H1) (MA wC ad s.heap.size)) args s 0 0 (MA wC ad s.heap.size)) (F0 m 66 ls [])), ∀ (st : CS) (x1 : VV) (x2 : Int32) (x3 : Int32) (x4 : Int32) (x5 : Int32) (x6 : Int32) (x7 : Int32) (x8 : Int32) (x10 : Int32) (ax1 : Nat) (H : Heap) (locs : List Loc) (ls : Array Slot), CW ρ P ad st H → va_S (MA wC ad s.heap.size) s.heap H locs → isV ρ P H ax1 x1 → lv_has ls 11 [(0, .ref (ad 4)), (1, .ref ax1), (2, .int x2), (3, .int x3), (4, .int x4), (5, .int x5), (6, .int x6), (7, .int x7), (8, .int x8), (10, .int x10)] → lu_find_146 K66 st x1 x2 x3 x4 x5 x6 x7 x8 x10 = some res → W p l e ({ frames := 14, cells := 0, slots := 0, locals := 647 } : Room) s m args below meth c H locs 0 0 (MQ below (mQ (fun v H1 => v = some (.int res.1) ∧ CW ρ P ad res.2 H1) (MA wC ad s.heap.size)) args s 0 0 (MA wC ad s.heap.size)) (F0 m 146 ls []) := by
    intro K66 hK66
    intro st x1 x2 x3 x4 x5 x6 x7 x8 x10 ax1 H locs ls hW hS fax1 hl h
    have hSz := hS.1
    unfold lu_find_146 at h
    refine lv_iload (pc := 146) hx hb d92_146 (lv_at hl 9 rfl) ?_
    refine lv_if_eq (pc := 148) (tgt := 156) hx hb d92_148 (by decide) (fun c148 => ?_) (fun c148 => ?_)
    · have h := jb_t c148 h
      refine lv_iload (pc := 156) hx hb d92_156 (lv_at hl 7 rfl) ?_
      exact kc158 _ hK66  st x1 x2 x3 x4 x5 x6 x8 x7 ax1 _ _ _ hW hS fax1 (lv_sub hl [0, 1, 2, 3, 4, 5, 6, 8] rfl) h
    · have h := jb_f c148 h
      refine lv_iload (pc := 151) hx hb d92_151 (lv_at hl 8 rfl) ?_
      refine lv_goto (pc := 153) (tgt := 158) hx hb d92_153 (by decide) ?_
      exact kc158 _ hK66  st x1 x2 x3 x4 x5 x6 x8 x8 ax1 _ _ _ hW hS fax1 (lv_sub hl [0, 1, 2, 3, 4, 5, 6, 8] rfl) h
  have kc131 : ∀ (K66 : CS → VV → Int32 → Int32 → Int32 → Int32 → Int32 → Int32 → Int32 → Option (Int32 × CS)) (hK66 : ∀ (st : CS) (x1 : VV) (x2 : Int32) (x3 : Int32) (x4 : Int32) (x5 : Int32) (x6 : Int32) (x7 : Int32) (x8 : Int32) (ax1 : Nat) (H : Heap) (locs : List Loc) (ls : Array Slot), CW ρ P ad st H → va_S (MA wC ad s.heap.size) s.heap H locs → isV ρ P H ax1 x1 → lv_has ls 11 [(0, .ref (ad 4)), (1, .ref ax1), (2, .int x2), (3, .int x3), (4, .int x4), (5, .int x5), (6, .int x6), (7, .int x7), (8, .int x8)] → K66 st x1 x2 x3 x4 x5 x6 x7 x8 = some res → W p l e ({ frames := 14, cells := 0, slots := 0, locals := 647 } : Room) s m args below meth c H locs 0 0 (MQ below (mQ (fun v H1 => v = some (.int res.1) ∧ CW ρ P ad res.2 H1) (MA wC ad s.heap.size)) args s 0 0 (MA wC ad s.heap.size)) (F0 m 66 ls [])), ∀ (st : CS) (x1 : VV) (x2 : Int32) (x3 : Int32) (x4 : Int32) (x5 : Int32) (x6 : Int32) (x7 : Int32) (x8 : Int32) (z0 : Int32) (ax1 : Nat) (H : Heap) (locs : List Loc) (ls : Array Slot), CW ρ P ad st H → va_S (MA wC ad s.heap.size) s.heap H locs → isV ρ P H ax1 x1 → lv_has ls 11 [(0, .ref (ad 4)), (1, .ref ax1), (2, .int x2), (3, .int x3), (4, .int x4), (5, .int x5), (6, .int x6), (7, .int x7), (8, .int x8)] → lu_find_131 K66 st x1 x2 x3 x4 x5 x6 x7 x8 z0 = some res → W p l e ({ frames := 14, cells := 0, slots := 0, locals := 647 } : Room) s m args below meth c H locs 0 0 (MQ below (mQ (fun v H1 => v = some (.int res.1) ∧ CW ρ P ad res.2 H1) (MA wC ad s.heap.size)) args s 0 0 (MA wC ad s.heap.size)) (F0 m 131 ls [.int z0]) := by
    intro K66 hK66
    intro st x1 x2 x3 x4 x5 x6 x7 x8 z0 ax1 H locs ls hW hS fax1 hl h
    have hSz := hS.1
    unfold lu_find_131 at h
    refine lv_istore (pc := 131) (lv' := [(10, .int z0), (0, .ref (ad 4)), (1, .ref ax1), (2, .int x2), (3, .int x3), (4, .int x4), (5, .int x5), (6, .int x6), (7, .int x7), (8, .int x8)]) hx hb d92_131 hl (by decide) rfl (fun ls hl => ?_)
    refine lv_iload (pc := 133) hx hb d92_133 (lv_at hl 0 rfl) ?_
    refine lv_if_eq (pc := 135) (tgt := 146) hx hb d92_135 (by decide) (fun c135 => ?_) (fun c135 => ?_)
    · have h := jb_t c135 h
      exact kc146 _ hK66  st x1 x2 x3 x4 x5 x6 x7 x8 z0 ax1 _ _ _ hW hS fax1 (lv_sub hl [1, 2, 3, 4, 5, 6, 7, 8, 9, 0] rfl) h
    · have h := jb_f c135 h
      refine lv_iload (pc := 138) hx hb d92_138 (lv_at hl 6 rfl) ?_
      refine lv_if_ne (pc := 140) (tgt := 146) hx hb d92_140 (by decide) (fun c140 => ?_) (fun c140 => ?_)
      · have h := jb_f c140 h
        exact kc146 _ hK66  st x1 x2 x3 x4 x5 x6 x7 x8 z0 ax1 _ _ _ hW hS fax1 (lv_sub hl [1, 2, 3, 4, 5, 6, 7, 8, 9, 0] rfl) h
      · have h := jb_t c140 h
        refine lv_iload (pc := 143) hx hb d92_143 (lv_at hl 9 rfl) ?_
        obtain rfl := Option.some.inj h
        exact m_iret (pc := 145) hx hb hr hlk hS ⟨rfl, hW⟩ (Nat.le_refl _) (Nat.le_refl _) d92_145
  have kc66 : ∀ (fu : Nat), ∀ (st : CS) (x1 : VV) (x2 : Int32) (x3 : Int32) (x4 : Int32) (x5 : Int32) (x6 : Int32) (x7 : Int32) (x8 : Int32) (ax1 : Nat) (H : Heap) (locs : List Loc) (ls : Array Slot), CW ρ P ad st H → va_S (MA wC ad s.heap.size) s.heap H locs → isV ρ P H ax1 x1 → lv_has ls 11 [(0, .ref (ad 4)), (1, .ref ax1), (2, .int x2), (3, .int x3), (4, .int x4), (5, .int x5), (6, .int x6), (7, .int x7), (8, .int x8)] → lu_find_66 fu st x1 x2 x3 x4 x5 x6 x7 x8 = some res → W p l e ({ frames := 14, cells := 0, slots := 0, locals := 647 } : Room) s m args below meth c H locs 0 0 (MQ below (mQ (fun v H1 => v = some (.int res.1) ∧ CW ρ P ad res.2 H1) (MA wC ad s.heap.size)) args s 0 0 (MA wC ad s.heap.size)) (F0 m 66 ls []) := by
    intro  fu
    induction fu with
    | zero => intro st x1 x2 x3 x4 x5 x6 x7 x8 ax1 H locs ls hW hS fax1 hl h; cases h
    | succ fu hK66 =>
      intro st x1 x2 x3 x4 x5 x6 x7 x8 ax1 H locs ls hW hS fax1 hl h
      have hSz := hS.1
      unfold lu_find_66 at h
      refine lv_iload (pc := 66) hx hb d92_66 (lv_at hl 8 rfl) ?_
      refine lv_iload (pc := 68) hx hb d92_68 (lv_at hl 4 rfl) ?_
      refine lv_icmp_ge (pc := 70) (tgt := 166) hx hb d92_70 (by decide) (fun c70 => ?_) (fun c70 => ?_)
      · have h := jb_t c70 h
        refine lv_iload (pc := 166) hx hb d92_166 (lv_at hl 7 rfl) ?_
        obtain rfl := Option.some.inj h
        exact m_iret (pc := 168) hx hb hr hlk hS ⟨rfl, hW⟩ (Nat.le_refl _) (Nat.le_refl _) d92_168
      · have h := jb_f c70 h
        refine lv_aload_n (pc := 73) hx hb d92_73 rfl (lv_at hl 0 rfl) ?_
        refine c_getK (pc := 74) X hW 4 0 6 1 (C := "WordFunctions$LookUps") (T := T6) (N := 2) (by decide) rfl rfl rfl rfl tin6 rfl wd209 rfl rfl d92_74 ?_
        refine lv_iload_n (pc := 77) hx hb d92_77 rfl (lv_at hl 2 rfl) ?_
        refine lv_iload (pc := 78) hx hb d92_78 (lv_at hl 8 rfl) ?_
        refine lv_iload_n (pc := 80) hx hb d92_80 rfl (lv_at hl 3 rfl) ?_
        refine lv_imul (pc := 81) hx hb d92_81 ?_
        obtain ⟨q2, hq2, h⟩ := jc_some h
        refine k_callV (pc := 82) (n := 2) X hS (c_ar_nth l ρ ad _ P st x2 (x8 * x3) q2 hW  hq2) wd770 wd1118 wd768 wd769 wd3 (by decide) ⟨rfl, rfl, Nat.le_of_ble_eq_true rfl, Nat.le_of_ble_eq_true rfl⟩ (c_recv X hW 1 3 (by decide) rfl rfl) (As := [.int x2, .int (x8 * x3)]) (rest := []) rfl rfl hl.1 (Nat.le_of_ble_eq_true rfl) d92_82 ⟨Nat.le_refl _, Nat.le_refl _⟩ (fun q hq => False.elim hq) (fun v H1 locs1 hv _ _ hSq2 => ?_)
        obtain ⟨u3, rfl, fu3, rfl⟩ := hv
        have hS := hSq2
        have hSz := hS.1
        refine lv_astore (pc := 85) (lv' := [(9, .ref u3), (0, .ref (ad 4)), (1, .ref ax1), (2, .int x2), (3, .int x3), (4, .int x4), (5, .int x5), (6, .int x6), (7, .int x7), (8, .int x8)]) hx hb d92_85 hl (by decide) rfl (fun ls hl => ?_)
        refine lv_aload (pc := 87) hx hb d92_87 (lv_at hl 0 rfl) ?_
        refine v_kind (pc := 89) X fu3 wd77 d92_89 ?_
        refine lv_aload_n (pc := 92) hx hb d92_92 rfl (lv_at hl 2 rfl) ?_
        refine v_kind (pc := 93) X fax1 wd77 d92_93 ?_
        refine lv_icmp_ne (pc := 96) (tgt := 160) hx hb d92_96 (by decide) (fun c96 => ?_) (fun c96 => ?_)
        · have h := jb_f c96 h
          exact kc160 _ hK66  st x1 x2 x3 x4 x5 x6 x7 x8 ax1 _ _ _ hW hS fax1 (lv_sub hl [1, 2, 3, 4, 5, 6, 7, 8, 9] rfl) h
        · have h := jb_t c96 h
          refine lv_iload (pc := 99) hx hb d92_99 (lv_at hl 7 rfl) ?_
          refine lv_if_eq (pc := 101) (tgt := 120) hx hb d92_101 (by decide) (fun c101 => ?_) (fun c101 => ?_)
          · have h := jb_t c101 h
            refine lv_aload (pc := 120) hx hb d92_120 (lv_at hl 0 rfl) ?_
            refine lv_aload_n (pc := 122) hx hb d92_122 rfl (lv_at hl 2 rfl) ?_
            obtain ⟨q4, hq4, h⟩ := jc_some h
            refine k_callS (pc := 123) (n := 2) X hS (c_lu_order l ρ _ P u3 q2 ax1 x1 q4 hW.2.2.1 hW.2.1 fu3 fax1 hq4) wd1135 wd1133 wd1134 wd8 (by decide) ⟨rfl, rfl, Nat.le_of_ble_eq_true rfl, Nat.le_of_ble_eq_true rfl⟩ (As := [.ref u3, .ref ax1]) (rest := []) rfl rfl hl.1 (Nat.le_of_ble_eq_true rfl) d92_123 ⟨Nat.le_refl _, Nat.le_refl _⟩ (fun q hq => False.elim hq) (fun v H1 locs1 hv _ _ hSq4 => ?_)
            obtain ⟨rfl, rfl⟩ := hv
            have hS := hSq4
            have hSz := hS.1
            refine lv_iload (pc := 126) hx hb d92_126 (lv_at hl 6 rfl) ?_
            obtain ⟨q5, hq5, h⟩ := jc_some h
            refine k_callS (pc := 128) (n := 2) X hS (c_lu_fits l ρ _ P q4 x5 q5 hW.2.2.1 hW.2.1  hq5) wd1142 wd1140 wd1141 wd8 (by decide) ⟨rfl, rfl, Nat.le_of_ble_eq_true rfl, Nat.le_of_ble_eq_true rfl⟩ (As := [.int q4, .int x5]) (rest := []) rfl rfl hl.1 (Nat.le_of_ble_eq_true rfl) d92_128 ⟨Nat.le_refl _, Nat.le_refl _⟩ (fun q hq => False.elim hq) (fun v H1 locs1 hv _ _ hSq5 => ?_)
            obtain ⟨rfl, rfl⟩ := hv
            have hS := hSq5
            have hSz := hS.1
            exact kc131 _ hK66  st x1 x2 x3 x4 x5 x6 x7 x8 q5 ax1 _ _ _ hW hS fax1 (lv_sub hl [1, 2, 3, 4, 5, 6, 7, 8, 9] rfl) h
          · have h := jb_f c101 h
            refine lv_aload_n (pc := 104) hx hb d92_104 rfl (lv_at hl 1 rfl) ?_
            refine c_getK (pc := 105) X hW 4 1 6 7 (C := "WordFunctions$LookUps") (T := T6) (N := 2) (by decide) rfl rfl rfl rfl tin6 rfl wd210 rfl rfl d92_105 ?_
            refine lv_aload (pc := 108) hx hb d92_108 (lv_at hl 0 rfl) ?_
            refine v_text (pc := 110) X fu3 wd88 d92_110 (fun u6 fu6 => ?_)
            refine lv_iconst (pc := 113) (v := 1) hx hb d92_113 (by decide) ?_
            obtain ⟨q7, hq7, h⟩ := jc_some h
            refine k_callV (pc := 114) (n := 2) X hS (c_pa_matches l ρ ad _ P st u6 q2.2.2 1 q7 hW fu6 hq7) wd993 wd1132 wd991 wd992 wd2 (by decide) ⟨rfl, rfl, Nat.le_of_ble_eq_true rfl, Nat.le_of_ble_eq_true rfl⟩ (c_recv X hW 7 0 (by decide) rfl rfl) (As := [.ref u6, .int 1]) (rest := []) rfl rfl hl.1 (Nat.le_of_ble_eq_true rfl) d92_114 ⟨Nat.le_refl _, Nat.le_refl _⟩ (fun q hq => MA.mono hS.1 hq) (fun v H1 locs1 hv hz1 hz2 hSq7 => ?_)
            have hPq := hW.1
            obtain ⟨rfl, hW⟩ := hv
            have hk : kp (Pm ad) _ H1 := kp_call hz1 hz2 (MA_Pm rfl)
            have fax1 := fax1.keep hk (Pm_P hPq)
            have hS := hSq7
            have hSz := hS.1
            refine lv_goto (pc := 117) (tgt := 131) hx hb d92_117 (by decide) ?_
            exact kc131 _ hK66  q7.2 x1 x2 x3 x4 x5 x6 x7 x8 q7.1 ax1 _ _ _ hW hS fax1 (lv_sub hl [1, 2, 3, 4, 5, 6, 7, 8, 9] rfl) h
  have kc60 : ∀ (st : CS) (x1 : VV) (x2 : Int32) (x3 : Int32) (x4 : Int32) (x5 : Int32) (x6 : Int32) (ax1 : Nat) (H : Heap) (locs : List Loc) (ls : Array Slot), CW ρ P ad st H → va_S (MA wC ad s.heap.size) s.heap H locs → isV ρ P H ax1 x1 → lv_has ls 11 [(0, .ref (ad 4)), (1, .ref ax1), (2, .int x2), (3, .int x3), (4, .int x4), (5, .int x5), (6, .int x6)] → lu_find_60 st x1 x2 x3 x4 x5 x6 = some res → W p l e ({ frames := 14, cells := 0, slots := 0, locals := 647 } : Room) s m args below meth c H locs 0 0 (MQ below (mQ (fun v H1 => v = some (.int res.1) ∧ CW ρ P ad res.2 H1) (MA wC ad s.heap.size)) args s 0 0 (MA wC ad s.heap.size)) (F0 m 60 ls []) := by
    intro st x1 x2 x3 x4 x5 x6 ax1 H locs ls hW hS fax1 hl h
    have hSz := hS.1
    unfold lu_find_60 at h
    refine lv_iconst (pc := 60) (v := (-1)) hx hb d92_60 (by decide) ?_
    refine lv_istore (pc := 61) (lv' := [(7, .int (-1)), (0, .ref (ad 4)), (1, .ref ax1), (2, .int x2), (3, .int x3), (4, .int x4), (5, .int x5), (6, .int x6)]) hx hb d92_61 hl (by decide) rfl (fun ls hl => ?_)
    refine lv_iconst (pc := 63) (v := 0) hx hb d92_63 (by decide) ?_
    refine lv_istore (pc := 64) (lv' := [(8, .int 0), (7, .int (-1)), (0, .ref (ad 4)), (1, .ref ax1), (2, .int x2), (3, .int x3), (4, .int x4), (5, .int x5), (6, .int x6)]) hx hb d92_64 hl (by decide) rfl (fun ls hl => ?_)
    exact kc66  FU st x1 x2 x3 x4 x5 x6 (-1) 0 ax1 _ _ _ hW hS fax1 (lv_sub hl [2, 3, 4, 5, 6, 7, 8, 1, 0] rfl) h
  have kc42 : ∀ (st : CS) (x1 : VV) (x2 : Int32) (x3 : Int32) (x4 : Int32) (x5 : Int32) (z0 : Int32) (ax1 : Nat) (H : Heap) (locs : List Loc) (ls : Array Slot), CW ρ P ad st H → va_S (MA wC ad s.heap.size) s.heap H locs → isV ρ P H ax1 x1 → lv_has ls 11 [(0, .ref (ad 4)), (1, .ref ax1), (2, .int x2), (3, .int x3), (4, .int x4), (5, .int x5)] → lu_find_42 st x1 x2 x3 x4 x5 z0 = some res → W p l e ({ frames := 14, cells := 0, slots := 0, locals := 647 } : Room) s m args below meth c H locs 0 0 (MQ below (mQ (fun v H1 => v = some (.int res.1) ∧ CW ρ P ad res.2 H1) (MA wC ad s.heap.size)) args s 0 0 (MA wC ad s.heap.size)) (F0 m 42 ls [.int z0]) := by
    intro st x1 x2 x3 x4 x5 z0 ax1 H locs ls hW hS fax1 hl h
    have hSz := hS.1
    unfold lu_find_42 at h
    refine lv_istore (pc := 42) (lv' := [(6, .int z0), (0, .ref (ad 4)), (1, .ref ax1), (2, .int x2), (3, .int x3), (4, .int x4), (5, .int x5)]) hx hb d92_42 hl (by decide) rfl (fun ls hl => ?_)
    refine lv_iload (pc := 44) hx hb d92_44 (lv_at hl 0 rfl) ?_
    refine lv_if_eq (pc := 46) (tgt := 60) hx hb d92_46 (by decide) (fun c46 => ?_) (fun c46 => ?_)
    · have h := jb_t c46 h
      exact kc60   st x1 x2 x3 x4 x5 z0 ax1 _ _ _ hW hS fax1 (lv_sub hl [1, 2, 3, 4, 5, 6, 0] rfl) h
    · have h := jb_f c46 h
      refine lv_aload_n (pc := 49) hx hb d92_49 rfl (lv_at hl 1 rfl) ?_
      refine c_getK (pc := 50) X hW 4 1 6 7 (C := "WordFunctions$LookUps") (T := T6) (N := 2) (by decide) rfl rfl rfl rfl tin6 rfl wd210 rfl rfl d92_50 ?_
      refine lv_aload_n (pc := 53) hx hb d92_53 rfl (lv_at hl 2 rfl) ?_
      refine v_text (pc := 54) X fax1 wd88 d92_54 (fun u8 fu8 => ?_)
      obtain ⟨q9, hq9, h⟩ := jc_some h
      refine k_callV (pc := 57) (n := 1) X hS (c_pa_read l ρ ad _ P st u8 x1.2.2 q9 hW fu8 hq9) wd977 wd1131 wd975 wd976 wd2 (by decide) ⟨rfl, rfl, Nat.le_of_ble_eq_true rfl, Nat.le_of_ble_eq_true rfl⟩ (c_recv X hW 7 0 (by decide) rfl rfl) (As := [.ref u8]) (rest := []) rfl rfl hl.1 (Nat.le_of_ble_eq_true rfl) d92_57 ⟨Nat.le_refl _, Nat.le_refl _⟩ (fun q hq => MA.mono hS.1 hq) (fun v H1 locs1 hv hz1 hz2 hSq9 => ?_)
      have hPq := hW.1
      obtain ⟨rfl, hW⟩ := hv
      have hk : kp (Pm ad) _ H1 := kp_call hz1 hz2 (MA_Pm rfl)
      have fax1 := fax1.keep hk (Pm_P hPq)
      have hS := hSq9
      have hSz := hS.1
      exact kc60   q9 x1 x2 x3 x4 x5 z0 ax1 _ _ _ hW hS fax1 (lv_sub hl [1, 2, 3, 4, 5, 6, 0] rfl) h
  have kc41 : ∀ (st : CS) (x1 : VV) (x2 : Int32) (x3 : Int32) (x4 : Int32) (x5 : Int32) (ax1 : Nat) (H : Heap) (locs : List Loc) (ls : Array Slot), CW ρ P ad st H → va_S (MA wC ad s.heap.size) s.heap H locs → isV ρ P H ax1 x1 → lv_has ls 11 [(0, .ref (ad 4)), (1, .ref ax1), (2, .int x2), (3, .int x3), (4, .int x4), (5, .int x5)] → lu_find_41 st x1 x2 x3 x4 x5 = some res → W p l e ({ frames := 14, cells := 0, slots := 0, locals := 647 } : Room) s m args below meth c H locs 0 0 (MQ below (mQ (fun v H1 => v = some (.int res.1) ∧ CW ρ P ad res.2 H1) (MA wC ad s.heap.size)) args s 0 0 (MA wC ad s.heap.size)) (F0 m 41 ls []) := by
    intro st x1 x2 x3 x4 x5 ax1 H locs ls hW hS fax1 hl h
    have hSz := hS.1
    unfold lu_find_41 at h
    refine lv_iconst (pc := 41) (v := 0) hx hb d92_41 (by decide) ?_
    exact kc42   st x1 x2 x3 x4 x5 0 ax1 _ _ _ hW hS fax1 (lv_sub hl [0, 1, 2, 3, 4, 5] rfl) h
  have kc37 : ∀ (st : CS) (x1 : VV) (x2 : Int32) (x3 : Int32) (x4 : Int32) (x5 : Int32) (ax1 : Nat) (H : Heap) (locs : List Loc) (ls : Array Slot), CW ρ P ad st H → va_S (MA wC ad s.heap.size) s.heap H locs → isV ρ P H ax1 x1 → lv_has ls 11 [(0, .ref (ad 4)), (1, .ref ax1), (2, .int x2), (3, .int x3), (4, .int x4), (5, .int x5)] → lu_find_37 st x1 x2 x3 x4 x5 = some res → W p l e ({ frames := 14, cells := 0, slots := 0, locals := 647 } : Room) s m args below meth c H locs 0 0 (MQ below (mQ (fun v H1 => v = some (.int res.1) ∧ CW ρ P ad res.2 H1) (MA wC ad s.heap.size)) args s 0 0 (MA wC ad s.heap.size)) (F0 m 37 ls []) := by
    intro st x1 x2 x3 x4 x5 ax1 H locs ls hW hS fax1 hl h
    have hSz := hS.1
    unfold lu_find_37 at h
    refine lv_iconst (pc := 37) (v := 1) hx hb d92_37 (by decide) ?_
    refine lv_goto (pc := 38) (tgt := 42) hx hb d92_38 (by decide) ?_
    exact kc42   st x1 x2 x3 x4 x5 1 ax1 _ _ _ hW hS fax1 (lv_sub hl [0, 1, 2, 3, 4, 5] rfl) h
  unfold f_lu_find at h
  refine lv_iload (pc := 0) hx hb d92_0 (lv_at hl 5 rfl) ?_
  refine lv_if_ne (pc := 2) (tgt := 41) hx hb d92_2 (by decide) (fun c2 => ?_) (fun c2 => ?_)
  · have h := jb_f c2 h
    exact kc41   st p0 p1 p2 p3 p4 ap0 _ _ _ hW hS fap0 (lv_sub hl [0, 1, 2, 3, 4, 5] rfl) h
  · have h := jb_t c2 h
    refine lv_aload_n (pc := 5) hx hb d92_5 rfl (lv_at hl 1 rfl) ?_
    refine v_kind (pc := 6) X fap0 wd77 d92_6 ?_
    refine lv_iconst (pc := 9) (v := 2) hx hb d92_9 (by decide) ?_
    refine lv_icmp_ne (pc := 10) (tgt := 41) hx hb d92_10 (by decide) (fun c10 => ?_) (fun c10 => ?_)
    · have h := jb_f c10 h
      exact kc41   st p0 p1 p2 p3 p4 ap0 _ _ _ hW hS fap0 (lv_sub hl [0, 1, 2, 3, 4, 5] rfl) h
    · have h := jb_t c10 h
      refine lv_aload_n (pc := 13) hx hb d92_13 rfl (lv_at hl 1 rfl) ?_
      refine v_text (pc := 14) X fap0 wd88 d92_14 (fun u10 fu10 => ?_)
      refine lv_bipush (pc := 17) (v := 63) hx hb d92_17 (by decide) ?_
      obtain ⟨q11, hq11, h⟩ := jc_some h
      refine k_callV (pc := 19) (n := 1) X hS (c_js_indexOf l ρ _ P u10 p0.2.2 63 q11 hW.2.2.1 hW.2.1 fu10 hq11) wd787 wd1130 wd785 wd786 wd14 (by decide) ⟨rfl, rfl, Nat.le_of_ble_eq_true rfl, Nat.le_of_ble_eq_true rfl⟩ (s_recv X fu10) (As := [.int 63]) (rest := []) rfl rfl hl.1 (Nat.le_of_ble_eq_true rfl) d92_19 ⟨Nat.le_refl _, Nat.le_refl _⟩ (fun q hq => False.elim hq) (fun v H1 locs1 hv _ _ hSq11 => ?_)
      obtain ⟨rfl, rfl⟩ := hv
      have hS := hSq11
      have hSz := hS.1
      refine lv_if_ge (pc := 22) (tgt := 37) hx hb d92_22 (by decide) (fun c22 => ?_) (fun c22 => ?_)
      · have h := jb_t c22 h
        exact kc37   st p0 p1 p2 p3 p4 ap0 _ _ _ hW hS fap0 (lv_sub hl [0, 1, 2, 3, 4, 5] rfl) h
      · have h := jb_f c22 h
        refine lv_aload_n (pc := 25) hx hb d92_25 rfl (lv_at hl 1 rfl) ?_
        refine v_text (pc := 26) X fap0 wd88 d92_26 (fun u12 fu12 => ?_)
        refine lv_bipush (pc := 29) (v := 42) hx hb d92_29 (by decide) ?_
        obtain ⟨q13, hq13, h⟩ := jc_some h
        refine k_callV (pc := 31) (n := 1) X hS (c_js_indexOf l ρ _ P u12 p0.2.2 42 q13 hW.2.2.1 hW.2.1 fu12 hq13) wd787 wd1130 wd785 wd786 wd14 (by decide) ⟨rfl, rfl, Nat.le_of_ble_eq_true rfl, Nat.le_of_ble_eq_true rfl⟩ (s_recv X fu12) (As := [.int 42]) (rest := []) rfl rfl hl.1 (Nat.le_of_ble_eq_true rfl) d92_31 ⟨Nat.le_refl _, Nat.le_refl _⟩ (fun q hq => False.elim hq) (fun v H1 locs1 hv _ _ hSq13 => ?_)
        obtain ⟨rfl, rfl⟩ := hv
        have hS := hSq13
        have hSz := hS.1
        refine lv_if_lt (pc := 34) (tgt := 41) hx hb d92_34 (by decide) (fun c34 => ?_) (fun c34 => ?_)
        · have h := jb_t c34 h
          exact kc41   st p0 p1 p2 p3 p4 ap0 _ _ _ hW hS fap0 (lv_sub hl [0, 1, 2, 3, 4, 5] rfl) h
        · have h := jb_f c34 h
          exact kc37   st p0 p1 p2 p3 p4 ap0 _ _ _ hW hS fap0 (lv_sub hl [0, 1, 2, 3, 4, 5] rfl) h
def lu_sought_30  (st : CS) (x1 : VV) : Option ((VV × CS) × Nat × Nat) := jb (x1.1 = 0) (jd (f_vl_ofNumber FP.dconst0) (fun q1 => some ((q1, st), 0, 0))) (some ((x1, st), 0, 0))
def f_lu_sought (st : CS) : Option ((VV × CS) × Nat × Nat) := jc (f_ar_nth st 0 0) (fun q3 => jb (q3.1 = 4) (jc (f_ar_fail st (FP.d2i q3.2.1)) (fun q5 => lu_sought_30 q5 q3)) (lu_sought_30 st q3))
set_option maxHeartbeats 4000000 in
set_option maxRecDepth 100000 in
theorem c_lu_sought (l : Launch) (ρ : RH) (ad : Nat → Nat) (H : Heap) (P : Nat → Prop) (st : CS) (res : (VV × CS) × Nat × Nat) (hW : CW ρ P ad st H) (h : f_lu_sought st = some res) : Met l y100 (wsOf y100 b100 2 (some (.object "WordFunctions$Value"))) ({ frames := 13, cells := res.2.1, slots := res.2.2, locals := 621 } : Room) (va_Pc [.ref (ad 4)] (KP ρ H)) (mQ (fun v H1 => ∃ x : Nat, v = some (.ref x) ∧ isV ρ P H1 x res.1.1 ∧ CW ρ P ad res.1.2 H1) (MA wC ad H.size)) res.2.1 res.2.2 (MA wC ad H.size) := by
  refine m_ofW (own := "WordFunctions$LookUps") (plainFor_of_name rfl) rfl (Nat.le_of_ble_eq_true rfl) fun p e s m args below meth c ls hx hb hr hlk _ X hs hl => ?_
  subst hs
  have hS : va_S (MA wC ad s.heap.size) s.heap s.heap [] := va_S.rf
  have hSz := hS.1
  have hAz : ∀ q, s.heap.size ≤ q → (MA wC ad s.heap.size) q := fun q hq => Or.inr hq
  have hAp : ∀ i, i < 46 → (MA wC ad s.heap.size) (ad i) := fun i hi => MA.in hi
  have hPp : ∀ i, i < 46 → P (ad i) := hW.1
  have hl : lv_has ls 2 [(0, .ref (ad 4))] := hl
  have kc30 : ∀ (st : CS) (x1 : VV) (ax1 : Nat) (H : Heap) (locs : List Loc) (ls : Array Slot) (cells slots : Nat) (r : (VV × CS) × Nat × Nat), CW ρ P ad st H → va_S (MA wC ad s.heap.size) s.heap H locs → isV ρ P H ax1 x1 → lv_has ls 2 [(1, .ref ax1)] → res.1 = r.1 → cells + r.2.1 ≤ res.2.1 → slots + r.2.2 ≤ res.2.2 → lu_sought_30 st x1 = some r → W p l e ({ frames := 13, cells := res.2.1, slots := res.2.2, locals := 621 } : Room) s m args below meth c H locs cells slots (MQ below (mQ (fun v H1 => ∃ x : Nat, v = some (.ref x) ∧ isV ρ P H1 x res.1.1 ∧ CW ρ P ad res.1.2 H1) (MA wC ad s.heap.size)) args s res.2.1 res.2.2 (MA wC ad s.heap.size)) (F0 m 30 ls []) := by
    intro st x1 ax1 H locs ls cells slots r hW hS fax1 hl her hc1 hs1 h
    have hSz := hS.1
    unfold lu_sought_30 at h
    refine lv_aload_n (pc := 30) hx hb d100_30 rfl (lv_at hl 0 rfl) ?_
    refine v_kind (pc := 31) X fax1 wd77 d100_31 ?_
    refine lv_if_ne (pc := 34) (tgt := 44) hx hb d100_34 (by decide) (fun c34 => ?_) (fun c34 => ?_)
    · have h := jb_f c34 h
      refine lv_aload_n (pc := 44) hx hb d100_44 rfl (lv_at hl 0 rfl) ?_
      have her : res.1 = (x1, st) := her.trans (congrArg Prod.fst (Option.some.inj h)).symm
      exact m_aret (pc := 45) hx hb hr (Or.inl ⟨_, rfl⟩) hlk hS ⟨ax1, rfl, by rw [her]; exact fax1, by rw [her]; exact hW⟩ (Nat.le_trans (Nat.le_add_right _ _) hc1) (Nat.le_trans (Nat.le_add_right _ _) hs1) d100_45
    · have h := jb_t c34 h
      refine lv_dconst0 (pc := 37) hx hb d100_37 ?_
      obtain ⟨q1, rq1, hq1, h, herq1, hccq1, hssq1⟩ := jd_some h
      refine k_callS (pc := 38) (n := 1) X hS (c_vl_ofNumber l ρ _ P FP.dconst0 q1 hW.2.2.1 hW.2.1  hq1) wd642 wd1120 wd641 wd4 (by decide) ⟨rfl, rfl, Nat.le_of_ble_eq_true rfl, Nat.le_of_ble_eq_true rfl⟩ (As := [.double FP.dconst0]) (rest := []) rfl rfl hl.1 (Nat.le_of_ble_eq_true rfl) d100_38 ⟨room_le hccq1 hc1, room_le hssq1 hs1⟩ (fun q hq => hAz q (Nat.le_trans hS.1 hq)) (fun v H1 locs1 hv hz1 hz2 hSq1 => ?_)
      obtain ⟨u2, rfl, fu2⟩ := hv
      have hk : kp no _ H1 := kp_call hz1 hz2 (fun q hq z => absurd hq (Nat.not_lt.mpr z))
      have hW := hW.keep hk no_hz (fun _ _ z => z)
      have hS := hSq1
      have hSz := hS.1
      have her := her.trans herq1
      have hc1 := room_st hccq1 hc1
      have hs1 := room_st hssq1 hs1
      refine lv_goto (pc := 41) (tgt := 45) hx hb d100_41 (by decide) ?_
      have her : res.1 = (q1.1, st) := her.trans (congrArg Prod.fst (Option.some.inj h)).symm
      exact m_aret (pc := 45) hx hb hr (Or.inl ⟨_, rfl⟩) hlk hS ⟨u2, rfl, by rw [her]; exact fu2, by rw [her]; exact hW⟩ (Nat.le_trans (Nat.le_add_right _ _) hc1) (Nat.le_trans (Nat.le_add_right _ _) hs1) d100_45
  have her : res.1 = res.1 := rfl
  have hc1 : 0 + res.2.1 ≤ res.2.1 := Nat.le_of_eq (Nat.zero_add _)
  have hs1 : 0 + res.2.2 ≤ res.2.2 := Nat.le_of_eq (Nat.zero_add _)
  unfold f_lu_sought at h
  refine lv_aload_n (pc := 0) hx hb d100_0 rfl (lv_at hl 0 rfl) ?_
  refine c_getK (pc := 1) X hW 4 0 6 1 (C := "WordFunctions$LookUps") (T := T6) (N := 2) (by decide) rfl rfl rfl rfl tin6 rfl wd209 rfl rfl d100_1 ?_
  refine lv_iconst (pc := 4) (v := 0) hx hb d100_4 (by decide) ?_
  refine lv_iconst (pc := 5) (v := 0) hx hb d100_5 (by decide) ?_
  obtain ⟨q3, hq3, h⟩ := jc_some h
  refine k_callV (pc := 6) (n := 2) X hS (c_ar_nth l ρ ad _ P st 0 0 q3 hW  hq3) wd770 wd1118 wd768 wd769 wd3 (by decide) ⟨rfl, rfl, Nat.le_of_ble_eq_true rfl, Nat.le_of_ble_eq_true rfl⟩ (c_recv X hW 1 3 (by decide) rfl rfl) (As := [.int 0, .int 0]) (rest := []) rfl rfl hl.1 (Nat.le_of_ble_eq_true rfl) d100_6 ⟨room_l0 hc1, room_l0 hs1⟩ (fun q hq => False.elim hq) (fun v H1 locs1 hv _ _ hSq3 => ?_)
  obtain ⟨u4, rfl, fu4, rfl⟩ := hv
  have hS := hSq3
  have hSz := hS.1
  refine lv_astore_n (pc := 9) (lv' := [(1, .ref u4), (0, .ref (ad 4))]) hx hb d100_9 rfl hl (by decide) rfl (fun ls hl => ?_)
  refine lv_aload_n (pc := 10) hx hb d100_10 rfl (lv_at hl 0 rfl) ?_
  refine v_kind (pc := 11) X fu4 wd77 d100_11 ?_
  refine lv_iconst (pc := 14) (v := 4) hx hb d100_14 (by decide) ?_
  refine lv_icmp_ne (pc := 15) (tgt := 30) hx hb d100_15 (by decide) (fun c15 => ?_) (fun c15 => ?_)
  · have h := jb_f c15 h
    exact kc30   st q3 u4 _ _ _ _ _ _ hW hS fu4 (lv_sub hl [0] rfl) her hc1 hs1 h
  · have h := jb_t c15 h
    refine lv_aload_n (pc := 18) hx hb d100_18 rfl (lv_at hl 1 rfl) ?_
    refine c_getK (pc := 19) X hW 4 0 6 1 (C := "WordFunctions$LookUps") (T := T6) (N := 2) (by decide) rfl rfl rfl rfl tin6 rfl wd209 rfl rfl d100_19 ?_
    refine lv_aload_n (pc := 22) hx hb d100_22 rfl (lv_at hl 0 rfl) ?_
    refine v_number (pc := 23) X fu4 wd83 d100_23 ?_
    refine lv_d2i (pc := 26) hx hb d100_26 ?_
    obtain ⟨q5, hq5, h⟩ := jc_some h
    refine k_callV (pc := 27) (n := 1) X hS (c_ar_fail l ρ ad _ P st (FP.d2i q3.2.1) q5 hW  hq5) wd774 wd1119 wd772 wd773 wd3 (by decide) ⟨rfl, rfl, Nat.le_of_ble_eq_true rfl, Nat.le_of_ble_eq_true rfl⟩ (c_recv X hW 1 3 (by decide) rfl rfl) (As := [.int (FP.d2i q3.2.1)]) (rest := []) rfl rfl hl.1 (Nat.le_of_ble_eq_true rfl) d100_27 ⟨room_l0 hc1, room_l0 hs1⟩ (fun q hq => MA.mono hS.1 hq) (fun v H1 locs1 hv hz1 hz2 hSq5 => ?_)
    have hPq := hW.1
    obtain ⟨rfl, hW⟩ := hv
    have hk : kp (Pm ad) _ H1 := kp_call hz1 hz2 (MA_Pm rfl)
    have fu4 := fu4.keep hk (Pm_P hPq)
    have hS := hSq5
    have hSz := hS.1
    exact kc30   q5 q3 u4 _ _ _ _ _ _ hW hS fu4 (lv_sub hl [0] rfl) her hc1 hs1 h
def lu_inTable_113  (st : CS) (x1 : Int32) (x3 : Int32) (z0 : Int32) : Option ((VV × CS) × Nat × Nat) := jb (z0 = (-1)) (jd (f_vl_ofError 7) (fun q5 => some ((q5, st), 0, 0))) (jb (x1 = 0) (jc (f_ar_at st 1 (x3 - 1) z0) (fun q1 => some ((q1, st), 0, 0))) (jc (f_ar_at st 1 z0 (x3 - 1)) (fun q3 => some ((q3, st), 0, 0))))
def lu_inTable_75  (st : CS) (x1 : Int32) (x2 : VV) (x3 : Int32) (x4 : Int32) (x5 : Int32) (x6 : Int32) (z0 : Int32) (z1 : Int32) : Option ((VV × CS) × Nat × Nat) := jb (z0 ≤ z1) (jb (x1 = 0) (jc (f_lu_find st x2 1 1 x6 x4) (fun q7 => lu_inTable_113 q7.2 x1 x3 q7.1)) (jc (f_lu_find st x2 1 x6 x5 x4) (fun q8 => lu_inTable_113 q8.2 x1 x3 q8.1))) (jd (f_vl_ofError 4) (fun q9 => some ((q9, st), 0, 0)))
def lu_inTable_31  (st : CS) (x1 : Int32) (x2 : VV) (x3 : Int32) (z0 : Int32) : Option ((VV × CS) × Nat × Nat) := jc (f_ar_rows st 1) (fun q11 => jc (f_ar_columns st 1) (fun q12 => jb (1 ≤ x3) (jb (x1 = 0) (lu_inTable_75 st x1 x2 x3 z0 q11 q12 x3 q11) (lu_inTable_75 st x1 x2 x3 z0 q11 q12 x3 q12)) (jd (f_vl_ofError 3) (fun q13 => some ((q13, st), 0, 0)))))
def f_lu_inTable (st : CS) (p0 : Int32) : Option ((VV × CS) × Nat × Nat) := jd (f_lu_sought st) (fun q15 => jc (f_ar_whole q15.2 2) (fun q17 => jc (f_ar_truthOr q17.2 3 1) (fun q18 => jb (q18.1 = 0) (lu_inTable_31 q18.2 p0 q15.1 q17.1 0) (lu_inTable_31 q18.2 p0 q15.1 q17.1 1))))
set_option maxHeartbeats 4000000 in
set_option maxRecDepth 100000 in
theorem c_lu_inTable (l : Launch) (ρ : RH) (ad : Nat → Nat) (H : Heap) (P : Nat → Prop) (st : CS) (p0 : Int32) (res : (VV × CS) × Nat × Nat) (hW : CW ρ P ad st H) (h : f_lu_inTable st p0 = some res) : Met l y94 (wsOf y94 b94 8 (some (.object "WordFunctions$Value"))) ({ frames := 17, cells := res.2.1, slots := res.2.2, locals := 716 } : Room) (va_Pc [.ref (ad 4), .int p0] (KP ρ H)) (mQ (fun v H1 => ∃ x : Nat, v = some (.ref x) ∧ isV ρ P H1 x res.1.1 ∧ CW ρ P ad res.1.2 H1) (MA wC ad H.size)) res.2.1 res.2.2 (MA wC ad H.size) := by
  refine m_ofW (own := "WordFunctions$LookUps") (plainFor_of_name rfl) rfl (Nat.le_of_ble_eq_true rfl) fun p e s m args below meth c ls hx hb hr hlk _ X hs hl => ?_
  subst hs
  have hS : va_S (MA wC ad s.heap.size) s.heap s.heap [] := va_S.rf
  have hSz := hS.1
  have hAz : ∀ q, s.heap.size ≤ q → (MA wC ad s.heap.size) q := fun q hq => Or.inr hq
  have hAp : ∀ i, i < 46 → (MA wC ad s.heap.size) (ad i) := fun i hi => MA.in hi
  have hPp : ∀ i, i < 46 → P (ad i) := hW.1
  have hl : lv_has ls 8 [(0, .ref (ad 4)), (1, .int p0)] := hl
  have kc113 : ∀ (st : CS) (x1 : Int32) (x3 : Int32) (z0 : Int32) (H : Heap) (locs : List Loc) (ls : Array Slot) (cells slots : Nat) (r : (VV × CS) × Nat × Nat), CW ρ P ad st H → va_S (MA wC ad s.heap.size) s.heap H locs → lv_has ls 8 [(0, .ref (ad 4)), (1, .int x1), (3, .int x3)] → res.1 = r.1 → cells + r.2.1 ≤ res.2.1 → slots + r.2.2 ≤ res.2.2 → lu_inTable_113 st x1 x3 z0 = some r → W p l e ({ frames := 17, cells := res.2.1, slots := res.2.2, locals := 716 } : Room) s m args below meth c H locs cells slots (MQ below (mQ (fun v H1 => ∃ x : Nat, v = some (.ref x) ∧ isV ρ P H1 x res.1.1 ∧ CW ρ P ad res.1.2 H1) (MA wC ad s.heap.size)) args s res.2.1 res.2.2 (MA wC ad s.heap.size)) (F0 m 113 ls [.int z0]) := by
    intro st x1 x3 z0 H locs ls cells slots r hW hS hl her hc1 hs1 h
    have hSz := hS.1
    unfold lu_inTable_113 at h
    refine lv_istore (pc := 113) (lv' := [(7, .int z0), (0, .ref (ad 4)), (1, .int x1), (3, .int x3)]) hx hb d94_113 hl (by decide) rfl (fun ls hl => ?_)
    refine lv_iload (pc := 115) hx hb d94_115 (lv_at hl 0 rfl) ?_
    refine lv_iconst (pc := 117) (v := (-1)) hx hb d94_117 (by decide) ?_
    refine lv_icmp_ne (pc := 118) (tgt := 127) hx hb d94_118 (by decide) (fun c118 => ?_) (fun c118 => ?_)
    · have h := jb_f c118 h
      refine lv_iload_n (pc := 127) hx hb d94_127 rfl (lv_at hl 2 rfl) ?_
      refine lv_if_eq (pc := 128) (tgt := 147) hx hb d94_128 (by decide) (fun c128 => ?_) (fun c128 => ?_)
      · have h := jb_t c128 h
        refine lv_aload_n (pc := 147) hx hb d94_147 rfl (lv_at hl 1 rfl) ?_
        refine c_getK (pc := 148) X hW 4 0 6 1 (C := "WordFunctions$LookUps") (T := T6) (N := 2) (by decide) rfl rfl rfl rfl tin6 rfl wd209 rfl rfl d94_148 ?_
        refine lv_iconst (pc := 151) (v := 1) hx hb d94_151 (by decide) ?_
        refine lv_iload_n (pc := 152) hx hb d94_152 rfl (lv_at hl 3 rfl) ?_
        refine lv_iconst (pc := 153) (v := 1) hx hb d94_153 (by decide) ?_
        refine lv_isub (pc := 154) hx hb d94_154 ?_
        refine lv_iload (pc := 155) hx hb d94_155 (lv_at hl 0 rfl) ?_
        obtain ⟨q1, hq1, h⟩ := jc_some h
        refine k_callV (pc := 157) (n := 3) X hS (c_ar_at l ρ ad _ P st 1 (x3 - 1) z0 q1 hW  hq1) wd849 wd1143 wd847 wd848 wd3 (by decide) ⟨rfl, rfl, Nat.le_of_ble_eq_true rfl, Nat.le_of_ble_eq_true rfl⟩ (c_recv X hW 1 3 (by decide) rfl rfl) (As := [.int 1, .int (x3 - 1), .int z0]) (rest := []) rfl rfl hl.1 (Nat.le_of_ble_eq_true rfl) d94_157 ⟨room_l0 hc1, room_l0 hs1⟩ (fun q hq => False.elim hq) (fun v H1 locs1 hv _ _ hSq1 => ?_)
        obtain ⟨u2, rfl, fu2, rfl⟩ := hv
        have hS := hSq1
        have hSz := hS.1
        have her : res.1 = (q1, st) := her.trans (congrArg Prod.fst (Option.some.inj h)).symm
        exact m_aret (pc := 160) hx hb hr (Or.inl ⟨_, rfl⟩) hlk hS ⟨u2, rfl, by rw [her]; exact fu2, by rw [her]; exact hW⟩ (Nat.le_trans (Nat.le_add_right _ _) hc1) (Nat.le_trans (Nat.le_add_right _ _) hs1) d94_160
      · have h := jb_f c128 h
        refine lv_aload_n (pc := 131) hx hb d94_131 rfl (lv_at hl 1 rfl) ?_
        refine c_getK (pc := 132) X hW 4 0 6 1 (C := "WordFunctions$LookUps") (T := T6) (N := 2) (by decide) rfl rfl rfl rfl tin6 rfl wd209 rfl rfl d94_132 ?_
        refine lv_iconst (pc := 135) (v := 1) hx hb d94_135 (by decide) ?_
        refine lv_iload (pc := 136) hx hb d94_136 (lv_at hl 0 rfl) ?_
        refine lv_iload_n (pc := 138) hx hb d94_138 rfl (lv_at hl 3 rfl) ?_
        refine lv_iconst (pc := 139) (v := 1) hx hb d94_139 (by decide) ?_
        refine lv_isub (pc := 140) hx hb d94_140 ?_
        obtain ⟨q3, hq3, h⟩ := jc_some h
        refine k_callV (pc := 141) (n := 3) X hS (c_ar_at l ρ ad _ P st 1 z0 (x3 - 1) q3 hW  hq3) wd849 wd1143 wd847 wd848 wd3 (by decide) ⟨rfl, rfl, Nat.le_of_ble_eq_true rfl, Nat.le_of_ble_eq_true rfl⟩ (c_recv X hW 1 3 (by decide) rfl rfl) (As := [.int 1, .int z0, .int (x3 - 1)]) (rest := []) rfl rfl hl.1 (Nat.le_of_ble_eq_true rfl) d94_141 ⟨room_l0 hc1, room_l0 hs1⟩ (fun q hq => False.elim hq) (fun v H1 locs1 hv _ _ hSq3 => ?_)
        obtain ⟨u4, rfl, fu4, rfl⟩ := hv
        have hS := hSq3
        have hSz := hS.1
        refine lv_goto (pc := 144) (tgt := 160) hx hb d94_144 (by decide) ?_
        have her : res.1 = (q3, st) := her.trans (congrArg Prod.fst (Option.some.inj h)).symm
        exact m_aret (pc := 160) hx hb hr (Or.inl ⟨_, rfl⟩) hlk hS ⟨u4, rfl, by rw [her]; exact fu4, by rw [her]; exact hW⟩ (Nat.le_trans (Nat.le_add_right _ _) hc1) (Nat.le_trans (Nat.le_add_right _ _) hs1) d94_160
    · have h := jb_t c118 h
      refine lv_bipush (pc := 121) (v := 7) hx hb d94_121 (by decide) ?_
      obtain ⟨q5, rq5, hq5, h, herq5, hccq5, hssq5⟩ := jd_some h
      refine k_callS (pc := 123) (n := 1) X hS (c_vl_ofError l ρ _ P 7 q5 hW.2.2.1 hW.2.1  hq5) wd651 wd836 wd650 wd4 (by decide) ⟨rfl, rfl, Nat.le_of_ble_eq_true rfl, Nat.le_of_ble_eq_true rfl⟩ (As := [.int 7]) (rest := []) rfl rfl hl.1 (Nat.le_of_ble_eq_true rfl) d94_123 ⟨room_le hccq5 hc1, room_le hssq5 hs1⟩ (fun q hq => hAz q (Nat.le_trans hS.1 hq)) (fun v H1 locs1 hv hz1 hz2 hSq5 => ?_)
      obtain ⟨u6, rfl, fu6⟩ := hv
      have hk : kp no _ H1 := kp_call hz1 hz2 (fun q hq z => absurd hq (Nat.not_lt.mpr z))
      have hW := hW.keep hk no_hz (fun _ _ z => z)
      have hS := hSq5
      have hSz := hS.1
      have her := her.trans herq5
      have hc1 := room_st hccq5 hc1
      have hs1 := room_st hssq5 hs1
      have her : res.1 = (q5.1, st) := her.trans (congrArg Prod.fst (Option.some.inj h)).symm
      exact m_aret (pc := 126) hx hb hr (Or.inl ⟨_, rfl⟩) hlk hS ⟨u6, rfl, by rw [her]; exact fu6, by rw [her]; exact hW⟩ (Nat.le_trans (Nat.le_add_right _ _) hc1) (Nat.le_trans (Nat.le_add_right _ _) hs1) d94_126
  have kc75 : ∀ (st : CS) (x1 : Int32) (x2 : VV) (x3 : Int32) (x4 : Int32) (x5 : Int32) (x6 : Int32) (z0 : Int32) (z1 : Int32) (ax2 : Nat) (H : Heap) (locs : List Loc) (ls : Array Slot) (cells slots : Nat) (r : (VV × CS) × Nat × Nat), CW ρ P ad st H → va_S (MA wC ad s.heap.size) s.heap H locs → isV ρ P H ax2 x2 → lv_has ls 8 [(0, .ref (ad 4)), (1, .int x1), (2, .ref ax2), (3, .int x3), (4, .int x4), (5, .int x5), (6, .int x6)] → res.1 = r.1 → cells + r.2.1 ≤ res.2.1 → slots + r.2.2 ≤ res.2.2 → lu_inTable_75 st x1 x2 x3 x4 x5 x6 z0 z1 = some r → W p l e ({ frames := 17, cells := res.2.1, slots := res.2.2, locals := 716 } : Room) s m args below meth c H locs cells slots (MQ below (mQ (fun v H1 => ∃ x : Nat, v = some (.ref x) ∧ isV ρ P H1 x res.1.1 ∧ CW ρ P ad res.1.2 H1) (MA wC ad s.heap.size)) args s res.2.1 res.2.2 (MA wC ad s.heap.size)) (F0 m 75 ls [.int z1, .int z0]) := by
    intro st x1 x2 x3 x4 x5 x6 z0 z1 ax2 H locs ls cells slots r hW hS fax2 hl her hc1 hs1 h
    have hSz := hS.1
    unfold lu_inTable_75 at h
    refine lv_icmp_le (pc := 75) (tgt := 83) hx hb d94_75 (by decide) (fun c75 => ?_) (fun c75 => ?_)
    · have h := jb_t c75 h
      refine lv_iload_n (pc := 83) hx hb d94_83 rfl (lv_at hl 1 rfl) ?_
      refine lv_if_eq (pc := 84) (tgt := 102) hx hb d94_84 (by decide) (fun c84 => ?_) (fun c84 => ?_)
      · have h := jb_t c84 h
        refine lv_aload_n (pc := 102) hx hb d94_102 rfl (lv_at hl 0 rfl) ?_
        refine lv_aload_n (pc := 103) hx hb d94_103 rfl (lv_at hl 2 rfl) ?_
        refine lv_iconst (pc := 104) (v := 1) hx hb d94_104 (by decide) ?_
        refine lv_iconst (pc := 105) (v := 1) hx hb d94_105 (by decide) ?_
        refine lv_iload (pc := 106) hx hb d94_106 (lv_at hl 6 rfl) ?_
        refine lv_iload (pc := 108) hx hb d94_108 (lv_at hl 4 rfl) ?_
        obtain ⟨q7, hq7, h⟩ := jc_some h
        refine k_callV (pc := 110) (n := 5) X hS (c_lu_find l ρ ad _ P st ax2 x2 1 1 x6 x4 q7 hW fax2 hq7) wd1129 wd1126 wd1128 sl92 wd8 (by decide) ⟨rfl, rfl, Nat.le_of_ble_eq_true rfl, Nat.le_of_ble_eq_true rfl⟩ (c_recv X hW 4 6 (by decide) rfl rfl) (As := [.ref ax2, .int 1, .int 1, .int x6, .int x4]) (rest := []) rfl rfl hl.1 (Nat.le_of_ble_eq_true rfl) d94_110 ⟨room_l0 hc1, room_l0 hs1⟩ (fun q hq => MA.mono hS.1 hq) (fun v H1 locs1 hv hz1 hz2 hSq7 => ?_)
        have hPq := hW.1
        obtain ⟨rfl, hW⟩ := hv
        have hS := hSq7
        have hSz := hS.1
        exact kc113   q7.2 x1 x3 q7.1 _ _ _ _ _ _ hW hS (lv_sub hl [0, 1, 3] rfl) her hc1 hs1 h
      · have h := jb_f c84 h
        refine lv_aload_n (pc := 87) hx hb d94_87 rfl (lv_at hl 0 rfl) ?_
        refine lv_aload_n (pc := 88) hx hb d94_88 rfl (lv_at hl 2 rfl) ?_
        refine lv_iconst (pc := 89) (v := 1) hx hb d94_89 (by decide) ?_
        refine lv_iload (pc := 90) hx hb d94_90 (lv_at hl 6 rfl) ?_
        refine lv_iload (pc := 92) hx hb d94_92 (lv_at hl 5 rfl) ?_
        refine lv_iload (pc := 94) hx hb d94_94 (lv_at hl 4 rfl) ?_
        obtain ⟨q8, hq8, h⟩ := jc_some h
        refine k_callV (pc := 96) (n := 5) X hS (c_lu_find l ρ ad _ P st ax2 x2 1 x6 x5 x4 q8 hW fax2 hq8) wd1129 wd1126 wd1128 sl92 wd8 (by decide) ⟨rfl, rfl, Nat.le_of_ble_eq_true rfl, Nat.le_of_ble_eq_true rfl⟩ (c_recv X hW 4 6 (by decide) rfl rfl) (As := [.ref ax2, .int 1, .int x6, .int x5, .int x4]) (rest := []) rfl rfl hl.1 (Nat.le_of_ble_eq_true rfl) d94_96 ⟨room_l0 hc1, room_l0 hs1⟩ (fun q hq => MA.mono hS.1 hq) (fun v H1 locs1 hv hz1 hz2 hSq8 => ?_)
        have hPq := hW.1
        obtain ⟨rfl, hW⟩ := hv
        have hS := hSq8
        have hSz := hS.1
        refine lv_goto (pc := 99) (tgt := 113) hx hb d94_99 (by decide) ?_
        exact kc113   q8.2 x1 x3 q8.1 _ _ _ _ _ _ hW hS (lv_sub hl [0, 1, 3] rfl) her hc1 hs1 h
    · have h := jb_f c75 h
      refine lv_iconst (pc := 78) (v := 4) hx hb d94_78 (by decide) ?_
      obtain ⟨q9, rq9, hq9, h, herq9, hccq9, hssq9⟩ := jd_some h
      refine k_callS (pc := 79) (n := 1) X hS (c_vl_ofError l ρ _ P 4 q9 hW.2.2.1 hW.2.1  hq9) wd651 wd836 wd650 wd4 (by decide) ⟨rfl, rfl, Nat.le_of_ble_eq_true rfl, Nat.le_of_ble_eq_true rfl⟩ (As := [.int 4]) (rest := []) rfl rfl hl.1 (Nat.le_of_ble_eq_true rfl) d94_79 ⟨room_le hccq9 hc1, room_le hssq9 hs1⟩ (fun q hq => hAz q (Nat.le_trans hS.1 hq)) (fun v H1 locs1 hv hz1 hz2 hSq9 => ?_)
      obtain ⟨u10, rfl, fu10⟩ := hv
      have hk : kp no _ H1 := kp_call hz1 hz2 (fun q hq z => absurd hq (Nat.not_lt.mpr z))
      have hW := hW.keep hk no_hz (fun _ _ z => z)
      have hS := hSq9
      have hSz := hS.1
      have her := her.trans herq9
      have hc1 := room_st hccq9 hc1
      have hs1 := room_st hssq9 hs1
      have her : res.1 = (q9.1, st) := her.trans (congrArg Prod.fst (Option.some.inj h)).symm
      exact m_aret (pc := 82) hx hb hr (Or.inl ⟨_, rfl⟩) hlk hS ⟨u10, rfl, by rw [her]; exact fu10, by rw [her]; exact hW⟩ (Nat.le_trans (Nat.le_add_right _ _) hc1) (Nat.le_trans (Nat.le_add_right _ _) hs1) d94_82
  have kc31 : ∀ (st : CS) (x1 : Int32) (x2 : VV) (x3 : Int32) (z0 : Int32) (ax2 : Nat) (H : Heap) (locs : List Loc) (ls : Array Slot) (cells slots : Nat) (r : (VV × CS) × Nat × Nat), CW ρ P ad st H → va_S (MA wC ad s.heap.size) s.heap H locs → isV ρ P H ax2 x2 → lv_has ls 8 [(0, .ref (ad 4)), (1, .int x1), (2, .ref ax2), (3, .int x3)] → res.1 = r.1 → cells + r.2.1 ≤ res.2.1 → slots + r.2.2 ≤ res.2.2 → lu_inTable_31 st x1 x2 x3 z0 = some r → W p l e ({ frames := 17, cells := res.2.1, slots := res.2.2, locals := 716 } : Room) s m args below meth c H locs cells slots (MQ below (mQ (fun v H1 => ∃ x : Nat, v = some (.ref x) ∧ isV ρ P H1 x res.1.1 ∧ CW ρ P ad res.1.2 H1) (MA wC ad s.heap.size)) args s res.2.1 res.2.2 (MA wC ad s.heap.size)) (F0 m 31 ls [.int z0]) := by
    intro st x1 x2 x3 z0 ax2 H locs ls cells slots r hW hS fax2 hl her hc1 hs1 h
    have hSz := hS.1
    unfold lu_inTable_31 at h
    refine lv_istore (pc := 31) (lv' := [(4, .int z0), (0, .ref (ad 4)), (1, .int x1), (2, .ref ax2), (3, .int x3)]) hx hb d94_31 hl (by decide) rfl (fun ls hl => ?_)
    refine lv_aload_n (pc := 33) hx hb d94_33 rfl (lv_at hl 1 rfl) ?_
    refine c_getK (pc := 34) X hW 4 0 6 1 (C := "WordFunctions$LookUps") (T := T6) (N := 2) (by decide) rfl rfl rfl rfl tin6 rfl wd209 rfl rfl d94_34 ?_
    refine lv_iconst (pc := 37) (v := 1) hx hb d94_37 (by decide) ?_
    obtain ⟨q11, hq11, h⟩ := jc_some h
    refine k_callV (pc := 38) (n := 1) X hS (c_ar_rows l ρ ad _ P st 1 q11 hW  hq11) wd749 wd746 wd747 wd748 wd3 (by decide) ⟨rfl, rfl, Nat.le_of_ble_eq_true rfl, Nat.le_of_ble_eq_true rfl⟩ (c_recv X hW 1 3 (by decide) rfl rfl) (As := [.int 1]) (rest := []) rfl rfl hl.1 (Nat.le_of_ble_eq_true rfl) d94_38 ⟨room_l0 hc1, room_l0 hs1⟩ (fun q hq => False.elim hq) (fun v H1 locs1 hv _ _ hSq11 => ?_)
    obtain ⟨rfl, rfl⟩ := hv
    have hS := hSq11
    have hSz := hS.1
    refine lv_istore (pc := 41) (lv' := [(5, .int q11), (4, .int z0), (0, .ref (ad 4)), (1, .int x1), (2, .ref ax2), (3, .int x3)]) hx hb d94_41 hl (by decide) rfl (fun ls hl => ?_)
    refine lv_aload_n (pc := 43) hx hb d94_43 rfl (lv_at hl 2 rfl) ?_
    refine c_getK (pc := 44) X hW 4 0 6 1 (C := "WordFunctions$LookUps") (T := T6) (N := 2) (by decide) rfl rfl rfl rfl tin6 rfl wd209 rfl rfl d94_44 ?_
    refine lv_iconst (pc := 47) (v := 1) hx hb d94_47 (by decide) ?_
    obtain ⟨q12, hq12, h⟩ := jc_some h
    refine k_callV (pc := 48) (n := 1) X hS (c_ar_columns l ρ ad _ P st 1 q12 hW  hq12) wd754 wd751 wd752 wd753 wd3 (by decide) ⟨rfl, rfl, Nat.le_of_ble_eq_true rfl, Nat.le_of_ble_eq_true rfl⟩ (c_recv X hW 1 3 (by decide) rfl rfl) (As := [.int 1]) (rest := []) rfl rfl hl.1 (Nat.le_of_ble_eq_true rfl) d94_48 ⟨room_l0 hc1, room_l0 hs1⟩ (fun q hq => False.elim hq) (fun v H1 locs1 hv _ _ hSq12 => ?_)
    obtain ⟨rfl, rfl⟩ := hv
    have hS := hSq12
    have hSz := hS.1
    refine lv_istore (pc := 51) (lv' := [(6, .int q12), (5, .int q11), (4, .int z0), (0, .ref (ad 4)), (1, .int x1), (2, .ref ax2), (3, .int x3)]) hx hb d94_51 hl (by decide) rfl (fun ls hl => ?_)
    refine lv_iload_n (pc := 53) hx hb d94_53 rfl (lv_at hl 6 rfl) ?_
    refine lv_iconst (pc := 54) (v := 1) hx hb d94_54 (by decide) ?_
    refine lv_icmp_ge (pc := 55) (tgt := 63) hx hb d94_55 (by decide) (fun c55 => ?_) (fun c55 => ?_)
    · have h := jb_t c55 h
      refine lv_iload_n (pc := 63) hx hb d94_63 rfl (lv_at hl 6 rfl) ?_
      refine lv_iload_n (pc := 64) hx hb d94_64 rfl (lv_at hl 4 rfl) ?_
      refine lv_if_eq (pc := 65) (tgt := 73) hx hb d94_65 (by decide) (fun c65 => ?_) (fun c65 => ?_)
      · have h := jb_t c65 h
        refine lv_iload (pc := 73) hx hb d94_73 (lv_at hl 1 rfl) ?_
        exact kc75   st x1 x2 x3 z0 q11 q12 x3 q11 ax2 _ _ _ _ _ _ hW hS fax2 (lv_sub hl [3, 4, 5, 6, 2, 1, 0] rfl) her hc1 hs1 h
      · have h := jb_f c65 h
        refine lv_iload (pc := 68) hx hb d94_68 (lv_at hl 0 rfl) ?_
        refine lv_goto (pc := 70) (tgt := 75) hx hb d94_70 (by decide) ?_
        exact kc75   st x1 x2 x3 z0 q11 q12 x3 q12 ax2 _ _ _ _ _ _ hW hS fax2 (lv_sub hl [3, 4, 5, 6, 2, 1, 0] rfl) her hc1 hs1 h
    · have h := jb_f c55 h
      refine lv_iconst (pc := 58) (v := 3) hx hb d94_58 (by decide) ?_
      obtain ⟨q13, rq13, hq13, h, herq13, hccq13, hssq13⟩ := jd_some h
      refine k_callS (pc := 59) (n := 1) X hS (c_vl_ofError l ρ _ P 3 q13 hW.2.2.1 hW.2.1  hq13) wd651 wd836 wd650 wd4 (by decide) ⟨rfl, rfl, Nat.le_of_ble_eq_true rfl, Nat.le_of_ble_eq_true rfl⟩ (As := [.int 3]) (rest := []) rfl rfl hl.1 (Nat.le_of_ble_eq_true rfl) d94_59 ⟨room_le hccq13 hc1, room_le hssq13 hs1⟩ (fun q hq => hAz q (Nat.le_trans hS.1 hq)) (fun v H1 locs1 hv hz1 hz2 hSq13 => ?_)
      obtain ⟨u14, rfl, fu14⟩ := hv
      have hk : kp no _ H1 := kp_call hz1 hz2 (fun q hq z => absurd hq (Nat.not_lt.mpr z))
      have hW := hW.keep hk no_hz (fun _ _ z => z)
      have hS := hSq13
      have hSz := hS.1
      have her := her.trans herq13
      have hc1 := room_st hccq13 hc1
      have hs1 := room_st hssq13 hs1
      have her : res.1 = (q13.1, st) := her.trans (congrArg Prod.fst (Option.some.inj h)).symm
      exact m_aret (pc := 62) hx hb hr (Or.inl ⟨_, rfl⟩) hlk hS ⟨u14, rfl, by rw [her]; exact fu14, by rw [her]; exact hW⟩ (Nat.le_trans (Nat.le_add_right _ _) hc1) (Nat.le_trans (Nat.le_add_right _ _) hs1) d94_62
  have her : res.1 = res.1 := rfl
  have hc1 : 0 + res.2.1 ≤ res.2.1 := Nat.le_of_eq (Nat.zero_add _)
  have hs1 : 0 + res.2.2 ≤ res.2.2 := Nat.le_of_eq (Nat.zero_add _)
  unfold f_lu_inTable at h
  refine lv_aload_n (pc := 0) hx hb d94_0 rfl (lv_at hl 0 rfl) ?_
  obtain ⟨q15, rq15, hq15, h, herq15, hccq15, hssq15⟩ := jd_some h
  refine k_callV (pc := 1) (n := 0) X hS (c_lu_sought l ρ ad _ P st  q15 hW  hq15) wd1117 wd1114 wd1116 sl100 wd8 (by decide) ⟨rfl, rfl, Nat.le_of_ble_eq_true rfl, Nat.le_of_ble_eq_true rfl⟩ (c_recv X hW 4 6 (by decide) rfl rfl) (As := []) (rest := []) rfl rfl hl.1 (Nat.le_of_ble_eq_true rfl) d94_1 ⟨room_le hccq15 hc1, room_le hssq15 hs1⟩ (fun q hq => MA.mono hS.1 hq) (fun v H1 locs1 hv hz1 hz2 hSq15 => ?_)
  have hPq := hW.1
  obtain ⟨u16, rfl, fu16, hW⟩ := hv
  have hS := hSq15
  have hSz := hS.1
  have her := her.trans herq15
  have hc1 := room_st hccq15 hc1
  have hs1 := room_st hssq15 hs1
  refine lv_astore_n (pc := 4) (lv' := [(2, .ref u16), (0, .ref (ad 4)), (1, .int p0)]) hx hb d94_4 rfl hl (by decide) rfl (fun ls hl => ?_)
  refine lv_aload_n (pc := 5) hx hb d94_5 rfl (lv_at hl 1 rfl) ?_
  refine c_getK (pc := 6) X hW 4 0 6 1 (C := "WordFunctions$LookUps") (T := T6) (N := 2) (by decide) rfl rfl rfl rfl tin6 rfl wd209 rfl rfl d94_6 ?_
  refine lv_iconst (pc := 9) (v := 2) hx hb d94_9 (by decide) ?_
  obtain ⟨q17, hq17, h⟩ := jc_some h
  refine k_callV (pc := 10) (n := 1) X hS (c_ar_whole l ρ ad _ P q15.1.2 2 q17 hW  hq17) wd762 wd759 wd760 wd761 wd3 (by decide) ⟨rfl, rfl, Nat.le_of_ble_eq_true rfl, Nat.le_of_ble_eq_true rfl⟩ (c_recv X hW 1 3 (by decide) rfl rfl) (As := [.int 2]) (rest := []) rfl rfl hl.1 (Nat.le_of_ble_eq_true rfl) d94_10 ⟨room_l0 hc1, room_l0 hs1⟩ (fun q hq => MA.mono hS.1 hq) (fun v H1 locs1 hv hz1 hz2 hSq17 => ?_)
  have hPq := hW.1
  obtain ⟨rfl, hW⟩ := hv
  have hk : kp (Pm ad) _ H1 := kp_call hz1 hz2 (MA_Pm rfl)
  have fu16 := fu16.keep hk (Pm_P hPq)
  have hS := hSq17
  have hSz := hS.1
  refine lv_istore_n (pc := 13) (lv' := [(3, .int q17.1), (2, .ref u16), (0, .ref (ad 4)), (1, .int p0)]) hx hb d94_13 rfl hl (by decide) rfl (fun ls hl => ?_)
  refine lv_aload_n (pc := 14) hx hb d94_14 rfl (lv_at hl 2 rfl) ?_
  refine c_getK (pc := 15) X hW 4 0 6 1 (C := "WordFunctions$LookUps") (T := T6) (N := 2) (by decide) rfl rfl rfl rfl tin6 rfl wd209 rfl rfl d94_15 ?_
  refine lv_iconst (pc := 18) (v := 3) hx hb d94_18 (by decide) ?_
  refine lv_iconst (pc := 19) (v := 1) hx hb d94_19 (by decide) ?_
  obtain ⟨q18, hq18, h⟩ := jc_some h
  refine k_callV (pc := 20) (n := 2) X hS (c_ar_truthOr l ρ ad _ P q17.2 3 1 q18 hW  hq18) wd1124 wd1121 wd1122 wd1123 wd3 (by decide) ⟨rfl, rfl, Nat.le_of_ble_eq_true rfl, Nat.le_of_ble_eq_true rfl⟩ (c_recv X hW 1 3 (by decide) rfl rfl) (As := [.int 3, .int 1]) (rest := []) rfl rfl hl.1 (Nat.le_of_ble_eq_true rfl) d94_20 ⟨room_l0 hc1, room_l0 hs1⟩ (fun q hq => MA.mono hS.1 hq) (fun v H1 locs1 hv hz1 hz2 hSq18 => ?_)
  have hPq := hW.1
  obtain ⟨rfl, hW⟩ := hv
  have hk : kp (Pm ad) _ H1 := kp_call hz1 hz2 (MA_Pm rfl)
  have fu16 := fu16.keep hk (Pm_P hPq)
  have hS := hSq18
  have hSz := hS.1
  refine lv_if_eq (pc := 23) (tgt := 30) hx hb d94_23 (by decide) (fun c23 => ?_) (fun c23 => ?_)
  · have h := jb_t c23 h
    refine lv_iconst (pc := 30) (v := 0) hx hb d94_30 (by decide) ?_
    exact kc31   q18.2 p0 q15.1.1 q17.1 0 u16 _ _ _ _ _ _ hW hS fu16 (lv_sub hl [2, 3, 1, 0] rfl) her hc1 hs1 h
  · have h := jb_f c23 h
    refine lv_iconst (pc := 26) (v := 1) hx hb d94_26 (by decide) ?_
    refine lv_goto (pc := 27) (tgt := 31) hx hb d94_27 (by decide) ?_
    exact kc31   q18.2 p0 q15.1.1 q17.1 1 u16 _ _ _ _ _ _ hW hS fu16 (lv_sub hl [2, 3, 1, 0] rfl) her hc1 hs1 h
def lu_index_186  (st : CS) (z2 : Int32) (z3 : Int32) (z4 : Int32) (z5 : Int32) : Option ((CS) × Nat × Nat) := jc (f_an_becomePart st z2 z3 z4 z5) (fun q1 => some (q1, 0, 0))
def lu_index_176  (st : CS) (x3 : Int32) (x6 : Int32) (z2 : Int32) (z3 : Int32) (z4 : Int32) : Option ((CS) × Nat × Nat) := jb (x6 = 0) (lu_index_186 st z2 z3 z4 x3) (lu_index_186 st z2 z3 z4 1)
def lu_index_134  (st : CS) : Option ((CS) × Nat × Nat) := jd (f_vl_ofError 4) (fun q2 => jc (f_an_become st q2) (fun q4 => some (q4, 0, 0)))
def lu_index_111  (st : CS) : Option ((CS) × Nat × Nat) := jd (f_vl_ofError 3) (fun q5 => jc (f_an_become st q5) (fun q7 => some (q7, 0, 0)))
def lu_index_74  (st : CS) (x2 : Int32) (x3 : Int32) (x5 : Int32) (x6 : Int32) : Option ((CS) × Nat × Nat) := jb ((st.1 1 6) = 0) (jb (x5 < 0) (lu_index_111 st) (jb (0 ≤ x6) (jb (x2 < x5) (lu_index_134 st) (jb (x6 ≤ x3) (jc (f_ma_max (x5 - 1) 0) (fun q8 => jc (f_ma_max (x6 - 1) 0) (fun q9 => jb (x5 = 0) (lu_index_176 st x3 x6 q8 q9 x2) (lu_index_176 st x3 x6 q8 q9 1)))) (lu_index_134 st))) (lu_index_111 st))) (jd (f_vl_ofError (st.1 1 6)) (fun q10 => jc (f_an_become st q10) (fun q12 => some (q12, 0, 0))))
def lu_index_55  (st : CS) (x2 : Int32) (x3 : Int32) (x4 : Int32) (x5 : Int32) (z0 : Int32) : Option ((CS) × Nat × Nat) := jb (x4 = 0) (jb (x2 = 1) (lu_index_74 st x2 x3 1 x5) (lu_index_74 st x2 x3 x5 z0)) (lu_index_74 st x2 x3 x5 z0)
def f_lu_index (st : CS) : Option ((CS) × Nat × Nat) := jc (f_ar_rows st 0) (fun q13 => jc (f_ar_columns st 0) (fun q14 => jc (f_ar_isThere st 2) (fun q15 => jc (f_ar_whole st 1) (fun q16 => jb (q15 = 0) (lu_index_55 q16.2 q13 q14 q15 q16.1 1) (jc (f_ar_whole q16.2 2) (fun q17 => lu_index_55 q17.2 q13 q14 q15 q16.1 q17.1))))))
set_option maxHeartbeats 4000000 in
set_option maxRecDepth 100000 in
theorem c_lu_index (l : Launch) (ρ : RH) (ad : Nat → Nat) (H : Heap) (P : Nat → Prop) (st : CS) (res : (CS) × Nat × Nat) (hW : CW ρ P ad st H) (h : f_lu_index st = some res) : Met l y95 (wsOf y95 b95 7 none) ({ frames := 16, cells := res.2.1, slots := res.2.2, locals := 698 } : Room) (va_Pc [.ref (ad 4), .ref (ad 2)] (KP ρ H)) (mQ (fun v H1 => v = none ∧ CW ρ P ad res.1 H1) (MA wC ad H.size)) res.2.1 res.2.2 (MA wC ad H.size) := by
  refine m_ofW (own := "WordFunctions$LookUps") (plainFor_of_name rfl) rfl (Nat.le_of_ble_eq_true rfl) fun p e s m args below meth c ls hx hb hr hlk _ X hs hl => ?_
  subst hs
  have hS : va_S (MA wC ad s.heap.size) s.heap s.heap [] := va_S.rf
  have hSz := hS.1
  have hAz : ∀ q, s.heap.size ≤ q → (MA wC ad s.heap.size) q := fun q hq => Or.inr hq
  have hAp : ∀ i, i < 46 → (MA wC ad s.heap.size) (ad i) := fun i hi => MA.in hi
  have hPp : ∀ i, i < 46 → P (ad i) := hW.1
  have hl : lv_has ls 7 [(0, .ref (ad 4)), (1, .ref (ad 2))] := hl
  have kc186 : ∀ (st : CS) (z2 : Int32) (z3 : Int32) (z4 : Int32) (z5 : Int32) (H : Heap) (locs : List Loc) (ls : Array Slot) (cells slots : Nat) (r : (CS) × Nat × Nat), CW ρ P ad st H → va_S (MA wC ad s.heap.size) s.heap H locs → lv_has ls 7 [] → res.1 = r.1 → cells + r.2.1 ≤ res.2.1 → slots + r.2.2 ≤ res.2.2 → lu_index_186 st z2 z3 z4 z5 = some r → W p l e ({ frames := 16, cells := res.2.1, slots := res.2.2, locals := 698 } : Room) s m args below meth c H locs cells slots (MQ below (mQ (fun v H1 => v = none ∧ CW ρ P ad res.1 H1) (MA wC ad s.heap.size)) args s res.2.1 res.2.2 (MA wC ad s.heap.size)) (F0 m 186 ls [.int z5, .int z4, .int z3, .int z2, .ref (ad 1), .ref (ad 2)]) := by
    intro st z2 z3 z4 z5 H locs ls cells slots r hW hS hl her hc1 hs1 h
    have hSz := hS.1
    unfold lu_index_186 at h
    obtain ⟨q1, hq1, h⟩ := jc_some h
    refine k_callV (pc := 186) (n := 5) X hS (c_an_becomePart l ρ ad _ P st z2 z3 z4 z5 q1 hW  hq1) wd845 wd842 wd843 wd844 wd6 (by decide) ⟨rfl, rfl, Nat.le_of_ble_eq_true rfl, Nat.le_of_ble_eq_true rfl⟩ (c_recv X hW 2 4 (by decide) rfl rfl) (As := [.ref (ad 1), .int z2, .int z3, .int z4, .int z5]) (rest := []) rfl rfl hl.1 (Nat.le_of_ble_eq_true rfl) d95_186 ⟨room_l0 hc1, room_l0 hs1⟩ (fun q hq => MA.mono hS.1 hq) (fun v H1 locs1 hv hz1 hz2 hSq1 => ?_)
    have hPq := hW.1
    obtain ⟨rfl, hW⟩ := hv
    have hS := hSq1
    have hSz := hS.1
    have her : res.1 = q1 := her.trans (congrArg Prod.fst (Option.some.inj h)).symm
    exact m_vret (pc := 189) hx hb hr hlk hS ⟨rfl, by rw [her]; exact hW⟩ (Nat.le_trans (Nat.le_add_right _ _) hc1) (Nat.le_trans (Nat.le_add_right _ _) hs1) d95_189
  have kc176 : ∀ (st : CS) (x3 : Int32) (x6 : Int32) (z2 : Int32) (z3 : Int32) (z4 : Int32) (H : Heap) (locs : List Loc) (ls : Array Slot) (cells slots : Nat) (r : (CS) × Nat × Nat), CW ρ P ad st H → va_S (MA wC ad s.heap.size) s.heap H locs → lv_has ls 7 [(3, .int x3), (6, .int x6)] → res.1 = r.1 → cells + r.2.1 ≤ res.2.1 → slots + r.2.2 ≤ res.2.2 → lu_index_176 st x3 x6 z2 z3 z4 = some r → W p l e ({ frames := 16, cells := res.2.1, slots := res.2.2, locals := 698 } : Room) s m args below meth c H locs cells slots (MQ below (mQ (fun v H1 => v = none ∧ CW ρ P ad res.1 H1) (MA wC ad s.heap.size)) args s res.2.1 res.2.2 (MA wC ad s.heap.size)) (F0 m 176 ls [.int z4, .int z3, .int z2, .ref (ad 1), .ref (ad 2)]) := by
    intro st x3 x6 z2 z3 z4 H locs ls cells slots r hW hS hl her hc1 hs1 h
    have hSz := hS.1
    unfold lu_index_176 at h
    refine lv_iload (pc := 176) hx hb d95_176 (lv_at hl 1 rfl) ?_
    refine lv_if_ne (pc := 178) (tgt := 185) hx hb d95_178 (by decide) (fun c178 => ?_) (fun c178 => ?_)
    · have h := jb_f c178 h
      refine lv_iconst (pc := 185) (v := 1) hx hb d95_185 (by decide) ?_
      exact kc186   st z2 z3 z4 1 _ _ _ _ _ _ hW hS (lv_sub hl [] rfl) her hc1 hs1 h
    · have h := jb_t c178 h
      refine lv_iload_n (pc := 181) hx hb d95_181 rfl (lv_at hl 0 rfl) ?_
      refine lv_goto (pc := 182) (tgt := 186) hx hb d95_182 (by decide) ?_
      exact kc186   st z2 z3 z4 x3 _ _ _ _ _ _ hW hS (lv_sub hl [] rfl) her hc1 hs1 h
  have kc134 : ∀ (st : CS) (H : Heap) (locs : List Loc) (ls : Array Slot) (cells slots : Nat) (r : (CS) × Nat × Nat), CW ρ P ad st H → va_S (MA wC ad s.heap.size) s.heap H locs → lv_has ls 7 [(1, .ref (ad 2))] → res.1 = r.1 → cells + r.2.1 ≤ res.2.1 → slots + r.2.2 ≤ res.2.2 → lu_index_134 st = some r → W p l e ({ frames := 16, cells := res.2.1, slots := res.2.2, locals := 698 } : Room) s m args below meth c H locs cells slots (MQ below (mQ (fun v H1 => v = none ∧ CW ρ P ad res.1 H1) (MA wC ad s.heap.size)) args s res.2.1 res.2.2 (MA wC ad s.heap.size)) (F0 m 134 ls []) := by
    intro st H locs ls cells slots r hW hS hl her hc1 hs1 h
    have hSz := hS.1
    unfold lu_index_134 at h
    refine lv_aload_n (pc := 134) hx hb d95_134 rfl (lv_at hl 0 rfl) ?_
    refine lv_iconst (pc := 135) (v := 4) hx hb d95_135 (by decide) ?_
    obtain ⟨q2, rq2, hq2, h, herq2, hccq2, hssq2⟩ := jd_some h
    refine k_callS (pc := 136) (n := 1) X hS (c_vl_ofError l ρ _ P 4 q2 hW.2.2.1 hW.2.1  hq2) wd651 wd836 wd650 wd4 (by decide) ⟨rfl, rfl, Nat.le_of_ble_eq_true rfl, Nat.le_of_ble_eq_true rfl⟩ (As := [.int 4]) (rest := [.ref (ad 2)]) rfl rfl hl.1 (Nat.le_of_ble_eq_true rfl) d95_136 ⟨room_le hccq2 hc1, room_le hssq2 hs1⟩ (fun q hq => hAz q (Nat.le_trans hS.1 hq)) (fun v H1 locs1 hv hz1 hz2 hSq2 => ?_)
    obtain ⟨u3, rfl, fu3⟩ := hv
    have hk : kp no _ H1 := kp_call hz1 hz2 (fun q hq z => absurd hq (Nat.not_lt.mpr z))
    have hW := hW.keep hk no_hz (fun _ _ z => z)
    have hS := hSq2
    have hSz := hS.1
    have her := her.trans herq2
    have hc1 := room_st hccq2 hc1
    have hs1 := room_st hssq2 hs1
    obtain ⟨q4, hq4, h⟩ := jc_some h
    refine k_callV (pc := 139) (n := 1) X hS (c_an_become l ρ ad _ P st u3 q2.1 q4 hW fu3 hq4) wd840 wd837 wd838 wd839 wd6 (by decide) ⟨rfl, rfl, Nat.le_of_ble_eq_true rfl, Nat.le_of_ble_eq_true rfl⟩ (c_recv X hW 2 4 (by decide) rfl rfl) (As := [.ref u3]) (rest := []) rfl rfl hl.1 (Nat.le_of_ble_eq_true rfl) d95_139 ⟨room_l0 hc1, room_l0 hs1⟩ (fun q hq => MA.mono hS.1 hq) (fun v H1 locs1 hv hz1 hz2 hSq4 => ?_)
    have hPq := hW.1
    obtain ⟨rfl, hW⟩ := hv
    have hS := hSq4
    have hSz := hS.1
    refine lv_goto (pc := 142) (tgt := 189) hx hb d95_142 (by decide) ?_
    have her : res.1 = q4 := her.trans (congrArg Prod.fst (Option.some.inj h)).symm
    exact m_vret (pc := 189) hx hb hr hlk hS ⟨rfl, by rw [her]; exact hW⟩ (Nat.le_trans (Nat.le_add_right _ _) hc1) (Nat.le_trans (Nat.le_add_right _ _) hs1) d95_189
  have kc111 : ∀ (st : CS) (H : Heap) (locs : List Loc) (ls : Array Slot) (cells slots : Nat) (r : (CS) × Nat × Nat), CW ρ P ad st H → va_S (MA wC ad s.heap.size) s.heap H locs → lv_has ls 7 [(1, .ref (ad 2))] → res.1 = r.1 → cells + r.2.1 ≤ res.2.1 → slots + r.2.2 ≤ res.2.2 → lu_index_111 st = some r → W p l e ({ frames := 16, cells := res.2.1, slots := res.2.2, locals := 698 } : Room) s m args below meth c H locs cells slots (MQ below (mQ (fun v H1 => v = none ∧ CW ρ P ad res.1 H1) (MA wC ad s.heap.size)) args s res.2.1 res.2.2 (MA wC ad s.heap.size)) (F0 m 111 ls []) := by
    intro st H locs ls cells slots r hW hS hl her hc1 hs1 h
    have hSz := hS.1
    unfold lu_index_111 at h
    refine lv_aload_n (pc := 111) hx hb d95_111 rfl (lv_at hl 0 rfl) ?_
    refine lv_iconst (pc := 112) (v := 3) hx hb d95_112 (by decide) ?_
    obtain ⟨q5, rq5, hq5, h, herq5, hccq5, hssq5⟩ := jd_some h
    refine k_callS (pc := 113) (n := 1) X hS (c_vl_ofError l ρ _ P 3 q5 hW.2.2.1 hW.2.1  hq5) wd651 wd836 wd650 wd4 (by decide) ⟨rfl, rfl, Nat.le_of_ble_eq_true rfl, Nat.le_of_ble_eq_true rfl⟩ (As := [.int 3]) (rest := [.ref (ad 2)]) rfl rfl hl.1 (Nat.le_of_ble_eq_true rfl) d95_113 ⟨room_le hccq5 hc1, room_le hssq5 hs1⟩ (fun q hq => hAz q (Nat.le_trans hS.1 hq)) (fun v H1 locs1 hv hz1 hz2 hSq5 => ?_)
    obtain ⟨u6, rfl, fu6⟩ := hv
    have hk : kp no _ H1 := kp_call hz1 hz2 (fun q hq z => absurd hq (Nat.not_lt.mpr z))
    have hW := hW.keep hk no_hz (fun _ _ z => z)
    have hS := hSq5
    have hSz := hS.1
    have her := her.trans herq5
    have hc1 := room_st hccq5 hc1
    have hs1 := room_st hssq5 hs1
    obtain ⟨q7, hq7, h⟩ := jc_some h
    refine k_callV (pc := 116) (n := 1) X hS (c_an_become l ρ ad _ P st u6 q5.1 q7 hW fu6 hq7) wd840 wd837 wd838 wd839 wd6 (by decide) ⟨rfl, rfl, Nat.le_of_ble_eq_true rfl, Nat.le_of_ble_eq_true rfl⟩ (c_recv X hW 2 4 (by decide) rfl rfl) (As := [.ref u6]) (rest := []) rfl rfl hl.1 (Nat.le_of_ble_eq_true rfl) d95_116 ⟨room_l0 hc1, room_l0 hs1⟩ (fun q hq => MA.mono hS.1 hq) (fun v H1 locs1 hv hz1 hz2 hSq7 => ?_)
    have hPq := hW.1
    obtain ⟨rfl, hW⟩ := hv
    have hS := hSq7
    have hSz := hS.1
    refine lv_goto (pc := 119) (tgt := 189) hx hb d95_119 (by decide) ?_
    have her : res.1 = q7 := her.trans (congrArg Prod.fst (Option.some.inj h)).symm
    exact m_vret (pc := 189) hx hb hr hlk hS ⟨rfl, by rw [her]; exact hW⟩ (Nat.le_trans (Nat.le_add_right _ _) hc1) (Nat.le_trans (Nat.le_add_right _ _) hs1) d95_189
  have kc74 : ∀ (st : CS) (x2 : Int32) (x3 : Int32) (x5 : Int32) (x6 : Int32) (H : Heap) (locs : List Loc) (ls : Array Slot) (cells slots : Nat) (r : (CS) × Nat × Nat), CW ρ P ad st H → va_S (MA wC ad s.heap.size) s.heap H locs → lv_has ls 7 [(0, .ref (ad 4)), (1, .ref (ad 2)), (2, .int x2), (3, .int x3), (5, .int x5), (6, .int x6)] → res.1 = r.1 → cells + r.2.1 ≤ res.2.1 → slots + r.2.2 ≤ res.2.2 → lu_index_74 st x2 x3 x5 x6 = some r → W p l e ({ frames := 16, cells := res.2.1, slots := res.2.2, locals := 698 } : Room) s m args below meth c H locs cells slots (MQ below (mQ (fun v H1 => v = none ∧ CW ρ P ad res.1 H1) (MA wC ad s.heap.size)) args s res.2.1 res.2.2 (MA wC ad s.heap.size)) (F0 m 74 ls []) := by
    intro st x2 x3 x5 x6 H locs ls cells slots r hW hS hl her hc1 hs1 h
    have hSz := hS.1
    unfold lu_index_74 at h
    refine lv_aload_n (pc := 74) hx hb d95_74 rfl (lv_at hl 0 rfl) ?_
    refine c_getK (pc := 75) X hW 4 0 6 1 (C := "WordFunctions$LookUps") (T := T6) (N := 2) (by decide) rfl rfl rfl rfl tin6 rfl wd209 rfl rfl d95_75 ?_
    refine c_getI (pc := 78) X hW 1 6 3 (C := "WordFunctions$Arguments") (T := T3) (N := 9) (by decide) rfl rfl rfl rfl tin3 rfl wd138 rfl d95_78 ?_
    refine lv_if_eq (pc := 81) (tgt := 101) hx hb d95_81 (by decide) (fun c81 => ?_) (fun c81 => ?_)
    · have h := jb_t c81 h
      refine lv_iload (pc := 101) hx hb d95_101 (lv_at hl 4 rfl) ?_
      refine lv_if_lt (pc := 103) (tgt := 111) hx hb d95_103 (by decide) (fun c103 => ?_) (fun c103 => ?_)
      · have h := jb_t c103 h
        exact kc111   st _ _ _ _ _ _ hW hS (lv_sub hl [1] rfl) her hc1 hs1 h
      · have h := jb_f c103 h
        refine lv_iload (pc := 106) hx hb d95_106 (lv_at hl 5 rfl) ?_
        refine lv_if_ge (pc := 108) (tgt := 122) hx hb d95_108 (by decide) (fun c108 => ?_) (fun c108 => ?_)
        · have h := jb_t c108 h
          refine lv_iload (pc := 122) hx hb d95_122 (lv_at hl 4 rfl) ?_
          refine lv_iload_n (pc := 124) hx hb d95_124 rfl (lv_at hl 2 rfl) ?_
          refine lv_icmp_gt (pc := 125) (tgt := 134) hx hb d95_125 (by decide) (fun c125 => ?_) (fun c125 => ?_)
          · have h := jb_t c125 h
            exact kc134   st _ _ _ _ _ _ hW hS (lv_sub hl [1] rfl) her hc1 hs1 h
          · have h := jb_f c125 h
            refine lv_iload (pc := 128) hx hb d95_128 (lv_at hl 5 rfl) ?_
            refine lv_iload_n (pc := 130) hx hb d95_130 rfl (lv_at hl 3 rfl) ?_
            refine lv_icmp_le (pc := 131) (tgt := 145) hx hb d95_131 (by decide) (fun c131 => ?_) (fun c131 => ?_)
            · have h := jb_t c131 h
              refine lv_aload_n (pc := 145) hx hb d95_145 rfl (lv_at hl 1 rfl) ?_
              refine lv_aload_n (pc := 146) hx hb d95_146 rfl (lv_at hl 0 rfl) ?_
              refine c_getK (pc := 147) X hW 4 0 6 1 (C := "WordFunctions$LookUps") (T := T6) (N := 2) (by decide) rfl rfl rfl rfl tin6 rfl wd209 rfl rfl d95_147 ?_
              refine lv_iload (pc := 150) hx hb d95_150 (lv_at hl 4 rfl) ?_
              refine lv_iconst (pc := 152) (v := 1) hx hb d95_152 (by decide) ?_
              refine lv_isub (pc := 153) hx hb d95_153 ?_
              refine lv_iconst (pc := 154) (v := 0) hx hb d95_154 (by decide) ?_
              obtain ⟨q8, hq8, h⟩ := jc_some h
              refine k_callS (pc := 155) (n := 2) X hS (c_ma_max l ρ _ P (x5 - 1) 0 q8 hW.2.2.1 hW.2.1  hq8) wd333 wd841 wd332 wd17 (by decide) ⟨rfl, rfl, Nat.le_of_ble_eq_true rfl, Nat.le_of_ble_eq_true rfl⟩ (As := [.int (x5 - 1), .int 0]) (rest := [.ref (ad 1), .ref (ad 2)]) rfl rfl hl.1 (Nat.le_of_ble_eq_true rfl) d95_155 ⟨room_l0 hc1, room_l0 hs1⟩ (fun q hq => False.elim hq) (fun v H1 locs1 hv _ _ hSq8 => ?_)
              obtain ⟨rfl, rfl⟩ := hv
              have hS := hSq8
              have hSz := hS.1
              refine lv_iload (pc := 158) hx hb d95_158 (lv_at hl 5 rfl) ?_
              refine lv_iconst (pc := 160) (v := 1) hx hb d95_160 (by decide) ?_
              refine lv_isub (pc := 161) hx hb d95_161 ?_
              refine lv_iconst (pc := 162) (v := 0) hx hb d95_162 (by decide) ?_
              obtain ⟨q9, hq9, h⟩ := jc_some h
              refine k_callS (pc := 163) (n := 2) X hS (c_ma_max l ρ _ P (x6 - 1) 0 q9 hW.2.2.1 hW.2.1  hq9) wd333 wd841 wd332 wd17 (by decide) ⟨rfl, rfl, Nat.le_of_ble_eq_true rfl, Nat.le_of_ble_eq_true rfl⟩ (As := [.int (x6 - 1), .int 0]) (rest := [.int q8, .ref (ad 1), .ref (ad 2)]) rfl rfl hl.1 (Nat.le_of_ble_eq_true rfl) d95_163 ⟨room_l0 hc1, room_l0 hs1⟩ (fun q hq => False.elim hq) (fun v H1 locs1 hv _ _ hSq9 => ?_)
              obtain ⟨rfl, rfl⟩ := hv
              have hS := hSq9
              have hSz := hS.1
              refine lv_iload (pc := 166) hx hb d95_166 (lv_at hl 4 rfl) ?_
              refine lv_if_ne (pc := 168) (tgt := 175) hx hb d95_168 (by decide) (fun c168 => ?_) (fun c168 => ?_)
              · have h := jb_f c168 h
                refine lv_iconst (pc := 175) (v := 1) hx hb d95_175 (by decide) ?_
                exact kc176   st x3 x6 q8 q9 1 _ _ _ _ _ _ hW hS (lv_sub hl [3, 5] rfl) her hc1 hs1 h
              · have h := jb_t c168 h
                refine lv_iload_n (pc := 171) hx hb d95_171 rfl (lv_at hl 2 rfl) ?_
                refine lv_goto (pc := 172) (tgt := 176) hx hb d95_172 (by decide) ?_
                exact kc176   st x3 x6 q8 q9 x2 _ _ _ _ _ _ hW hS (lv_sub hl [3, 5] rfl) her hc1 hs1 h
            · have h := jb_f c131 h
              exact kc134   st _ _ _ _ _ _ hW hS (lv_sub hl [1] rfl) her hc1 hs1 h
        · have h := jb_f c108 h
          exact kc111   st _ _ _ _ _ _ hW hS (lv_sub hl [1] rfl) her hc1 hs1 h
    · have h := jb_f c81 h
      refine lv_aload_n (pc := 84) hx hb d95_84 rfl (lv_at hl 1 rfl) ?_
      refine lv_aload_n (pc := 85) hx hb d95_85 rfl (lv_at hl 0 rfl) ?_
      refine c_getK (pc := 86) X hW 4 0 6 1 (C := "WordFunctions$LookUps") (T := T6) (N := 2) (by decide) rfl rfl rfl rfl tin6 rfl wd209 rfl rfl d95_86 ?_
      refine c_getI (pc := 89) X hW 1 6 3 (C := "WordFunctions$Arguments") (T := T3) (N := 9) (by decide) rfl rfl rfl rfl tin3 rfl wd138 rfl d95_89 ?_
      obtain ⟨q10, rq10, hq10, h, herq10, hccq10, hssq10⟩ := jd_some h
      refine k_callS (pc := 92) (n := 1) X hS (c_vl_ofError l ρ _ P (st.1 1 6) q10 hW.2.2.1 hW.2.1  hq10) wd651 wd836 wd650 wd4 (by decide) ⟨rfl, rfl, Nat.le_of_ble_eq_true rfl, Nat.le_of_ble_eq_true rfl⟩ (As := [.int (st.1 1 6)]) (rest := [.ref (ad 2)]) rfl rfl hl.1 (Nat.le_of_ble_eq_true rfl) d95_92 ⟨room_le hccq10 hc1, room_le hssq10 hs1⟩ (fun q hq => hAz q (Nat.le_trans hS.1 hq)) (fun v H1 locs1 hv hz1 hz2 hSq10 => ?_)
      obtain ⟨u11, rfl, fu11⟩ := hv
      have hk : kp no _ H1 := kp_call hz1 hz2 (fun q hq z => absurd hq (Nat.not_lt.mpr z))
      have hW := hW.keep hk no_hz (fun _ _ z => z)
      have hS := hSq10
      have hSz := hS.1
      have her := her.trans herq10
      have hc1 := room_st hccq10 hc1
      have hs1 := room_st hssq10 hs1
      obtain ⟨q12, hq12, h⟩ := jc_some h
      refine k_callV (pc := 95) (n := 1) X hS (c_an_become l ρ ad _ P st u11 q10.1 q12 hW fu11 hq12) wd840 wd837 wd838 wd839 wd6 (by decide) ⟨rfl, rfl, Nat.le_of_ble_eq_true rfl, Nat.le_of_ble_eq_true rfl⟩ (c_recv X hW 2 4 (by decide) rfl rfl) (As := [.ref u11]) (rest := []) rfl rfl hl.1 (Nat.le_of_ble_eq_true rfl) d95_95 ⟨room_l0 hc1, room_l0 hs1⟩ (fun q hq => MA.mono hS.1 hq) (fun v H1 locs1 hv hz1 hz2 hSq12 => ?_)
      have hPq := hW.1
      obtain ⟨rfl, hW⟩ := hv
      have hS := hSq12
      have hSz := hS.1
      refine lv_goto (pc := 98) (tgt := 189) hx hb d95_98 (by decide) ?_
      have her : res.1 = q12 := her.trans (congrArg Prod.fst (Option.some.inj h)).symm
      exact m_vret (pc := 189) hx hb hr hlk hS ⟨rfl, by rw [her]; exact hW⟩ (Nat.le_trans (Nat.le_add_right _ _) hc1) (Nat.le_trans (Nat.le_add_right _ _) hs1) d95_189
  have kc55 : ∀ (st : CS) (x2 : Int32) (x3 : Int32) (x4 : Int32) (x5 : Int32) (z0 : Int32) (H : Heap) (locs : List Loc) (ls : Array Slot) (cells slots : Nat) (r : (CS) × Nat × Nat), CW ρ P ad st H → va_S (MA wC ad s.heap.size) s.heap H locs → lv_has ls 7 [(0, .ref (ad 4)), (1, .ref (ad 2)), (2, .int x2), (3, .int x3), (4, .int x4), (5, .int x5)] → res.1 = r.1 → cells + r.2.1 ≤ res.2.1 → slots + r.2.2 ≤ res.2.2 → lu_index_55 st x2 x3 x4 x5 z0 = some r → W p l e ({ frames := 16, cells := res.2.1, slots := res.2.2, locals := 698 } : Room) s m args below meth c H locs cells slots (MQ below (mQ (fun v H1 => v = none ∧ CW ρ P ad res.1 H1) (MA wC ad s.heap.size)) args s res.2.1 res.2.2 (MA wC ad s.heap.size)) (F0 m 55 ls [.int z0]) := by
    intro st x2 x3 x4 x5 z0 H locs ls cells slots r hW hS hl her hc1 hs1 h
    have hSz := hS.1
    unfold lu_index_55 at h
    refine lv_istore (pc := 55) (lv' := [(6, .int z0), (0, .ref (ad 4)), (1, .ref (ad 2)), (2, .int x2), (3, .int x3), (4, .int x4), (5, .int x5)]) hx hb d95_55 hl (by decide) rfl (fun ls hl => ?_)
    refine lv_iload (pc := 57) hx hb d95_57 (lv_at hl 5 rfl) ?_
    refine lv_if_ne (pc := 59) (tgt := 74) hx hb d95_59 (by decide) (fun c59 => ?_) (fun c59 => ?_)
    · have h := jb_f c59 h
      exact kc74   st x2 x3 x5 z0 _ _ _ _ _ _ hW hS (lv_sub hl [1, 2, 3, 4, 6, 0] rfl) her hc1 hs1 h
    · have h := jb_t c59 h
      refine lv_iload_n (pc := 62) hx hb d95_62 rfl (lv_at hl 3 rfl) ?_
      refine lv_iconst (pc := 63) (v := 1) hx hb d95_63 (by decide) ?_
      refine lv_icmp_ne (pc := 64) (tgt := 74) hx hb d95_64 (by decide) (fun c64 => ?_) (fun c64 => ?_)
      · have h := jb_f c64 h
        exact kc74   st x2 x3 x5 z0 _ _ _ _ _ _ hW hS (lv_sub hl [1, 2, 3, 4, 6, 0] rfl) her hc1 hs1 h
      · have h := jb_t c64 h
        refine lv_iload (pc := 67) hx hb d95_67 (lv_at hl 6 rfl) ?_
        refine lv_istore (pc := 69) (lv' := [(6, .int x5), (0, .ref (ad 4)), (1, .ref (ad 2)), (2, .int x2), (3, .int x3), (4, .int x4), (5, .int x5)]) hx hb d95_69 hl (by decide) rfl (fun ls hl => ?_)
        refine lv_iconst (pc := 71) (v := 1) hx hb d95_71 (by decide) ?_
        refine lv_istore (pc := 72) (lv' := [(5, .int 1), (6, .int x5), (0, .ref (ad 4)), (1, .ref (ad 2)), (2, .int x2), (3, .int x3), (4, .int x4)]) hx hb d95_72 hl (by decide) rfl (fun ls hl => ?_)
        exact kc74   st x2 x3 1 x5 _ _ _ _ _ _ hW hS (lv_sub hl [2, 3, 4, 5, 0, 1] rfl) her hc1 hs1 h
  have her : res.1 = res.1 := rfl
  have hc1 : 0 + res.2.1 ≤ res.2.1 := Nat.le_of_eq (Nat.zero_add _)
  have hs1 : 0 + res.2.2 ≤ res.2.2 := Nat.le_of_eq (Nat.zero_add _)
  unfold f_lu_index at h
  refine lv_aload_n (pc := 0) hx hb d95_0 rfl (lv_at hl 0 rfl) ?_
  refine c_getK (pc := 1) X hW 4 0 6 1 (C := "WordFunctions$LookUps") (T := T6) (N := 2) (by decide) rfl rfl rfl rfl tin6 rfl wd209 rfl rfl d95_1 ?_
  refine lv_iconst (pc := 4) (v := 0) hx hb d95_4 (by decide) ?_
  obtain ⟨q13, hq13, h⟩ := jc_some h
  refine k_callV (pc := 5) (n := 1) X hS (c_ar_rows l ρ ad _ P st 0 q13 hW  hq13) wd749 wd746 wd747 wd748 wd3 (by decide) ⟨rfl, rfl, Nat.le_of_ble_eq_true rfl, Nat.le_of_ble_eq_true rfl⟩ (c_recv X hW 1 3 (by decide) rfl rfl) (As := [.int 0]) (rest := []) rfl rfl hl.1 (Nat.le_of_ble_eq_true rfl) d95_5 ⟨room_l0 hc1, room_l0 hs1⟩ (fun q hq => False.elim hq) (fun v H1 locs1 hv _ _ hSq13 => ?_)
  obtain ⟨rfl, rfl⟩ := hv
  have hS := hSq13
  have hSz := hS.1
  refine lv_istore_n (pc := 8) (lv' := [(2, .int q13), (0, .ref (ad 4)), (1, .ref (ad 2))]) hx hb d95_8 rfl hl (by decide) rfl (fun ls hl => ?_)
  refine lv_aload_n (pc := 9) hx hb d95_9 rfl (lv_at hl 1 rfl) ?_
  refine c_getK (pc := 10) X hW 4 0 6 1 (C := "WordFunctions$LookUps") (T := T6) (N := 2) (by decide) rfl rfl rfl rfl tin6 rfl wd209 rfl rfl d95_10 ?_
  refine lv_iconst (pc := 13) (v := 0) hx hb d95_13 (by decide) ?_
  obtain ⟨q14, hq14, h⟩ := jc_some h
  refine k_callV (pc := 14) (n := 1) X hS (c_ar_columns l ρ ad _ P st 0 q14 hW  hq14) wd754 wd751 wd752 wd753 wd3 (by decide) ⟨rfl, rfl, Nat.le_of_ble_eq_true rfl, Nat.le_of_ble_eq_true rfl⟩ (c_recv X hW 1 3 (by decide) rfl rfl) (As := [.int 0]) (rest := []) rfl rfl hl.1 (Nat.le_of_ble_eq_true rfl) d95_14 ⟨room_l0 hc1, room_l0 hs1⟩ (fun q hq => False.elim hq) (fun v H1 locs1 hv _ _ hSq14 => ?_)
  obtain ⟨rfl, rfl⟩ := hv
  have hS := hSq14
  have hSz := hS.1
  refine lv_istore_n (pc := 17) (lv' := [(3, .int q14), (2, .int q13), (0, .ref (ad 4)), (1, .ref (ad 2))]) hx hb d95_17 rfl hl (by decide) rfl (fun ls hl => ?_)
  refine lv_aload_n (pc := 18) hx hb d95_18 rfl (lv_at hl 2 rfl) ?_
  refine c_getK (pc := 19) X hW 4 0 6 1 (C := "WordFunctions$LookUps") (T := T6) (N := 2) (by decide) rfl rfl rfl rfl tin6 rfl wd209 rfl rfl d95_19 ?_
  refine lv_iconst (pc := 22) (v := 2) hx hb d95_22 (by decide) ?_
  obtain ⟨q15, hq15, h⟩ := jc_some h
  refine k_callV (pc := 23) (n := 1) X hS (c_ar_isThere l ρ ad _ P st 2 q15 hW  hq15) wd758 wd755 wd756 wd757 wd3 (by decide) ⟨rfl, rfl, Nat.le_of_ble_eq_true rfl, Nat.le_of_ble_eq_true rfl⟩ (c_recv X hW 1 3 (by decide) rfl rfl) (As := [.int 2]) (rest := []) rfl rfl hl.1 (Nat.le_of_ble_eq_true rfl) d95_23 ⟨room_l0 hc1, room_l0 hs1⟩ (fun q hq => False.elim hq) (fun v H1 locs1 hv _ _ hSq15 => ?_)
  obtain ⟨rfl, rfl⟩ := hv
  have hS := hSq15
  have hSz := hS.1
  refine lv_istore (pc := 26) (lv' := [(4, .int q15), (3, .int q14), (2, .int q13), (0, .ref (ad 4)), (1, .ref (ad 2))]) hx hb d95_26 hl (by decide) rfl (fun ls hl => ?_)
  refine lv_aload_n (pc := 28) hx hb d95_28 rfl (lv_at hl 3 rfl) ?_
  refine c_getK (pc := 29) X hW 4 0 6 1 (C := "WordFunctions$LookUps") (T := T6) (N := 2) (by decide) rfl rfl rfl rfl tin6 rfl wd209 rfl rfl d95_29 ?_
  refine lv_iconst (pc := 32) (v := 1) hx hb d95_32 (by decide) ?_
  obtain ⟨q16, hq16, h⟩ := jc_some h
  refine k_callV (pc := 33) (n := 1) X hS (c_ar_whole l ρ ad _ P st 1 q16 hW  hq16) wd762 wd759 wd760 wd761 wd3 (by decide) ⟨rfl, rfl, Nat.le_of_ble_eq_true rfl, Nat.le_of_ble_eq_true rfl⟩ (c_recv X hW 1 3 (by decide) rfl rfl) (As := [.int 1]) (rest := []) rfl rfl hl.1 (Nat.le_of_ble_eq_true rfl) d95_33 ⟨room_l0 hc1, room_l0 hs1⟩ (fun q hq => MA.mono hS.1 hq) (fun v H1 locs1 hv hz1 hz2 hSq16 => ?_)
  have hPq := hW.1
  obtain ⟨rfl, hW⟩ := hv
  have hS := hSq16
  have hSz := hS.1
  refine lv_istore (pc := 36) (lv' := [(5, .int q16.1), (4, .int q15), (3, .int q14), (2, .int q13), (0, .ref (ad 4)), (1, .ref (ad 2))]) hx hb d95_36 hl (by decide) rfl (fun ls hl => ?_)
  refine lv_iload (pc := 38) hx hb d95_38 (lv_at hl 1 rfl) ?_
  refine lv_if_eq (pc := 40) (tgt := 54) hx hb d95_40 (by decide) (fun c40 => ?_) (fun c40 => ?_)
  · have h := jb_t c40 h
    refine lv_iconst (pc := 54) (v := 1) hx hb d95_54 (by decide) ?_
    exact kc55   q16.2 q13 q14 q15 q16.1 1 _ _ _ _ _ _ hW hS (lv_sub hl [4, 5, 3, 2, 1, 0] rfl) her hc1 hs1 h
  · have h := jb_f c40 h
    refine lv_aload_n (pc := 43) hx hb d95_43 rfl (lv_at hl 4 rfl) ?_
    refine c_getK (pc := 44) X hW 4 0 6 1 (C := "WordFunctions$LookUps") (T := T6) (N := 2) (by decide) rfl rfl rfl rfl tin6 rfl wd209 rfl rfl d95_44 ?_
    refine lv_iconst (pc := 47) (v := 2) hx hb d95_47 (by decide) ?_
    obtain ⟨q17, hq17, h⟩ := jc_some h
    refine k_callV (pc := 48) (n := 1) X hS (c_ar_whole l ρ ad _ P q16.2 2 q17 hW  hq17) wd762 wd759 wd760 wd761 wd3 (by decide) ⟨rfl, rfl, Nat.le_of_ble_eq_true rfl, Nat.le_of_ble_eq_true rfl⟩ (c_recv X hW 1 3 (by decide) rfl rfl) (As := [.int 2]) (rest := []) rfl rfl hl.1 (Nat.le_of_ble_eq_true rfl) d95_48 ⟨room_l0 hc1, room_l0 hs1⟩ (fun q hq => MA.mono hS.1 hq) (fun v H1 locs1 hv hz1 hz2 hSq17 => ?_)
    have hPq := hW.1
    obtain ⟨rfl, hW⟩ := hv
    have hS := hSq17
    have hSz := hS.1
    refine lv_goto (pc := 51) (tgt := 55) hx hb d95_51 (by decide) ?_
    exact kc55   q17.2 q13 q14 q15 q16.1 q17.1 _ _ _ _ _ _ hW hS (lv_sub hl [4, 5, 3, 2, 1, 0] rfl) her hc1 hs1 h
def lu_lookUp_138  (st : CS) (x4 : Int32) (x5 : VV) : Option ((VV × CS) × Nat × Nat) := jb (x4 = (-1)) (jd (f_vl_ofError 7) (fun q1 => some ((q1, st), 0, 0))) (some ((x5, st), 0, 0))
def lu_lookUp_63  (st : CS) (x4 : Int32) : Option ((VV × CS) × Nat × Nat) := jc (f_ar_nth st 2 x4) (fun q3 => lu_lookUp_138 st x4 q3)
def f_lu_lookUp (st : CS) : Option ((VV × CS) × Nat × Nat) := jd (f_lu_sought st) (fun q5 => jc (f_ar_rows q5.2 1) (fun q7 => jc (f_ar_columns q5.2 1) (fun q8 => jc (f_ar_isLeftOut q5.2 2) (fun q9 => jb (q9 = 0) (jc (f_lu_find q5.2 q5.1 1 1 (q7 * q8) 1) (fun q16 => jc (f_ar_many q16.2 2) (fun q17 => jb (q16.1 < q17) (lu_lookUp_63 q16.2 q16.1) (lu_lookUp_63 q16.2 (-1))))) (jb (q8 ≤ q7) (jc (f_lu_find q5.2 q5.1 1 q8 q7 1) (fun q10 => jc (f_ar_at q10.2 1 q10.1 (q8 - 1)) (fun q11 => lu_lookUp_138 q10.2 q10.1 q11))) (jc (f_lu_find q5.2 q5.1 1 1 q8 1) (fun q13 => jc (f_ar_at q13.2 1 (q7 - 1) q13.1) (fun q14 => lu_lookUp_138 q13.2 q13.1 q14))))))))
set_option maxHeartbeats 4000000 in
set_option maxRecDepth 100000 in
theorem c_lu_lookUp (l : Launch) (ρ : RH) (ad : Nat → Nat) (H : Heap) (P : Nat → Prop) (st : CS) (res : (VV × CS) × Nat × Nat) (hW : CW ρ P ad st H) (h : f_lu_lookUp st = some res) : Met l y96 (wsOf y96 b96 6 (some (.object "WordFunctions$Value"))) ({ frames := 15, cells := res.2.1, slots := res.2.2, locals := 677 } : Room) (va_Pc [.ref (ad 4)] (KP ρ H)) (mQ (fun v H1 => ∃ x : Nat, v = some (.ref x) ∧ isV ρ P H1 x res.1.1 ∧ CW ρ P ad res.1.2 H1) (MA wC ad H.size)) res.2.1 res.2.2 (MA wC ad H.size) := by
  refine m_ofW (own := "WordFunctions$LookUps") (plainFor_of_name rfl) rfl (Nat.le_of_ble_eq_true rfl) fun p e s m args below meth c ls hx hb hr hlk _ X hs hl => ?_
  subst hs
  have hS : va_S (MA wC ad s.heap.size) s.heap s.heap [] := va_S.rf
  have hSz := hS.1
  have hAz : ∀ q, s.heap.size ≤ q → (MA wC ad s.heap.size) q := fun q hq => Or.inr hq
  have hAp : ∀ i, i < 46 → (MA wC ad s.heap.size) (ad i) := fun i hi => MA.in hi
  have hPp : ∀ i, i < 46 → P (ad i) := hW.1
  have hl : lv_has ls 6 [(0, .ref (ad 4))] := hl
  have kc138 : ∀ (st : CS) (x4 : Int32) (x5 : VV) (ax5 : Nat) (H : Heap) (locs : List Loc) (ls : Array Slot) (cells slots : Nat) (r : (VV × CS) × Nat × Nat), CW ρ P ad st H → va_S (MA wC ad s.heap.size) s.heap H locs → isV ρ P H ax5 x5 → lv_has ls 6 [(4, .int x4), (5, .ref ax5)] → res.1 = r.1 → cells + r.2.1 ≤ res.2.1 → slots + r.2.2 ≤ res.2.2 → lu_lookUp_138 st x4 x5 = some r → W p l e ({ frames := 15, cells := res.2.1, slots := res.2.2, locals := 677 } : Room) s m args below meth c H locs cells slots (MQ below (mQ (fun v H1 => ∃ x : Nat, v = some (.ref x) ∧ isV ρ P H1 x res.1.1 ∧ CW ρ P ad res.1.2 H1) (MA wC ad s.heap.size)) args s res.2.1 res.2.2 (MA wC ad s.heap.size)) (F0 m 138 ls []) := by
    intro st x4 x5 ax5 H locs ls cells slots r hW hS fax5 hl her hc1 hs1 h
    have hSz := hS.1
    unfold lu_lookUp_138 at h
    refine lv_iload (pc := 138) hx hb d96_138 (lv_at hl 0 rfl) ?_
    refine lv_iconst (pc := 140) (v := (-1)) hx hb d96_140 (by decide) ?_
    refine lv_icmp_ne (pc := 141) (tgt := 152) hx hb d96_141 (by decide) (fun c141 => ?_) (fun c141 => ?_)
    · have h := jb_f c141 h
      refine lv_aload (pc := 152) hx hb d96_152 (lv_at hl 1 rfl) ?_
      have her : res.1 = (x5, st) := her.trans (congrArg Prod.fst (Option.some.inj h)).symm
      exact m_aret (pc := 154) hx hb hr (Or.inl ⟨_, rfl⟩) hlk hS ⟨ax5, rfl, by rw [her]; exact fax5, by rw [her]; exact hW⟩ (Nat.le_trans (Nat.le_add_right _ _) hc1) (Nat.le_trans (Nat.le_add_right _ _) hs1) d96_154
    · have h := jb_t c141 h
      refine lv_bipush (pc := 144) (v := 7) hx hb d96_144 (by decide) ?_
      obtain ⟨q1, rq1, hq1, h, herq1, hccq1, hssq1⟩ := jd_some h
      refine k_callS (pc := 146) (n := 1) X hS (c_vl_ofError l ρ _ P 7 q1 hW.2.2.1 hW.2.1  hq1) wd651 wd836 wd650 wd4 (by decide) ⟨rfl, rfl, Nat.le_of_ble_eq_true rfl, Nat.le_of_ble_eq_true rfl⟩ (As := [.int 7]) (rest := []) rfl rfl hl.1 (Nat.le_of_ble_eq_true rfl) d96_146 ⟨room_le hccq1 hc1, room_le hssq1 hs1⟩ (fun q hq => hAz q (Nat.le_trans hS.1 hq)) (fun v H1 locs1 hv hz1 hz2 hSq1 => ?_)
      obtain ⟨u2, rfl, fu2⟩ := hv
      have hk : kp no _ H1 := kp_call hz1 hz2 (fun q hq z => absurd hq (Nat.not_lt.mpr z))
      have hW := hW.keep hk no_hz (fun _ _ z => z)
      have hS := hSq1
      have hSz := hS.1
      have her := her.trans herq1
      have hc1 := room_st hccq1 hc1
      have hs1 := room_st hssq1 hs1
      refine lv_goto (pc := 149) (tgt := 154) hx hb d96_149 (by decide) ?_
      have her : res.1 = (q1.1, st) := her.trans (congrArg Prod.fst (Option.some.inj h)).symm
      exact m_aret (pc := 154) hx hb hr (Or.inl ⟨_, rfl⟩) hlk hS ⟨u2, rfl, by rw [her]; exact fu2, by rw [her]; exact hW⟩ (Nat.le_trans (Nat.le_add_right _ _) hc1) (Nat.le_trans (Nat.le_add_right _ _) hs1) d96_154
  have kc63 : ∀ (st : CS) (x4 : Int32) (H : Heap) (locs : List Loc) (ls : Array Slot) (cells slots : Nat) (r : (VV × CS) × Nat × Nat), CW ρ P ad st H → va_S (MA wC ad s.heap.size) s.heap H locs → lv_has ls 6 [(0, .ref (ad 4)), (4, .int x4)] → res.1 = r.1 → cells + r.2.1 ≤ res.2.1 → slots + r.2.2 ≤ res.2.2 → lu_lookUp_63 st x4 = some r → W p l e ({ frames := 15, cells := res.2.1, slots := res.2.2, locals := 677 } : Room) s m args below meth c H locs cells slots (MQ below (mQ (fun v H1 => ∃ x : Nat, v = some (.ref x) ∧ isV ρ P H1 x res.1.1 ∧ CW ρ P ad res.1.2 H1) (MA wC ad s.heap.size)) args s res.2.1 res.2.2 (MA wC ad s.heap.size)) (F0 m 63 ls []) := by
    intro st x4 H locs ls cells slots r hW hS hl her hc1 hs1 h
    have hSz := hS.1
    unfold lu_lookUp_63 at h
    refine lv_aload_n (pc := 63) hx hb d96_63 rfl (lv_at hl 0 rfl) ?_
    refine c_getK (pc := 64) X hW 4 0 6 1 (C := "WordFunctions$LookUps") (T := T6) (N := 2) (by decide) rfl rfl rfl rfl tin6 rfl wd209 rfl rfl d96_64 ?_
    refine lv_iconst (pc := 67) (v := 2) hx hb d96_67 (by decide) ?_
    refine lv_iload (pc := 68) hx hb d96_68 (lv_at hl 1 rfl) ?_
    obtain ⟨q3, hq3, h⟩ := jc_some h
    refine k_callV (pc := 70) (n := 2) X hS (c_ar_nth l ρ ad _ P st 2 x4 q3 hW  hq3) wd770 wd1118 wd768 wd769 wd3 (by decide) ⟨rfl, rfl, Nat.le_of_ble_eq_true rfl, Nat.le_of_ble_eq_true rfl⟩ (c_recv X hW 1 3 (by decide) rfl rfl) (As := [.int 2, .int x4]) (rest := []) rfl rfl hl.1 (Nat.le_of_ble_eq_true rfl) d96_70 ⟨room_l0 hc1, room_l0 hs1⟩ (fun q hq => False.elim hq) (fun v H1 locs1 hv _ _ hSq3 => ?_)
    obtain ⟨u4, rfl, fu4, rfl⟩ := hv
    have hS := hSq3
    have hSz := hS.1
    refine lv_astore (pc := 73) (lv' := [(5, .ref u4), (0, .ref (ad 4)), (4, .int x4)]) hx hb d96_73 hl (by decide) rfl (fun ls hl => ?_)
    refine lv_goto (pc := 75) (tgt := 138) hx hb d96_75 (by decide) ?_
    exact kc138   st x4 q3 u4 _ _ _ _ _ _ hW hS fu4 (lv_sub hl [2, 0] rfl) her hc1 hs1 h
  have her : res.1 = res.1 := rfl
  have hc1 : 0 + res.2.1 ≤ res.2.1 := Nat.le_of_eq (Nat.zero_add _)
  have hs1 : 0 + res.2.2 ≤ res.2.2 := Nat.le_of_eq (Nat.zero_add _)
  unfold f_lu_lookUp at h
  refine lv_aload_n (pc := 0) hx hb d96_0 rfl (lv_at hl 0 rfl) ?_
  obtain ⟨q5, rq5, hq5, h, herq5, hccq5, hssq5⟩ := jd_some h
  refine k_callV (pc := 1) (n := 0) X hS (c_lu_sought l ρ ad _ P st  q5 hW  hq5) wd1117 wd1114 wd1116 sl100 wd8 (by decide) ⟨rfl, rfl, Nat.le_of_ble_eq_true rfl, Nat.le_of_ble_eq_true rfl⟩ (c_recv X hW 4 6 (by decide) rfl rfl) (As := []) (rest := []) rfl rfl hl.1 (Nat.le_of_ble_eq_true rfl) d96_1 ⟨room_le hccq5 hc1, room_le hssq5 hs1⟩ (fun q hq => MA.mono hS.1 hq) (fun v H1 locs1 hv hz1 hz2 hSq5 => ?_)
  have hPq := hW.1
  obtain ⟨u6, rfl, fu6, hW⟩ := hv
  have hS := hSq5
  have hSz := hS.1
  have her := her.trans herq5
  have hc1 := room_st hccq5 hc1
  have hs1 := room_st hssq5 hs1
  refine lv_astore_n (pc := 4) (lv' := [(1, .ref u6), (0, .ref (ad 4))]) hx hb d96_4 rfl hl (by decide) rfl (fun ls hl => ?_)
  refine lv_aload_n (pc := 5) hx hb d96_5 rfl (lv_at hl 1 rfl) ?_
  refine c_getK (pc := 6) X hW 4 0 6 1 (C := "WordFunctions$LookUps") (T := T6) (N := 2) (by decide) rfl rfl rfl rfl tin6 rfl wd209 rfl rfl d96_6 ?_
  refine lv_iconst (pc := 9) (v := 1) hx hb d96_9 (by decide) ?_
  obtain ⟨q7, hq7, h⟩ := jc_some h
  refine k_callV (pc := 10) (n := 1) X hS (c_ar_rows l ρ ad _ P q5.1.2 1 q7 hW  hq7) wd749 wd746 wd747 wd748 wd3 (by decide) ⟨rfl, rfl, Nat.le_of_ble_eq_true rfl, Nat.le_of_ble_eq_true rfl⟩ (c_recv X hW 1 3 (by decide) rfl rfl) (As := [.int 1]) (rest := []) rfl rfl hl.1 (Nat.le_of_ble_eq_true rfl) d96_10 ⟨room_l0 hc1, room_l0 hs1⟩ (fun q hq => False.elim hq) (fun v H1 locs1 hv _ _ hSq7 => ?_)
  obtain ⟨rfl, rfl⟩ := hv
  have hS := hSq7
  have hSz := hS.1
  refine lv_istore_n (pc := 13) (lv' := [(2, .int q7), (1, .ref u6), (0, .ref (ad 4))]) hx hb d96_13 rfl hl (by decide) rfl (fun ls hl => ?_)
  refine lv_aload_n (pc := 14) hx hb d96_14 rfl (lv_at hl 2 rfl) ?_
  refine c_getK (pc := 15) X hW 4 0 6 1 (C := "WordFunctions$LookUps") (T := T6) (N := 2) (by decide) rfl rfl rfl rfl tin6 rfl wd209 rfl rfl d96_15 ?_
  refine lv_iconst (pc := 18) (v := 1) hx hb d96_18 (by decide) ?_
  obtain ⟨q8, hq8, h⟩ := jc_some h
  refine k_callV (pc := 19) (n := 1) X hS (c_ar_columns l ρ ad _ P q5.1.2 1 q8 hW  hq8) wd754 wd751 wd752 wd753 wd3 (by decide) ⟨rfl, rfl, Nat.le_of_ble_eq_true rfl, Nat.le_of_ble_eq_true rfl⟩ (c_recv X hW 1 3 (by decide) rfl rfl) (As := [.int 1]) (rest := []) rfl rfl hl.1 (Nat.le_of_ble_eq_true rfl) d96_19 ⟨room_l0 hc1, room_l0 hs1⟩ (fun q hq => False.elim hq) (fun v H1 locs1 hv _ _ hSq8 => ?_)
  obtain ⟨rfl, rfl⟩ := hv
  have hS := hSq8
  have hSz := hS.1
  refine lv_istore_n (pc := 22) (lv' := [(3, .int q8), (2, .int q7), (1, .ref u6), (0, .ref (ad 4))]) hx hb d96_22 rfl hl (by decide) rfl (fun ls hl => ?_)
  refine lv_aload_n (pc := 23) hx hb d96_23 rfl (lv_at hl 3 rfl) ?_
  refine c_getK (pc := 24) X hW 4 0 6 1 (C := "WordFunctions$LookUps") (T := T6) (N := 2) (by decide) rfl rfl rfl rfl tin6 rfl wd209 rfl rfl d96_24 ?_
  refine lv_iconst (pc := 27) (v := 2) hx hb d96_27 (by decide) ?_
  obtain ⟨q9, hq9, h⟩ := jc_some h
  refine k_callV (pc := 28) (n := 1) X hS (c_ar_isLeftOut l ρ ad _ P q5.1.2 2 q9 hW  hq9) wd929 wd1148 wd927 wd928 wd3 (by decide) ⟨rfl, rfl, Nat.le_of_ble_eq_true rfl, Nat.le_of_ble_eq_true rfl⟩ (c_recv X hW 1 3 (by decide) rfl rfl) (As := [.int 2]) (rest := []) rfl rfl hl.1 (Nat.le_of_ble_eq_true rfl) d96_28 ⟨room_l0 hc1, room_l0 hs1⟩ (fun q hq => False.elim hq) (fun v H1 locs1 hv _ _ hSq9 => ?_)
  obtain ⟨rfl, rfl⟩ := hv
  have hS := hSq9
  have hSz := hS.1
  refine lv_if_ne (pc := 31) (tgt := 78) hx hb d96_31 (by decide) (fun c31 => ?_) (fun c31 => ?_)
  · have h := jb_f c31 h
    refine lv_iload_n (pc := 78) hx hb d96_78 rfl (lv_at hl 0 rfl) ?_
    refine lv_iload_n (pc := 79) hx hb d96_79 rfl (lv_at hl 1 rfl) ?_
    refine lv_icmp_le (pc := 80) (tgt := 112) hx hb d96_80 (by decide) (fun c80 => ?_) (fun c80 => ?_)
    · have h := jb_t c80 h
      refine lv_aload_n (pc := 112) hx hb d96_112 rfl (lv_at hl 3 rfl) ?_
      refine lv_aload_n (pc := 113) hx hb d96_113 rfl (lv_at hl 2 rfl) ?_
      refine lv_iconst (pc := 114) (v := 1) hx hb d96_114 (by decide) ?_
      refine lv_iload_n (pc := 115) hx hb d96_115 rfl (lv_at hl 0 rfl) ?_
      refine lv_iload_n (pc := 116) hx hb d96_116 rfl (lv_at hl 1 rfl) ?_
      refine lv_iconst (pc := 117) (v := 1) hx hb d96_117 (by decide) ?_
      obtain ⟨q10, hq10, h⟩ := jc_some h
      refine k_callV (pc := 118) (n := 5) X hS (c_lu_find l ρ ad _ P q5.1.2 u6 q5.1.1 1 q8 q7 1 q10 hW fu6 hq10) wd1129 wd1126 wd1128 sl92 wd8 (by decide) ⟨rfl, rfl, Nat.le_of_ble_eq_true rfl, Nat.le_of_ble_eq_true rfl⟩ (c_recv X hW 4 6 (by decide) rfl rfl) (As := [.ref u6, .int 1, .int q8, .int q7, .int 1]) (rest := []) rfl rfl hl.1 (Nat.le_of_ble_eq_true rfl) d96_118 ⟨room_l0 hc1, room_l0 hs1⟩ (fun q hq => MA.mono hS.1 hq) (fun v H1 locs1 hv hz1 hz2 hSq10 => ?_)
      have hPq := hW.1
      obtain ⟨rfl, hW⟩ := hv
      have hS := hSq10
      have hSz := hS.1
      refine lv_istore (pc := 121) (lv' := [(4, .int q10.1), (3, .int q8), (2, .int q7), (1, .ref u6), (0, .ref (ad 4))]) hx hb d96_121 hl (by decide) rfl (fun ls hl => ?_)
      refine lv_aload_n (pc := 123) hx hb d96_123 rfl (lv_at hl 4 rfl) ?_
      refine c_getK (pc := 124) X hW 4 0 6 1 (C := "WordFunctions$LookUps") (T := T6) (N := 2) (by decide) rfl rfl rfl rfl tin6 rfl wd209 rfl rfl d96_124 ?_
      refine lv_iconst (pc := 127) (v := 1) hx hb d96_127 (by decide) ?_
      refine lv_iload (pc := 128) hx hb d96_128 (lv_at hl 0 rfl) ?_
      refine lv_iload_n (pc := 130) hx hb d96_130 rfl (lv_at hl 1 rfl) ?_
      refine lv_iconst (pc := 131) (v := 1) hx hb d96_131 (by decide) ?_
      refine lv_isub (pc := 132) hx hb d96_132 ?_
      obtain ⟨q11, hq11, h⟩ := jc_some h
      refine k_callV (pc := 133) (n := 3) X hS (c_ar_at l ρ ad _ P q10.2 1 q10.1 (q8 - 1) q11 hW  hq11) wd849 wd1143 wd847 wd848 wd3 (by decide) ⟨rfl, rfl, Nat.le_of_ble_eq_true rfl, Nat.le_of_ble_eq_true rfl⟩ (c_recv X hW 1 3 (by decide) rfl rfl) (As := [.int 1, .int q10.1, .int (q8 - 1)]) (rest := []) rfl rfl hl.1 (Nat.le_of_ble_eq_true rfl) d96_133 ⟨room_l0 hc1, room_l0 hs1⟩ (fun q hq => False.elim hq) (fun v H1 locs1 hv _ _ hSq11 => ?_)
      obtain ⟨u12, rfl, fu12, rfl⟩ := hv
      have hS := hSq11
      have hSz := hS.1
      refine lv_astore (pc := 136) (lv' := [(5, .ref u12), (4, .int q10.1), (3, .int q8), (2, .int q7), (1, .ref u6), (0, .ref (ad 4))]) hx hb d96_136 hl (by decide) rfl (fun ls hl => ?_)
      exact kc138   q10.2 q10.1 q11 u12 _ _ _ _ _ _ hW hS fu12 (lv_sub hl [1, 0] rfl) her hc1 hs1 h
    · have h := jb_f c80 h
      refine lv_aload_n (pc := 83) hx hb d96_83 rfl (lv_at hl 3 rfl) ?_
      refine lv_aload_n (pc := 84) hx hb d96_84 rfl (lv_at hl 2 rfl) ?_
      refine lv_iconst (pc := 85) (v := 1) hx hb d96_85 (by decide) ?_
      refine lv_iconst (pc := 86) (v := 1) hx hb d96_86 (by decide) ?_
      refine lv_iload_n (pc := 87) hx hb d96_87 rfl (lv_at hl 0 rfl) ?_
      refine lv_iconst (pc := 88) (v := 1) hx hb d96_88 (by decide) ?_
      obtain ⟨q13, hq13, h⟩ := jc_some h
      refine k_callV (pc := 89) (n := 5) X hS (c_lu_find l ρ ad _ P q5.1.2 u6 q5.1.1 1 1 q8 1 q13 hW fu6 hq13) wd1129 wd1126 wd1128 sl92 wd8 (by decide) ⟨rfl, rfl, Nat.le_of_ble_eq_true rfl, Nat.le_of_ble_eq_true rfl⟩ (c_recv X hW 4 6 (by decide) rfl rfl) (As := [.ref u6, .int 1, .int 1, .int q8, .int 1]) (rest := []) rfl rfl hl.1 (Nat.le_of_ble_eq_true rfl) d96_89 ⟨room_l0 hc1, room_l0 hs1⟩ (fun q hq => MA.mono hS.1 hq) (fun v H1 locs1 hv hz1 hz2 hSq13 => ?_)
      have hPq := hW.1
      obtain ⟨rfl, hW⟩ := hv
      have hS := hSq13
      have hSz := hS.1
      refine lv_istore (pc := 92) (lv' := [(4, .int q13.1), (3, .int q8), (2, .int q7), (1, .ref u6), (0, .ref (ad 4))]) hx hb d96_92 hl (by decide) rfl (fun ls hl => ?_)
      refine lv_aload_n (pc := 94) hx hb d96_94 rfl (lv_at hl 4 rfl) ?_
      refine c_getK (pc := 95) X hW 4 0 6 1 (C := "WordFunctions$LookUps") (T := T6) (N := 2) (by decide) rfl rfl rfl rfl tin6 rfl wd209 rfl rfl d96_95 ?_
      refine lv_iconst (pc := 98) (v := 1) hx hb d96_98 (by decide) ?_
      refine lv_iload_n (pc := 99) hx hb d96_99 rfl (lv_at hl 2 rfl) ?_
      refine lv_iconst (pc := 100) (v := 1) hx hb d96_100 (by decide) ?_
      refine lv_isub (pc := 101) hx hb d96_101 ?_
      refine lv_iload (pc := 102) hx hb d96_102 (lv_at hl 0 rfl) ?_
      obtain ⟨q14, hq14, h⟩ := jc_some h
      refine k_callV (pc := 104) (n := 3) X hS (c_ar_at l ρ ad _ P q13.2 1 (q7 - 1) q13.1 q14 hW  hq14) wd849 wd1143 wd847 wd848 wd3 (by decide) ⟨rfl, rfl, Nat.le_of_ble_eq_true rfl, Nat.le_of_ble_eq_true rfl⟩ (c_recv X hW 1 3 (by decide) rfl rfl) (As := [.int 1, .int (q7 - 1), .int q13.1]) (rest := []) rfl rfl hl.1 (Nat.le_of_ble_eq_true rfl) d96_104 ⟨room_l0 hc1, room_l0 hs1⟩ (fun q hq => False.elim hq) (fun v H1 locs1 hv _ _ hSq14 => ?_)
      obtain ⟨u15, rfl, fu15, rfl⟩ := hv
      have hS := hSq14
      have hSz := hS.1
      refine lv_astore (pc := 107) (lv' := [(5, .ref u15), (4, .int q13.1), (3, .int q8), (2, .int q7), (1, .ref u6), (0, .ref (ad 4))]) hx hb d96_107 hl (by decide) rfl (fun ls hl => ?_)
      refine lv_goto (pc := 109) (tgt := 138) hx hb d96_109 (by decide) ?_
      exact kc138   q13.2 q13.1 q14 u15 _ _ _ _ _ _ hW hS fu15 (lv_sub hl [1, 0] rfl) her hc1 hs1 h
  · have h := jb_t c31 h
    refine lv_aload_n (pc := 34) hx hb d96_34 rfl (lv_at hl 3 rfl) ?_
    refine lv_aload_n (pc := 35) hx hb d96_35 rfl (lv_at hl 2 rfl) ?_
    refine lv_iconst (pc := 36) (v := 1) hx hb d96_36 (by decide) ?_
    refine lv_iconst (pc := 37) (v := 1) hx hb d96_37 (by decide) ?_
    refine lv_iload_n (pc := 38) hx hb d96_38 rfl (lv_at hl 1 rfl) ?_
    refine lv_iload_n (pc := 39) hx hb d96_39 rfl (lv_at hl 0 rfl) ?_
    refine lv_imul (pc := 40) hx hb d96_40 ?_
    refine lv_iconst (pc := 41) (v := 1) hx hb d96_41 (by decide) ?_
    obtain ⟨q16, hq16, h⟩ := jc_some h
    refine k_callV (pc := 42) (n := 5) X hS (c_lu_find l ρ ad _ P q5.1.2 u6 q5.1.1 1 1 (q7 * q8) 1 q16 hW fu6 hq16) wd1129 wd1126 wd1128 sl92 wd8 (by decide) ⟨rfl, rfl, Nat.le_of_ble_eq_true rfl, Nat.le_of_ble_eq_true rfl⟩ (c_recv X hW 4 6 (by decide) rfl rfl) (As := [.ref u6, .int 1, .int 1, .int (q7 * q8), .int 1]) (rest := []) rfl rfl hl.1 (Nat.le_of_ble_eq_true rfl) d96_42 ⟨room_l0 hc1, room_l0 hs1⟩ (fun q hq => MA.mono hS.1 hq) (fun v H1 locs1 hv hz1 hz2 hSq16 => ?_)
    have hPq := hW.1
    obtain ⟨rfl, hW⟩ := hv
    have hS := hSq16
    have hSz := hS.1
    refine lv_istore (pc := 45) (lv' := [(4, .int q16.1), (3, .int q8), (2, .int q7), (1, .ref u6), (0, .ref (ad 4))]) hx hb d96_45 hl (by decide) rfl (fun ls hl => ?_)
    refine lv_iload (pc := 47) hx hb d96_47 (lv_at hl 0 rfl) ?_
    refine lv_aload_n (pc := 49) hx hb d96_49 rfl (lv_at hl 4 rfl) ?_
    refine c_getK (pc := 50) X hW 4 0 6 1 (C := "WordFunctions$LookUps") (T := T6) (N := 2) (by decide) rfl rfl rfl rfl tin6 rfl wd209 rfl rfl d96_50 ?_
    refine lv_iconst (pc := 53) (v := 2) hx hb d96_53 (by decide) ?_
    obtain ⟨q17, hq17, h⟩ := jc_some h
    refine k_callV (pc := 54) (n := 1) X hS (c_ar_many l ρ ad _ P q16.2 2 q17 hW  hq17) wd1056 wd1149 wd1054 wd1055 wd3 (by decide) ⟨rfl, rfl, Nat.le_of_ble_eq_true rfl, Nat.le_of_ble_eq_true rfl⟩ (c_recv X hW 1 3 (by decide) rfl rfl) (As := [.int 2]) (rest := [.int q16.1]) rfl rfl hl.1 (Nat.le_of_ble_eq_true rfl) d96_54 ⟨room_l0 hc1, room_l0 hs1⟩ (fun q hq => False.elim hq) (fun v H1 locs1 hv _ _ hSq17 => ?_)
    obtain ⟨rfl, rfl⟩ := hv
    have hS := hSq17
    have hSz := hS.1
    refine lv_icmp_lt (pc := 57) (tgt := 63) hx hb d96_57 (by decide) (fun c57 => ?_) (fun c57 => ?_)
    · have h := jb_t c57 h
      exact kc63   q16.2 q16.1 _ _ _ _ _ _ hW hS (lv_sub hl [4, 0] rfl) her hc1 hs1 h
    · have h := jb_f c57 h
      refine lv_iconst (pc := 60) (v := (-1)) hx hb d96_60 (by decide) ?_
      refine lv_istore (pc := 61) (lv' := [(4, .int (-1)), (3, .int q8), (2, .int q7), (1, .ref u6), (0, .ref (ad 4))]) hx hb d96_61 hl (by decide) rfl (fun ls hl => ?_)
      exact kc63   q16.2 (-1) _ _ _ _ _ _ hW hS (lv_sub hl [4, 0] rfl) her hc1 hs1 h
def lu_match_62  (st : CS) (x1 : VV) (z0 : Int32) : Option ((VV × CS) × Nat × Nat) := jc (f_ar_many st 1) (fun q1 => jc (f_lu_find st x1 1 1 q1 z0) (fun q2 => jb (q2.1 = (-1)) (jd (f_vl_ofError 7) (fun q5 => some ((q5, q2.2), 0, 0))) (jd (f_vl_ofNumber (FP.i2d (q2.1 + 1))) (fun q3 => some ((q3, q2.2), 0, 0)))))
def lu_match_45  (st : CS) (x1 : VV) (x2 : Int32) : Option ((VV × CS) × Nat × Nat) := jb (x2 = 0) (lu_match_62 st x1 0) (jb (x2 ≤ 0) (lu_match_62 st x1 (-1)) (lu_match_62 st x1 1))
def f_lu_match (st : CS) : Option ((VV × CS) × Nat × Nat) := jd (f_lu_sought st) (fun q7 => jc (f_ar_wholeOr q7.2 2 1) (fun q9 => jc (f_ar_rows q9.2 1) (fun q10 => jb (q10 ≤ 1) (lu_match_45 q9.2 q7.1 q9.1) (jc (f_ar_columns q9.2 1) (fun q11 => jb (q11 ≤ 1) (lu_match_45 q9.2 q7.1 q9.1) (jd (f_vl_ofError 7) (fun q12 => some ((q12, q9.2), 0, 0))))))))
set_option maxHeartbeats 4000000 in
set_option maxRecDepth 100000 in
theorem c_lu_match (l : Launch) (ρ : RH) (ad : Nat → Nat) (H : Heap) (P : Nat → Prop) (st : CS) (res : (VV × CS) × Nat × Nat) (hW : CW ρ P ad st H) (h : f_lu_match st = some res) : Met l y97 (wsOf y97 b97 5 (some (.object "WordFunctions$Value"))) ({ frames := 17, cells := res.2.1, slots := res.2.2, locals := 720 } : Room) (va_Pc [.ref (ad 4)] (KP ρ H)) (mQ (fun v H1 => ∃ x : Nat, v = some (.ref x) ∧ isV ρ P H1 x res.1.1 ∧ CW ρ P ad res.1.2 H1) (MA wC ad H.size)) res.2.1 res.2.2 (MA wC ad H.size) := by
  refine m_ofW (own := "WordFunctions$LookUps") (plainFor_of_name rfl) rfl (Nat.le_of_ble_eq_true rfl) fun p e s m args below meth c ls hx hb hr hlk _ X hs hl => ?_
  subst hs
  have hS : va_S (MA wC ad s.heap.size) s.heap s.heap [] := va_S.rf
  have hSz := hS.1
  have hAz : ∀ q, s.heap.size ≤ q → (MA wC ad s.heap.size) q := fun q hq => Or.inr hq
  have hAp : ∀ i, i < 46 → (MA wC ad s.heap.size) (ad i) := fun i hi => MA.in hi
  have hPp : ∀ i, i < 46 → P (ad i) := hW.1
  have hl : lv_has ls 5 [(0, .ref (ad 4))] := hl
  have kc62 : ∀ (st : CS) (x1 : VV) (z0 : Int32) (ax1 : Nat) (H : Heap) (locs : List Loc) (ls : Array Slot) (cells slots : Nat) (r : (VV × CS) × Nat × Nat), CW ρ P ad st H → va_S (MA wC ad s.heap.size) s.heap H locs → isV ρ P H ax1 x1 → lv_has ls 5 [(0, .ref (ad 4)), (1, .ref ax1)] → res.1 = r.1 → cells + r.2.1 ≤ res.2.1 → slots + r.2.2 ≤ res.2.2 → lu_match_62 st x1 z0 = some r → W p l e ({ frames := 17, cells := res.2.1, slots := res.2.2, locals := 720 } : Room) s m args below meth c H locs cells slots (MQ below (mQ (fun v H1 => ∃ x : Nat, v = some (.ref x) ∧ isV ρ P H1 x res.1.1 ∧ CW ρ P ad res.1.2 H1) (MA wC ad s.heap.size)) args s res.2.1 res.2.2 (MA wC ad s.heap.size)) (F0 m 62 ls [.int z0]) := by
    intro st x1 z0 ax1 H locs ls cells slots r hW hS fax1 hl her hc1 hs1 h
    have hSz := hS.1
    unfold lu_match_62 at h
    refine lv_istore_n (pc := 62) (lv' := [(3, .int z0), (0, .ref (ad 4)), (1, .ref ax1)]) hx hb d97_62 rfl hl (by decide) rfl (fun ls hl => ?_)
    refine lv_aload_n (pc := 63) hx hb d97_63 rfl (lv_at hl 1 rfl) ?_
    refine lv_aload_n (pc := 64) hx hb d97_64 rfl (lv_at hl 2 rfl) ?_
    refine lv_iconst (pc := 65) (v := 1) hx hb d97_65 (by decide) ?_
    refine lv_iconst (pc := 66) (v := 1) hx hb d97_66 (by decide) ?_
    refine lv_aload_n (pc := 67) hx hb d97_67 rfl (lv_at hl 1 rfl) ?_
    refine c_getK (pc := 68) X hW 4 0 6 1 (C := "WordFunctions$LookUps") (T := T6) (N := 2) (by decide) rfl rfl rfl rfl tin6 rfl wd209 rfl rfl d97_68 ?_
    refine lv_iconst (pc := 71) (v := 1) hx hb d97_71 (by decide) ?_
    obtain ⟨q1, hq1, h⟩ := jc_some h
    refine k_callV (pc := 72) (n := 1) X hS (c_ar_many l ρ ad _ P st 1 q1 hW  hq1) wd1056 wd1149 wd1054 wd1055 wd3 (by decide) ⟨rfl, rfl, Nat.le_of_ble_eq_true rfl, Nat.le_of_ble_eq_true rfl⟩ (c_recv X hW 1 3 (by decide) rfl rfl) (As := [.int 1]) (rest := [.int 1, .int 1, .ref ax1, .ref (ad 4)]) rfl rfl hl.1 (Nat.le_of_ble_eq_true rfl) d97_72 ⟨room_l0 hc1, room_l0 hs1⟩ (fun q hq => False.elim hq) (fun v H1 locs1 hv _ _ hSq1 => ?_)
    obtain ⟨rfl, rfl⟩ := hv
    have hS := hSq1
    have hSz := hS.1
    refine lv_iload_n (pc := 75) hx hb d97_75 rfl (lv_at hl 0 rfl) ?_
    obtain ⟨q2, hq2, h⟩ := jc_some h
    refine k_callV (pc := 76) (n := 5) X hS (c_lu_find l ρ ad _ P st ax1 x1 1 1 q1 z0 q2 hW fax1 hq2) wd1129 wd1126 wd1128 sl92 wd8 (by decide) ⟨rfl, rfl, Nat.le_of_ble_eq_true rfl, Nat.le_of_ble_eq_true rfl⟩ (c_recv X hW 4 6 (by decide) rfl rfl) (As := [.ref ax1, .int 1, .int 1, .int q1, .int z0]) (rest := []) rfl rfl hl.1 (Nat.le_of_ble_eq_true rfl) d97_76 ⟨room_l0 hc1, room_l0 hs1⟩ (fun q hq => MA.mono hS.1 hq) (fun v H1 locs1 hv hz1 hz2 hSq2 => ?_)
    have hPq := hW.1
    obtain ⟨rfl, hW⟩ := hv
    have hS := hSq2
    have hSz := hS.1
    refine lv_istore (pc := 79) (lv' := [(4, .int q2.1), (3, .int z0), (0, .ref (ad 4)), (1, .ref ax1)]) hx hb d97_79 hl (by decide) rfl (fun ls hl => ?_)
    refine lv_iload (pc := 81) hx hb d97_81 (lv_at hl 0 rfl) ?_
    refine lv_iconst (pc := 83) (v := (-1)) hx hb d97_83 (by decide) ?_
    refine lv_icmp_ne (pc := 84) (tgt := 95) hx hb d97_84 (by decide) (fun c84 => ?_) (fun c84 => ?_)
    · have h := jb_f c84 h
      refine lv_iload (pc := 95) hx hb d97_95 (lv_at hl 0 rfl) ?_
      refine lv_iconst (pc := 97) (v := 1) hx hb d97_97 (by decide) ?_
      refine lv_iadd (pc := 98) hx hb d97_98 ?_
      refine lv_i2d (pc := 99) hx hb d97_99 ?_
      obtain ⟨q3, rq3, hq3, h, herq3, hccq3, hssq3⟩ := jd_some h
      refine k_callS (pc := 100) (n := 1) X hS (c_vl_ofNumber l ρ _ P (FP.i2d (q2.1 + 1)) q3 hW.2.2.1 hW.2.1  hq3) wd642 wd1120 wd641 wd4 (by decide) ⟨rfl, rfl, Nat.le_of_ble_eq_true rfl, Nat.le_of_ble_eq_true rfl⟩ (As := [.double (FP.i2d (q2.1 + 1))]) (rest := []) rfl rfl hl.1 (Nat.le_of_ble_eq_true rfl) d97_100 ⟨room_le hccq3 hc1, room_le hssq3 hs1⟩ (fun q hq => hAz q (Nat.le_trans hS.1 hq)) (fun v H1 locs1 hv hz1 hz2 hSq3 => ?_)
      obtain ⟨u4, rfl, fu4⟩ := hv
      have hk : kp no _ H1 := kp_call hz1 hz2 (fun q hq z => absurd hq (Nat.not_lt.mpr z))
      have hW := hW.keep hk no_hz (fun _ _ z => z)
      have hS := hSq3
      have hSz := hS.1
      have her := her.trans herq3
      have hc1 := room_st hccq3 hc1
      have hs1 := room_st hssq3 hs1
      have her : res.1 = (q3.1, q2.2) := her.trans (congrArg Prod.fst (Option.some.inj h)).symm
      exact m_aret (pc := 103) hx hb hr (Or.inl ⟨_, rfl⟩) hlk hS ⟨u4, rfl, by rw [her]; exact fu4, by rw [her]; exact hW⟩ (Nat.le_trans (Nat.le_add_right _ _) hc1) (Nat.le_trans (Nat.le_add_right _ _) hs1) d97_103
    · have h := jb_t c84 h
      refine lv_bipush (pc := 87) (v := 7) hx hb d97_87 (by decide) ?_
      obtain ⟨q5, rq5, hq5, h, herq5, hccq5, hssq5⟩ := jd_some h
      refine k_callS (pc := 89) (n := 1) X hS (c_vl_ofError l ρ _ P 7 q5 hW.2.2.1 hW.2.1  hq5) wd651 wd836 wd650 wd4 (by decide) ⟨rfl, rfl, Nat.le_of_ble_eq_true rfl, Nat.le_of_ble_eq_true rfl⟩ (As := [.int 7]) (rest := []) rfl rfl hl.1 (Nat.le_of_ble_eq_true rfl) d97_89 ⟨room_le hccq5 hc1, room_le hssq5 hs1⟩ (fun q hq => hAz q (Nat.le_trans hS.1 hq)) (fun v H1 locs1 hv hz1 hz2 hSq5 => ?_)
      obtain ⟨u6, rfl, fu6⟩ := hv
      have hk : kp no _ H1 := kp_call hz1 hz2 (fun q hq z => absurd hq (Nat.not_lt.mpr z))
      have hW := hW.keep hk no_hz (fun _ _ z => z)
      have hS := hSq5
      have hSz := hS.1
      have her := her.trans herq5
      have hc1 := room_st hccq5 hc1
      have hs1 := room_st hssq5 hs1
      refine lv_goto (pc := 92) (tgt := 103) hx hb d97_92 (by decide) ?_
      have her : res.1 = (q5.1, q2.2) := her.trans (congrArg Prod.fst (Option.some.inj h)).symm
      exact m_aret (pc := 103) hx hb hr (Or.inl ⟨_, rfl⟩) hlk hS ⟨u6, rfl, by rw [her]; exact fu6, by rw [her]; exact hW⟩ (Nat.le_trans (Nat.le_add_right _ _) hc1) (Nat.le_trans (Nat.le_add_right _ _) hs1) d97_103
  have kc45 : ∀ (st : CS) (x1 : VV) (x2 : Int32) (ax1 : Nat) (H : Heap) (locs : List Loc) (ls : Array Slot) (cells slots : Nat) (r : (VV × CS) × Nat × Nat), CW ρ P ad st H → va_S (MA wC ad s.heap.size) s.heap H locs → isV ρ P H ax1 x1 → lv_has ls 5 [(0, .ref (ad 4)), (1, .ref ax1), (2, .int x2)] → res.1 = r.1 → cells + r.2.1 ≤ res.2.1 → slots + r.2.2 ≤ res.2.2 → lu_match_45 st x1 x2 = some r → W p l e ({ frames := 17, cells := res.2.1, slots := res.2.2, locals := 720 } : Room) s m args below meth c H locs cells slots (MQ below (mQ (fun v H1 => ∃ x : Nat, v = some (.ref x) ∧ isV ρ P H1 x res.1.1 ∧ CW ρ P ad res.1.2 H1) (MA wC ad s.heap.size)) args s res.2.1 res.2.2 (MA wC ad s.heap.size)) (F0 m 45 ls []) := by
    intro st x1 x2 ax1 H locs ls cells slots r hW hS fax1 hl her hc1 hs1 h
    have hSz := hS.1
    unfold lu_match_45 at h
    refine lv_iload_n (pc := 45) hx hb d97_45 rfl (lv_at hl 2 rfl) ?_
    refine lv_if_ne (pc := 46) (tgt := 53) hx hb d97_46 (by decide) (fun c46 => ?_) (fun c46 => ?_)
    · have h := jb_f c46 h
      refine lv_iload_n (pc := 53) hx hb d97_53 rfl (lv_at hl 2 rfl) ?_
      refine lv_if_le (pc := 54) (tgt := 61) hx hb d97_54 (by decide) (fun c54 => ?_) (fun c54 => ?_)
      · have h := jb_t c54 h
        refine lv_iconst (pc := 61) (v := (-1)) hx hb d97_61 (by decide) ?_
        exact kc62   st x1 (-1) ax1 _ _ _ _ _ _ hW hS fax1 (lv_sub hl [0, 1] rfl) her hc1 hs1 h
      · have h := jb_f c54 h
        refine lv_iconst (pc := 57) (v := 1) hx hb d97_57 (by decide) ?_
        refine lv_goto (pc := 58) (tgt := 62) hx hb d97_58 (by decide) ?_
        exact kc62   st x1 1 ax1 _ _ _ _ _ _ hW hS fax1 (lv_sub hl [0, 1] rfl) her hc1 hs1 h
    · have h := jb_t c46 h
      refine lv_iconst (pc := 49) (v := 0) hx hb d97_49 (by decide) ?_
      refine lv_goto (pc := 50) (tgt := 62) hx hb d97_50 (by decide) ?_
      exact kc62   st x1 0 ax1 _ _ _ _ _ _ hW hS fax1 (lv_sub hl [0, 1] rfl) her hc1 hs1 h
  have her : res.1 = res.1 := rfl
  have hc1 : 0 + res.2.1 ≤ res.2.1 := Nat.le_of_eq (Nat.zero_add _)
  have hs1 : 0 + res.2.2 ≤ res.2.2 := Nat.le_of_eq (Nat.zero_add _)
  unfold f_lu_match at h
  refine lv_aload_n (pc := 0) hx hb d97_0 rfl (lv_at hl 0 rfl) ?_
  obtain ⟨q7, rq7, hq7, h, herq7, hccq7, hssq7⟩ := jd_some h
  refine k_callV (pc := 1) (n := 0) X hS (c_lu_sought l ρ ad _ P st  q7 hW  hq7) wd1117 wd1114 wd1116 sl100 wd8 (by decide) ⟨rfl, rfl, Nat.le_of_ble_eq_true rfl, Nat.le_of_ble_eq_true rfl⟩ (c_recv X hW 4 6 (by decide) rfl rfl) (As := []) (rest := []) rfl rfl hl.1 (Nat.le_of_ble_eq_true rfl) d97_1 ⟨room_le hccq7 hc1, room_le hssq7 hs1⟩ (fun q hq => MA.mono hS.1 hq) (fun v H1 locs1 hv hz1 hz2 hSq7 => ?_)
  have hPq := hW.1
  obtain ⟨u8, rfl, fu8, hW⟩ := hv
  have hS := hSq7
  have hSz := hS.1
  have her := her.trans herq7
  have hc1 := room_st hccq7 hc1
  have hs1 := room_st hssq7 hs1
  refine lv_astore_n (pc := 4) (lv' := [(1, .ref u8), (0, .ref (ad 4))]) hx hb d97_4 rfl hl (by decide) rfl (fun ls hl => ?_)
  refine lv_aload_n (pc := 5) hx hb d97_5 rfl (lv_at hl 1 rfl) ?_
  refine c_getK (pc := 6) X hW 4 0 6 1 (C := "WordFunctions$LookUps") (T := T6) (N := 2) (by decide) rfl rfl rfl rfl tin6 rfl wd209 rfl rfl d97_6 ?_
  refine lv_iconst (pc := 9) (v := 2) hx hb d97_9 (by decide) ?_
  refine lv_iconst (pc := 10) (v := 1) hx hb d97_10 (by decide) ?_
  obtain ⟨q9, hq9, h⟩ := jc_some h
  refine k_callV (pc := 11) (n := 2) X hS (c_ar_wholeOr l ρ ad _ P q7.1.2 2 1 q9 hW  hq9) wd925 wd1154 wd923 wd924 wd3 (by decide) ⟨rfl, rfl, Nat.le_of_ble_eq_true rfl, Nat.le_of_ble_eq_true rfl⟩ (c_recv X hW 1 3 (by decide) rfl rfl) (As := [.int 2, .int 1]) (rest := []) rfl rfl hl.1 (Nat.le_of_ble_eq_true rfl) d97_11 ⟨room_l0 hc1, room_l0 hs1⟩ (fun q hq => MA.mono hS.1 hq) (fun v H1 locs1 hv hz1 hz2 hSq9 => ?_)
  have hPq := hW.1
  obtain ⟨rfl, hW⟩ := hv
  have hk : kp (Pm ad) _ H1 := kp_call hz1 hz2 (MA_Pm rfl)
  have fu8 := fu8.keep hk (Pm_P hPq)
  have hS := hSq9
  have hSz := hS.1
  refine lv_istore_n (pc := 14) (lv' := [(2, .int q9.1), (1, .ref u8), (0, .ref (ad 4))]) hx hb d97_14 rfl hl (by decide) rfl (fun ls hl => ?_)
  refine lv_aload_n (pc := 15) hx hb d97_15 rfl (lv_at hl 2 rfl) ?_
  refine c_getK (pc := 16) X hW 4 0 6 1 (C := "WordFunctions$LookUps") (T := T6) (N := 2) (by decide) rfl rfl rfl rfl tin6 rfl wd209 rfl rfl d97_16 ?_
  refine lv_iconst (pc := 19) (v := 1) hx hb d97_19 (by decide) ?_
  obtain ⟨q10, hq10, h⟩ := jc_some h
  refine k_callV (pc := 20) (n := 1) X hS (c_ar_rows l ρ ad _ P q9.2 1 q10 hW  hq10) wd749 wd746 wd747 wd748 wd3 (by decide) ⟨rfl, rfl, Nat.le_of_ble_eq_true rfl, Nat.le_of_ble_eq_true rfl⟩ (c_recv X hW 1 3 (by decide) rfl rfl) (As := [.int 1]) (rest := []) rfl rfl hl.1 (Nat.le_of_ble_eq_true rfl) d97_20 ⟨room_l0 hc1, room_l0 hs1⟩ (fun q hq => False.elim hq) (fun v H1 locs1 hv _ _ hSq10 => ?_)
  obtain ⟨rfl, rfl⟩ := hv
  have hS := hSq10
  have hSz := hS.1
  refine lv_iconst (pc := 23) (v := 1) hx hb d97_23 (by decide) ?_
  refine lv_icmp_le (pc := 24) (tgt := 45) hx hb d97_24 (by decide) (fun c24 => ?_) (fun c24 => ?_)
  · have h := jb_t c24 h
    exact kc45   q9.2 q7.1.1 q9.1 u8 _ _ _ _ _ _ hW hS fu8 (lv_sub hl [2, 1, 0] rfl) her hc1 hs1 h
  · have h := jb_f c24 h
    refine lv_aload_n (pc := 27) hx hb d97_27 rfl (lv_at hl 2 rfl) ?_
    refine c_getK (pc := 28) X hW 4 0 6 1 (C := "WordFunctions$LookUps") (T := T6) (N := 2) (by decide) rfl rfl rfl rfl tin6 rfl wd209 rfl rfl d97_28 ?_
    refine lv_iconst (pc := 31) (v := 1) hx hb d97_31 (by decide) ?_
    obtain ⟨q11, hq11, h⟩ := jc_some h
    refine k_callV (pc := 32) (n := 1) X hS (c_ar_columns l ρ ad _ P q9.2 1 q11 hW  hq11) wd754 wd751 wd752 wd753 wd3 (by decide) ⟨rfl, rfl, Nat.le_of_ble_eq_true rfl, Nat.le_of_ble_eq_true rfl⟩ (c_recv X hW 1 3 (by decide) rfl rfl) (As := [.int 1]) (rest := []) rfl rfl hl.1 (Nat.le_of_ble_eq_true rfl) d97_32 ⟨room_l0 hc1, room_l0 hs1⟩ (fun q hq => False.elim hq) (fun v H1 locs1 hv _ _ hSq11 => ?_)
    obtain ⟨rfl, rfl⟩ := hv
    have hS := hSq11
    have hSz := hS.1
    refine lv_iconst (pc := 35) (v := 1) hx hb d97_35 (by decide) ?_
    refine lv_icmp_le (pc := 36) (tgt := 45) hx hb d97_36 (by decide) (fun c36 => ?_) (fun c36 => ?_)
    · have h := jb_t c36 h
      exact kc45   q9.2 q7.1.1 q9.1 u8 _ _ _ _ _ _ hW hS fu8 (lv_sub hl [2, 1, 0] rfl) her hc1 hs1 h
    · have h := jb_f c36 h
      refine lv_bipush (pc := 39) (v := 7) hx hb d97_39 (by decide) ?_
      obtain ⟨q12, rq12, hq12, h, herq12, hccq12, hssq12⟩ := jd_some h
      refine k_callS (pc := 41) (n := 1) X hS (c_vl_ofError l ρ _ P 7 q12 hW.2.2.1 hW.2.1  hq12) wd651 wd836 wd650 wd4 (by decide) ⟨rfl, rfl, Nat.le_of_ble_eq_true rfl, Nat.le_of_ble_eq_true rfl⟩ (As := [.int 7]) (rest := []) rfl rfl hl.1 (Nat.le_of_ble_eq_true rfl) d97_41 ⟨room_le hccq12 hc1, room_le hssq12 hs1⟩ (fun q hq => hAz q (Nat.le_trans hS.1 hq)) (fun v H1 locs1 hv hz1 hz2 hSq12 => ?_)
      obtain ⟨u13, rfl, fu13⟩ := hv
      have hk : kp no _ H1 := kp_call hz1 hz2 (fun q hq z => absurd hq (Nat.not_lt.mpr z))
      have hW := hW.keep hk no_hz (fun _ _ z => z)
      have hS := hSq12
      have hSz := hS.1
      have her := her.trans herq12
      have hc1 := room_st hccq12 hc1
      have hs1 := room_st hssq12 hs1
      have her : res.1 = (q12.1, q9.2) := her.trans (congrArg Prod.fst (Option.some.inj h)).symm
      exact m_aret (pc := 44) hx hb hr (Or.inl ⟨_, rfl⟩) hlk hS ⟨u13, rfl, by rw [her]; exact fu13, by rw [her]; exact hW⟩ (Nat.le_trans (Nat.le_add_right _ _) hc1) (Nat.le_trans (Nat.le_add_right _ _) hs1) d97_44
def f_lu_of (st : CS) (p0 : Int32) : Option ((VV × CS) × Nat × Nat) := jb (p0 = 90) (jd (f_lu_inTable st 1) (fun q1 => some ((q1.1, q1.2), 0, 0))) (jb (p0 = 91) (jd (f_lu_inTable st 0) (fun q3 => some ((q3.1, q3.2), 0, 0))) (jb (p0 = 92) (jd (f_lu_lookUp st) (fun q5 => some ((q5.1, q5.2), 0, 0))) (jb (p0 = 93) (jd (f_lu_match st) (fun q7 => some ((q7.1, q7.2), 0, 0))) (jb (p0 = 94) (jd (f_lu_address st) (fun q9 => some ((q9.1, q9.2), 0, 0))) (jb (p0 = 95) (jd (f_lu_cell st 0) (fun q11 => some ((q11, st), 0, 0))) (jb (p0 = 96) (jd (f_lu_cell st 1) (fun q13 => some ((q13, st), 0, 0))) (jb (p0 = 97) (jc (f_ar_rows st 0) (fun q15 => jd (f_vl_ofNumber (FP.i2d q15)) (fun q16 => some ((q16, st), 0, 0)))) (jb (p0 = 98) (jc (f_ar_columns st 0) (fun q18 => jd (f_vl_ofNumber (FP.i2d q18)) (fun q19 => some ((q19, st), 0, 0)))) (jd (f_lu_address st) (fun q21 => some ((q21.1, q21.2), 0, 0)))))))))))
set_option maxHeartbeats 4000000 in
set_option maxRecDepth 100000 in
theorem c_lu_of (l : Launch) (ρ : RH) (ad : Nat → Nat) (H : Heap) (P : Nat → Prop) (st : CS) (p0 : Int32) (res : (VV × CS) × Nat × Nat) (hW : CW ρ P ad st H) (h : f_lu_of st p0 = some res) : Met l y98 (wsOf y98 b98 2 (some (.object "WordFunctions$Value"))) ({ frames := 18, cells := res.2.1, slots := res.2.2, locals := 749 } : Room) (va_Pc [.ref (ad 4), .int p0] (KP ρ H)) (mQ (fun v H1 => ∃ x : Nat, v = some (.ref x) ∧ isV ρ P H1 x res.1.1 ∧ CW ρ P ad res.1.2 H1) (MA wC ad H.size)) res.2.1 res.2.2 (MA wC ad H.size) := by
  refine m_ofW (own := "WordFunctions$LookUps") (plainFor_of_name rfl) rfl (Nat.le_of_ble_eq_true rfl) fun p e s m args below meth c ls hx hb hr hlk _ X hs hl => ?_
  subst hs
  have hS : va_S (MA wC ad s.heap.size) s.heap s.heap [] := va_S.rf
  have hSz := hS.1
  have hAz : ∀ q, s.heap.size ≤ q → (MA wC ad s.heap.size) q := fun q hq => Or.inr hq
  have hAp : ∀ i, i < 46 → (MA wC ad s.heap.size) (ad i) := fun i hi => MA.in hi
  have hPp : ∀ i, i < 46 → P (ad i) := hW.1
  have hl : lv_has ls 2 [(0, .ref (ad 4)), (1, .int p0)] := hl
  have her : res.1 = res.1 := rfl
  have hc1 : 0 + res.2.1 ≤ res.2.1 := Nat.le_of_eq (Nat.zero_add _)
  have hs1 : 0 + res.2.2 ≤ res.2.2 := Nat.le_of_eq (Nat.zero_add _)
  unfold f_lu_of at h
  refine lv_iload_n (pc := 0) hx hb d98_0 rfl (lv_at hl 1 rfl) ?_
  by_cases c1_90 : p0 = 90
  · have h := jb_t c1_90 h
    refine lv_tableIn (pc := 1) (off := 51) (tgt := 52) hx hb d98_1 (by rw [c1_90]; decide) (by rw [c1_90]; decide) (by rw [c1_90]; rfl) (by decide) ?_
    refine lv_aload_n (pc := 52) hx hb d98_52 rfl (lv_at hl 0 rfl) ?_
    refine lv_iconst (pc := 53) (v := 1) hx hb d98_53 (by decide) ?_
    obtain ⟨q1, rq1, hq1, h, herq1, hccq1, hssq1⟩ := jd_some h
    refine k_callV (pc := 54) (n := 1) X hS (c_lu_inTable l ρ ad _ P st 1 q1 hW  hq1) wd1113 wd1110 wd1112 sl94 wd8 (by decide) ⟨rfl, rfl, Nat.le_of_ble_eq_true rfl, Nat.le_of_ble_eq_true rfl⟩ (c_recv X hW 4 6 (by decide) rfl rfl) (As := [.int 1]) (rest := []) rfl rfl hl.1 (Nat.le_of_ble_eq_true rfl) d98_54 ⟨room_le hccq1 hc1, room_le hssq1 hs1⟩ (fun q hq => MA.mono hS.1 hq) (fun v H1 locs1 hv hz1 hz2 hSq1 => ?_)
    have hPq := hW.1
    obtain ⟨u2, rfl, fu2, hW⟩ := hv
    have hS := hSq1
    have hSz := hS.1
    have her := her.trans herq1
    have hc1 := room_st hccq1 hc1
    have hs1 := room_st hssq1 hs1
    have her : res.1 = (q1.1.1, q1.1.2) := her.trans (congrArg Prod.fst (Option.some.inj h)).symm
    exact m_aret (pc := 57) hx hb hr (Or.inl ⟨_, rfl⟩) hlk hS ⟨u2, rfl, by rw [her]; exact fu2, by rw [her]; exact hW⟩ (Nat.le_trans (Nat.le_add_right _ _) hc1) (Nat.le_trans (Nat.le_add_right _ _) hs1) d98_57
  have h := jb_f c1_90 h
  by_cases c1_91 : p0 = 91
  · have h := jb_t c1_91 h
    refine lv_tableIn (pc := 1) (off := 57) (tgt := 58) hx hb d98_1 (by rw [c1_91]; decide) (by rw [c1_91]; decide) (by rw [c1_91]; rfl) (by decide) ?_
    refine lv_aload_n (pc := 58) hx hb d98_58 rfl (lv_at hl 0 rfl) ?_
    refine lv_iconst (pc := 59) (v := 0) hx hb d98_59 (by decide) ?_
    obtain ⟨q3, rq3, hq3, h, herq3, hccq3, hssq3⟩ := jd_some h
    refine k_callV (pc := 60) (n := 1) X hS (c_lu_inTable l ρ ad _ P st 0 q3 hW  hq3) wd1113 wd1110 wd1112 sl94 wd8 (by decide) ⟨rfl, rfl, Nat.le_of_ble_eq_true rfl, Nat.le_of_ble_eq_true rfl⟩ (c_recv X hW 4 6 (by decide) rfl rfl) (As := [.int 0]) (rest := []) rfl rfl hl.1 (Nat.le_of_ble_eq_true rfl) d98_60 ⟨room_le hccq3 hc1, room_le hssq3 hs1⟩ (fun q hq => MA.mono hS.1 hq) (fun v H1 locs1 hv hz1 hz2 hSq3 => ?_)
    have hPq := hW.1
    obtain ⟨u4, rfl, fu4, hW⟩ := hv
    have hS := hSq3
    have hSz := hS.1
    have her := her.trans herq3
    have hc1 := room_st hccq3 hc1
    have hs1 := room_st hssq3 hs1
    have her : res.1 = (q3.1.1, q3.1.2) := her.trans (congrArg Prod.fst (Option.some.inj h)).symm
    exact m_aret (pc := 63) hx hb hr (Or.inl ⟨_, rfl⟩) hlk hS ⟨u4, rfl, by rw [her]; exact fu4, by rw [her]; exact hW⟩ (Nat.le_trans (Nat.le_add_right _ _) hc1) (Nat.le_trans (Nat.le_add_right _ _) hs1) d98_63
  have h := jb_f c1_91 h
  by_cases c1_92 : p0 = 92
  · have h := jb_t c1_92 h
    refine lv_tableIn (pc := 1) (off := 63) (tgt := 64) hx hb d98_1 (by rw [c1_92]; decide) (by rw [c1_92]; decide) (by rw [c1_92]; rfl) (by decide) ?_
    refine lv_aload_n (pc := 64) hx hb d98_64 rfl (lv_at hl 0 rfl) ?_
    obtain ⟨q5, rq5, hq5, h, herq5, hccq5, hssq5⟩ := jd_some h
    refine k_callV (pc := 65) (n := 0) X hS (c_lu_lookUp l ρ ad _ P st  q5 hW  hq5) wd1147 wd1144 wd1146 sl96 wd8 (by decide) ⟨rfl, rfl, Nat.le_of_ble_eq_true rfl, Nat.le_of_ble_eq_true rfl⟩ (c_recv X hW 4 6 (by decide) rfl rfl) (As := []) (rest := []) rfl rfl hl.1 (Nat.le_of_ble_eq_true rfl) d98_65 ⟨room_le hccq5 hc1, room_le hssq5 hs1⟩ (fun q hq => MA.mono hS.1 hq) (fun v H1 locs1 hv hz1 hz2 hSq5 => ?_)
    have hPq := hW.1
    obtain ⟨u6, rfl, fu6, hW⟩ := hv
    have hS := hSq5
    have hSz := hS.1
    have her := her.trans herq5
    have hc1 := room_st hccq5 hc1
    have hs1 := room_st hssq5 hs1
    have her : res.1 = (q5.1.1, q5.1.2) := her.trans (congrArg Prod.fst (Option.some.inj h)).symm
    exact m_aret (pc := 68) hx hb hr (Or.inl ⟨_, rfl⟩) hlk hS ⟨u6, rfl, by rw [her]; exact fu6, by rw [her]; exact hW⟩ (Nat.le_trans (Nat.le_add_right _ _) hc1) (Nat.le_trans (Nat.le_add_right _ _) hs1) d98_68
  have h := jb_f c1_92 h
  by_cases c1_93 : p0 = 93
  · have h := jb_t c1_93 h
    refine lv_tableIn (pc := 1) (off := 68) (tgt := 69) hx hb d98_1 (by rw [c1_93]; decide) (by rw [c1_93]; decide) (by rw [c1_93]; rfl) (by decide) ?_
    refine lv_aload_n (pc := 69) hx hb d98_69 rfl (lv_at hl 0 rfl) ?_
    obtain ⟨q7, rq7, hq7, h, herq7, hccq7, hssq7⟩ := jd_some h
    refine k_callV (pc := 70) (n := 0) X hS (c_lu_match l ρ ad _ P st  q7 hW  hq7) wd1153 wd1150 wd1152 sl97 wd8 (by decide) ⟨rfl, rfl, Nat.le_of_ble_eq_true rfl, Nat.le_of_ble_eq_true rfl⟩ (c_recv X hW 4 6 (by decide) rfl rfl) (As := []) (rest := []) rfl rfl hl.1 (Nat.le_of_ble_eq_true rfl) d98_70 ⟨room_le hccq7 hc1, room_le hssq7 hs1⟩ (fun q hq => MA.mono hS.1 hq) (fun v H1 locs1 hv hz1 hz2 hSq7 => ?_)
    have hPq := hW.1
    obtain ⟨u8, rfl, fu8, hW⟩ := hv
    have hS := hSq7
    have hSz := hS.1
    have her := her.trans herq7
    have hc1 := room_st hccq7 hc1
    have hs1 := room_st hssq7 hs1
    have her : res.1 = (q7.1.1, q7.1.2) := her.trans (congrArg Prod.fst (Option.some.inj h)).symm
    exact m_aret (pc := 73) hx hb hr (Or.inl ⟨_, rfl⟩) hlk hS ⟨u8, rfl, by rw [her]; exact fu8, by rw [her]; exact hW⟩ (Nat.le_trans (Nat.le_add_right _ _) hc1) (Nat.le_trans (Nat.le_add_right _ _) hs1) d98_73
  have h := jb_f c1_93 h
  by_cases c1_94 : p0 = 94
  · have h := jb_t c1_94 h
    refine lv_tableIn (pc := 1) (off := 111) (tgt := 112) hx hb d98_1 (by rw [c1_94]; decide) (by rw [c1_94]; decide) (by rw [c1_94]; rfl) (by decide) ?_
    refine lv_aload_n (pc := 112) hx hb d98_112 rfl (lv_at hl 0 rfl) ?_
    obtain ⟨q9, rq9, hq9, h, herq9, hccq9, hssq9⟩ := jd_some h
    refine k_callV (pc := 113) (n := 0) X hS (c_lu_address l ρ ad _ P st  q9 hW  hq9) wd1163 wd1160 wd1162 sl88 wd8 (by decide) ⟨rfl, rfl, Nat.le_of_ble_eq_true rfl, Nat.le_of_ble_eq_true rfl⟩ (c_recv X hW 4 6 (by decide) rfl rfl) (As := []) (rest := []) rfl rfl hl.1 (Nat.le_of_ble_eq_true rfl) d98_113 ⟨room_le hccq9 hc1, room_le hssq9 hs1⟩ (fun q hq => MA.mono hS.1 hq) (fun v H1 locs1 hv hz1 hz2 hSq9 => ?_)
    have hPq := hW.1
    obtain ⟨u10, rfl, fu10, hW⟩ := hv
    have hS := hSq9
    have hSz := hS.1
    have her := her.trans herq9
    have hc1 := room_st hccq9 hc1
    have hs1 := room_st hssq9 hs1
    have her : res.1 = (q9.1.1, q9.1.2) := her.trans (congrArg Prod.fst (Option.some.inj h)).symm
    exact m_aret (pc := 116) hx hb hr (Or.inl ⟨_, rfl⟩) hlk hS ⟨u10, rfl, by rw [her]; exact fu10, by rw [her]; exact hW⟩ (Nat.le_trans (Nat.le_add_right _ _) hc1) (Nat.le_trans (Nat.le_add_right _ _) hs1) d98_116
  have h := jb_f c1_94 h
  by_cases c1_95 : p0 = 95
  · have h := jb_t c1_95 h
    refine lv_tableIn (pc := 1) (off := 73) (tgt := 74) hx hb d98_1 (by rw [c1_95]; decide) (by rw [c1_95]; decide) (by rw [c1_95]; rfl) (by decide) ?_
    refine lv_aload_n (pc := 74) hx hb d98_74 rfl (lv_at hl 0 rfl) ?_
    refine lv_iconst (pc := 75) (v := 0) hx hb d98_75 (by decide) ?_
    obtain ⟨q11, rq11, hq11, h, herq11, hccq11, hssq11⟩ := jd_some h
    refine k_callV (pc := 76) (n := 1) X hS (c_lu_cell l ρ ad _ P st 0 q11 hW  hq11) wd1158 wd1155 wd1157 sl91 wd8 (by decide) ⟨rfl, rfl, Nat.le_of_ble_eq_true rfl, Nat.le_of_ble_eq_true rfl⟩ (c_recv X hW 4 6 (by decide) rfl rfl) (As := [.int 0]) (rest := []) rfl rfl hl.1 (Nat.le_of_ble_eq_true rfl) d98_76 ⟨room_le hccq11 hc1, room_le hssq11 hs1⟩ (fun q hq => hAz q (Nat.le_trans hS.1 hq)) (fun v H1 locs1 hv hz1 hz2 hSq11 => ?_)
    obtain ⟨u12, rfl, fu12⟩ := hv
    have hk : kp no _ H1 := kp_call hz1 hz2 (fun q hq z => absurd hq (Nat.not_lt.mpr z))
    have hW := hW.keep hk no_hz (fun _ _ z => z)
    have hS := hSq11
    have hSz := hS.1
    have her := her.trans herq11
    have hc1 := room_st hccq11 hc1
    have hs1 := room_st hssq11 hs1
    have her : res.1 = (q11.1, st) := her.trans (congrArg Prod.fst (Option.some.inj h)).symm
    exact m_aret (pc := 79) hx hb hr (Or.inl ⟨_, rfl⟩) hlk hS ⟨u12, rfl, by rw [her]; exact fu12, by rw [her]; exact hW⟩ (Nat.le_trans (Nat.le_add_right _ _) hc1) (Nat.le_trans (Nat.le_add_right _ _) hs1) d98_79
  have h := jb_f c1_95 h
  by_cases c1_96 : p0 = 96
  · have h := jb_t c1_96 h
    refine lv_tableIn (pc := 1) (off := 79) (tgt := 80) hx hb d98_1 (by rw [c1_96]; decide) (by rw [c1_96]; decide) (by rw [c1_96]; rfl) (by decide) ?_
    refine lv_aload_n (pc := 80) hx hb d98_80 rfl (lv_at hl 0 rfl) ?_
    refine lv_iconst (pc := 81) (v := 1) hx hb d98_81 (by decide) ?_
    obtain ⟨q13, rq13, hq13, h, herq13, hccq13, hssq13⟩ := jd_some h
    refine k_callV (pc := 82) (n := 1) X hS (c_lu_cell l ρ ad _ P st 1 q13 hW  hq13) wd1158 wd1155 wd1157 sl91 wd8 (by decide) ⟨rfl, rfl, Nat.le_of_ble_eq_true rfl, Nat.le_of_ble_eq_true rfl⟩ (c_recv X hW 4 6 (by decide) rfl rfl) (As := [.int 1]) (rest := []) rfl rfl hl.1 (Nat.le_of_ble_eq_true rfl) d98_82 ⟨room_le hccq13 hc1, room_le hssq13 hs1⟩ (fun q hq => hAz q (Nat.le_trans hS.1 hq)) (fun v H1 locs1 hv hz1 hz2 hSq13 => ?_)
    obtain ⟨u14, rfl, fu14⟩ := hv
    have hk : kp no _ H1 := kp_call hz1 hz2 (fun q hq z => absurd hq (Nat.not_lt.mpr z))
    have hW := hW.keep hk no_hz (fun _ _ z => z)
    have hS := hSq13
    have hSz := hS.1
    have her := her.trans herq13
    have hc1 := room_st hccq13 hc1
    have hs1 := room_st hssq13 hs1
    have her : res.1 = (q13.1, st) := her.trans (congrArg Prod.fst (Option.some.inj h)).symm
    exact m_aret (pc := 85) hx hb hr (Or.inl ⟨_, rfl⟩) hlk hS ⟨u14, rfl, by rw [her]; exact fu14, by rw [her]; exact hW⟩ (Nat.le_trans (Nat.le_add_right _ _) hc1) (Nat.le_trans (Nat.le_add_right _ _) hs1) d98_85
  have h := jb_f c1_96 h
  by_cases c1_97 : p0 = 97
  · have h := jb_t c1_97 h
    refine lv_tableIn (pc := 1) (off := 85) (tgt := 86) hx hb d98_1 (by rw [c1_97]; decide) (by rw [c1_97]; decide) (by rw [c1_97]; rfl) (by decide) ?_
    refine lv_aload_n (pc := 86) hx hb d98_86 rfl (lv_at hl 0 rfl) ?_
    refine c_getK (pc := 87) X hW 4 0 6 1 (C := "WordFunctions$LookUps") (T := T6) (N := 2) (by decide) rfl rfl rfl rfl tin6 rfl wd209 rfl rfl d98_87 ?_
    refine lv_iconst (pc := 90) (v := 0) hx hb d98_90 (by decide) ?_
    obtain ⟨q15, hq15, h⟩ := jc_some h
    refine k_callV (pc := 91) (n := 1) X hS (c_ar_rows l ρ ad _ P st 0 q15 hW  hq15) wd749 wd746 wd747 wd748 wd3 (by decide) ⟨rfl, rfl, Nat.le_of_ble_eq_true rfl, Nat.le_of_ble_eq_true rfl⟩ (c_recv X hW 1 3 (by decide) rfl rfl) (As := [.int 0]) (rest := []) rfl rfl hl.1 (Nat.le_of_ble_eq_true rfl) d98_91 ⟨room_l0 hc1, room_l0 hs1⟩ (fun q hq => False.elim hq) (fun v H1 locs1 hv _ _ hSq15 => ?_)
    obtain ⟨rfl, rfl⟩ := hv
    have hS := hSq15
    have hSz := hS.1
    refine lv_i2d (pc := 94) hx hb d98_94 ?_
    obtain ⟨q16, rq16, hq16, h, herq16, hccq16, hssq16⟩ := jd_some h
    refine k_callS (pc := 95) (n := 1) X hS (c_vl_ofNumber l ρ _ P (FP.i2d q15) q16 hW.2.2.1 hW.2.1  hq16) wd642 wd1120 wd641 wd4 (by decide) ⟨rfl, rfl, Nat.le_of_ble_eq_true rfl, Nat.le_of_ble_eq_true rfl⟩ (As := [.double (FP.i2d q15)]) (rest := []) rfl rfl hl.1 (Nat.le_of_ble_eq_true rfl) d98_95 ⟨room_le hccq16 hc1, room_le hssq16 hs1⟩ (fun q hq => hAz q (Nat.le_trans hS.1 hq)) (fun v H1 locs1 hv hz1 hz2 hSq16 => ?_)
    obtain ⟨u17, rfl, fu17⟩ := hv
    have hk : kp no _ H1 := kp_call hz1 hz2 (fun q hq z => absurd hq (Nat.not_lt.mpr z))
    have hW := hW.keep hk no_hz (fun _ _ z => z)
    have hS := hSq16
    have hSz := hS.1
    have her := her.trans herq16
    have hc1 := room_st hccq16 hc1
    have hs1 := room_st hssq16 hs1
    have her : res.1 = (q16.1, st) := her.trans (congrArg Prod.fst (Option.some.inj h)).symm
    exact m_aret (pc := 98) hx hb hr (Or.inl ⟨_, rfl⟩) hlk hS ⟨u17, rfl, by rw [her]; exact fu17, by rw [her]; exact hW⟩ (Nat.le_trans (Nat.le_add_right _ _) hc1) (Nat.le_trans (Nat.le_add_right _ _) hs1) d98_98
  have h := jb_f c1_97 h
  by_cases c1_98 : p0 = 98
  · have h := jb_t c1_98 h
    refine lv_tableIn (pc := 1) (off := 98) (tgt := 99) hx hb d98_1 (by rw [c1_98]; decide) (by rw [c1_98]; decide) (by rw [c1_98]; rfl) (by decide) ?_
    refine lv_aload_n (pc := 99) hx hb d98_99 rfl (lv_at hl 0 rfl) ?_
    refine c_getK (pc := 100) X hW 4 0 6 1 (C := "WordFunctions$LookUps") (T := T6) (N := 2) (by decide) rfl rfl rfl rfl tin6 rfl wd209 rfl rfl d98_100 ?_
    refine lv_iconst (pc := 103) (v := 0) hx hb d98_103 (by decide) ?_
    obtain ⟨q18, hq18, h⟩ := jc_some h
    refine k_callV (pc := 104) (n := 1) X hS (c_ar_columns l ρ ad _ P st 0 q18 hW  hq18) wd754 wd751 wd752 wd753 wd3 (by decide) ⟨rfl, rfl, Nat.le_of_ble_eq_true rfl, Nat.le_of_ble_eq_true rfl⟩ (c_recv X hW 1 3 (by decide) rfl rfl) (As := [.int 0]) (rest := []) rfl rfl hl.1 (Nat.le_of_ble_eq_true rfl) d98_104 ⟨room_l0 hc1, room_l0 hs1⟩ (fun q hq => False.elim hq) (fun v H1 locs1 hv _ _ hSq18 => ?_)
    obtain ⟨rfl, rfl⟩ := hv
    have hS := hSq18
    have hSz := hS.1
    refine lv_i2d (pc := 107) hx hb d98_107 ?_
    obtain ⟨q19, rq19, hq19, h, herq19, hccq19, hssq19⟩ := jd_some h
    refine k_callS (pc := 108) (n := 1) X hS (c_vl_ofNumber l ρ _ P (FP.i2d q18) q19 hW.2.2.1 hW.2.1  hq19) wd642 wd1120 wd641 wd4 (by decide) ⟨rfl, rfl, Nat.le_of_ble_eq_true rfl, Nat.le_of_ble_eq_true rfl⟩ (As := [.double (FP.i2d q18)]) (rest := []) rfl rfl hl.1 (Nat.le_of_ble_eq_true rfl) d98_108 ⟨room_le hccq19 hc1, room_le hssq19 hs1⟩ (fun q hq => hAz q (Nat.le_trans hS.1 hq)) (fun v H1 locs1 hv hz1 hz2 hSq19 => ?_)
    obtain ⟨u20, rfl, fu20⟩ := hv
    have hk : kp no _ H1 := kp_call hz1 hz2 (fun q hq z => absurd hq (Nat.not_lt.mpr z))
    have hW := hW.keep hk no_hz (fun _ _ z => z)
    have hS := hSq19
    have hSz := hS.1
    have her := her.trans herq19
    have hc1 := room_st hccq19 hc1
    have hs1 := room_st hssq19 hs1
    have her : res.1 = (q19.1, st) := her.trans (congrArg Prod.fst (Option.some.inj h)).symm
    exact m_aret (pc := 111) hx hb hr (Or.inl ⟨_, rfl⟩) hlk hS ⟨u20, rfl, by rw [her]; exact fu20, by rw [her]; exact hW⟩ (Nat.le_trans (Nat.le_add_right _ _) hc1) (Nat.le_trans (Nat.le_add_right _ _) hs1) d98_111
  have h := jb_f c1_98 h
  refine lv_tableOut (pc := 1) (tgt := 112) hx hb d98_1 (sw_out 9 (by decide) (by
    intro i hi
    match i, hi with
    | 0, _ => exact fun z => c1_90 (Int32.toInt_inj.mp (by rw [z]; decide))
    | 1, _ => exact fun z => c1_91 (Int32.toInt_inj.mp (by rw [z]; decide))
    | 2, _ => exact fun z => c1_92 (Int32.toInt_inj.mp (by rw [z]; decide))
    | 3, _ => exact fun z => c1_93 (Int32.toInt_inj.mp (by rw [z]; decide))
    | 4, _ => exact fun z => c1_94 (Int32.toInt_inj.mp (by rw [z]; decide))
    | 5, _ => exact fun z => c1_95 (Int32.toInt_inj.mp (by rw [z]; decide))
    | 6, _ => exact fun z => c1_96 (Int32.toInt_inj.mp (by rw [z]; decide))
    | 7, _ => exact fun z => c1_97 (Int32.toInt_inj.mp (by rw [z]; decide))
    | 8, _ => exact fun z => c1_98 (Int32.toInt_inj.mp (by rw [z]; decide))
    | i + 9, q => exact absurd q (by omega))) (by decide) ?_
  refine lv_aload_n (pc := 112) hx hb d98_112 rfl (lv_at hl 0 rfl) ?_
  obtain ⟨q21, rq21, hq21, h, herq21, hccq21, hssq21⟩ := jd_some h
  refine k_callV (pc := 113) (n := 0) X hS (c_lu_address l ρ ad _ P st  q21 hW  hq21) wd1163 wd1160 wd1162 sl88 wd8 (by decide) ⟨rfl, rfl, Nat.le_of_ble_eq_true rfl, Nat.le_of_ble_eq_true rfl⟩ (c_recv X hW 4 6 (by decide) rfl rfl) (As := []) (rest := []) rfl rfl hl.1 (Nat.le_of_ble_eq_true rfl) d98_113 ⟨room_le hccq21 hc1, room_le hssq21 hs1⟩ (fun q hq => MA.mono hS.1 hq) (fun v H1 locs1 hv hz1 hz2 hSq21 => ?_)
  have hPq := hW.1
  obtain ⟨u22, rfl, fu22, hW⟩ := hv
  have hS := hSq21
  have hSz := hS.1
  have her := her.trans herq21
  have hc1 := room_st hccq21 hc1
  have hs1 := room_st hssq21 hs1
  have her : res.1 = (q21.1.1, q21.1.2) := her.trans (congrArg Prod.fst (Option.some.inj h)).symm
  exact m_aret (pc := 116) hx hb hr (Or.inl ⟨_, rfl⟩) hlk hS ⟨u22, rfl, by rw [her]; exact fu22, by rw [her]; exact hW⟩ (Nat.le_trans (Nat.le_add_right _ _) hc1) (Nat.le_trans (Nat.le_add_right _ _) hs1) d98_116
def pa_placeIn_9  : Nat → CS → TT → Int32 → Option (Int32 × CS)
  | 0, _, _, _ => none
  | fu + 1, st, x1, x3 => jc (f_js_length x1) (fun q1 => jb (q1 < x3) (some ((-1), st)) (jb (256 ≤ x3) (some ((-1), st)) (jg (inb x3 256) (jb ((st.1 44 x3.toNatClampNeg) = 0) (jn (x3 + 1) (fun v3 => pa_placeIn_9 fu st x1 v3)) (some (x3, st))))))
def f_pa_placeIn (st : CS) (p0 : TT) (p1 : Int32) : Option (Int32 × CS) := jc (f_pa_matches st p0 0) (fun q4 => pa_placeIn_9 FU q4.2 p0 p1)
set_option maxHeartbeats 4000000 in
set_option maxRecDepth 100000 in
theorem c_pa_placeIn (l : Launch) (ρ : RH) (ad : Nat → Nat) (H : Heap) (P : Nat → Prop) (st : CS) (ap0 : Nat) (p0 : TT) (p1 : Int32) (res : Int32 × CS) (hW : CW ρ P ad st H) (fap0 : isS ρ P H ap0 p0) (h : f_pa_placeIn st p0 p1 = some res) : Met l y104 (wsOf y104 b104 4 (some .int)) ({ frames := 14, cells := 0, slots := 0, locals := 647 } : Room) (va_Pc [.ref (ad 7), .ref ap0, .int p1] (KP ρ H)) (mQ (fun v H1 => v = some (.int res.1) ∧ CW ρ P ad res.2 H1) (MA wC ad H.size)) 0 0 (MA wC ad H.size) := by
  refine m_ofW (own := "WordFunctions$Pattern") (plainFor_of_name rfl) rfl (Nat.le_of_ble_eq_true rfl) fun p e s m args below meth c ls hx hb hr hlk _ X hs hl => ?_
  subst hs
  have hS : va_S (MA wC ad s.heap.size) s.heap s.heap [] := va_S.rf
  have hSz := hS.1
  have hAz : ∀ q, s.heap.size ≤ q → (MA wC ad s.heap.size) q := fun q hq => Or.inr hq
  have hAp : ∀ i, i < 46 → (MA wC ad s.heap.size) (ad i) := fun i hi => MA.in hi
  have hPp : ∀ i, i < 46 → P (ad i) := hW.1
  have hl : lv_has ls 4 [(0, .ref (ad 7)), (1, .ref ap0), (2, .int p1)] := hl
  have kc9 : ∀ (fu : Nat), ∀ (st : CS) (x1 : TT) (x3 : Int32) (ax1 : Nat) (H : Heap) (locs : List Loc) (ls : Array Slot), CW ρ P ad st H → va_S (MA wC ad s.heap.size) s.heap H locs → isS ρ P H ax1 x1 → lv_has ls 4 [(0, .ref (ad 7)), (1, .ref ax1), (3, .int x3)] → pa_placeIn_9 fu st x1 x3 = some res → W p l e ({ frames := 14, cells := 0, slots := 0, locals := 647 } : Room) s m args below meth c H locs 0 0 (MQ below (mQ (fun v H1 => v = some (.int res.1) ∧ CW ρ P ad res.2 H1) (MA wC ad s.heap.size)) args s 0 0 (MA wC ad s.heap.size)) (F0 m 9 ls []) := by
    intro  fu
    induction fu with
    | zero => intro st x1 x3 ax1 H locs ls hW hS fax1 hl h; cases h
    | succ fu hK9 =>
      intro st x1 x3 ax1 H locs ls hW hS fax1 hl h
      have hSz := hS.1
      unfold pa_placeIn_9 at h
      refine lv_iload_n (pc := 9) hx hb d104_9 rfl (lv_at hl 2 rfl) ?_
      refine lv_aload_n (pc := 10) hx hb d104_10 rfl (lv_at hl 1 rfl) ?_
      obtain ⟨q1, hq1, h⟩ := jc_some h
      refine k_callV (pc := 11) (n := 0) X hS (c_js_length l ρ _ P ax1 x1 q1 hW.2.2.1 hW.2.1 fax1 hq1) wd538 wd978 wd536 wd537 wd14 (by decide) ⟨rfl, rfl, Nat.le_of_ble_eq_true rfl, Nat.le_of_ble_eq_true rfl⟩ (s_recv X fax1) (As := []) (rest := [.int x3]) rfl rfl hl.1 (Nat.le_of_ble_eq_true rfl) d104_11 ⟨Nat.le_refl _, Nat.le_refl _⟩ (fun q hq => False.elim hq) (fun v H1 locs1 hv _ _ hSq1 => ?_)
      obtain ⟨rfl, rfl⟩ := hv
      have hS := hSq1
      have hSz := hS.1
      refine lv_icmp_gt (pc := 14) (tgt := 43) hx hb d104_14 (by decide) (fun c14 => ?_) (fun c14 => ?_)
      · have h := jb_t c14 h
        refine lv_iconst (pc := 43) (v := (-1)) hx hb d104_43 (by decide) ?_
        obtain rfl := Option.some.inj h
        exact m_iret (pc := 44) hx hb hr hlk hS ⟨rfl, hW⟩ (Nat.le_refl _) (Nat.le_refl _) d104_44
      · have h := jb_f c14 h
        refine lv_iload_n (pc := 17) hx hb d104_17 rfl (lv_at hl 2 rfl) ?_
        refine lv_aload_n (pc := 18) hx hb d104_18 rfl (lv_at hl 0 rfl) ?_
        refine c_getK (pc := 19) X hW 7 2 0 44 (C := "WordFunctions$Pattern") (T := T0) (N := 3) (by decide) rfl rfl rfl rfl tin0 rfl wd47 rfl rfl d104_19 ?_
        refine c_alen (pc := 22) (v := 256) X hW 44 (by decide) rfl (by decide) (by decide) d104_22 ?_
        refine lv_icmp_ge (pc := 23) (tgt := 43) hx hb d104_23 (by decide) (fun c23 => ?_) (fun c23 => ?_)
        · have h := jb_t c23 h
          refine lv_iconst (pc := 43) (v := (-1)) hx hb d104_43 (by decide) ?_
          obtain rfl := Option.some.inj h
          exact m_iret (pc := 44) hx hb hr hlk hS ⟨rfl, hW⟩ (Nat.le_refl _) (Nat.le_refl _) d104_44
        · have h := jb_f c23 h
          refine lv_aload_n (pc := 26) hx hb d104_26 rfl (lv_at hl 0 rfl) ?_
          refine c_getK (pc := 27) X hW 7 2 0 44 (C := "WordFunctions$Pattern") (T := T0) (N := 3) (by decide) rfl rfl rfl rfl tin0 rfl wd47 rfl rfl d104_27 ?_
          refine lv_iload_n (pc := 30) hx hb d104_30 rfl (lv_at hl 2 rfl) ?_
          obtain ⟨g2, h⟩ := jg_some h
          refine c_zald (pc := 31) X hW 44 (by decide) rfl g2 d104_31 ?_
          refine lv_if_eq (pc := 32) (tgt := 37) hx hb d104_32 (by decide) (fun c32 => ?_) (fun c32 => ?_)
          · have h := jb_t c32 h
            obtain ⟨v3, ev3, h⟩ := jn_ex h
            refine lv_iinc (pc := 37) (v := v3) (lv' := [(3, .int v3), (0, .ref (ad 7)), (1, .ref ax1)]) hx hb d104_37 hl (k := 2) rfl (by rw [ev3]; rfl) (by decide) rfl (fun ls hl => ?_)
            refine lv_goto (pc := 40) (tgt := 9) hx hb d104_40 (by decide) ?_
            exact hK9 st x1 v3 ax1 _ _ _ hW hS fax1 (lv_sub hl [1, 2, 0] rfl) h
          · have h := jb_f c32 h
            refine lv_iload_n (pc := 35) hx hb d104_35 rfl (lv_at hl 2 rfl) ?_
            obtain rfl := Option.some.inj h
            exact m_iret (pc := 36) hx hb hr hlk hS ⟨rfl, hW⟩ (Nat.le_refl _) (Nat.le_refl _) d104_36
  unfold f_pa_placeIn at h
  refine lv_aload_n (pc := 0) hx hb d104_0 rfl (lv_at hl 0 rfl) ?_
  refine lv_aload_n (pc := 1) hx hb d104_1 rfl (lv_at hl 1 rfl) ?_
  refine lv_iconst (pc := 2) (v := 0) hx hb d104_2 (by decide) ?_
  obtain ⟨q4, hq4, h⟩ := jc_some h
  refine k_callV (pc := 3) (n := 2) X hS (c_pa_matches l ρ ad _ P st ap0 p0 0 q4 hW fap0 hq4) wd993 wd990 wd991 wd992 wd2 (by decide) ⟨rfl, rfl, Nat.le_of_ble_eq_true rfl, Nat.le_of_ble_eq_true rfl⟩ (c_recv X hW 7 0 (by decide) rfl rfl) (As := [.ref ap0, .int 0]) (rest := []) rfl rfl hl.1 (Nat.le_of_ble_eq_true rfl) d104_3 ⟨Nat.le_refl _, Nat.le_refl _⟩ (fun q hq => MA.mono hS.1 hq) (fun v H1 locs1 hv hz1 hz2 hSq4 => ?_)
  have hPq := hW.1
  obtain ⟨rfl, hW⟩ := hv
  have hk : kp (Pm ad) _ H1 := kp_call hz1 hz2 (MA_Pm rfl)
  have fap0 := fap0.keep hk (Pm_P hPq)
  have hS := hSq4
  have hSz := hS.1
  refine lv_pop (pc := 6) hx hb d104_6 rfl ?_
  refine lv_iload_n (pc := 7) hx hb d104_7 rfl (lv_at hl 2 rfl) ?_
  refine lv_istore_n (pc := 8) (lv' := [(3, .int p1), (0, .ref (ad 7)), (1, .ref ap0), (2, .int p1)]) hx hb d104_8 rfl hl (by decide) rfl (fun ls hl => ?_)
  exact kc9  FU q4.2 p0 p1 ap0 _ _ _ hW hS fap0 (lv_sub hl [1, 2, 0] rfl) h
def f_tx_appendWhileShort  (p0 : BT) (p1 : TT) : Option ((BT) × Nat × Nat) := jc (f_sb_len p0) (fun q1 => jb (255 < q1) (some (p0, 0, 0)) (jd (f_sb_appS p0 p1) (fun q2 => some (q2, 0, 0))))
set_option maxHeartbeats 4000000 in
set_option maxRecDepth 100000 in
theorem c_tx_appendWhileShort (l : Launch) (ρ : RH) (H : Heap) (P : Nat → Prop) (ba0 bb0 : Nat) (p0 : BT) (ap1 : Nat) (p1 : TT) (res : (BT) × Nat × Nat) (hC : CC ρ P H) (hPb : ∀ q, P q → q < H.size) (hB : SB ρ H ba0 bb0 p0 ∧ P ba0 ∧ P bb0) (fap1 : isS ρ P H ap1 p1) (h : f_tx_appendWhileShort p0 p1 = some res) : Met l y107 (wsOf y107 b107 2 none) ({ frames := 13, cells := res.2.1, slots := res.2.2, locals := 621 } : Room) (va_Pc [.ref ba0, .ref ap1] (KP ρ H)) (mQ (fun v H1 => v = none ∧ ∃ b1, (b1 = bb0 ∨ H.size ≤ b1) ∧ b1 < H1.size ∧ SB ρ H1 ba0 b1 res.1) (fun q => q = ba0 ∨ q = bb0 ∨ H.size ≤ q)) res.2.1 res.2.2 (fun q => q = ba0 ∨ q = bb0 ∨ H.size ≤ q) := by
  refine m_ofW (own := "WordFunctions$Texts") (plainFor_of_name rfl) rfl (Nat.le_of_ble_eq_true rfl) fun p e s m args below meth c ls hx hb hr hlk _ X hs hl => ?_
  subst hs
  have hS : va_S (fun q => q = ba0 ∨ q = bb0 ∨ s.heap.size ≤ q) s.heap s.heap [] := va_S.rf
  have hSz := hS.1
  have hAz : ∀ q, s.heap.size ≤ q → (fun q => q = ba0 ∨ q = bb0 ∨ s.heap.size ≤ q) q := fun q hq => Or.inr (Or.inr hq)
  obtain ⟨hSB, hBa, hBb⟩ := hB
  have hAa : (fun q => q = ba0 ∨ q = bb0 ∨ s.heap.size ≤ q) ba0 := Or.inl rfl
  have hAb : (fun q => q = ba0 ∨ q = bb0 ∨ s.heap.size ≤ q) bb0 := Or.inr (Or.inl rfl)
  have hPb := pe_in hPb hBa hBb
  have hC := CC_pe hC hBa hBb
  have fap1 := isS_pe fap1 hBa hBb
  have hl : lv_has ls 2 [(0, .ref ba0), (1, .ref ap1)] := hl
  have her : res.1 = res.1 := rfl
  have hc1 : 0 + res.2.1 ≤ res.2.1 := Nat.le_of_eq (Nat.zero_add _)
  have hs1 : 0 + res.2.2 ≤ res.2.2 := Nat.le_of_eq (Nat.zero_add _)
  unfold f_tx_appendWhileShort at h
  refine lv_aload_n (pc := 0) hx hb d107_0 rfl (lv_at hl 0 rfl) ?_
  obtain ⟨q1, hq1, h⟩ := jc_some h
  refine k_callV (pc := 1) (n := 0) X hS (c_sb_len l ρ _ (pe P ba0 bb0) ba0 bb0 p0 q1 hC hPb ⟨hSB, Or.inr (Or.inl rfl), Or.inr (Or.inr rfl)⟩ hq1) wd431 wd1012 wd430 wd2013 wd13 (by decide) ⟨rfl, rfl, Nat.le_of_ble_eq_true rfl, Nat.le_of_ble_eq_true rfl⟩ (sb_recv X hSB) (As := []) (rest := []) rfl rfl hl.1 (Nat.le_of_ble_eq_true rfl) d107_1 ⟨room_l0 hc1, room_l0 hs1⟩ (fun q hq => False.elim hq) (fun v H1 locs1 hv _ _ hSq1 => ?_)
  obtain ⟨rfl, rfl⟩ := hv
  have hS := hSq1
  have hSz := hS.1
  refine lv_sipush (pc := 4) (v := 255) hx hb d107_4 (by decide) ?_
  refine lv_icmp_gt (pc := 7) (tgt := 16) hx hb d107_7 (by decide) (fun c7 => ?_) (fun c7 => ?_)
  · have h := jb_t c7 h
    have her : res.1 = p0 := her.trans (congrArg Prod.fst (Option.some.inj h)).symm
    exact m_vret (pc := 16) hx hb hr hlk hS ⟨rfl, bb0, sb_or hAb hSB, hSB.lt.2, by rw [her]; exact hSB⟩ (Nat.le_trans (Nat.le_add_right _ _) hc1) (Nat.le_trans (Nat.le_add_right _ _) hs1) d107_16
  · have h := jb_f c7 h
    refine lv_aload_n (pc := 10) hx hb d107_10 rfl (lv_at hl 0 rfl) ?_
    refine lv_aload_n (pc := 11) hx hb d107_11 rfl (lv_at hl 1 rfl) ?_
    obtain ⟨q2, rq2, hq2, h, herq2, hccq2, hssq2⟩ := jd_some h
    refine k_callV (pc := 12) (n := 1) X hS (c_sb_appS l ρ _ (pe P ba0 bb0) ba0 bb0 p0 ap1 p1 q2 hC hPb ⟨hSB, Or.inr (Or.inl rfl), Or.inr (Or.inr rfl)⟩ (isS_ab fap1) hq2) wd524 wd1001 wd522 wd523 wd13 (by decide) ⟨rfl, rfl, Nat.le_of_ble_eq_true rfl, Nat.le_of_ble_eq_true rfl⟩ (sb_recv X hSB) (As := [.ref ap1]) (rest := []) rfl rfl hl.1 (Nat.le_of_ble_eq_true rfl) d107_12 ⟨room_le hccq2 hc1, room_le hssq2 hs1⟩ (fun q hq => hq.elim (fun e => e ▸ hAa) (fun z => z.elim (fun e => e ▸ hAb) (fun g => hAz q (Nat.le_trans hS.1 g)))) (fun v H1 locs1 hv hz1 hz2 hSq2 => ?_)
    obtain ⟨rfl, bb3, hb1, hb2, hSB⟩ := hv
    have hk : kp (ab ba0 bb0) _ H1 := kp_call hz1 hz2 (fun q hq z => z.elim Or.inl (fun z => z.elim Or.inr (fun g => absurd hq (Nat.not_lt.mpr g))))
    have hAb : (fun q => q = ba0 ∨ q = bb0 ∨ s.heap.size ≤ q) bb3 := hb1.elim (fun e => e ▸ hAb) (fun g => hAz _ (Nat.le_trans hS.1 g))
    have hC := hC.sb hk hb1
    have hPb := pe_lt hPb hk hb2
    have hS := hSq2
    have hSz := hS.1
    have her := her.trans herq2
    have hc1 := room_st hccq2 hc1
    have hs1 := room_st hssq2 hs1
    refine lv_pop (pc := 15) hx hb d107_15 rfl ?_
    have her : res.1 = q2.1 := her.trans (congrArg Prod.fst (Option.some.inj h)).symm
    exact m_vret (pc := 16) hx hb hr hlk hS ⟨rfl, bb3, sb_or hAb hSB, hSB.lt.2, by rw [her]; exact hSB⟩ (Nat.le_trans (Nat.le_add_right _ _) hc1) (Nat.le_trans (Nat.le_add_right _ _) hs1) d107_16
def tx_base_172  (st : CS) (xb : BT) : Option ((VV × CS) × Nat × Nat) := jc (f_sb_rev xb) (fun q1 => jd (f_wf_textOrTooLong q1) (fun q3 => some ((q3, st), 0, 0)))
def tx_base_154 (K99 : CS → Int32 → Int64 → Int32 → Int32 → BT → Option ((VV × CS) × Nat × Nat)) (st : CS) (x3 : Int32) (x6 : Int64) (x8 : Int32) (x9 : Int32) (z1 : Int32) (xb : BT) : Option ((VV × CS) × Nat × Nat) := jd (f_sb_appC xb ((z1.toUInt32 % 65536).toInt32)) (fun q5 => jg (nzl x3.toInt64) (jn (x6 / x3.toInt64) (fun v8 => jn (x9 + 1) (fun v9 => K99 st x3 v8 x8 v9 q5))))
def tx_base_121 (K99 : CS → Int32 → Int64 → Int32 → Int32 → BT → Option ((VV × CS) × Nat × Nat)) (st : CS) (x3 : Int32) (x6 : Int64) (x8 : Int32) (x9 : Int32) (xb : BT) : Option ((VV × CS) × Nat × Nat) := jg (nzl x3.toInt64) (jn ((x6 - x6 / x3.toInt64 * x3.toInt64).toInt32) (fun v11 => jb (10 ≤ v11) (tx_base_154 K99 st x3 x6 x8 x9 ((65 + v11) - 10) xb) (tx_base_154 K99 st x3 x6 x8 x9 (48 + v11) xb)))
def tx_base_99  : Nat → CS → Int32 → Int64 → Int32 → Int32 → BT → Option ((VV × CS) × Nat × Nat)
  | 0, _, _, _, _, _, _ => none
  | fu + 1, st, x3, x6, x8, x9, xb => jb (255 ≤ x9) (tx_base_172 st xb) (jb (x9 < x8) (tx_base_121 (tx_base_99 fu) st x3 x6 x8 x9 xb) (jb ((lg_cmp x6 0) ≤ 0) (tx_base_172 st xb) (tx_base_121 (tx_base_99 fu) st x3 x6 x8 x9 xb)))
def tx_base_69  (st : CS) : Option ((VV × CS) × Nat × Nat) := jd (f_vl_ofError 6) (fun q12 => some ((q12, st), 0, 0))
def f_tx_base (st : CS) : Option ((VV × CS) × Nat × Nat) := jc (f_ar_number st 0) (fun q14 => jc (f_ar_whole q14.2 1) (fun q15 => jc (f_ar_wholeOr q15.2 2 0) (fun q16 => jb ((Op.cmpValue (FP.dcmp q14.1 (13830554455654793216 : UInt64)) .g) ≤ 0) (tx_base_69 q16.2) (jb (0 ≤ (Op.cmpValue (FP.dcmp q14.1 (4845873199050653696 : UInt64)) .l)) (tx_base_69 q16.2) (jb (q15.1 < 2) (tx_base_69 q16.2) (jb (36 < q15.1) (tx_base_69 q16.2) (jb (q16.1 < 0) (tx_base_69 q16.2) (jb (q16.1 ≤ 255) (ja 2 20 (jn (FP.d2l q14.1) (fun v18 => jc (f_ma_max q16.1 1) (fun q19 => tx_base_99 FU q16.2 q15.1 v18 q19 0 (([] : TT), 16))))) (tx_base_69 q16.2)))))))))
set_option maxHeartbeats 4000000 in
set_option maxRecDepth 100000 in
theorem c_tx_base (l : Launch) (ρ : RH) (ad : Nat → Nat) (H : Heap) (P : Nat → Prop) (st : CS) (res : (VV × CS) × Nat × Nat) (hW : CW ρ P ad st H) (h : f_tx_base st = some res) : Met l y108 (wsOf y108 b108 11 (some (.object "WordFunctions$Value"))) ({ frames := 17, cells := res.2.1, slots := res.2.2, locals := 720 } : Room) (va_Pc [.ref (ad 3)] (KP ρ H)) (mQ (fun v H1 => ∃ x : Nat, v = some (.ref x) ∧ isV ρ P H1 x res.1.1 ∧ CW ρ P ad res.1.2 H1) (MA wC ad H.size)) res.2.1 res.2.2 (MA wC ad H.size) := by
  refine m_ofW (own := "WordFunctions$Texts") (plainFor_of_name rfl) rfl (Nat.le_of_ble_eq_true rfl) fun p e s m args below meth c ls hx hb hr hlk _ X hs hl => ?_
  subst hs
  have hS : va_S (MA wC ad s.heap.size) s.heap s.heap [] := va_S.rf
  have hSz := hS.1
  have hAz : ∀ q, s.heap.size ≤ q → (MA wC ad s.heap.size) q := fun q hq => Or.inr hq
  have hAp : ∀ i, i < 46 → (MA wC ad s.heap.size) (ad i) := fun i hi => MA.in hi
  have hPp : ∀ i, i < 46 → P (ad i) := hW.1
  have hl : lv_has ls 11 [(0, .ref (ad 3))] := hl
  have kc172 : ∀ (st : CS) (xb : BT) (ba bb : Nat) (H : Heap) (locs : List Loc) (ls : Array Slot) (cells slots : Nat) (r : (VV × CS) × Nat × Nat), CW ρ (pe P ba bb) ad st H → va_S (MA wC ad s.heap.size) s.heap H locs → SB ρ H ba bb xb → (MA wC ad s.heap.size) ba → (MA wC ad s.heap.size) bb → (∀ i, i < 46 → ¬ ab ba bb (ad i)) → lv_has ls 11 [(5, .ref ba)] → res.1 = r.1 → cells + r.2.1 ≤ res.2.1 → slots + r.2.2 ≤ res.2.2 → tx_base_172 st xb = some r → W p l e ({ frames := 17, cells := res.2.1, slots := res.2.2, locals := 720 } : Room) s m args below meth c H locs cells slots (MQ below (mQ (fun v H1 => ∃ x : Nat, v = some (.ref x) ∧ isV ρ P H1 x res.1.1 ∧ CW ρ P ad res.1.2 H1) (MA wC ad s.heap.size)) args s res.2.1 res.2.2 (MA wC ad s.heap.size)) (F0 m 172 ls []) := by
    intro st xb ba bb H locs ls cells slots r hW hS hSB hAa hAb hnn hl her hc1 hs1 h
    have hSz := hS.1
    unfold tx_base_172 at h
    refine lv_aload (pc := 172) hx hb d108_172 (lv_at hl 0 rfl) ?_
    obtain ⟨q1, hq1, h⟩ := jc_some h
    refine k_callV (pc := 174) (n := 0) X hS (c_sb_rev l ρ _ (pe P ba bb) ba bb xb q1 hW.2.2.1 hW.2.1 ⟨hSB, Or.inr (Or.inl rfl), Or.inr (Or.inr rfl)⟩ hq1) wd886 wd1097 wd884 wd885 wd13 (by decide) ⟨rfl, rfl, Nat.le_of_ble_eq_true rfl, Nat.le_of_ble_eq_true rfl⟩ (sb_recv X hSB) (As := []) (rest := []) rfl rfl hl.1 (Nat.le_of_ble_eq_true rfl) d108_174 ⟨room_l0 hc1, room_l0 hs1⟩ (fun q hq => hq.elim (fun e => e ▸ hAa) (fun z => z.elim (fun e => e ▸ hAb) (fun g => hAz q (Nat.le_trans hS.1 g)))) (fun v H1 locs1 hv hz1 hz2 hSq1 => ?_)
    obtain ⟨rfl, bb2, hb1, hb2, hSB⟩ := hv
    have hk : kp (ab ba bb) _ H1 := kp_call hz1 hz2 (fun q hq z => z.elim Or.inl (fun z => z.elim Or.inr (fun g => absurd hq (Nat.not_lt.mpr g))))
    have hAb : (MA wC ad s.heap.size) bb2 := hb1.elim (fun e => e ▸ hAb) (fun g => hAz _ (Nat.le_trans hS.1 g))
    have hnn0 := hnn
    have hnn : ∀ i, i < 46 → ¬ ab ba bb2 (ad i) := nn_step hnn hb1 hW
    have hW := hW.sb hk hb1 hb2 hnn0 hPp
    have hS := hSq1
    have hSz := hS.1
    refine lv_pop (pc := 177) hx hb d108_177 rfl ?_
    refine lv_aload (pc := 178) hx hb d108_178 (lv_at hl 0 rfl) ?_
    obtain ⟨q3, rq3, hq3, h, herq3, hccq3, hssq3⟩ := jd_some h
    refine k_callSN (pc := 180) (n := 1) X hS (c_wf_textOrTooLong l ρ _ (pe P ba bb2) ba bb2 q1 q3 hW.2.2.1 hW.2.1 ⟨hSB, Or.inr (Or.inl rfl), Or.inr (Or.inr rfl)⟩ hq3) wd1004 4 rfl wd1003 wd1 (by decide) ⟨rfl, rfl, Nat.le_of_ble_eq_true rfl, Nat.le_of_ble_eq_true rfl⟩ (As := [.ref ba]) (rest := []) rfl rfl hl.1 (Nat.le_of_ble_eq_true rfl) d108_180 ⟨room_le hccq3 hc1, room_le hssq3 hs1⟩ (fun q hq => hAz q (Nat.le_trans hS.1 hq)) (fun v H1 locs1 hv hz1 hz2 hSq3 => ?_)
    obtain ⟨u4, rfl, fu4⟩ := hv
    have hk : kp no _ H1 := kp_call hz1 hz2 (fun q hq z => absurd hq (Nat.not_lt.mpr z))
    have hSB := hSB.keep hk (fun z => z) (fun z => z)
    have hW := hW.keep hk no_hz (fun _ _ z => z)
    have hS := hSq3
    have hSz := hS.1
    have her := her.trans herq3
    have hc1 := room_st hccq3 hc1
    have hs1 := room_st hssq3 hs1
    have fu4 := fu4.un
    have hW := hW.un hPp
    have her : res.1 = (q3.1, st) := her.trans (congrArg Prod.fst (Option.some.inj h)).symm
    exact m_aret (pc := 183) hx hb hr (Or.inl ⟨_, rfl⟩) hlk hS ⟨u4, rfl, by rw [her]; exact fu4, by rw [her]; exact hW⟩ (Nat.le_trans (Nat.le_add_right _ _) hc1) (Nat.le_trans (Nat.le_add_right _ _) hs1) d108_183
  have kc154 : ∀ (K99 : CS → Int32 → Int64 → Int32 → Int32 → BT → Option ((VV × CS) × Nat × Nat)) (hK99 : ∀ (st : CS) (x3 : Int32) (x6 : Int64) (x8 : Int32) (x9 : Int32) (xb : BT) (ba bb : Nat) (H : Heap) (locs : List Loc) (ls : Array Slot) (cells slots : Nat) (r : (VV × CS) × Nat × Nat), CW ρ (pe P ba bb) ad st H → va_S (MA wC ad s.heap.size) s.heap H locs → SB ρ H ba bb xb → (MA wC ad s.heap.size) ba → (MA wC ad s.heap.size) bb → (∀ i, i < 46 → ¬ ab ba bb (ad i)) → lv_has ls 11 [(3, .int x3), (5, .ref ba), (6, .long x6), (8, .int x8), (9, .int x9)] → res.1 = r.1 → cells + r.2.1 ≤ res.2.1 → slots + r.2.2 ≤ res.2.2 → K99 st x3 x6 x8 x9 xb = some r → W p l e ({ frames := 17, cells := res.2.1, slots := res.2.2, locals := 720 } : Room) s m args below meth c H locs cells slots (MQ below (mQ (fun v H1 => ∃ x : Nat, v = some (.ref x) ∧ isV ρ P H1 x res.1.1 ∧ CW ρ P ad res.1.2 H1) (MA wC ad s.heap.size)) args s res.2.1 res.2.2 (MA wC ad s.heap.size)) (F0 m 99 ls [])), ∀ (st : CS) (x3 : Int32) (x6 : Int64) (x8 : Int32) (x9 : Int32) (z1 : Int32) (xb : BT) (ba bb : Nat) (H : Heap) (locs : List Loc) (ls : Array Slot) (cells slots : Nat) (r : (VV × CS) × Nat × Nat), CW ρ (pe P ba bb) ad st H → va_S (MA wC ad s.heap.size) s.heap H locs → SB ρ H ba bb xb → (MA wC ad s.heap.size) ba → (MA wC ad s.heap.size) bb → (∀ i, i < 46 → ¬ ab ba bb (ad i)) → lv_has ls 11 [(3, .int x3), (5, .ref ba), (6, .long x6), (8, .int x8), (9, .int x9)] → res.1 = r.1 → cells + r.2.1 ≤ res.2.1 → slots + r.2.2 ≤ res.2.2 → tx_base_154 K99 st x3 x6 x8 x9 z1 xb = some r → W p l e ({ frames := 17, cells := res.2.1, slots := res.2.2, locals := 720 } : Room) s m args below meth c H locs cells slots (MQ below (mQ (fun v H1 => ∃ x : Nat, v = some (.ref x) ∧ isV ρ P H1 x res.1.1 ∧ CW ρ P ad res.1.2 H1) (MA wC ad s.heap.size)) args s res.2.1 res.2.2 (MA wC ad s.heap.size)) (F0 m 154 ls [.int z1, .ref ba]) := by
    intro K99 hK99
    intro st x3 x6 x8 x9 z1 xb ba bb H locs ls cells slots r hW hS hSB hAa hAb hnn hl her hc1 hs1 h
    have hSz := hS.1
    unfold tx_base_154 at h
    refine lv_i2c (pc := 154) hx hb d108_154 rfl ?_
    obtain ⟨q5, rq5, hq5, h, herq5, hccq5, hssq5⟩ := jd_some h
    refine k_callV (pc := 155) (n := 1) X hS (c_sb_appC l ρ _ (pe P ba bb) ba bb xb ((z1.toUInt32 % 65536).toInt32) q5 hW.2.2.1 hW.2.1 ⟨hSB, Or.inr (Or.inl rfl), Or.inr (Or.inr rfl)⟩ hq5) wd316 wd1013 wd314 wd315 wd13 (by decide) ⟨rfl, rfl, Nat.le_of_ble_eq_true rfl, Nat.le_of_ble_eq_true rfl⟩ (sb_recv X hSB) (As := [.int ((z1.toUInt32 % 65536).toInt32)]) (rest := []) rfl rfl hl.1 (Nat.le_of_ble_eq_true rfl) d108_155 ⟨room_le hccq5 hc1, room_le hssq5 hs1⟩ (fun q hq => hq.elim (fun e => e ▸ hAa) (fun z => z.elim (fun e => e ▸ hAb) (fun g => hAz q (Nat.le_trans hS.1 g)))) (fun v H1 locs1 hv hz1 hz2 hSq5 => ?_)
    obtain ⟨rfl, bb6, hb1, hb2, hSB⟩ := hv
    have hk : kp (ab ba bb) _ H1 := kp_call hz1 hz2 (fun q hq z => z.elim Or.inl (fun z => z.elim Or.inr (fun g => absurd hq (Nat.not_lt.mpr g))))
    have hAb : (MA wC ad s.heap.size) bb6 := hb1.elim (fun e => e ▸ hAb) (fun g => hAz _ (Nat.le_trans hS.1 g))
    have hnn0 := hnn
    have hnn : ∀ i, i < 46 → ¬ ab ba bb6 (ad i) := nn_step hnn hb1 hW
    have hW := hW.sb hk hb1 hb2 hnn0 hPp
    have hS := hSq5
    have hSz := hS.1
    have her := her.trans herq5
    have hc1 := room_st hccq5 hc1
    have hs1 := room_st hssq5 hs1
    refine lv_pop (pc := 158) hx hb d108_158 rfl ?_
    refine lv_lload (pc := 159) hx hb d108_159 (lv_at hl 2 rfl) ?_
    refine lv_iload_n (pc := 161) hx hb d108_161 rfl (lv_at hl 0 rfl) ?_
    refine lv_i2l (pc := 162) hx hb d108_162 rfl ?_
    obtain ⟨g7, h⟩ := jg_some h
    refine lv_ldiv (pc := 163) hx hb d108_163 (nzl_ne g7) ?_
    obtain ⟨v8, ev8, h⟩ := jn_ex h
    refine nm_l ev8 ?_
    refine lv_lstore (pc := 164) (lv' := [(6, .long v8), (3, .int x3), (5, .ref ba), (8, .int x8), (9, .int x9)]) hx hb d108_164 hl (by decide) rfl (fun ls hl => ?_)
    obtain ⟨v9, ev9, h⟩ := jn_ex h
    refine lv_iinc (pc := 166) (v := v9) (lv' := [(9, .int v9), (6, .long v8), (3, .int x3), (5, .ref ba), (8, .int x8)]) hx hb d108_166 hl (k := 4) rfl (by rw [ev9]; rfl) (by decide) rfl (fun ls hl => ?_)
    refine lv_goto (pc := 169) (tgt := 99) hx hb d108_169 (by decide) ?_
    exact hK99 st x3 v8 x8 v9 q5.1 ba bb6 _ _ _ _ _ _ hW hS hSB hAa hAb hnn (lv_sub hl [2, 3, 1, 4, 0] rfl) her hc1 hs1 h
  have kc121 : ∀ (K99 : CS → Int32 → Int64 → Int32 → Int32 → BT → Option ((VV × CS) × Nat × Nat)) (hK99 : ∀ (st : CS) (x3 : Int32) (x6 : Int64) (x8 : Int32) (x9 : Int32) (xb : BT) (ba bb : Nat) (H : Heap) (locs : List Loc) (ls : Array Slot) (cells slots : Nat) (r : (VV × CS) × Nat × Nat), CW ρ (pe P ba bb) ad st H → va_S (MA wC ad s.heap.size) s.heap H locs → SB ρ H ba bb xb → (MA wC ad s.heap.size) ba → (MA wC ad s.heap.size) bb → (∀ i, i < 46 → ¬ ab ba bb (ad i)) → lv_has ls 11 [(3, .int x3), (5, .ref ba), (6, .long x6), (8, .int x8), (9, .int x9)] → res.1 = r.1 → cells + r.2.1 ≤ res.2.1 → slots + r.2.2 ≤ res.2.2 → K99 st x3 x6 x8 x9 xb = some r → W p l e ({ frames := 17, cells := res.2.1, slots := res.2.2, locals := 720 } : Room) s m args below meth c H locs cells slots (MQ below (mQ (fun v H1 => ∃ x : Nat, v = some (.ref x) ∧ isV ρ P H1 x res.1.1 ∧ CW ρ P ad res.1.2 H1) (MA wC ad s.heap.size)) args s res.2.1 res.2.2 (MA wC ad s.heap.size)) (F0 m 99 ls [])), ∀ (st : CS) (x3 : Int32) (x6 : Int64) (x8 : Int32) (x9 : Int32) (xb : BT) (ba bb : Nat) (H : Heap) (locs : List Loc) (ls : Array Slot) (cells slots : Nat) (r : (VV × CS) × Nat × Nat), CW ρ (pe P ba bb) ad st H → va_S (MA wC ad s.heap.size) s.heap H locs → SB ρ H ba bb xb → (MA wC ad s.heap.size) ba → (MA wC ad s.heap.size) bb → (∀ i, i < 46 → ¬ ab ba bb (ad i)) → lv_has ls 11 [(3, .int x3), (5, .ref ba), (6, .long x6), (8, .int x8), (9, .int x9)] → res.1 = r.1 → cells + r.2.1 ≤ res.2.1 → slots + r.2.2 ≤ res.2.2 → tx_base_121 K99 st x3 x6 x8 x9 xb = some r → W p l e ({ frames := 17, cells := res.2.1, slots := res.2.2, locals := 720 } : Room) s m args below meth c H locs cells slots (MQ below (mQ (fun v H1 => ∃ x : Nat, v = some (.ref x) ∧ isV ρ P H1 x res.1.1 ∧ CW ρ P ad res.1.2 H1) (MA wC ad s.heap.size)) args s res.2.1 res.2.2 (MA wC ad s.heap.size)) (F0 m 121 ls []) := by
    intro K99 hK99
    intro st x3 x6 x8 x9 xb ba bb H locs ls cells slots r hW hS hSB hAa hAb hnn hl her hc1 hs1 h
    have hSz := hS.1
    unfold tx_base_121 at h
    refine lv_lload (pc := 121) hx hb d108_121 (lv_at hl 2 rfl) ?_
    refine lv_iload_n (pc := 123) hx hb d108_123 rfl (lv_at hl 0 rfl) ?_
    refine lv_i2l (pc := 124) hx hb d108_124 rfl ?_
    obtain ⟨g10, h⟩ := jg_some h
    refine lv_lrem (pc := 125) hx hb d108_125 (nzl_ne g10) ?_
    refine lv_l2i (pc := 126) hx hb d108_126 rfl ?_
    obtain ⟨v11, ev11, h⟩ := jn_ex h
    refine nm_i ev11 ?_
    refine lv_istore (pc := 127) (lv' := [(10, .int v11), (3, .int x3), (5, .ref ba), (6, .long x6), (8, .int x8), (9, .int x9)]) hx hb d108_127 hl (by decide) rfl (fun ls hl => ?_)
    refine lv_aload (pc := 129) hx hb d108_129 (lv_at hl 2 rfl) ?_
    refine lv_iload (pc := 131) hx hb d108_131 (lv_at hl 0 rfl) ?_
    refine lv_bipush (pc := 133) (v := 10) hx hb d108_133 (by decide) ?_
    refine lv_icmp_ge (pc := 135) (tgt := 146) hx hb d108_135 (by decide) (fun c135 => ?_) (fun c135 => ?_)
    · have h := jb_t c135 h
      refine lv_bipush (pc := 146) (v := 65) hx hb d108_146 (by decide) ?_
      refine lv_iload (pc := 148) hx hb d108_148 (lv_at hl 0 rfl) ?_
      refine lv_iadd (pc := 150) hx hb d108_150 ?_
      refine lv_bipush (pc := 151) (v := 10) hx hb d108_151 (by decide) ?_
      refine lv_isub (pc := 153) hx hb d108_153 ?_
      exact kc154 _ hK99  st x3 x6 x8 x9 ((65 + v11) - 10) xb ba bb _ _ _ _ _ _ hW hS hSB hAa hAb hnn (lv_sub hl [1, 2, 3, 4, 5] rfl) her hc1 hs1 h
    · have h := jb_f c135 h
      refine lv_bipush (pc := 138) (v := 48) hx hb d108_138 (by decide) ?_
      refine lv_iload (pc := 140) hx hb d108_140 (lv_at hl 0 rfl) ?_
      refine lv_iadd (pc := 142) hx hb d108_142 ?_
      refine lv_goto (pc := 143) (tgt := 154) hx hb d108_143 (by decide) ?_
      exact kc154 _ hK99  st x3 x6 x8 x9 (48 + v11) xb ba bb _ _ _ _ _ _ hW hS hSB hAa hAb hnn (lv_sub hl [1, 2, 3, 4, 5] rfl) her hc1 hs1 h
  have kc99 : ∀ (fu : Nat), ∀ (st : CS) (x3 : Int32) (x6 : Int64) (x8 : Int32) (x9 : Int32) (xb : BT) (ba bb : Nat) (H : Heap) (locs : List Loc) (ls : Array Slot) (cells slots : Nat) (r : (VV × CS) × Nat × Nat), CW ρ (pe P ba bb) ad st H → va_S (MA wC ad s.heap.size) s.heap H locs → SB ρ H ba bb xb → (MA wC ad s.heap.size) ba → (MA wC ad s.heap.size) bb → (∀ i, i < 46 → ¬ ab ba bb (ad i)) → lv_has ls 11 [(3, .int x3), (5, .ref ba), (6, .long x6), (8, .int x8), (9, .int x9)] → res.1 = r.1 → cells + r.2.1 ≤ res.2.1 → slots + r.2.2 ≤ res.2.2 → tx_base_99 fu st x3 x6 x8 x9 xb = some r → W p l e ({ frames := 17, cells := res.2.1, slots := res.2.2, locals := 720 } : Room) s m args below meth c H locs cells slots (MQ below (mQ (fun v H1 => ∃ x : Nat, v = some (.ref x) ∧ isV ρ P H1 x res.1.1 ∧ CW ρ P ad res.1.2 H1) (MA wC ad s.heap.size)) args s res.2.1 res.2.2 (MA wC ad s.heap.size)) (F0 m 99 ls []) := by
    intro  fu
    induction fu with
    | zero => intro st x3 x6 x8 x9 xb ba bb H locs ls cells slots r hW hS hSB hAa hAb hnn hl her hc1 hs1 h; cases h
    | succ fu hK99 =>
      intro st x3 x6 x8 x9 xb ba bb H locs ls cells slots r hW hS hSB hAa hAb hnn hl her hc1 hs1 h
      have hSz := hS.1
      unfold tx_base_99 at h
      refine lv_iload (pc := 99) hx hb d108_99 (lv_at hl 4 rfl) ?_
      refine lv_sipush (pc := 101) (v := 255) hx hb d108_101 (by decide) ?_
      refine lv_icmp_ge (pc := 104) (tgt := 172) hx hb d108_104 (by decide) (fun c104 => ?_) (fun c104 => ?_)
      · have h := jb_t c104 h
        exact kc172   st xb ba bb _ _ _ _ _ _ hW hS hSB hAa hAb hnn (lv_sub hl [1] rfl) her hc1 hs1 h
      · have h := jb_f c104 h
        refine lv_iload (pc := 107) hx hb d108_107 (lv_at hl 4 rfl) ?_
        refine lv_iload (pc := 109) hx hb d108_109 (lv_at hl 3 rfl) ?_
        refine lv_icmp_lt (pc := 111) (tgt := 121) hx hb d108_111 (by decide) (fun c111 => ?_) (fun c111 => ?_)
        · have h := jb_t c111 h
          exact kc121 _ hK99  st x3 x6 x8 x9 xb ba bb _ _ _ _ _ _ hW hS hSB hAa hAb hnn (lv_sub hl [0, 1, 2, 3, 4] rfl) her hc1 hs1 h
        · have h := jb_f c111 h
          refine lv_lload (pc := 114) hx hb d108_114 (lv_at hl 2 rfl) ?_
          refine lv_lconst (pc := 116) (v := 0) hx hb d108_116 rfl ?_
          refine W.lcmp (pc := 117) hx hb d108_117 ?_
          refine lv_if_le (pc := 118) (tgt := 172) hx hb d108_118 (by decide) (fun c118 => ?_) (fun c118 => ?_)
          · have h := jb_t c118 h
            exact kc172   st xb ba bb _ _ _ _ _ _ hW hS hSB hAa hAb hnn (lv_sub hl [1] rfl) her hc1 hs1 h
          · have h := jb_f c118 h
            exact kc121 _ hK99  st x3 x6 x8 x9 xb ba bb _ _ _ _ _ _ hW hS hSB hAa hAb hnn (lv_sub hl [0, 1, 2, 3, 4] rfl) her hc1 hs1 h
  have kc69 : ∀ (st : CS) (H : Heap) (locs : List Loc) (ls : Array Slot) (cells slots : Nat) (r : (VV × CS) × Nat × Nat), CW ρ P ad st H → va_S (MA wC ad s.heap.size) s.heap H locs → lv_has ls 11 [] → res.1 = r.1 → cells + r.2.1 ≤ res.2.1 → slots + r.2.2 ≤ res.2.2 → tx_base_69 st = some r → W p l e ({ frames := 17, cells := res.2.1, slots := res.2.2, locals := 720 } : Room) s m args below meth c H locs cells slots (MQ below (mQ (fun v H1 => ∃ x : Nat, v = some (.ref x) ∧ isV ρ P H1 x res.1.1 ∧ CW ρ P ad res.1.2 H1) (MA wC ad s.heap.size)) args s res.2.1 res.2.2 (MA wC ad s.heap.size)) (F0 m 69 ls []) := by
    intro st H locs ls cells slots r hW hS hl her hc1 hs1 h
    have hSz := hS.1
    unfold tx_base_69 at h
    refine lv_bipush (pc := 69) (v := 6) hx hb d108_69 (by decide) ?_
    obtain ⟨q12, rq12, hq12, h, herq12, hccq12, hssq12⟩ := jd_some h
    refine k_callS (pc := 71) (n := 1) X hS (c_vl_ofError l ρ _ P 6 q12 hW.2.2.1 hW.2.1  hq12) wd651 wd931 wd650 wd4 (by decide) ⟨rfl, rfl, Nat.le_of_ble_eq_true rfl, Nat.le_of_ble_eq_true rfl⟩ (As := [.int 6]) (rest := []) rfl rfl hl.1 (Nat.le_of_ble_eq_true rfl) d108_71 ⟨room_le hccq12 hc1, room_le hssq12 hs1⟩ (fun q hq => hAz q (Nat.le_trans hS.1 hq)) (fun v H1 locs1 hv hz1 hz2 hSq12 => ?_)
    obtain ⟨u13, rfl, fu13⟩ := hv
    have hk : kp no _ H1 := kp_call hz1 hz2 (fun q hq z => absurd hq (Nat.not_lt.mpr z))
    have hW := hW.keep hk no_hz (fun _ _ z => z)
    have hS := hSq12
    have hSz := hS.1
    have her := her.trans herq12
    have hc1 := room_st hccq12 hc1
    have hs1 := room_st hssq12 hs1
    have her : res.1 = (q12.1, st) := her.trans (congrArg Prod.fst (Option.some.inj h)).symm
    exact m_aret (pc := 74) hx hb hr (Or.inl ⟨_, rfl⟩) hlk hS ⟨u13, rfl, by rw [her]; exact fu13, by rw [her]; exact hW⟩ (Nat.le_trans (Nat.le_add_right _ _) hc1) (Nat.le_trans (Nat.le_add_right _ _) hs1) d108_74
  have her : res.1 = res.1 := rfl
  have hc1 : 0 + res.2.1 ≤ res.2.1 := Nat.le_of_eq (Nat.zero_add _)
  have hs1 : 0 + res.2.2 ≤ res.2.2 := Nat.le_of_eq (Nat.zero_add _)
  unfold f_tx_base at h
  refine lv_aload_n (pc := 0) hx hb d108_0 rfl (lv_at hl 0 rfl) ?_
  refine c_getK (pc := 1) X hW 3 0 5 1 (C := "WordFunctions$Texts") (T := T5) (N := 2) (by decide) rfl rfl rfl rfl tin5 rfl wd196 rfl rfl d108_1 ?_
  refine lv_iconst (pc := 4) (v := 0) hx hb d108_4 (by decide) ?_
  obtain ⟨q14, hq14, h⟩ := jc_some h
  refine k_callV (pc := 5) (n := 1) X hS (c_ar_number l ρ ad _ P st 0 q14 hW  hq14) wd766 wd1093 wd764 wd765 wd3 (by decide) ⟨rfl, rfl, Nat.le_of_ble_eq_true rfl, Nat.le_of_ble_eq_true rfl⟩ (c_recv X hW 1 3 (by decide) rfl rfl) (As := [.int 0]) (rest := []) rfl rfl hl.1 (Nat.le_of_ble_eq_true rfl) d108_5 ⟨room_l0 hc1, room_l0 hs1⟩ (fun q hq => MA.mono hS.1 hq) (fun v H1 locs1 hv hz1 hz2 hSq14 => ?_)
  have hPq := hW.1
  obtain ⟨rfl, hW⟩ := hv
  have hS := hSq14
  have hSz := hS.1
  refine lv_dstore_n (pc := 8) (lv' := [(1, .double q14.1), (0, .ref (ad 3))]) hx hb d108_8 rfl hl (by decide) rfl (fun ls hl => ?_)
  refine lv_aload_n (pc := 9) hx hb d108_9 rfl (lv_at hl 1 rfl) ?_
  refine c_getK (pc := 10) X hW 3 0 5 1 (C := "WordFunctions$Texts") (T := T5) (N := 2) (by decide) rfl rfl rfl rfl tin5 rfl wd196 rfl rfl d108_10 ?_
  refine lv_iconst (pc := 13) (v := 1) hx hb d108_13 (by decide) ?_
  obtain ⟨q15, hq15, h⟩ := jc_some h
  refine k_callV (pc := 14) (n := 1) X hS (c_ar_whole l ρ ad _ P q14.2 1 q15 hW  hq15) wd762 wd961 wd760 wd761 wd3 (by decide) ⟨rfl, rfl, Nat.le_of_ble_eq_true rfl, Nat.le_of_ble_eq_true rfl⟩ (c_recv X hW 1 3 (by decide) rfl rfl) (As := [.int 1]) (rest := []) rfl rfl hl.1 (Nat.le_of_ble_eq_true rfl) d108_14 ⟨room_l0 hc1, room_l0 hs1⟩ (fun q hq => MA.mono hS.1 hq) (fun v H1 locs1 hv hz1 hz2 hSq15 => ?_)
  have hPq := hW.1
  obtain ⟨rfl, hW⟩ := hv
  have hS := hSq15
  have hSz := hS.1
  refine lv_istore_n (pc := 17) (lv' := [(3, .int q15.1), (1, .double q14.1), (0, .ref (ad 3))]) hx hb d108_17 rfl hl (by decide) rfl (fun ls hl => ?_)
  refine lv_aload_n (pc := 18) hx hb d108_18 rfl (lv_at hl 2 rfl) ?_
  refine c_getK (pc := 19) X hW 3 0 5 1 (C := "WordFunctions$Texts") (T := T5) (N := 2) (by decide) rfl rfl rfl rfl tin5 rfl wd196 rfl rfl d108_19 ?_
  refine lv_iconst (pc := 22) (v := 2) hx hb d108_22 (by decide) ?_
  refine lv_iconst (pc := 23) (v := 0) hx hb d108_23 (by decide) ?_
  obtain ⟨q16, hq16, h⟩ := jc_some h
  refine k_callV (pc := 24) (n := 2) X hS (c_ar_wholeOr l ρ ad _ P q15.2 2 0 q16 hW  hq16) wd925 wd922 wd923 wd924 wd3 (by decide) ⟨rfl, rfl, Nat.le_of_ble_eq_true rfl, Nat.le_of_ble_eq_true rfl⟩ (c_recv X hW 1 3 (by decide) rfl rfl) (As := [.int 2, .int 0]) (rest := []) rfl rfl hl.1 (Nat.le_of_ble_eq_true rfl) d108_24 ⟨room_l0 hc1, room_l0 hs1⟩ (fun q hq => MA.mono hS.1 hq) (fun v H1 locs1 hv hz1 hz2 hSq16 => ?_)
  have hPq := hW.1
  obtain ⟨rfl, hW⟩ := hv
  have hS := hSq16
  have hSz := hS.1
  refine lv_istore (pc := 27) (lv' := [(4, .int q16.1), (3, .int q15.1), (1, .double q14.1), (0, .ref (ad 3))]) hx hb d108_27 hl (by decide) rfl (fun ls hl => ?_)
  refine lv_dload_n (pc := 29) hx hb d108_29 rfl (lv_at hl 2 rfl) ?_
  refine lv_ldc2d (pc := 30) hx hb X.1.2.2.2.1 (X.ts wd1094) d108_30 ?_
  refine lv_dcmp (pc := 33) hx hb d108_33 ?_
  refine lv_if_le (pc := 34) (tgt := 69) hx hb d108_34 (by decide) (fun c34 => ?_) (fun c34 => ?_)
  · have h := jb_t c34 h
    exact kc69   q16.2 _ _ _ _ _ _ hW hS (lv_sub hl [] rfl) her hc1 hs1 h
  · have h := jb_f c34 h
    refine lv_dload_n (pc := 37) hx hb d108_37 rfl (lv_at hl 2 rfl) ?_
    refine lv_ldc2d (pc := 38) hx hb X.1.2.2.2.1 (X.ts wd1095) d108_38 ?_
    refine lv_dcmp (pc := 41) hx hb d108_41 ?_
    refine lv_if_ge (pc := 42) (tgt := 69) hx hb d108_42 (by decide) (fun c42 => ?_) (fun c42 => ?_)
    · have h := jb_t c42 h
      exact kc69   q16.2 _ _ _ _ _ _ hW hS (lv_sub hl [] rfl) her hc1 hs1 h
    · have h := jb_f c42 h
      refine lv_iload_n (pc := 45) hx hb d108_45 rfl (lv_at hl 1 rfl) ?_
      refine lv_iconst (pc := 46) (v := 2) hx hb d108_46 (by decide) ?_
      refine lv_icmp_lt (pc := 47) (tgt := 69) hx hb d108_47 (by decide) (fun c47 => ?_) (fun c47 => ?_)
      · have h := jb_t c47 h
        exact kc69   q16.2 _ _ _ _ _ _ hW hS (lv_sub hl [] rfl) her hc1 hs1 h
      · have h := jb_f c47 h
        refine lv_iload_n (pc := 50) hx hb d108_50 rfl (lv_at hl 1 rfl) ?_
        refine lv_bipush (pc := 51) (v := 36) hx hb d108_51 (by decide) ?_
        refine lv_icmp_gt (pc := 53) (tgt := 69) hx hb d108_53 (by decide) (fun c53 => ?_) (fun c53 => ?_)
        · have h := jb_t c53 h
          exact kc69   q16.2 _ _ _ _ _ _ hW hS (lv_sub hl [] rfl) her hc1 hs1 h
        · have h := jb_f c53 h
          refine lv_iload (pc := 56) hx hb d108_56 (lv_at hl 0 rfl) ?_
          refine lv_if_lt (pc := 58) (tgt := 69) hx hb d108_58 (by decide) (fun c58 => ?_) (fun c58 => ?_)
          · have h := jb_t c58 h
            exact kc69   q16.2 _ _ _ _ _ _ hW hS (lv_sub hl [] rfl) her hc1 hs1 h
          · have h := jb_f c58 h
            refine lv_iload (pc := 61) hx hb d108_61 (lv_at hl 0 rfl) ?_
            refine lv_sipush (pc := 63) (v := 255) hx hb d108_63 (by decide) ?_
            refine lv_icmp_le (pc := 66) (tgt := 75) hx hb d108_66 (by decide) (fun c66 => ?_) (fun c66 => ?_)
            · have h := jb_t c66 h
              obtain ⟨r17, h, her17, hcc17, hss17⟩ := ja_some h
              refine k_newSB (pc := 75) X hS hW.2.2.1 hW.2.1 hAz wd999 wd1000 (rest := []) hl.1 (Nat.le_of_ble_eq_true rfl) rfl rfl (room_le hcc17 hc1) (room_le hss17 hs1) d108_75 d108_78 d108_79 (fun ba bb H1 locs hka hba hbb hba1 hbb1 hSB hS => ?_)
              have hnn : ∀ i, i < 46 → ¬ ab ba bb (ad i) := nn_new hW hba hbb
              have hW := hW.new hka hba hbb hba1 hbb1
              have hAa : (MA wC ad s.heap.size) ba := hAz _ (Nat.le_trans hSz hba)
              have hAb : (MA wC ad s.heap.size) bb := hAz _ (Nat.le_trans hSz hbb)
              have hSz := hS.1
              have her := her.trans her17
              have hc1 := room_st hcc17 hc1
              have hs1 := room_st hss17 hs1
              refine lv_astore (pc := 82) (lv' := [(5, .ref ba), (4, .int q16.1), (3, .int q15.1), (1, .double q14.1), (0, .ref (ad 3))]) hx hb d108_82 hl (by decide) rfl (fun ls hl => ?_)
              refine lv_dload_n (pc := 84) hx hb d108_84 rfl (lv_at hl 3 rfl) ?_
              refine lv_d2l (pc := 85) hx hb d108_85 ?_
              obtain ⟨v18, ev18, h⟩ := jn_ex h
              refine nm_l ev18 ?_
              refine lv_lstore (pc := 86) (lv' := [(6, .long v18), (5, .ref ba), (4, .int q16.1), (3, .int q15.1), (1, .double q14.1), (0, .ref (ad 3))]) hx hb d108_86 hl (by decide) rfl (fun ls hl => ?_)
              refine lv_iload (pc := 88) hx hb d108_88 (lv_at hl 2 rfl) ?_
              refine lv_iconst (pc := 90) (v := 1) hx hb d108_90 (by decide) ?_
              obtain ⟨q19, hq19, h⟩ := jc_some h
              refine k_callS (pc := 91) (n := 2) X hS (c_ma_max l ρ _ (pe P ba bb) q16.1 1 q19 hW.2.2.1 hW.2.1  hq19) wd333 wd1096 wd332 wd17 (by decide) ⟨rfl, rfl, Nat.le_of_ble_eq_true rfl, Nat.le_of_ble_eq_true rfl⟩ (As := [.int q16.1, .int 1]) (rest := []) rfl rfl hl.1 (Nat.le_of_ble_eq_true rfl) d108_91 ⟨room_l0 hc1, room_l0 hs1⟩ (fun q hq => False.elim hq) (fun v H1 locs1 hv _ _ hSq19 => ?_)
              obtain ⟨rfl, rfl⟩ := hv
              have hS := hSq19
              have hSz := hS.1
              refine lv_istore (pc := 94) (lv' := [(8, .int q19), (6, .long v18), (5, .ref ba), (4, .int q16.1), (3, .int q15.1), (1, .double q14.1), (0, .ref (ad 3))]) hx hb d108_94 hl (by decide) rfl (fun ls hl => ?_)
              refine lv_iconst (pc := 96) (v := 0) hx hb d108_96 (by decide) ?_
              refine lv_istore (pc := 97) (lv' := [(9, .int 0), (8, .int q19), (6, .long v18), (5, .ref ba), (4, .int q16.1), (3, .int q15.1), (1, .double q14.1), (0, .ref (ad 3))]) hx hb d108_97 hl (by decide) rfl (fun ls hl => ?_)
              exact kc99  FU q16.2 q15.1 v18 q19 0 (([] : TT), 16) ba bb _ _ _ _ _ _ hW hS hSB hAa hAb hnn (lv_sub hl [5, 3, 2, 1, 0] rfl) her hc1 hs1 h
            · have h := jb_f c66 h
              exact kc69   q16.2 _ _ _ _ _ _ hW hS (lv_sub hl [] rfl) her hc1 hs1 h
def tx_character_21  (st : CS) : Option ((VV × CS) × Nat × Nat) := jd (f_vl_ofError 3) (fun q1 => some ((q1, st), 0, 0))
def f_tx_character (st : CS) : Option ((VV × CS) × Nat × Nat) := jc (f_ar_whole st 0) (fun q3 => jb (q3.1 < 1) (tx_character_21 q3.2) (jb (q3.1 ≤ 255) (ja 2 20 (jd (f_sb_appC (([] : TT), 16) ((q3.1.toUInt32 % 65536).toInt32)) (fun q5 => jd (f_wf_textOrTooLong q5) (fun q7 => some ((q7, q3.2), 0, 0))))) (tx_character_21 q3.2)))
set_option maxHeartbeats 4000000 in
set_option maxRecDepth 100000 in
theorem c_tx_character (l : Launch) (ρ : RH) (ad : Nat → Nat) (H : Heap) (P : Nat → Prop) (st : CS) (res : (VV × CS) × Nat × Nat) (hW : CW ρ P ad st H) (h : f_tx_character st = some res) : Met l y109 (wsOf y109 b109 3 (some (.object "WordFunctions$Value"))) ({ frames := 16, cells := res.2.1, slots := res.2.2, locals := 698 } : Room) (va_Pc [.ref (ad 3)] (KP ρ H)) (mQ (fun v H1 => ∃ x : Nat, v = some (.ref x) ∧ isV ρ P H1 x res.1.1 ∧ CW ρ P ad res.1.2 H1) (MA wC ad H.size)) res.2.1 res.2.2 (MA wC ad H.size) := by
  refine m_ofW (own := "WordFunctions$Texts") (plainFor_of_name rfl) rfl (Nat.le_of_ble_eq_true rfl) fun p e s m args below meth c ls hx hb hr hlk _ X hs hl => ?_
  subst hs
  have hS : va_S (MA wC ad s.heap.size) s.heap s.heap [] := va_S.rf
  have hSz := hS.1
  have hAz : ∀ q, s.heap.size ≤ q → (MA wC ad s.heap.size) q := fun q hq => Or.inr hq
  have hAp : ∀ i, i < 46 → (MA wC ad s.heap.size) (ad i) := fun i hi => MA.in hi
  have hPp : ∀ i, i < 46 → P (ad i) := hW.1
  have hl : lv_has ls 3 [(0, .ref (ad 3))] := hl
  have kc21 : ∀ (st : CS) (H : Heap) (locs : List Loc) (ls : Array Slot) (cells slots : Nat) (r : (VV × CS) × Nat × Nat), CW ρ P ad st H → va_S (MA wC ad s.heap.size) s.heap H locs → lv_has ls 3 [] → res.1 = r.1 → cells + r.2.1 ≤ res.2.1 → slots + r.2.2 ≤ res.2.2 → tx_character_21 st = some r → W p l e ({ frames := 16, cells := res.2.1, slots := res.2.2, locals := 698 } : Room) s m args below meth c H locs cells slots (MQ below (mQ (fun v H1 => ∃ x : Nat, v = some (.ref x) ∧ isV ρ P H1 x res.1.1 ∧ CW ρ P ad res.1.2 H1) (MA wC ad s.heap.size)) args s res.2.1 res.2.2 (MA wC ad s.heap.size)) (F0 m 21 ls []) := by
    intro st H locs ls cells slots r hW hS hl her hc1 hs1 h
    have hSz := hS.1
    unfold tx_character_21 at h
    refine lv_iconst (pc := 21) (v := 3) hx hb d109_21 (by decide) ?_
    obtain ⟨q1, rq1, hq1, h, herq1, hccq1, hssq1⟩ := jd_some h
    refine k_callS (pc := 22) (n := 1) X hS (c_vl_ofError l ρ _ P 3 q1 hW.2.2.1 hW.2.1  hq1) wd651 wd931 wd650 wd4 (by decide) ⟨rfl, rfl, Nat.le_of_ble_eq_true rfl, Nat.le_of_ble_eq_true rfl⟩ (As := [.int 3]) (rest := []) rfl rfl hl.1 (Nat.le_of_ble_eq_true rfl) d109_22 ⟨room_le hccq1 hc1, room_le hssq1 hs1⟩ (fun q hq => hAz q (Nat.le_trans hS.1 hq)) (fun v H1 locs1 hv hz1 hz2 hSq1 => ?_)
    obtain ⟨u2, rfl, fu2⟩ := hv
    have hk : kp no _ H1 := kp_call hz1 hz2 (fun q hq z => absurd hq (Nat.not_lt.mpr z))
    have hW := hW.keep hk no_hz (fun _ _ z => z)
    have hS := hSq1
    have hSz := hS.1
    have her := her.trans herq1
    have hc1 := room_st hccq1 hc1
    have hs1 := room_st hssq1 hs1
    have her : res.1 = (q1.1, st) := her.trans (congrArg Prod.fst (Option.some.inj h)).symm
    exact m_aret (pc := 25) hx hb hr (Or.inl ⟨_, rfl⟩) hlk hS ⟨u2, rfl, by rw [her]; exact fu2, by rw [her]; exact hW⟩ (Nat.le_trans (Nat.le_add_right _ _) hc1) (Nat.le_trans (Nat.le_add_right _ _) hs1) d109_25
  have her : res.1 = res.1 := rfl
  have hc1 : 0 + res.2.1 ≤ res.2.1 := Nat.le_of_eq (Nat.zero_add _)
  have hs1 : 0 + res.2.2 ≤ res.2.2 := Nat.le_of_eq (Nat.zero_add _)
  unfold f_tx_character at h
  refine lv_aload_n (pc := 0) hx hb d109_0 rfl (lv_at hl 0 rfl) ?_
  refine c_getK (pc := 1) X hW 3 0 5 1 (C := "WordFunctions$Texts") (T := T5) (N := 2) (by decide) rfl rfl rfl rfl tin5 rfl wd196 rfl rfl d109_1 ?_
  refine lv_iconst (pc := 4) (v := 0) hx hb d109_4 (by decide) ?_
  obtain ⟨q3, hq3, h⟩ := jc_some h
  refine k_callV (pc := 5) (n := 1) X hS (c_ar_whole l ρ ad _ P st 0 q3 hW  hq3) wd762 wd961 wd760 wd761 wd3 (by decide) ⟨rfl, rfl, Nat.le_of_ble_eq_true rfl, Nat.le_of_ble_eq_true rfl⟩ (c_recv X hW 1 3 (by decide) rfl rfl) (As := [.int 0]) (rest := []) rfl rfl hl.1 (Nat.le_of_ble_eq_true rfl) d109_5 ⟨room_l0 hc1, room_l0 hs1⟩ (fun q hq => MA.mono hS.1 hq) (fun v H1 locs1 hv hz1 hz2 hSq3 => ?_)
  have hPq := hW.1
  obtain ⟨rfl, hW⟩ := hv
  have hS := hSq3
  have hSz := hS.1
  refine lv_istore_n (pc := 8) (lv' := [(1, .int q3.1), (0, .ref (ad 3))]) hx hb d109_8 rfl hl (by decide) rfl (fun ls hl => ?_)
  refine lv_iload_n (pc := 9) hx hb d109_9 rfl (lv_at hl 0 rfl) ?_
  refine lv_iconst (pc := 10) (v := 1) hx hb d109_10 (by decide) ?_
  refine lv_icmp_lt (pc := 11) (tgt := 21) hx hb d109_11 (by decide) (fun c11 => ?_) (fun c11 => ?_)
  · have h := jb_t c11 h
    exact kc21   q3.2 _ _ _ _ _ _ hW hS (lv_sub hl [] rfl) her hc1 hs1 h
  · have h := jb_f c11 h
    refine lv_iload_n (pc := 14) hx hb d109_14 rfl (lv_at hl 0 rfl) ?_
    refine lv_sipush (pc := 15) (v := 255) hx hb d109_15 (by decide) ?_
    refine lv_icmp_le (pc := 18) (tgt := 26) hx hb d109_18 (by decide) (fun c18 => ?_) (fun c18 => ?_)
    · have h := jb_t c18 h
      obtain ⟨r4, h, her4, hcc4, hss4⟩ := ja_some h
      refine k_newSB (pc := 26) X hS hW.2.2.1 hW.2.1 hAz wd999 wd1000 (rest := []) hl.1 (Nat.le_of_ble_eq_true rfl) rfl rfl (room_le hcc4 hc1) (room_le hss4 hs1) d109_26 d109_29 d109_30 (fun ba bb H1 locs hka hba hbb hba1 hbb1 hSB hS => ?_)
      have hnn : ∀ i, i < 46 → ¬ ab ba bb (ad i) := nn_new hW hba hbb
      have hW := hW.new hka hba hbb hba1 hbb1
      have hAa : (MA wC ad s.heap.size) ba := hAz _ (Nat.le_trans hSz hba)
      have hAb : (MA wC ad s.heap.size) bb := hAz _ (Nat.le_trans hSz hbb)
      have hSz := hS.1
      have her := her.trans her4
      have hc1 := room_st hcc4 hc1
      have hs1 := room_st hss4 hs1
      refine lv_astore_n (pc := 33) (lv' := [(2, .ref ba), (1, .int q3.1), (0, .ref (ad 3))]) hx hb d109_33 rfl hl (by decide) rfl (fun ls hl => ?_)
      refine lv_aload_n (pc := 34) hx hb d109_34 rfl (lv_at hl 0 rfl) ?_
      refine lv_iload_n (pc := 35) hx hb d109_35 rfl (lv_at hl 1 rfl) ?_
      refine lv_i2c (pc := 36) hx hb d109_36 rfl ?_
      obtain ⟨q5, rq5, hq5, h, herq5, hccq5, hssq5⟩ := jd_some h
      refine k_callV (pc := 37) (n := 1) X hS (c_sb_appC l ρ _ (pe P ba bb) ba bb (([] : TT), 16) ((q3.1.toUInt32 % 65536).toInt32) q5 hW.2.2.1 hW.2.1 ⟨hSB, Or.inr (Or.inl rfl), Or.inr (Or.inr rfl)⟩ hq5) wd316 wd1013 wd314 wd315 wd13 (by decide) ⟨rfl, rfl, Nat.le_of_ble_eq_true rfl, Nat.le_of_ble_eq_true rfl⟩ (sb_recv X hSB) (As := [.int ((q3.1.toUInt32 % 65536).toInt32)]) (rest := []) rfl rfl hl.1 (Nat.le_of_ble_eq_true rfl) d109_37 ⟨room_le hccq5 hc1, room_le hssq5 hs1⟩ (fun q hq => hq.elim (fun e => e ▸ hAa) (fun z => z.elim (fun e => e ▸ hAb) (fun g => hAz q (Nat.le_trans hS.1 g)))) (fun v H1 locs1 hv hz1 hz2 hSq5 => ?_)
      obtain ⟨rfl, bb6, hb1, hb2, hSB⟩ := hv
      have hk : kp (ab ba bb) _ H1 := kp_call hz1 hz2 (fun q hq z => z.elim Or.inl (fun z => z.elim Or.inr (fun g => absurd hq (Nat.not_lt.mpr g))))
      have hAb : (MA wC ad s.heap.size) bb6 := hb1.elim (fun e => e ▸ hAb) (fun g => hAz _ (Nat.le_trans hS.1 g))
      have hnn0 := hnn
      have hnn : ∀ i, i < 46 → ¬ ab ba bb6 (ad i) := nn_step hnn hb1 hW
      have hW := hW.sb hk hb1 hb2 hnn0 hPp
      have hS := hSq5
      have hSz := hS.1
      have her := her.trans herq5
      have hc1 := room_st hccq5 hc1
      have hs1 := room_st hssq5 hs1
      refine lv_pop (pc := 40) hx hb d109_40 rfl ?_
      refine lv_aload_n (pc := 41) hx hb d109_41 rfl (lv_at hl 0 rfl) ?_
      obtain ⟨q7, rq7, hq7, h, herq7, hccq7, hssq7⟩ := jd_some h
      refine k_callSN (pc := 42) (n := 1) X hS (c_wf_textOrTooLong l ρ _ (pe P ba bb6) ba bb6 q5.1 q7 hW.2.2.1 hW.2.1 ⟨hSB, Or.inr (Or.inl rfl), Or.inr (Or.inr rfl)⟩ hq7) wd1004 4 rfl wd1003 wd1 (by decide) ⟨rfl, rfl, Nat.le_of_ble_eq_true rfl, Nat.le_of_ble_eq_true rfl⟩ (As := [.ref ba]) (rest := []) rfl rfl hl.1 (Nat.le_of_ble_eq_true rfl) d109_42 ⟨room_le hccq7 hc1, room_le hssq7 hs1⟩ (fun q hq => hAz q (Nat.le_trans hS.1 hq)) (fun v H1 locs1 hv hz1 hz2 hSq7 => ?_)
      obtain ⟨u8, rfl, fu8⟩ := hv
      have hk : kp no _ H1 := kp_call hz1 hz2 (fun q hq z => absurd hq (Nat.not_lt.mpr z))
      have hSB := hSB.keep hk (fun z => z) (fun z => z)
      have hW := hW.keep hk no_hz (fun _ _ z => z)
      have hS := hSq7
      have hSz := hS.1
      have her := her.trans herq7
      have hc1 := room_st hccq7 hc1
      have hs1 := room_st hssq7 hs1
      have fu8 := fu8.un
      have hW := hW.un hPp
      have her : res.1 = (q7.1, q3.2) := her.trans (congrArg Prod.fst (Option.some.inj h)).symm
      exact m_aret (pc := 45) hx hb hr (Or.inl ⟨_, rfl⟩) hlk hS ⟨u8, rfl, by rw [her]; exact fu8, by rw [her]; exact hW⟩ (Nat.le_trans (Nat.le_add_right _ _) hc1) (Nat.le_trans (Nat.le_add_right _ _) hs1) d109_45
    · have h := jb_f c18 h
      exact kc21   q3.2 _ _ _ _ _ _ hW hS (lv_sub hl [] rfl) her hc1 hs1 h
def f_tx_code (st : CS) : Option ((VV × CS) × Nat × Nat) := jd (f_ar_text st 0) (fun q1 => jc (f_js_isEmpty q1.1) (fun q3 => jb (q3 = 0) (jc (f_js_charAt q1.1 0) (fun q4 => jd (f_vl_ofNumber (FP.i2d q4)) (fun q5 => some ((q5, q1.2), 0, 0)))) (jd (f_vl_ofError 3) (fun q7 => some ((q7, q1.2), 0, 0)))))
set_option maxHeartbeats 4000000 in
set_option maxRecDepth 100000 in
theorem c_tx_code (l : Launch) (ρ : RH) (ad : Nat → Nat) (H : Heap) (P : Nat → Prop) (st : CS) (res : (VV × CS) × Nat × Nat) (hW : CW ρ P ad st H) (h : f_tx_code st = some res) : Met l y110 (wsOf y110 b110 2 (some (.object "WordFunctions$Value"))) ({ frames := 16, cells := res.2.1, slots := res.2.2, locals := 693 } : Room) (va_Pc [.ref (ad 3)] (KP ρ H)) (mQ (fun v H1 => ∃ x : Nat, v = some (.ref x) ∧ isV ρ P H1 x res.1.1 ∧ CW ρ P ad res.1.2 H1) (MA wC ad H.size)) res.2.1 res.2.2 (MA wC ad H.size) := by
  refine m_ofW (own := "WordFunctions$Texts") (plainFor_of_name rfl) rfl (Nat.le_of_ble_eq_true rfl) fun p e s m args below meth c ls hx hb hr hlk _ X hs hl => ?_
  subst hs
  have hS : va_S (MA wC ad s.heap.size) s.heap s.heap [] := va_S.rf
  have hSz := hS.1
  have hAz : ∀ q, s.heap.size ≤ q → (MA wC ad s.heap.size) q := fun q hq => Or.inr hq
  have hAp : ∀ i, i < 46 → (MA wC ad s.heap.size) (ad i) := fun i hi => MA.in hi
  have hPp : ∀ i, i < 46 → P (ad i) := hW.1
  have hl : lv_has ls 2 [(0, .ref (ad 3))] := hl
  have her : res.1 = res.1 := rfl
  have hc1 : 0 + res.2.1 ≤ res.2.1 := Nat.le_of_eq (Nat.zero_add _)
  have hs1 : 0 + res.2.2 ≤ res.2.2 := Nat.le_of_eq (Nat.zero_add _)
  unfold f_tx_code at h
  refine lv_aload_n (pc := 0) hx hb d110_0 rfl (lv_at hl 0 rfl) ?_
  refine c_getK (pc := 1) X hW 3 0 5 1 (C := "WordFunctions$Texts") (T := T5) (N := 2) (by decide) rfl rfl rfl rfl tin5 rfl wd196 rfl rfl d110_1 ?_
  refine lv_iconst (pc := 4) (v := 0) hx hb d110_4 (by decide) ?_
  obtain ⟨q1, rq1, hq1, h, herq1, hccq1, hssq1⟩ := jd_some h
  refine k_callV (pc := 5) (n := 1) X hS (c_ar_text l ρ ad _ P st 0 q1 hW  hq1) wd868 wd865 wd866 wd867 wd3 (by decide) ⟨rfl, rfl, Nat.le_of_ble_eq_true rfl, Nat.le_of_ble_eq_true rfl⟩ (c_recv X hW 1 3 (by decide) rfl rfl) (As := [.int 0]) (rest := []) rfl rfl hl.1 (Nat.le_of_ble_eq_true rfl) d110_5 ⟨room_le hccq1 hc1, room_le hssq1 hs1⟩ (fun q hq => MA.mono hS.1 hq) (fun v H1 locs1 hv hz1 hz2 hSq1 => ?_)
  have hPq := hW.1
  obtain ⟨u2, rfl, fu2, hW⟩ := hv
  have hS := hSq1
  have hSz := hS.1
  have her := her.trans herq1
  have hc1 := room_st hccq1 hc1
  have hs1 := room_st hssq1 hs1
  refine lv_astore_n (pc := 8) (lv' := [(1, .ref u2), (0, .ref (ad 3))]) hx hb d110_8 rfl hl (by decide) rfl (fun ls hl => ?_)
  refine lv_aload_n (pc := 9) hx hb d110_9 rfl (lv_at hl 0 rfl) ?_
  obtain ⟨q3, hq3, h⟩ := jc_some h
  refine k_callV (pc := 10) (n := 0) X hS (c_js_isEmpty l ρ _ P u2 q1.1.1 q3 hW.2.2.1 hW.2.1 fu2 hq3) wd782 wd1011 wd780 wd781 wd14 (by decide) ⟨rfl, rfl, Nat.le_of_ble_eq_true rfl, Nat.le_of_ble_eq_true rfl⟩ (s_recv X fu2) (As := []) (rest := []) rfl rfl hl.1 (Nat.le_of_ble_eq_true rfl) d110_10 ⟨room_l0 hc1, room_l0 hs1⟩ (fun q hq => False.elim hq) (fun v H1 locs1 hv _ _ hSq3 => ?_)
  obtain ⟨rfl, rfl⟩ := hv
  have hS := hSq3
  have hSz := hS.1
  refine lv_if_eq (pc := 13) (tgt := 23) hx hb d110_13 (by decide) (fun c13 => ?_) (fun c13 => ?_)
  · have h := jb_t c13 h
    refine lv_aload_n (pc := 23) hx hb d110_23 rfl (lv_at hl 0 rfl) ?_
    refine lv_iconst (pc := 24) (v := 0) hx hb d110_24 (by decide) ?_
    obtain ⟨q4, hq4, h⟩ := jc_some h
    refine k_callV (pc := 25) (n := 1) X hS (c_js_charAt l ρ _ P u2 q1.1.1 0 q4 hW.2.2.1 hW.2.1 fu2 hq4) wd683 wd969 wd681 wd682 wd14 (by decide) ⟨rfl, rfl, Nat.le_of_ble_eq_true rfl, Nat.le_of_ble_eq_true rfl⟩ (s_recv X fu2) (As := [.int 0]) (rest := []) rfl rfl hl.1 (Nat.le_of_ble_eq_true rfl) d110_25 ⟨room_l0 hc1, room_l0 hs1⟩ (fun q hq => False.elim hq) (fun v H1 locs1 hv _ _ hSq4 => ?_)
    obtain ⟨rfl, rfl⟩ := hv
    have hS := hSq4
    have hSz := hS.1
    refine lv_i2d (pc := 28) hx hb d110_28 ?_
    obtain ⟨q5, rq5, hq5, h, herq5, hccq5, hssq5⟩ := jd_some h
    refine k_callS (pc := 29) (n := 1) X hS (c_vl_ofNumber l ρ _ P (FP.i2d q4) q5 hW.2.2.1 hW.2.1  hq5) wd642 wd917 wd641 wd4 (by decide) ⟨rfl, rfl, Nat.le_of_ble_eq_true rfl, Nat.le_of_ble_eq_true rfl⟩ (As := [.double (FP.i2d q4)]) (rest := []) rfl rfl hl.1 (Nat.le_of_ble_eq_true rfl) d110_29 ⟨room_le hccq5 hc1, room_le hssq5 hs1⟩ (fun q hq => hAz q (Nat.le_trans hS.1 hq)) (fun v H1 locs1 hv hz1 hz2 hSq5 => ?_)
    obtain ⟨u6, rfl, fu6⟩ := hv
    have hk : kp no _ H1 := kp_call hz1 hz2 (fun q hq z => absurd hq (Nat.not_lt.mpr z))
    have hW := hW.keep hk no_hz (fun _ _ z => z)
    have hS := hSq5
    have hSz := hS.1
    have her := her.trans herq5
    have hc1 := room_st hccq5 hc1
    have hs1 := room_st hssq5 hs1
    have her : res.1 = (q5.1, q1.1.2) := her.trans (congrArg Prod.fst (Option.some.inj h)).symm
    exact m_aret (pc := 32) hx hb hr (Or.inl ⟨_, rfl⟩) hlk hS ⟨u6, rfl, by rw [her]; exact fu6, by rw [her]; exact hW⟩ (Nat.le_trans (Nat.le_add_right _ _) hc1) (Nat.le_trans (Nat.le_add_right _ _) hs1) d110_32
  · have h := jb_f c13 h
    refine lv_iconst (pc := 16) (v := 3) hx hb d110_16 (by decide) ?_
    obtain ⟨q7, rq7, hq7, h, herq7, hccq7, hssq7⟩ := jd_some h
    refine k_callS (pc := 17) (n := 1) X hS (c_vl_ofError l ρ _ P 3 q7 hW.2.2.1 hW.2.1  hq7) wd651 wd931 wd650 wd4 (by decide) ⟨rfl, rfl, Nat.le_of_ble_eq_true rfl, Nat.le_of_ble_eq_true rfl⟩ (As := [.int 3]) (rest := []) rfl rfl hl.1 (Nat.le_of_ble_eq_true rfl) d110_17 ⟨room_le hccq7 hc1, room_le hssq7 hs1⟩ (fun q hq => hAz q (Nat.le_trans hS.1 hq)) (fun v H1 locs1 hv hz1 hz2 hSq7 => ?_)
    obtain ⟨u8, rfl, fu8⟩ := hv
    have hk : kp no _ H1 := kp_call hz1 hz2 (fun q hq z => absurd hq (Nat.not_lt.mpr z))
    have hW := hW.keep hk no_hz (fun _ _ z => z)
    have hS := hSq7
    have hSz := hS.1
    have her := her.trans herq7
    have hc1 := room_st hccq7 hc1
    have hs1 := room_st hssq7 hs1
    refine lv_goto (pc := 20) (tgt := 32) hx hb d110_20 (by decide) ?_
    have her : res.1 = (q7.1, q1.1.2) := her.trans (congrArg Prod.fst (Option.some.inj h)).symm
    exact m_aret (pc := 32) hx hb hr (Or.inl ⟨_, rfl⟩) hlk hS ⟨u8, rfl, by rw [her]; exact fu8, by rw [her]; exact hW⟩ (Nat.le_trans (Nat.le_add_right _ _) hc1) (Nat.le_trans (Nat.le_add_right _ _) hs1) d110_32
def tx_concatenate_10  : Nat → CS → Int32 → BT → Option ((VV × CS) × Nat × Nat)
  | 0, _, _, _ => none
  | fu + 1, st, x2, xb => jb ((st.1 1 5) ≤ x2) (jd (f_wf_textOrTooLong xb) (fun q1 => some ((q1, st), 0, 0))) (jd (f_ar_text st x2) (fun q3 => jd (f_tx_appendWhileShort xb q3.1) (fun q5 => jn (x2 + 1) (fun v7 => tx_concatenate_10 fu q3.2 v7 q5))))
def f_tx_concatenate (st : CS) : Option ((VV × CS) × Nat × Nat) := ja 2 20 (tx_concatenate_10 FU st 0 (([] : TT), 16))
set_option maxHeartbeats 4000000 in
set_option maxRecDepth 100000 in
theorem c_tx_concatenate (l : Launch) (ρ : RH) (ad : Nat → Nat) (H : Heap) (P : Nat → Prop) (st : CS) (res : (VV × CS) × Nat × Nat) (hW : CW ρ P ad st H) (h : f_tx_concatenate st = some res) : Met l y111 (wsOf y111 b111 3 (some (.object "WordFunctions$Value"))) ({ frames := 16, cells := res.2.1, slots := res.2.2, locals := 693 } : Room) (va_Pc [.ref (ad 3)] (KP ρ H)) (mQ (fun v H1 => ∃ x : Nat, v = some (.ref x) ∧ isV ρ P H1 x res.1.1 ∧ CW ρ P ad res.1.2 H1) (MA wC ad H.size)) res.2.1 res.2.2 (MA wC ad H.size) := by
  refine m_ofW (own := "WordFunctions$Texts") (plainFor_of_name rfl) rfl (Nat.le_of_ble_eq_true rfl) fun p e s m args below meth c ls hx hb hr hlk _ X hs hl => ?_
  subst hs
  have hS : va_S (MA wC ad s.heap.size) s.heap s.heap [] := va_S.rf
  have hSz := hS.1
  have hAz : ∀ q, s.heap.size ≤ q → (MA wC ad s.heap.size) q := fun q hq => Or.inr hq
  have hAp : ∀ i, i < 46 → (MA wC ad s.heap.size) (ad i) := fun i hi => MA.in hi
  have hPp : ∀ i, i < 46 → P (ad i) := hW.1
  have hl : lv_has ls 3 [(0, .ref (ad 3))] := hl
  have kc10 : ∀ (fu : Nat), ∀ (st : CS) (x2 : Int32) (xb : BT) (ba bb : Nat) (H : Heap) (locs : List Loc) (ls : Array Slot) (cells slots : Nat) (r : (VV × CS) × Nat × Nat), CW ρ (pe P ba bb) ad st H → va_S (MA wC ad s.heap.size) s.heap H locs → SB ρ H ba bb xb → (MA wC ad s.heap.size) ba → (MA wC ad s.heap.size) bb → (∀ i, i < 46 → ¬ ab ba bb (ad i)) → lv_has ls 3 [(0, .ref (ad 3)), (1, .ref ba), (2, .int x2)] → res.1 = r.1 → cells + r.2.1 ≤ res.2.1 → slots + r.2.2 ≤ res.2.2 → tx_concatenate_10 fu st x2 xb = some r → W p l e ({ frames := 16, cells := res.2.1, slots := res.2.2, locals := 693 } : Room) s m args below meth c H locs cells slots (MQ below (mQ (fun v H1 => ∃ x : Nat, v = some (.ref x) ∧ isV ρ P H1 x res.1.1 ∧ CW ρ P ad res.1.2 H1) (MA wC ad s.heap.size)) args s res.2.1 res.2.2 (MA wC ad s.heap.size)) (F0 m 10 ls []) := by
    intro  fu
    induction fu with
    | zero => intro st x2 xb ba bb H locs ls cells slots r hW hS hSB hAa hAb hnn hl her hc1 hs1 h; cases h
    | succ fu hK10 =>
      intro st x2 xb ba bb H locs ls cells slots r hW hS hSB hAa hAb hnn hl her hc1 hs1 h
      have hSz := hS.1
      unfold tx_concatenate_10 at h
      refine lv_iload_n (pc := 10) hx hb d111_10 rfl (lv_at hl 2 rfl) ?_
      refine lv_aload_n (pc := 11) hx hb d111_11 rfl (lv_at hl 0 rfl) ?_
      refine c_getK (pc := 12) X hW 3 0 5 1 (C := "WordFunctions$Texts") (T := T5) (N := 2) (by decide) rfl rfl rfl rfl tin5 rfl wd196 rfl rfl d111_12 ?_
      refine c_getI (pc := 15) X hW 1 5 3 (C := "WordFunctions$Arguments") (T := T3) (N := 9) (by decide) rfl rfl rfl rfl tin3 rfl wd136 rfl d111_15 ?_
      refine lv_icmp_ge (pc := 18) (tgt := 39) hx hb d111_18 (by decide) (fun c18 => ?_) (fun c18 => ?_)
      · have h := jb_t c18 h
        refine lv_aload_n (pc := 39) hx hb d111_39 rfl (lv_at hl 1 rfl) ?_
        obtain ⟨q1, rq1, hq1, h, herq1, hccq1, hssq1⟩ := jd_some h
        refine k_callSN (pc := 40) (n := 1) X hS (c_wf_textOrTooLong l ρ _ (pe P ba bb) ba bb xb q1 hW.2.2.1 hW.2.1 ⟨hSB, Or.inr (Or.inl rfl), Or.inr (Or.inr rfl)⟩ hq1) wd1004 4 rfl wd1003 wd1 (by decide) ⟨rfl, rfl, Nat.le_of_ble_eq_true rfl, Nat.le_of_ble_eq_true rfl⟩ (As := [.ref ba]) (rest := []) rfl rfl hl.1 (Nat.le_of_ble_eq_true rfl) d111_40 ⟨room_le hccq1 hc1, room_le hssq1 hs1⟩ (fun q hq => hAz q (Nat.le_trans hS.1 hq)) (fun v H1 locs1 hv hz1 hz2 hSq1 => ?_)
        obtain ⟨u2, rfl, fu2⟩ := hv
        have hk : kp no _ H1 := kp_call hz1 hz2 (fun q hq z => absurd hq (Nat.not_lt.mpr z))
        have hSB := hSB.keep hk (fun z => z) (fun z => z)
        have hW := hW.keep hk no_hz (fun _ _ z => z)
        have hS := hSq1
        have hSz := hS.1
        have her := her.trans herq1
        have hc1 := room_st hccq1 hc1
        have hs1 := room_st hssq1 hs1
        have fu2 := fu2.un
        have hW := hW.un hPp
        have her : res.1 = (q1.1, st) := her.trans (congrArg Prod.fst (Option.some.inj h)).symm
        exact m_aret (pc := 43) hx hb hr (Or.inl ⟨_, rfl⟩) hlk hS ⟨u2, rfl, by rw [her]; exact fu2, by rw [her]; exact hW⟩ (Nat.le_trans (Nat.le_add_right _ _) hc1) (Nat.le_trans (Nat.le_add_right _ _) hs1) d111_43
      · have h := jb_f c18 h
        refine lv_aload_n (pc := 21) hx hb d111_21 rfl (lv_at hl 1 rfl) ?_
        refine lv_aload_n (pc := 22) hx hb d111_22 rfl (lv_at hl 0 rfl) ?_
        refine c_getK (pc := 23) X hW 3 0 5 1 (C := "WordFunctions$Texts") (T := T5) (N := 2) (by decide) rfl rfl rfl rfl tin5 rfl wd196 rfl rfl d111_23 ?_
        refine lv_iload_n (pc := 26) hx hb d111_26 rfl (lv_at hl 2 rfl) ?_
        obtain ⟨q3, rq3, hq3, h, herq3, hccq3, hssq3⟩ := jd_some h
        refine k_callV (pc := 27) (n := 1) X hS (c_ar_text l ρ ad _ (pe P ba bb) st x2 q3 hW  hq3) wd868 wd865 wd866 wd867 wd3 (by decide) ⟨rfl, rfl, Nat.le_of_ble_eq_true rfl, Nat.le_of_ble_eq_true rfl⟩ (c_recv X hW 1 3 (by decide) rfl rfl) (As := [.int x2]) (rest := [.ref ba]) rfl rfl hl.1 (Nat.le_of_ble_eq_true rfl) d111_27 ⟨room_le hccq3 hc1, room_le hssq3 hs1⟩ (fun q hq => MA.mono hS.1 hq) (fun v H1 locs1 hv hz1 hz2 hSq3 => ?_)
        have hPq := hW.1
        obtain ⟨u4, rfl, fu4, hW⟩ := hv
        have hk : kp (Pm ad) _ H1 := kp_call hz1 hz2 (MA_Pm rfl)
        have hSB := hSB.keep hk (nn_a hnn) (nn_b hnn)
        have hS := hSq3
        have hSz := hS.1
        have her := her.trans herq3
        have hc1 := room_st hccq3 hc1
        have hs1 := room_st hssq3 hs1
        obtain ⟨q5, rq5, hq5, h, herq5, hccq5, hssq5⟩ := jd_some h
        refine k_callS (pc := 30) (n := 2) X hS (c_tx_appendWhileShort l ρ _ (pe P ba bb) ba bb xb u4 q3.1.1 q5 hW.2.2.1 hW.2.1 ⟨hSB, Or.inr (Or.inl rfl), Or.inr (Or.inr rfl)⟩ fu4 hq5) wd1044 wd1042 wd1043 wd7 (by decide) ⟨rfl, rfl, Nat.le_of_ble_eq_true rfl, Nat.le_of_ble_eq_true rfl⟩ (As := [.ref ba, .ref u4]) (rest := []) rfl rfl hl.1 (Nat.le_of_ble_eq_true rfl) d111_30 ⟨room_le hccq5 hc1, room_le hssq5 hs1⟩ (fun q hq => hq.elim (fun e => e ▸ hAa) (fun z => z.elim (fun e => e ▸ hAb) (fun g => hAz q (Nat.le_trans hS.1 g)))) (fun v H1 locs1 hv hz1 hz2 hSq5 => ?_)
        obtain ⟨rfl, bb6, hb1, hb2, hSB⟩ := hv
        have hk : kp (ab ba bb) _ H1 := kp_call hz1 hz2 (fun q hq z => z.elim Or.inl (fun z => z.elim Or.inr (fun g => absurd hq (Nat.not_lt.mpr g))))
        have hAb : (MA wC ad s.heap.size) bb6 := hb1.elim (fun e => e ▸ hAb) (fun g => hAz _ (Nat.le_trans hS.1 g))
        have hnn0 := hnn
        have hnn : ∀ i, i < 46 → ¬ ab ba bb6 (ad i) := nn_step hnn hb1 hW
        have hW := hW.sb hk hb1 hb2 hnn0 hPp
        have hS := hSq5
        have hSz := hS.1
        have her := her.trans herq5
        have hc1 := room_st hccq5 hc1
        have hs1 := room_st hssq5 hs1
        obtain ⟨v7, ev7, h⟩ := jn_ex h
        refine lv_iinc (pc := 33) (v := v7) (lv' := [(2, .int v7), (0, .ref (ad 3)), (1, .ref ba)]) hx hb d111_33 hl (k := 2) rfl (by rw [ev7]; rfl) (by decide) rfl (fun ls hl => ?_)
        refine lv_goto (pc := 36) (tgt := 10) hx hb d111_36 (by decide) ?_
        exact hK10 q3.1.2 v7 q5.1 ba bb6 _ _ _ _ _ _ hW hS hSB hAa hAb hnn (lv_sub hl [1, 2, 0] rfl) her hc1 hs1 h
  have her : res.1 = res.1 := rfl
  have hc1 : 0 + res.2.1 ≤ res.2.1 := Nat.le_of_eq (Nat.zero_add _)
  have hs1 : 0 + res.2.2 ≤ res.2.2 := Nat.le_of_eq (Nat.zero_add _)
  unfold f_tx_concatenate at h
  obtain ⟨r8, h, her8, hcc8, hss8⟩ := ja_some h
  refine k_newSB (pc := 0) X hS hW.2.2.1 hW.2.1 hAz wd999 wd1000 (rest := []) hl.1 (Nat.le_of_ble_eq_true rfl) rfl rfl (room_le hcc8 hc1) (room_le hss8 hs1) d111_0 d111_3 d111_4 (fun ba bb H1 locs hka hba hbb hba1 hbb1 hSB hS => ?_)
  have hnn : ∀ i, i < 46 → ¬ ab ba bb (ad i) := nn_new hW hba hbb
  have hW := hW.new hka hba hbb hba1 hbb1
  have hAa : (MA wC ad s.heap.size) ba := hAz _ (Nat.le_trans hSz hba)
  have hAb : (MA wC ad s.heap.size) bb := hAz _ (Nat.le_trans hSz hbb)
  have hSz := hS.1
  have her := her.trans her8
  have hc1 := room_st hcc8 hc1
  have hs1 := room_st hss8 hs1
  refine lv_astore_n (pc := 7) (lv' := [(1, .ref ba), (0, .ref (ad 3))]) hx hb d111_7 rfl hl (by decide) rfl (fun ls hl => ?_)
  refine lv_iconst (pc := 8) (v := 0) hx hb d111_8 (by decide) ?_
  refine lv_istore_n (pc := 9) (lv' := [(2, .int 0), (1, .ref ba), (0, .ref (ad 3))]) hx hb d111_9 rfl hl (by decide) rfl (fun ls hl => ?_)
  exact kc10  FU st 0 (([] : TT), 16) ba bb _ _ _ _ _ _ hW hS hSB hAa hAb hnn (lv_sub hl [2, 1, 0] rfl) her hc1 hs1 h
def tx_digitOf_17  (x0 : Int32) : Option (Int32) := jc (f_wf_isLetter x0) (fun q1 => jb (q1 = 0) (some (-1)) (jc (f_wf_great x0) (fun q2 => some ((q2 - 65) + 10))))
def f_tx_digitOf  (p0 : Int32) : Option (Int32) := jb (p0 < 48) (tx_digitOf_17 p0) (jb (57 < p0) (tx_digitOf_17 p0) (some (p0 - 48)))
set_option maxHeartbeats 4000000 in
set_option maxRecDepth 100000 in
theorem c_tx_digitOf (l : Launch) (ρ : RH) (H : Heap) (P : Nat → Prop) (p0 : Int32) (res : Int32) (hC : CC ρ P H) (hPb : ∀ q, P q → q < H.size) (h : f_tx_digitOf p0 = some res) : Met l y113 (wsOf y113 b113 1 (some .int)) ({ frames := 1, cells := 0, slots := 0, locals := 20 } : Room) (va_Pc [.int p0] (KP ρ H)) (mQ (fun v H1 => v = some (.int res) ∧ H1 = H) (fun _ => False)) 0 0 (fun _ => False) := by
  refine m_ofW (own := "WordFunctions$Texts") (plainFor_of_name rfl) rfl (Nat.le_of_ble_eq_true rfl) fun p e s m args below meth c ls hx hb hr hlk _ X hs hl => ?_
  subst hs
  have hS : va_S (fun _ => False) s.heap s.heap [] := va_S.rf
  have hSz := hS.1
  have hl : lv_has ls 1 [(0, .int p0)] := hl
  have kc17 : ∀ (x0 : Int32) (locs : List Loc) (ls : Array Slot), va_S (fun _ => False) s.heap s.heap locs → lv_has ls 1 [(0, .int x0)] → tx_digitOf_17 x0 = some res → W p l e ({ frames := 1, cells := 0, slots := 0, locals := 20 } : Room) s m args below meth c s.heap locs 0 0 (MQ below (mQ (fun v H1 => v = some (.int res) ∧ H1 = s.heap) (fun _ => False)) args s 0 0 (fun _ => False)) (F0 m 17 ls []) := by
    intro x0 locs ls hS hl h
    have hSz := hS.1
    unfold tx_digitOf_17 at h
    refine lv_iload_n (pc := 17) hx hb d113_17 rfl (lv_at hl 0 rfl) ?_
    obtain ⟨q1, hq1, h⟩ := jc_some h
    refine k_callSN (pc := 18) (n := 1) X hS (c_wf_isLetter l ρ _ P x0 q1 hC hPb  hq1) wd1033 7 rfl wd1032 wd1 (by decide) ⟨rfl, rfl, Nat.le_of_ble_eq_true rfl, Nat.le_of_ble_eq_true rfl⟩ (As := [.int x0]) (rest := []) rfl rfl hl.1 (Nat.le_of_ble_eq_true rfl) d113_18 ⟨Nat.le_refl _, Nat.le_refl _⟩ (fun q hq => False.elim hq) (fun v H1 locs1 hv _ _ hSq1 => ?_)
    obtain ⟨rfl, rfl⟩ := hv
    have hS := hSq1
    have hSz := hS.1
    refine lv_if_eq (pc := 21) (tgt := 37) hx hb d113_21 (by decide) (fun c21 => ?_) (fun c21 => ?_)
    · have h := jb_t c21 h
      refine lv_iconst (pc := 37) (v := (-1)) hx hb d113_37 (by decide) ?_
      obtain rfl := Option.some.inj h
      exact m_iret (pc := 38) hx hb hr hlk hS ⟨rfl, rfl⟩ (Nat.le_refl _) (Nat.le_refl _) d113_38
    · have h := jb_f c21 h
      refine lv_iload_n (pc := 24) hx hb d113_24 rfl (lv_at hl 0 rfl) ?_
      obtain ⟨q2, hq2, h⟩ := jc_some h
      refine k_callSN (pc := 25) (n := 1) X hS (c_wf_great l ρ _ P x0 q2 hC hPb  hq2) wd985 5 rfl wd984 wd1 (by decide) ⟨rfl, rfl, Nat.le_of_ble_eq_true rfl, Nat.le_of_ble_eq_true rfl⟩ (As := [.int x0]) (rest := []) rfl rfl hl.1 (Nat.le_of_ble_eq_true rfl) d113_25 ⟨Nat.le_refl _, Nat.le_refl _⟩ (fun q hq => False.elim hq) (fun v H1 locs1 hv _ _ hSq2 => ?_)
      obtain ⟨rfl, rfl⟩ := hv
      have hS := hSq2
      have hSz := hS.1
      refine lv_bipush (pc := 28) (v := 65) hx hb d113_28 (by decide) ?_
      refine lv_isub (pc := 30) hx hb d113_30 ?_
      refine lv_bipush (pc := 31) (v := 10) hx hb d113_31 (by decide) ?_
      refine lv_iadd (pc := 33) hx hb d113_33 ?_
      refine lv_goto (pc := 34) (tgt := 38) hx hb d113_34 (by decide) ?_
      obtain rfl := Option.some.inj h
      exact m_iret (pc := 38) hx hb hr hlk hS ⟨rfl, rfl⟩ (Nat.le_refl _) (Nat.le_refl _) d113_38
  unfold f_tx_digitOf at h
  refine lv_iload_n (pc := 0) hx hb d113_0 rfl (lv_at hl 0 rfl) ?_
  refine lv_bipush (pc := 1) (v := 48) hx hb d113_1 (by decide) ?_
  refine lv_icmp_lt (pc := 3) (tgt := 17) hx hb d113_3 (by decide) (fun c3 => ?_) (fun c3 => ?_)
  · have h := jb_t c3 h
    exact kc17   p0 _ _ hS (lv_sub hl [0] rfl) h
  · have h := jb_f c3 h
    refine lv_iload_n (pc := 6) hx hb d113_6 rfl (lv_at hl 0 rfl) ?_
    refine lv_bipush (pc := 7) (v := 57) hx hb d113_7 (by decide) ?_
    refine lv_icmp_gt (pc := 9) (tgt := 17) hx hb d113_9 (by decide) (fun c9 => ?_) (fun c9 => ?_)
    · have h := jb_t c9 h
      exact kc17   p0 _ _ hS (lv_sub hl [0] rfl) h
    · have h := jb_f c9 h
      refine lv_iload_n (pc := 12) hx hb d113_12 rfl (lv_at hl 0 rfl) ?_
      refine lv_bipush (pc := 13) (v := 48) hx hb d113_13 (by decide) ?_
      refine lv_isub (pc := 15) hx hb d113_15 ?_
      obtain rfl := Option.some.inj h
      exact m_iret (pc := 16) hx hb hr hlk hS ⟨rfl, rfl⟩ (Nat.le_refl _) (Nat.le_refl _) d113_16
def tx_decimal_89  (st : CS) : Option ((VV × CS) × Nat × Nat) := jd (f_vl_ofError 6) (fun q1 => some ((q1, st), 0, 0))
def tx_decimal_40  : Nat → CS → TT → Int32 → Int64 → Int32 → Option ((VV × CS) × Nat × Nat)
  | 0, _, _, _, _, _ => none
  | fu + 1, st, x1, x2, x3, x5 => jc (f_js_length x1) (fun q3 => jb (q3 ≤ x5) (jd (f_vl_ofNumber (FP.l2d x3)) (fun q4 => some ((q4, st), 0, 0))) (jc (f_js_charAt x1 x5) (fun q6 => jc (f_tx_digitOf q6) (fun q7 => jn ((x3 * x2.toInt64) + q7.toInt64) (fun v8 => jb (q7 = (-1)) (tx_decimal_89 st) (jb (x2 ≤ q7) (tx_decimal_89 st) (jb ((lg_cmp v8 (9007199254740991 : Int64)) ≤ 0) (jn (x5 + 1) (fun v9 => tx_decimal_40 fu st x1 x2 v8 v9)) (tx_decimal_89 st))))))))
def tx_decimal_29  (st : CS) : Option ((VV × CS) × Nat × Nat) := jd (f_vl_ofError 6) (fun q10 => some ((q10, st), 0, 0))
def f_tx_decimal (st : CS) : Option ((VV × CS) × Nat × Nat) := jd (f_ar_text st 0) (fun q12 => jc (f_ar_whole q12.2 1) (fun q14 => jb (q14.1 < 2) (tx_decimal_29 q14.2) (jb (q14.1 ≤ 36) (tx_decimal_40 FU q14.2 q12.1 q14.1 0 0) (tx_decimal_29 q14.2))))
set_option maxHeartbeats 4000000 in
set_option maxRecDepth 100000 in
theorem c_tx_decimal (l : Launch) (ρ : RH) (ad : Nat → Nat) (H : Heap) (P : Nat → Prop) (st : CS) (res : (VV × CS) × Nat × Nat) (hW : CW ρ P ad st H) (h : f_tx_decimal st = some res) : Met l y112 (wsOf y112 b112 7 (some (.object "WordFunctions$Value"))) ({ frames := 16, cells := res.2.1, slots := res.2.2, locals := 698 } : Room) (va_Pc [.ref (ad 3)] (KP ρ H)) (mQ (fun v H1 => ∃ x : Nat, v = some (.ref x) ∧ isV ρ P H1 x res.1.1 ∧ CW ρ P ad res.1.2 H1) (MA wC ad H.size)) res.2.1 res.2.2 (MA wC ad H.size) := by
  refine m_ofW (own := "WordFunctions$Texts") (plainFor_of_name rfl) rfl (Nat.le_of_ble_eq_true rfl) fun p e s m args below meth c ls hx hb hr hlk _ X hs hl => ?_
  subst hs
  have hS : va_S (MA wC ad s.heap.size) s.heap s.heap [] := va_S.rf
  have hSz := hS.1
  have hAz : ∀ q, s.heap.size ≤ q → (MA wC ad s.heap.size) q := fun q hq => Or.inr hq
  have hAp : ∀ i, i < 46 → (MA wC ad s.heap.size) (ad i) := fun i hi => MA.in hi
  have hPp : ∀ i, i < 46 → P (ad i) := hW.1
  have hl : lv_has ls 7 [(0, .ref (ad 3))] := hl
  have kc89 : ∀ (st : CS) (H : Heap) (locs : List Loc) (ls : Array Slot) (cells slots : Nat) (r : (VV × CS) × Nat × Nat), CW ρ P ad st H → va_S (MA wC ad s.heap.size) s.heap H locs → lv_has ls 7 [] → res.1 = r.1 → cells + r.2.1 ≤ res.2.1 → slots + r.2.2 ≤ res.2.2 → tx_decimal_89 st = some r → W p l e ({ frames := 16, cells := res.2.1, slots := res.2.2, locals := 698 } : Room) s m args below meth c H locs cells slots (MQ below (mQ (fun v H1 => ∃ x : Nat, v = some (.ref x) ∧ isV ρ P H1 x res.1.1 ∧ CW ρ P ad res.1.2 H1) (MA wC ad s.heap.size)) args s res.2.1 res.2.2 (MA wC ad s.heap.size)) (F0 m 89 ls []) := by
    intro st H locs ls cells slots r hW hS hl her hc1 hs1 h
    have hSz := hS.1
    unfold tx_decimal_89 at h
    refine lv_bipush (pc := 89) (v := 6) hx hb d112_89 (by decide) ?_
    obtain ⟨q1, rq1, hq1, h, herq1, hccq1, hssq1⟩ := jd_some h
    refine k_callS (pc := 91) (n := 1) X hS (c_vl_ofError l ρ _ P 6 q1 hW.2.2.1 hW.2.1  hq1) wd651 wd931 wd650 wd4 (by decide) ⟨rfl, rfl, Nat.le_of_ble_eq_true rfl, Nat.le_of_ble_eq_true rfl⟩ (As := [.int 6]) (rest := []) rfl rfl hl.1 (Nat.le_of_ble_eq_true rfl) d112_91 ⟨room_le hccq1 hc1, room_le hssq1 hs1⟩ (fun q hq => hAz q (Nat.le_trans hS.1 hq)) (fun v H1 locs1 hv hz1 hz2 hSq1 => ?_)
    obtain ⟨u2, rfl, fu2⟩ := hv
    have hk : kp no _ H1 := kp_call hz1 hz2 (fun q hq z => absurd hq (Nat.not_lt.mpr z))
    have hW := hW.keep hk no_hz (fun _ _ z => z)
    have hS := hSq1
    have hSz := hS.1
    have her := her.trans herq1
    have hc1 := room_st hccq1 hc1
    have hs1 := room_st hssq1 hs1
    have her : res.1 = (q1.1, st) := her.trans (congrArg Prod.fst (Option.some.inj h)).symm
    exact m_aret (pc := 94) hx hb hr (Or.inl ⟨_, rfl⟩) hlk hS ⟨u2, rfl, by rw [her]; exact fu2, by rw [her]; exact hW⟩ (Nat.le_trans (Nat.le_add_right _ _) hc1) (Nat.le_trans (Nat.le_add_right _ _) hs1) d112_94
  have kc40 : ∀ (fu : Nat), ∀ (st : CS) (x1 : TT) (x2 : Int32) (x3 : Int64) (x5 : Int32) (ax1 : Nat) (H : Heap) (locs : List Loc) (ls : Array Slot) (cells slots : Nat) (r : (VV × CS) × Nat × Nat), CW ρ P ad st H → va_S (MA wC ad s.heap.size) s.heap H locs → isS ρ P H ax1 x1 → lv_has ls 7 [(1, .ref ax1), (2, .int x2), (3, .long x3), (5, .int x5)] → res.1 = r.1 → cells + r.2.1 ≤ res.2.1 → slots + r.2.2 ≤ res.2.2 → tx_decimal_40 fu st x1 x2 x3 x5 = some r → W p l e ({ frames := 16, cells := res.2.1, slots := res.2.2, locals := 698 } : Room) s m args below meth c H locs cells slots (MQ below (mQ (fun v H1 => ∃ x : Nat, v = some (.ref x) ∧ isV ρ P H1 x res.1.1 ∧ CW ρ P ad res.1.2 H1) (MA wC ad s.heap.size)) args s res.2.1 res.2.2 (MA wC ad s.heap.size)) (F0 m 40 ls []) := by
    intro  fu
    induction fu with
    | zero => intro st x1 x2 x3 x5 ax1 H locs ls cells slots r hW hS fax1 hl her hc1 hs1 h; cases h
    | succ fu hK40 =>
      intro st x1 x2 x3 x5 ax1 H locs ls cells slots r hW hS fax1 hl her hc1 hs1 h
      have hSz := hS.1
      unfold tx_decimal_40 at h
      refine lv_iload (pc := 40) hx hb d112_40 (lv_at hl 3 rfl) ?_
      refine lv_aload_n (pc := 42) hx hb d112_42 rfl (lv_at hl 0 rfl) ?_
      obtain ⟨q3, hq3, h⟩ := jc_some h
      refine k_callV (pc := 43) (n := 0) X hS (c_js_length l ρ _ P ax1 x1 q3 hW.2.2.1 hW.2.1 fax1 hq3) wd538 wd916 wd536 wd537 wd14 (by decide) ⟨rfl, rfl, Nat.le_of_ble_eq_true rfl, Nat.le_of_ble_eq_true rfl⟩ (s_recv X fax1) (As := []) (rest := [.int x5]) rfl rfl hl.1 (Nat.le_of_ble_eq_true rfl) d112_43 ⟨room_l0 hc1, room_l0 hs1⟩ (fun q hq => False.elim hq) (fun v H1 locs1 hv _ _ hSq3 => ?_)
      obtain ⟨rfl, rfl⟩ := hv
      have hS := hSq3
      have hSz := hS.1
      refine lv_icmp_ge (pc := 46) (tgt := 101) hx hb d112_46 (by decide) (fun c46 => ?_) (fun c46 => ?_)
      · have h := jb_t c46 h
        refine lv_lload_n (pc := 101) hx hb d112_101 rfl (lv_at hl 2 rfl) ?_
        refine lv_l2d (pc := 102) hx hb d112_102 ?_
        obtain ⟨q4, rq4, hq4, h, herq4, hccq4, hssq4⟩ := jd_some h
        refine k_callS (pc := 103) (n := 1) X hS (c_vl_ofNumber l ρ _ P (FP.l2d x3) q4 hW.2.2.1 hW.2.1  hq4) wd642 wd917 wd641 wd4 (by decide) ⟨rfl, rfl, Nat.le_of_ble_eq_true rfl, Nat.le_of_ble_eq_true rfl⟩ (As := [.double (FP.l2d x3)]) (rest := []) rfl rfl hl.1 (Nat.le_of_ble_eq_true rfl) d112_103 ⟨room_le hccq4 hc1, room_le hssq4 hs1⟩ (fun q hq => hAz q (Nat.le_trans hS.1 hq)) (fun v H1 locs1 hv hz1 hz2 hSq4 => ?_)
        obtain ⟨u5, rfl, fu5⟩ := hv
        have hk : kp no _ H1 := kp_call hz1 hz2 (fun q hq z => absurd hq (Nat.not_lt.mpr z))
        have hW := hW.keep hk no_hz (fun _ _ z => z)
        have hS := hSq4
        have hSz := hS.1
        have her := her.trans herq4
        have hc1 := room_st hccq4 hc1
        have hs1 := room_st hssq4 hs1
        have her : res.1 = (q4.1, st) := her.trans (congrArg Prod.fst (Option.some.inj h)).symm
        exact m_aret (pc := 106) hx hb hr (Or.inl ⟨_, rfl⟩) hlk hS ⟨u5, rfl, by rw [her]; exact fu5, by rw [her]; exact hW⟩ (Nat.le_trans (Nat.le_add_right _ _) hc1) (Nat.le_trans (Nat.le_add_right _ _) hs1) d112_106
      · have h := jb_f c46 h
        refine lv_aload_n (pc := 49) hx hb d112_49 rfl (lv_at hl 0 rfl) ?_
        refine lv_iload (pc := 50) hx hb d112_50 (lv_at hl 3 rfl) ?_
        obtain ⟨q6, hq6, h⟩ := jc_some h
        refine k_callV (pc := 52) (n := 1) X hS (c_js_charAt l ρ _ P ax1 x1 x5 q6 hW.2.2.1 hW.2.1 fax1 hq6) wd683 wd969 wd681 wd682 wd14 (by decide) ⟨rfl, rfl, Nat.le_of_ble_eq_true rfl, Nat.le_of_ble_eq_true rfl⟩ (s_recv X fax1) (As := [.int x5]) (rest := []) rfl rfl hl.1 (Nat.le_of_ble_eq_true rfl) d112_52 ⟨room_l0 hc1, room_l0 hs1⟩ (fun q hq => False.elim hq) (fun v H1 locs1 hv _ _ hSq6 => ?_)
        obtain ⟨rfl, rfl⟩ := hv
        have hS := hSq6
        have hSz := hS.1
        obtain ⟨q7, hq7, h⟩ := jc_some h
        refine k_callS (pc := 55) (n := 1) X hS (c_tx_digitOf l ρ _ P q6 q7 hW.2.2.1 hW.2.1  hq7) wd1104 wd1102 wd1103 wd7 (by decide) ⟨rfl, rfl, Nat.le_of_ble_eq_true rfl, Nat.le_of_ble_eq_true rfl⟩ (As := [.int q6]) (rest := []) rfl rfl hl.1 (Nat.le_of_ble_eq_true rfl) d112_55 ⟨room_l0 hc1, room_l0 hs1⟩ (fun q hq => False.elim hq) (fun v H1 locs1 hv _ _ hSq7 => ?_)
        obtain ⟨rfl, rfl⟩ := hv
        have hS := hSq7
        have hSz := hS.1
        refine lv_istore (pc := 58) (lv' := [(6, .int q7), (1, .ref ax1), (2, .int x2), (3, .long x3), (5, .int x5)]) hx hb d112_58 hl (by decide) rfl (fun ls hl => ?_)
        refine lv_lload_n (pc := 60) hx hb d112_60 rfl (lv_at hl 3 rfl) ?_
        refine lv_iload_n (pc := 61) hx hb d112_61 rfl (lv_at hl 2 rfl) ?_
        refine lv_i2l (pc := 62) hx hb d112_62 rfl ?_
        refine lv_lmul (pc := 63) hx hb d112_63 ?_
        refine lv_iload (pc := 64) hx hb d112_64 (lv_at hl 0 rfl) ?_
        refine lv_i2l (pc := 66) hx hb d112_66 rfl ?_
        refine lv_ladd (pc := 67) hx hb d112_67 ?_
        obtain ⟨v8, ev8, h⟩ := jn_ex h
        refine nm_l ev8 ?_
        refine lv_lstore_n (pc := 68) (lv' := [(3, .long v8), (6, .int q7), (1, .ref ax1), (2, .int x2), (5, .int x5)]) hx hb d112_68 rfl hl (by decide) rfl (fun ls hl => ?_)
        refine lv_iload (pc := 69) hx hb d112_69 (lv_at hl 1 rfl) ?_
        refine lv_iconst (pc := 71) (v := (-1)) hx hb d112_71 (by decide) ?_
        refine lv_icmp_eq (pc := 72) (tgt := 89) hx hb d112_72 (by decide) (fun c72 => ?_) (fun c72 => ?_)
        · have h := jb_t c72 h
          exact kc89   st _ _ _ _ _ _ hW hS (lv_sub hl [] rfl) her hc1 hs1 h
        · have h := jb_f c72 h
          refine lv_iload (pc := 75) hx hb d112_75 (lv_at hl 1 rfl) ?_
          refine lv_iload_n (pc := 77) hx hb d112_77 rfl (lv_at hl 3 rfl) ?_
          refine lv_icmp_ge (pc := 78) (tgt := 89) hx hb d112_78 (by decide) (fun c78 => ?_) (fun c78 => ?_)
          · have h := jb_t c78 h
            exact kc89   st _ _ _ _ _ _ hW hS (lv_sub hl [] rfl) her hc1 hs1 h
          · have h := jb_f c78 h
            refine lv_lload_n (pc := 81) hx hb d112_81 rfl (lv_at hl 0 rfl) ?_
            refine lv_ldc2 (pc := 82) hx hb X.1.2.2.2.1 (X.ts wd1105) d112_82 ?_
            refine W.lcmp (pc := 85) hx hb d112_85 ?_
            refine lv_if_le (pc := 86) (tgt := 95) hx hb d112_86 (by decide) (fun c86 => ?_) (fun c86 => ?_)
            · have h := jb_t c86 h
              obtain ⟨v9, ev9, h⟩ := jn_ex h
              refine lv_iinc (pc := 95) (v := v9) (lv' := [(5, .int v9), (3, .long v8), (6, .int q7), (1, .ref ax1), (2, .int x2)]) hx hb d112_95 hl (k := 4) rfl (by rw [ev9]; rfl) (by decide) rfl (fun ls hl => ?_)
              refine lv_goto (pc := 98) (tgt := 40) hx hb d112_98 (by decide) ?_
              exact hK40 st x1 x2 v8 v9 ax1 _ _ _ _ _ _ hW hS fax1 (lv_sub hl [3, 4, 1, 0] rfl) her hc1 hs1 h
            · have h := jb_f c86 h
              exact kc89   st _ _ _ _ _ _ hW hS (lv_sub hl [] rfl) her hc1 hs1 h
  have kc29 : ∀ (st : CS) (H : Heap) (locs : List Loc) (ls : Array Slot) (cells slots : Nat) (r : (VV × CS) × Nat × Nat), CW ρ P ad st H → va_S (MA wC ad s.heap.size) s.heap H locs → lv_has ls 7 [] → res.1 = r.1 → cells + r.2.1 ≤ res.2.1 → slots + r.2.2 ≤ res.2.2 → tx_decimal_29 st = some r → W p l e ({ frames := 16, cells := res.2.1, slots := res.2.2, locals := 698 } : Room) s m args below meth c H locs cells slots (MQ below (mQ (fun v H1 => ∃ x : Nat, v = some (.ref x) ∧ isV ρ P H1 x res.1.1 ∧ CW ρ P ad res.1.2 H1) (MA wC ad s.heap.size)) args s res.2.1 res.2.2 (MA wC ad s.heap.size)) (F0 m 29 ls []) := by
    intro st H locs ls cells slots r hW hS hl her hc1 hs1 h
    have hSz := hS.1
    unfold tx_decimal_29 at h
    refine lv_bipush (pc := 29) (v := 6) hx hb d112_29 (by decide) ?_
    obtain ⟨q10, rq10, hq10, h, herq10, hccq10, hssq10⟩ := jd_some h
    refine k_callS (pc := 31) (n := 1) X hS (c_vl_ofError l ρ _ P 6 q10 hW.2.2.1 hW.2.1  hq10) wd651 wd931 wd650 wd4 (by decide) ⟨rfl, rfl, Nat.le_of_ble_eq_true rfl, Nat.le_of_ble_eq_true rfl⟩ (As := [.int 6]) (rest := []) rfl rfl hl.1 (Nat.le_of_ble_eq_true rfl) d112_31 ⟨room_le hccq10 hc1, room_le hssq10 hs1⟩ (fun q hq => hAz q (Nat.le_trans hS.1 hq)) (fun v H1 locs1 hv hz1 hz2 hSq10 => ?_)
    obtain ⟨u11, rfl, fu11⟩ := hv
    have hk : kp no _ H1 := kp_call hz1 hz2 (fun q hq z => absurd hq (Nat.not_lt.mpr z))
    have hW := hW.keep hk no_hz (fun _ _ z => z)
    have hS := hSq10
    have hSz := hS.1
    have her := her.trans herq10
    have hc1 := room_st hccq10 hc1
    have hs1 := room_st hssq10 hs1
    have her : res.1 = (q10.1, st) := her.trans (congrArg Prod.fst (Option.some.inj h)).symm
    exact m_aret (pc := 34) hx hb hr (Or.inl ⟨_, rfl⟩) hlk hS ⟨u11, rfl, by rw [her]; exact fu11, by rw [her]; exact hW⟩ (Nat.le_trans (Nat.le_add_right _ _) hc1) (Nat.le_trans (Nat.le_add_right _ _) hs1) d112_34
  have her : res.1 = res.1 := rfl
  have hc1 : 0 + res.2.1 ≤ res.2.1 := Nat.le_of_eq (Nat.zero_add _)
  have hs1 : 0 + res.2.2 ≤ res.2.2 := Nat.le_of_eq (Nat.zero_add _)
  unfold f_tx_decimal at h
  refine lv_aload_n (pc := 0) hx hb d112_0 rfl (lv_at hl 0 rfl) ?_
  refine c_getK (pc := 1) X hW 3 0 5 1 (C := "WordFunctions$Texts") (T := T5) (N := 2) (by decide) rfl rfl rfl rfl tin5 rfl wd196 rfl rfl d112_1 ?_
  refine lv_iconst (pc := 4) (v := 0) hx hb d112_4 (by decide) ?_
  obtain ⟨q12, rq12, hq12, h, herq12, hccq12, hssq12⟩ := jd_some h
  refine k_callV (pc := 5) (n := 1) X hS (c_ar_text l ρ ad _ P st 0 q12 hW  hq12) wd868 wd865 wd866 wd867 wd3 (by decide) ⟨rfl, rfl, Nat.le_of_ble_eq_true rfl, Nat.le_of_ble_eq_true rfl⟩ (c_recv X hW 1 3 (by decide) rfl rfl) (As := [.int 0]) (rest := []) rfl rfl hl.1 (Nat.le_of_ble_eq_true rfl) d112_5 ⟨room_le hccq12 hc1, room_le hssq12 hs1⟩ (fun q hq => MA.mono hS.1 hq) (fun v H1 locs1 hv hz1 hz2 hSq12 => ?_)
  have hPq := hW.1
  obtain ⟨u13, rfl, fu13, hW⟩ := hv
  have hS := hSq12
  have hSz := hS.1
  have her := her.trans herq12
  have hc1 := room_st hccq12 hc1
  have hs1 := room_st hssq12 hs1
  refine lv_astore_n (pc := 8) (lv' := [(1, .ref u13), (0, .ref (ad 3))]) hx hb d112_8 rfl hl (by decide) rfl (fun ls hl => ?_)
  refine lv_aload_n (pc := 9) hx hb d112_9 rfl (lv_at hl 1 rfl) ?_
  refine c_getK (pc := 10) X hW 3 0 5 1 (C := "WordFunctions$Texts") (T := T5) (N := 2) (by decide) rfl rfl rfl rfl tin5 rfl wd196 rfl rfl d112_10 ?_
  refine lv_iconst (pc := 13) (v := 1) hx hb d112_13 (by decide) ?_
  obtain ⟨q14, hq14, h⟩ := jc_some h
  refine k_callV (pc := 14) (n := 1) X hS (c_ar_whole l ρ ad _ P q12.1.2 1 q14 hW  hq14) wd762 wd961 wd760 wd761 wd3 (by decide) ⟨rfl, rfl, Nat.le_of_ble_eq_true rfl, Nat.le_of_ble_eq_true rfl⟩ (c_recv X hW 1 3 (by decide) rfl rfl) (As := [.int 1]) (rest := []) rfl rfl hl.1 (Nat.le_of_ble_eq_true rfl) d112_14 ⟨room_l0 hc1, room_l0 hs1⟩ (fun q hq => MA.mono hS.1 hq) (fun v H1 locs1 hv hz1 hz2 hSq14 => ?_)
  have hPq := hW.1
  obtain ⟨rfl, hW⟩ := hv
  have hk : kp (Pm ad) _ H1 := kp_call hz1 hz2 (MA_Pm rfl)
  have fu13 := fu13.keep hk (Pm_P hPq)
  have hS := hSq14
  have hSz := hS.1
  refine lv_istore_n (pc := 17) (lv' := [(2, .int q14.1), (1, .ref u13), (0, .ref (ad 3))]) hx hb d112_17 rfl hl (by decide) rfl (fun ls hl => ?_)
  refine lv_iload_n (pc := 18) hx hb d112_18 rfl (lv_at hl 0 rfl) ?_
  refine lv_iconst (pc := 19) (v := 2) hx hb d112_19 (by decide) ?_
  refine lv_icmp_lt (pc := 20) (tgt := 29) hx hb d112_20 (by decide) (fun c20 => ?_) (fun c20 => ?_)
  · have h := jb_t c20 h
    exact kc29   q14.2 _ _ _ _ _ _ hW hS (lv_sub hl [] rfl) her hc1 hs1 h
  · have h := jb_f c20 h
    refine lv_iload_n (pc := 23) hx hb d112_23 rfl (lv_at hl 0 rfl) ?_
    refine lv_bipush (pc := 24) (v := 36) hx hb d112_24 (by decide) ?_
    refine lv_icmp_le (pc := 26) (tgt := 35) hx hb d112_26 (by decide) (fun c26 => ?_) (fun c26 => ?_)
    · have h := jb_t c26 h
      refine lv_lconst (pc := 35) (v := 0) hx hb d112_35 rfl ?_
      refine lv_lstore_n (pc := 36) (lv' := [(3, .long 0), (2, .int q14.1), (1, .ref u13), (0, .ref (ad 3))]) hx hb d112_36 rfl hl (by decide) rfl (fun ls hl => ?_)
      refine lv_iconst (pc := 37) (v := 0) hx hb d112_37 (by decide) ?_
      refine lv_istore (pc := 38) (lv' := [(5, .int 0), (3, .long 0), (2, .int q14.1), (1, .ref u13), (0, .ref (ad 3))]) hx hb d112_38 hl (by decide) rfl (fun ls hl => ?_)
      exact kc40  FU q14.2 q12.1.1 q14.1 0 0 u13 _ _ _ _ _ _ hW hS fu13 (lv_sub hl [3, 2, 1, 0] rfl) her hc1 hs1 h
    · have h := jb_f c26 h
      exact kc29   q14.2 _ _ _ _ _ _ hW hS (lv_sub hl [] rfl) her hc1 hs1 h
def f_tx_exact (st : CS) : Option ((VV × CS) × Nat × Nat) := jd (f_ar_text st 0) (fun q1 => jd (f_ar_text q1.2 1) (fun q3 => jc (f_js_equals q1.1 q3.1) (fun q5 => jd (f_vl_ofTruth q5) (fun q6 => some ((q6, q3.2), 0, 0)))))
set_option maxHeartbeats 4000000 in
set_option maxRecDepth 100000 in
theorem c_tx_exact (l : Launch) (ρ : RH) (ad : Nat → Nat) (H : Heap) (P : Nat → Prop) (st : CS) (res : (VV × CS) × Nat × Nat) (hW : CW ρ P ad st H) (h : f_tx_exact st = some res) : Met l y114 (wsOf y114 b114 3 (some (.object "WordFunctions$Value"))) ({ frames := 16, cells := res.2.1, slots := res.2.2, locals := 693 } : Room) (va_Pc [.ref (ad 3)] (KP ρ H)) (mQ (fun v H1 => ∃ x : Nat, v = some (.ref x) ∧ isV ρ P H1 x res.1.1 ∧ CW ρ P ad res.1.2 H1) (MA wC ad H.size)) res.2.1 res.2.2 (MA wC ad H.size) := by
  refine m_ofW (own := "WordFunctions$Texts") (plainFor_of_name rfl) rfl (Nat.le_of_ble_eq_true rfl) fun p e s m args below meth c ls hx hb hr hlk _ X hs hl => ?_
  subst hs
  have hS : va_S (MA wC ad s.heap.size) s.heap s.heap [] := va_S.rf
  have hSz := hS.1
  have hAz : ∀ q, s.heap.size ≤ q → (MA wC ad s.heap.size) q := fun q hq => Or.inr hq
  have hAp : ∀ i, i < 46 → (MA wC ad s.heap.size) (ad i) := fun i hi => MA.in hi
  have hPp : ∀ i, i < 46 → P (ad i) := hW.1
  have hl : lv_has ls 3 [(0, .ref (ad 3))] := hl
  have her : res.1 = res.1 := rfl
  have hc1 : 0 + res.2.1 ≤ res.2.1 := Nat.le_of_eq (Nat.zero_add _)
  have hs1 : 0 + res.2.2 ≤ res.2.2 := Nat.le_of_eq (Nat.zero_add _)
  unfold f_tx_exact at h
  refine lv_aload_n (pc := 0) hx hb d114_0 rfl (lv_at hl 0 rfl) ?_
  refine c_getK (pc := 1) X hW 3 0 5 1 (C := "WordFunctions$Texts") (T := T5) (N := 2) (by decide) rfl rfl rfl rfl tin5 rfl wd196 rfl rfl d114_1 ?_
  refine lv_iconst (pc := 4) (v := 0) hx hb d114_4 (by decide) ?_
  obtain ⟨q1, rq1, hq1, h, herq1, hccq1, hssq1⟩ := jd_some h
  refine k_callV (pc := 5) (n := 1) X hS (c_ar_text l ρ ad _ P st 0 q1 hW  hq1) wd868 wd865 wd866 wd867 wd3 (by decide) ⟨rfl, rfl, Nat.le_of_ble_eq_true rfl, Nat.le_of_ble_eq_true rfl⟩ (c_recv X hW 1 3 (by decide) rfl rfl) (As := [.int 0]) (rest := []) rfl rfl hl.1 (Nat.le_of_ble_eq_true rfl) d114_5 ⟨room_le hccq1 hc1, room_le hssq1 hs1⟩ (fun q hq => MA.mono hS.1 hq) (fun v H1 locs1 hv hz1 hz2 hSq1 => ?_)
  have hPq := hW.1
  obtain ⟨u2, rfl, fu2, hW⟩ := hv
  have hS := hSq1
  have hSz := hS.1
  have her := her.trans herq1
  have hc1 := room_st hccq1 hc1
  have hs1 := room_st hssq1 hs1
  refine lv_astore_n (pc := 8) (lv' := [(1, .ref u2), (0, .ref (ad 3))]) hx hb d114_8 rfl hl (by decide) rfl (fun ls hl => ?_)
  refine lv_aload_n (pc := 9) hx hb d114_9 rfl (lv_at hl 1 rfl) ?_
  refine c_getK (pc := 10) X hW 3 0 5 1 (C := "WordFunctions$Texts") (T := T5) (N := 2) (by decide) rfl rfl rfl rfl tin5 rfl wd196 rfl rfl d114_10 ?_
  refine lv_iconst (pc := 13) (v := 1) hx hb d114_13 (by decide) ?_
  obtain ⟨q3, rq3, hq3, h, herq3, hccq3, hssq3⟩ := jd_some h
  refine k_callV (pc := 14) (n := 1) X hS (c_ar_text l ρ ad _ P q1.1.2 1 q3 hW  hq3) wd868 wd865 wd866 wd867 wd3 (by decide) ⟨rfl, rfl, Nat.le_of_ble_eq_true rfl, Nat.le_of_ble_eq_true rfl⟩ (c_recv X hW 1 3 (by decide) rfl rfl) (As := [.int 1]) (rest := []) rfl rfl hl.1 (Nat.le_of_ble_eq_true rfl) d114_14 ⟨room_le hccq3 hc1, room_le hssq3 hs1⟩ (fun q hq => MA.mono hS.1 hq) (fun v H1 locs1 hv hz1 hz2 hSq3 => ?_)
  have hPq := hW.1
  obtain ⟨u4, rfl, fu4, hW⟩ := hv
  have hk : kp (Pm ad) _ H1 := kp_call hz1 hz2 (MA_Pm rfl)
  have fu2 := fu2.keep hk (Pm_P hPq)
  have hS := hSq3
  have hSz := hS.1
  have her := her.trans herq3
  have hc1 := room_st hccq3 hc1
  have hs1 := room_st hssq3 hs1
  refine lv_astore_n (pc := 17) (lv' := [(2, .ref u4), (1, .ref u2), (0, .ref (ad 3))]) hx hb d114_17 rfl hl (by decide) rfl (fun ls hl => ?_)
  refine lv_aload_n (pc := 18) hx hb d114_18 rfl (lv_at hl 1 rfl) ?_
  refine lv_aload_n (pc := 19) hx hb d114_19 rfl (lv_at hl 0 rfl) ?_
  obtain ⟨q5, hq5, h⟩ := jc_some h
  refine k_callV (pc := 20) (n := 1) X hS (c_js_equals l ρ _ P u2 q1.1.1 u4 q3.1.1 q5 hW.2.2.1 hW.2.1 fu2 fu4 hq5) wd1068 wd1065 wd1066 wd1067 wd14 (by decide) ⟨rfl, rfl, Nat.le_of_ble_eq_true rfl, Nat.le_of_ble_eq_true rfl⟩ (s_recv X fu2) (As := [.ref u4]) (rest := []) rfl rfl hl.1 (Nat.le_of_ble_eq_true rfl) d114_20 ⟨room_l0 hc1, room_l0 hs1⟩ (fun q hq => False.elim hq) (fun v H1 locs1 hv _ _ hSq5 => ?_)
  obtain ⟨rfl, rfl⟩ := hv
  have hS := hSq5
  have hSz := hS.1
  obtain ⟨q6, rq6, hq6, h, herq6, hccq6, hssq6⟩ := jd_some h
  refine k_callS (pc := 23) (n := 1) X hS (c_vl_ofTruth l ρ _ P q5 q6 hW.2.2.1 hW.2.1  hq6) wd645 wd1073 wd644 wd4 (by decide) ⟨rfl, rfl, Nat.le_of_ble_eq_true rfl, Nat.le_of_ble_eq_true rfl⟩ (As := [.int q5]) (rest := []) rfl rfl hl.1 (Nat.le_of_ble_eq_true rfl) d114_23 ⟨room_le hccq6 hc1, room_le hssq6 hs1⟩ (fun q hq => hAz q (Nat.le_trans hS.1 hq)) (fun v H1 locs1 hv hz1 hz2 hSq6 => ?_)
  obtain ⟨u7, rfl, fu7⟩ := hv
  have hk : kp no _ H1 := kp_call hz1 hz2 (fun q hq z => absurd hq (Nat.not_lt.mpr z))
  have hW := hW.keep hk no_hz (fun _ _ z => z)
  have hS := hSq6
  have hSz := hS.1
  have her := her.trans herq6
  have hc1 := room_st hccq6 hc1
  have hs1 := room_st hssq6 hs1
  have her : res.1 = (q6.1, q3.1.2) := her.trans (congrArg Prod.fst (Option.some.inj h)).symm
  exact m_aret (pc := 26) hx hb hr (Or.inl ⟨_, rfl⟩) hlk hS ⟨u7, rfl, by rw [her]; exact fu7, by rw [her]; exact hW⟩ (Nat.le_trans (Nat.le_add_right _ _) hc1) (Nat.le_trans (Nat.le_add_right _ _) hs1) d114_26
def tx_isAt_21  : Nat → TT → TT → Int32 → Int32 → Option (Int32)
  | 0, _, _, _, _ => none
  | fu + 1, x0, x1, x2, x3 => jc (f_js_length x0) (fun q1 => jb (q1 ≤ x3) (some 1) (jc (f_js_charAt x1 (x2 + x3)) (fun q2 => jc (f_js_charAt x0 x3) (fun q3 => jb (q2 = q3) (jn (x3 + 1) (fun v4 => tx_isAt_21 fu x0 x1 x2 v4)) (some 0)))))
def f_tx_isAt  (p0 : TT) (p1 : TT) (p2 : Int32) : Option (Int32) := jb (p2 < 0) (some 0) (jc (f_js_length p1) (fun q5 => jc (f_js_length p0) (fun q6 => jb (p2 ≤ (q5 - q6)) (tx_isAt_21 FU p0 p1 p2 0) (some 0))))
set_option maxHeartbeats 4000000 in
set_option maxRecDepth 100000 in
theorem c_tx_isAt (l : Launch) (ρ : RH) (H : Heap) (P : Nat → Prop) (ap0 : Nat) (p0 : TT) (ap1 : Nat) (p1 : TT) (p2 : Int32) (res : Int32) (hC : CC ρ P H) (hPb : ∀ q, P q → q < H.size) (fap0 : isS ρ P H ap0 p0) (fap1 : isS ρ P H ap1 p1) (h : f_tx_isAt p0 p1 p2 = some res) : Met l y116 (wsOf y116 b116 4 (some .boolean)) ({ frames := 13, cells := 0, slots := 0, locals := 621 } : Room) (va_Pc [.ref ap0, .ref ap1, .int p2] (KP ρ H)) (mQ (fun v H1 => v = some (.int res) ∧ H1 = H) (fun _ => False)) 0 0 (fun _ => False) := by
  refine m_ofW (own := "WordFunctions$Texts") (plainFor_of_name rfl) rfl (Nat.le_of_ble_eq_true rfl) fun p e s m args below meth c ls hx hb hr hlk _ X hs hl => ?_
  subst hs
  have hS : va_S (fun _ => False) s.heap s.heap [] := va_S.rf
  have hSz := hS.1
  have hl : lv_has ls 4 [(0, .ref ap0), (1, .ref ap1), (2, .int p2)] := hl
  have kc21 : ∀ (fu : Nat), ∀ (x0 : TT) (x1 : TT) (x2 : Int32) (x3 : Int32) (ax0 : Nat) (ax1 : Nat) (locs : List Loc) (ls : Array Slot), va_S (fun _ => False) s.heap s.heap locs → isS ρ P s.heap ax0 x0 → isS ρ P s.heap ax1 x1 → lv_has ls 4 [(0, .ref ax0), (1, .ref ax1), (2, .int x2), (3, .int x3)] → tx_isAt_21 fu x0 x1 x2 x3 = some res → W p l e ({ frames := 13, cells := 0, slots := 0, locals := 621 } : Room) s m args below meth c s.heap locs 0 0 (MQ below (mQ (fun v H1 => v = some (.int res) ∧ H1 = s.heap) (fun _ => False)) args s 0 0 (fun _ => False)) (F0 m 21 ls []) := by
    intro  fu
    induction fu with
    | zero => intro x0 x1 x2 x3 ax0 ax1 locs ls hS fax0 fax1 hl h; cases h
    | succ fu hK21 =>
      intro x0 x1 x2 x3 ax0 ax1 locs ls hS fax0 fax1 hl h
      have hSz := hS.1
      unfold tx_isAt_21 at h
      refine lv_iload_n (pc := 21) hx hb d116_21 rfl (lv_at hl 3 rfl) ?_
      refine lv_aload_n (pc := 22) hx hb d116_22 rfl (lv_at hl 0 rfl) ?_
      obtain ⟨q1, hq1, h⟩ := jc_some h
      refine k_callV (pc := 23) (n := 0) X hS (c_js_length l ρ _ P ax0 x0 q1 hC hPb fax0 hq1) wd538 wd916 wd536 wd537 wd14 (by decide) ⟨rfl, rfl, Nat.le_of_ble_eq_true rfl, Nat.le_of_ble_eq_true rfl⟩ (s_recv X fax0) (As := []) (rest := [.int x3]) rfl rfl hl.1 (Nat.le_of_ble_eq_true rfl) d116_23 ⟨Nat.le_refl _, Nat.le_refl _⟩ (fun q hq => False.elim hq) (fun v H1 locs1 hv _ _ hSq1 => ?_)
      obtain ⟨rfl, rfl⟩ := hv
      have hS := hSq1
      have hSz := hS.1
      refine lv_icmp_ge (pc := 26) (tgt := 52) hx hb d116_26 (by decide) (fun c26 => ?_) (fun c26 => ?_)
      · have h := jb_t c26 h
        refine lv_iconst (pc := 52) (v := 1) hx hb d116_52 (by decide) ?_
        obtain rfl := Option.some.inj h
        exact m_zret (pc := 53) hx hb hr hlk hS ⟨rfl, rfl⟩ (Nat.le_refl _) (Nat.le_refl _) d116_53 (by decide)
      · have h := jb_f c26 h
        refine lv_aload_n (pc := 29) hx hb d116_29 rfl (lv_at hl 1 rfl) ?_
        refine lv_iload_n (pc := 30) hx hb d116_30 rfl (lv_at hl 2 rfl) ?_
        refine lv_iload_n (pc := 31) hx hb d116_31 rfl (lv_at hl 3 rfl) ?_
        refine lv_iadd (pc := 32) hx hb d116_32 ?_
        obtain ⟨q2, hq2, h⟩ := jc_some h
        refine k_callV (pc := 33) (n := 1) X hS (c_js_charAt l ρ _ P ax1 x1 (x2 + x3) q2 hC hPb fax1 hq2) wd683 wd969 wd681 wd682 wd14 (by decide) ⟨rfl, rfl, Nat.le_of_ble_eq_true rfl, Nat.le_of_ble_eq_true rfl⟩ (s_recv X fax1) (As := [.int (x2 + x3)]) (rest := []) rfl rfl hl.1 (Nat.le_of_ble_eq_true rfl) d116_33 ⟨Nat.le_refl _, Nat.le_refl _⟩ (fun q hq => False.elim hq) (fun v H1 locs1 hv _ _ hSq2 => ?_)
        obtain ⟨rfl, rfl⟩ := hv
        have hS := hSq2
        have hSz := hS.1
        refine lv_aload_n (pc := 36) hx hb d116_36 rfl (lv_at hl 0 rfl) ?_
        refine lv_iload_n (pc := 37) hx hb d116_37 rfl (lv_at hl 3 rfl) ?_
        obtain ⟨q3, hq3, h⟩ := jc_some h
        refine k_callV (pc := 38) (n := 1) X hS (c_js_charAt l ρ _ P ax0 x0 x3 q3 hC hPb fax0 hq3) wd683 wd969 wd681 wd682 wd14 (by decide) ⟨rfl, rfl, Nat.le_of_ble_eq_true rfl, Nat.le_of_ble_eq_true rfl⟩ (s_recv X fax0) (As := [.int x3]) (rest := [.int q2]) rfl rfl hl.1 (Nat.le_of_ble_eq_true rfl) d116_38 ⟨Nat.le_refl _, Nat.le_refl _⟩ (fun q hq => False.elim hq) (fun v H1 locs1 hv _ _ hSq3 => ?_)
        obtain ⟨rfl, rfl⟩ := hv
        have hS := hSq3
        have hSz := hS.1
        refine lv_icmp_eq (pc := 41) (tgt := 46) hx hb d116_41 (by decide) (fun c41 => ?_) (fun c41 => ?_)
        · have h := jb_t c41 h
          obtain ⟨v4, ev4, h⟩ := jn_ex h
          refine lv_iinc (pc := 46) (v := v4) (lv' := [(3, .int v4), (0, .ref ax0), (1, .ref ax1), (2, .int x2)]) hx hb d116_46 hl (k := 3) rfl (by rw [ev4]; rfl) (by decide) rfl (fun ls hl => ?_)
          refine lv_goto (pc := 49) (tgt := 21) hx hb d116_49 (by decide) ?_
          exact hK21 x0 x1 x2 v4 ax0 ax1 _ _ hS fax0 fax1 (lv_sub hl [1, 2, 3, 0] rfl) h
        · have h := jb_f c41 h
          refine lv_iconst (pc := 44) (v := 0) hx hb d116_44 (by decide) ?_
          obtain rfl := Option.some.inj h
          exact m_zret (pc := 45) hx hb hr hlk hS ⟨rfl, rfl⟩ (Nat.le_refl _) (Nat.le_refl _) d116_45 (by decide)
  unfold f_tx_isAt at h
  refine lv_iload_n (pc := 0) hx hb d116_0 rfl (lv_at hl 2 rfl) ?_
  refine lv_if_lt (pc := 1) (tgt := 17) hx hb d116_1 (by decide) (fun c1 => ?_) (fun c1 => ?_)
  · have h := jb_t c1 h
    refine lv_iconst (pc := 17) (v := 0) hx hb d116_17 (by decide) ?_
    obtain rfl := Option.some.inj h
    exact m_zret (pc := 18) hx hb hr hlk hS ⟨rfl, rfl⟩ (Nat.le_refl _) (Nat.le_refl _) d116_18 (by decide)
  · have h := jb_f c1 h
    refine lv_iload_n (pc := 4) hx hb d116_4 rfl (lv_at hl 2 rfl) ?_
    refine lv_aload_n (pc := 5) hx hb d116_5 rfl (lv_at hl 1 rfl) ?_
    obtain ⟨q5, hq5, h⟩ := jc_some h
    refine k_callV (pc := 6) (n := 0) X hS (c_js_length l ρ _ P ap1 p1 q5 hC hPb fap1 hq5) wd538 wd916 wd536 wd537 wd14 (by decide) ⟨rfl, rfl, Nat.le_of_ble_eq_true rfl, Nat.le_of_ble_eq_true rfl⟩ (s_recv X fap1) (As := []) (rest := [.int p2]) rfl rfl hl.1 (Nat.le_of_ble_eq_true rfl) d116_6 ⟨Nat.le_refl _, Nat.le_refl _⟩ (fun q hq => False.elim hq) (fun v H1 locs1 hv _ _ hSq5 => ?_)
    obtain ⟨rfl, rfl⟩ := hv
    have hS := hSq5
    have hSz := hS.1
    refine lv_aload_n (pc := 9) hx hb d116_9 rfl (lv_at hl 0 rfl) ?_
    obtain ⟨q6, hq6, h⟩ := jc_some h
    refine k_callV (pc := 10) (n := 0) X hS (c_js_length l ρ _ P ap0 p0 q6 hC hPb fap0 hq6) wd538 wd916 wd536 wd537 wd14 (by decide) ⟨rfl, rfl, Nat.le_of_ble_eq_true rfl, Nat.le_of_ble_eq_true rfl⟩ (s_recv X fap0) (As := []) (rest := [.int q5, .int p2]) rfl rfl hl.1 (Nat.le_of_ble_eq_true rfl) d116_10 ⟨Nat.le_refl _, Nat.le_refl _⟩ (fun q hq => False.elim hq) (fun v H1 locs1 hv _ _ hSq6 => ?_)
    obtain ⟨rfl, rfl⟩ := hv
    have hS := hSq6
    have hSz := hS.1
    refine lv_isub (pc := 13) hx hb d116_13 ?_
    refine lv_icmp_le (pc := 14) (tgt := 19) hx hb d116_14 (by decide) (fun c14 => ?_) (fun c14 => ?_)
    · have h := jb_t c14 h
      refine lv_iconst (pc := 19) (v := 0) hx hb d116_19 (by decide) ?_
      refine lv_istore_n (pc := 20) (lv' := [(3, .int 0), (0, .ref ap0), (1, .ref ap1), (2, .int p2)]) hx hb d116_20 rfl hl (by decide) rfl (fun ls hl => ?_)
      exact kc21  FU p0 p1 p2 0 ap0 ap1 _ _ hS fap0 fap1 (lv_sub hl [1, 2, 3, 0] rfl) h
    · have h := jb_f c14 h
      refine lv_iconst (pc := 17) (v := 0) hx hb d116_17 (by decide) ?_
      obtain rfl := Option.some.inj h
      exact m_zret (pc := 18) hx hb hr hlk hS ⟨rfl, rfl⟩ (Nat.le_refl _) (Nat.le_refl _) d116_18 (by decide)
def tx_find_77  (st : CS) : Option ((VV × CS) × Nat × Nat) := jd (f_vl_ofError 3) (fun q1 => some ((q1, st), 0, 0))
def tx_find_38  : Nat → CS → TT → TT → Int32 → Option ((VV × CS) × Nat × Nat)
  | 0, _, _, _, _ => none
  | fu + 1, st, x1, x2, x4 => jc (f_js_length x2) (fun q3 => jc (f_js_length x1) (fun q4 => jb ((q3 - q4) < x4) (tx_find_77 st) (jc (f_tx_isAt x1 x2 x4) (fun q5 => jb (q5 = 0) (jn (x4 + 1) (fun v6 => tx_find_38 fu st x1 x2 v6)) (jd (f_vl_ofNumber (FP.i2d (x4 + 1))) (fun q7 => some ((q7, st), 0, 0)))))))
def f_tx_find (st : CS) : Option ((VV × CS) × Nat × Nat) := jd (f_ar_text st 0) (fun q9 => jd (f_ar_text q9.2 1) (fun q11 => jc (f_ar_wholeOr q11.2 2 1) (fun q13 => jb (q13.1 < 1) (tx_find_77 q13.2) (jn (q13.1 - 1) (fun v14 => tx_find_38 FU q13.2 q9.1 q11.1 v14)))))
set_option maxHeartbeats 4000000 in
set_option maxRecDepth 100000 in
theorem c_tx_find (l : Launch) (ρ : RH) (ad : Nat → Nat) (H : Heap) (P : Nat → Prop) (st : CS) (res : (VV × CS) × Nat × Nat) (hW : CW ρ P ad st H) (h : f_tx_find st = some res) : Met l y115 (wsOf y115 b115 5 (some (.object "WordFunctions$Value"))) ({ frames := 17, cells := res.2.1, slots := res.2.2, locals := 720 } : Room) (va_Pc [.ref (ad 3)] (KP ρ H)) (mQ (fun v H1 => ∃ x : Nat, v = some (.ref x) ∧ isV ρ P H1 x res.1.1 ∧ CW ρ P ad res.1.2 H1) (MA wC ad H.size)) res.2.1 res.2.2 (MA wC ad H.size) := by
  refine m_ofW (own := "WordFunctions$Texts") (plainFor_of_name rfl) rfl (Nat.le_of_ble_eq_true rfl) fun p e s m args below meth c ls hx hb hr hlk _ X hs hl => ?_
  subst hs
  have hS : va_S (MA wC ad s.heap.size) s.heap s.heap [] := va_S.rf
  have hSz := hS.1
  have hAz : ∀ q, s.heap.size ≤ q → (MA wC ad s.heap.size) q := fun q hq => Or.inr hq
  have hAp : ∀ i, i < 46 → (MA wC ad s.heap.size) (ad i) := fun i hi => MA.in hi
  have hPp : ∀ i, i < 46 → P (ad i) := hW.1
  have hl : lv_has ls 5 [(0, .ref (ad 3))] := hl
  have kc77 : ∀ (st : CS) (H : Heap) (locs : List Loc) (ls : Array Slot) (cells slots : Nat) (r : (VV × CS) × Nat × Nat), CW ρ P ad st H → va_S (MA wC ad s.heap.size) s.heap H locs → lv_has ls 5 [] → res.1 = r.1 → cells + r.2.1 ≤ res.2.1 → slots + r.2.2 ≤ res.2.2 → tx_find_77 st = some r → W p l e ({ frames := 17, cells := res.2.1, slots := res.2.2, locals := 720 } : Room) s m args below meth c H locs cells slots (MQ below (mQ (fun v H1 => ∃ x : Nat, v = some (.ref x) ∧ isV ρ P H1 x res.1.1 ∧ CW ρ P ad res.1.2 H1) (MA wC ad s.heap.size)) args s res.2.1 res.2.2 (MA wC ad s.heap.size)) (F0 m 77 ls []) := by
    intro st H locs ls cells slots r hW hS hl her hc1 hs1 h
    have hSz := hS.1
    unfold tx_find_77 at h
    refine lv_iconst (pc := 77) (v := 3) hx hb d115_77 (by decide) ?_
    obtain ⟨q1, rq1, hq1, h, herq1, hccq1, hssq1⟩ := jd_some h
    refine k_callS (pc := 78) (n := 1) X hS (c_vl_ofError l ρ _ P 3 q1 hW.2.2.1 hW.2.1  hq1) wd651 wd931 wd650 wd4 (by decide) ⟨rfl, rfl, Nat.le_of_ble_eq_true rfl, Nat.le_of_ble_eq_true rfl⟩ (As := [.int 3]) (rest := []) rfl rfl hl.1 (Nat.le_of_ble_eq_true rfl) d115_78 ⟨room_le hccq1 hc1, room_le hssq1 hs1⟩ (fun q hq => hAz q (Nat.le_trans hS.1 hq)) (fun v H1 locs1 hv hz1 hz2 hSq1 => ?_)
    obtain ⟨u2, rfl, fu2⟩ := hv
    have hk : kp no _ H1 := kp_call hz1 hz2 (fun q hq z => absurd hq (Nat.not_lt.mpr z))
    have hW := hW.keep hk no_hz (fun _ _ z => z)
    have hS := hSq1
    have hSz := hS.1
    have her := her.trans herq1
    have hc1 := room_st hccq1 hc1
    have hs1 := room_st hssq1 hs1
    have her : res.1 = (q1.1, st) := her.trans (congrArg Prod.fst (Option.some.inj h)).symm
    exact m_aret (pc := 81) hx hb hr (Or.inl ⟨_, rfl⟩) hlk hS ⟨u2, rfl, by rw [her]; exact fu2, by rw [her]; exact hW⟩ (Nat.le_trans (Nat.le_add_right _ _) hc1) (Nat.le_trans (Nat.le_add_right _ _) hs1) d115_81
  have kc38 : ∀ (fu : Nat), ∀ (st : CS) (x1 : TT) (x2 : TT) (x4 : Int32) (ax1 : Nat) (ax2 : Nat) (H : Heap) (locs : List Loc) (ls : Array Slot) (cells slots : Nat) (r : (VV × CS) × Nat × Nat), CW ρ P ad st H → va_S (MA wC ad s.heap.size) s.heap H locs → isS ρ P H ax1 x1 → isS ρ P H ax2 x2 → lv_has ls 5 [(1, .ref ax1), (2, .ref ax2), (4, .int x4)] → res.1 = r.1 → cells + r.2.1 ≤ res.2.1 → slots + r.2.2 ≤ res.2.2 → tx_find_38 fu st x1 x2 x4 = some r → W p l e ({ frames := 17, cells := res.2.1, slots := res.2.2, locals := 720 } : Room) s m args below meth c H locs cells slots (MQ below (mQ (fun v H1 => ∃ x : Nat, v = some (.ref x) ∧ isV ρ P H1 x res.1.1 ∧ CW ρ P ad res.1.2 H1) (MA wC ad s.heap.size)) args s res.2.1 res.2.2 (MA wC ad s.heap.size)) (F0 m 38 ls []) := by
    intro  fu
    induction fu with
    | zero => intro st x1 x2 x4 ax1 ax2 H locs ls cells slots r hW hS fax1 fax2 hl her hc1 hs1 h; cases h
    | succ fu hK38 =>
      intro st x1 x2 x4 ax1 ax2 H locs ls cells slots r hW hS fax1 fax2 hl her hc1 hs1 h
      have hSz := hS.1
      unfold tx_find_38 at h
      refine lv_iload (pc := 38) hx hb d115_38 (lv_at hl 2 rfl) ?_
      refine lv_aload_n (pc := 40) hx hb d115_40 rfl (lv_at hl 1 rfl) ?_
      obtain ⟨q3, hq3, h⟩ := jc_some h
      refine k_callV (pc := 41) (n := 0) X hS (c_js_length l ρ _ P ax2 x2 q3 hW.2.2.1 hW.2.1 fax2 hq3) wd538 wd916 wd536 wd537 wd14 (by decide) ⟨rfl, rfl, Nat.le_of_ble_eq_true rfl, Nat.le_of_ble_eq_true rfl⟩ (s_recv X fax2) (As := []) (rest := [.int x4]) rfl rfl hl.1 (Nat.le_of_ble_eq_true rfl) d115_41 ⟨room_l0 hc1, room_l0 hs1⟩ (fun q hq => False.elim hq) (fun v H1 locs1 hv _ _ hSq3 => ?_)
      obtain ⟨rfl, rfl⟩ := hv
      have hS := hSq3
      have hSz := hS.1
      refine lv_aload_n (pc := 44) hx hb d115_44 rfl (lv_at hl 0 rfl) ?_
      obtain ⟨q4, hq4, h⟩ := jc_some h
      refine k_callV (pc := 45) (n := 0) X hS (c_js_length l ρ _ P ax1 x1 q4 hW.2.2.1 hW.2.1 fax1 hq4) wd538 wd916 wd536 wd537 wd14 (by decide) ⟨rfl, rfl, Nat.le_of_ble_eq_true rfl, Nat.le_of_ble_eq_true rfl⟩ (s_recv X fax1) (As := []) (rest := [.int q3, .int x4]) rfl rfl hl.1 (Nat.le_of_ble_eq_true rfl) d115_45 ⟨room_l0 hc1, room_l0 hs1⟩ (fun q hq => False.elim hq) (fun v H1 locs1 hv _ _ hSq4 => ?_)
      obtain ⟨rfl, rfl⟩ := hv
      have hS := hSq4
      have hSz := hS.1
      refine lv_isub (pc := 48) hx hb d115_48 ?_
      refine lv_icmp_gt (pc := 49) (tgt := 77) hx hb d115_49 (by decide) (fun c49 => ?_) (fun c49 => ?_)
      · have h := jb_t c49 h
        exact kc77   st _ _ _ _ _ _ hW hS (lv_sub hl [] rfl) her hc1 hs1 h
      · have h := jb_f c49 h
        refine lv_aload_n (pc := 52) hx hb d115_52 rfl (lv_at hl 0 rfl) ?_
        refine lv_aload_n (pc := 53) hx hb d115_53 rfl (lv_at hl 1 rfl) ?_
        refine lv_iload (pc := 54) hx hb d115_54 (lv_at hl 2 rfl) ?_
        obtain ⟨q5, hq5, h⟩ := jc_some h
        refine k_callS (pc := 56) (n := 3) X hS (c_tx_isAt l ρ _ P ax1 x1 ax2 x2 x4 q5 hW.2.2.1 hW.2.1 fax1 fax2 hq5) wd968 wd966 wd967 wd7 (by decide) ⟨rfl, rfl, Nat.le_of_ble_eq_true rfl, Nat.le_of_ble_eq_true rfl⟩ (As := [.ref ax1, .ref ax2, .int x4]) (rest := []) rfl rfl hl.1 (Nat.le_of_ble_eq_true rfl) d115_56 ⟨room_l0 hc1, room_l0 hs1⟩ (fun q hq => False.elim hq) (fun v H1 locs1 hv _ _ hSq5 => ?_)
        obtain ⟨rfl, rfl⟩ := hv
        have hS := hSq5
        have hSz := hS.1
        refine lv_if_eq (pc := 59) (tgt := 71) hx hb d115_59 (by decide) (fun c59 => ?_) (fun c59 => ?_)
        · have h := jb_t c59 h
          obtain ⟨v6, ev6, h⟩ := jn_ex h
          refine lv_iinc (pc := 71) (v := v6) (lv' := [(4, .int v6), (1, .ref ax1), (2, .ref ax2)]) hx hb d115_71 hl (k := 2) rfl (by rw [ev6]; rfl) (by decide) rfl (fun ls hl => ?_)
          refine lv_goto (pc := 74) (tgt := 38) hx hb d115_74 (by decide) ?_
          exact hK38 st x1 x2 v6 ax1 ax2 _ _ _ _ _ _ hW hS fax1 fax2 (lv_sub hl [1, 2, 0] rfl) her hc1 hs1 h
        · have h := jb_f c59 h
          refine lv_iload (pc := 62) hx hb d115_62 (lv_at hl 2 rfl) ?_
          refine lv_iconst (pc := 64) (v := 1) hx hb d115_64 (by decide) ?_
          refine lv_iadd (pc := 65) hx hb d115_65 ?_
          refine lv_i2d (pc := 66) hx hb d115_66 ?_
          obtain ⟨q7, rq7, hq7, h, herq7, hccq7, hssq7⟩ := jd_some h
          refine k_callS (pc := 67) (n := 1) X hS (c_vl_ofNumber l ρ _ P (FP.i2d (x4 + 1)) q7 hW.2.2.1 hW.2.1  hq7) wd642 wd917 wd641 wd4 (by decide) ⟨rfl, rfl, Nat.le_of_ble_eq_true rfl, Nat.le_of_ble_eq_true rfl⟩ (As := [.double (FP.i2d (x4 + 1))]) (rest := []) rfl rfl hl.1 (Nat.le_of_ble_eq_true rfl) d115_67 ⟨room_le hccq7 hc1, room_le hssq7 hs1⟩ (fun q hq => hAz q (Nat.le_trans hS.1 hq)) (fun v H1 locs1 hv hz1 hz2 hSq7 => ?_)
          obtain ⟨u8, rfl, fu8⟩ := hv
          have hk : kp no _ H1 := kp_call hz1 hz2 (fun q hq z => absurd hq (Nat.not_lt.mpr z))
          have hW := hW.keep hk no_hz (fun _ _ z => z)
          have hS := hSq7
          have hSz := hS.1
          have her := her.trans herq7
          have hc1 := room_st hccq7 hc1
          have hs1 := room_st hssq7 hs1
          have her : res.1 = (q7.1, st) := her.trans (congrArg Prod.fst (Option.some.inj h)).symm
          exact m_aret (pc := 70) hx hb hr (Or.inl ⟨_, rfl⟩) hlk hS ⟨u8, rfl, by rw [her]; exact fu8, by rw [her]; exact hW⟩ (Nat.le_trans (Nat.le_add_right _ _) hc1) (Nat.le_trans (Nat.le_add_right _ _) hs1) d115_70
  have her : res.1 = res.1 := rfl
  have hc1 : 0 + res.2.1 ≤ res.2.1 := Nat.le_of_eq (Nat.zero_add _)
  have hs1 : 0 + res.2.2 ≤ res.2.2 := Nat.le_of_eq (Nat.zero_add _)
  unfold f_tx_find at h
  refine lv_aload_n (pc := 0) hx hb d115_0 rfl (lv_at hl 0 rfl) ?_
  refine c_getK (pc := 1) X hW 3 0 5 1 (C := "WordFunctions$Texts") (T := T5) (N := 2) (by decide) rfl rfl rfl rfl tin5 rfl wd196 rfl rfl d115_1 ?_
  refine lv_iconst (pc := 4) (v := 0) hx hb d115_4 (by decide) ?_
  obtain ⟨q9, rq9, hq9, h, herq9, hccq9, hssq9⟩ := jd_some h
  refine k_callV (pc := 5) (n := 1) X hS (c_ar_text l ρ ad _ P st 0 q9 hW  hq9) wd868 wd865 wd866 wd867 wd3 (by decide) ⟨rfl, rfl, Nat.le_of_ble_eq_true rfl, Nat.le_of_ble_eq_true rfl⟩ (c_recv X hW 1 3 (by decide) rfl rfl) (As := [.int 0]) (rest := []) rfl rfl hl.1 (Nat.le_of_ble_eq_true rfl) d115_5 ⟨room_le hccq9 hc1, room_le hssq9 hs1⟩ (fun q hq => MA.mono hS.1 hq) (fun v H1 locs1 hv hz1 hz2 hSq9 => ?_)
  have hPq := hW.1
  obtain ⟨u10, rfl, fu10, hW⟩ := hv
  have hS := hSq9
  have hSz := hS.1
  have her := her.trans herq9
  have hc1 := room_st hccq9 hc1
  have hs1 := room_st hssq9 hs1
  refine lv_astore_n (pc := 8) (lv' := [(1, .ref u10), (0, .ref (ad 3))]) hx hb d115_8 rfl hl (by decide) rfl (fun ls hl => ?_)
  refine lv_aload_n (pc := 9) hx hb d115_9 rfl (lv_at hl 1 rfl) ?_
  refine c_getK (pc := 10) X hW 3 0 5 1 (C := "WordFunctions$Texts") (T := T5) (N := 2) (by decide) rfl rfl rfl rfl tin5 rfl wd196 rfl rfl d115_10 ?_
  refine lv_iconst (pc := 13) (v := 1) hx hb d115_13 (by decide) ?_
  obtain ⟨q11, rq11, hq11, h, herq11, hccq11, hssq11⟩ := jd_some h
  refine k_callV (pc := 14) (n := 1) X hS (c_ar_text l ρ ad _ P q9.1.2 1 q11 hW  hq11) wd868 wd865 wd866 wd867 wd3 (by decide) ⟨rfl, rfl, Nat.le_of_ble_eq_true rfl, Nat.le_of_ble_eq_true rfl⟩ (c_recv X hW 1 3 (by decide) rfl rfl) (As := [.int 1]) (rest := []) rfl rfl hl.1 (Nat.le_of_ble_eq_true rfl) d115_14 ⟨room_le hccq11 hc1, room_le hssq11 hs1⟩ (fun q hq => MA.mono hS.1 hq) (fun v H1 locs1 hv hz1 hz2 hSq11 => ?_)
  have hPq := hW.1
  obtain ⟨u12, rfl, fu12, hW⟩ := hv
  have hk : kp (Pm ad) _ H1 := kp_call hz1 hz2 (MA_Pm rfl)
  have fu10 := fu10.keep hk (Pm_P hPq)
  have hS := hSq11
  have hSz := hS.1
  have her := her.trans herq11
  have hc1 := room_st hccq11 hc1
  have hs1 := room_st hssq11 hs1
  refine lv_astore_n (pc := 17) (lv' := [(2, .ref u12), (1, .ref u10), (0, .ref (ad 3))]) hx hb d115_17 rfl hl (by decide) rfl (fun ls hl => ?_)
  refine lv_aload_n (pc := 18) hx hb d115_18 rfl (lv_at hl 2 rfl) ?_
  refine c_getK (pc := 19) X hW 3 0 5 1 (C := "WordFunctions$Texts") (T := T5) (N := 2) (by decide) rfl rfl rfl rfl tin5 rfl wd196 rfl rfl d115_19 ?_
  refine lv_iconst (pc := 22) (v := 2) hx hb d115_22 (by decide) ?_
  refine lv_iconst (pc := 23) (v := 1) hx hb d115_23 (by decide) ?_
  obtain ⟨q13, hq13, h⟩ := jc_some h
  refine k_callV (pc := 24) (n := 2) X hS (c_ar_wholeOr l ρ ad _ P q11.1.2 2 1 q13 hW  hq13) wd925 wd922 wd923 wd924 wd3 (by decide) ⟨rfl, rfl, Nat.le_of_ble_eq_true rfl, Nat.le_of_ble_eq_true rfl⟩ (c_recv X hW 1 3 (by decide) rfl rfl) (As := [.int 2, .int 1]) (rest := []) rfl rfl hl.1 (Nat.le_of_ble_eq_true rfl) d115_24 ⟨room_l0 hc1, room_l0 hs1⟩ (fun q hq => MA.mono hS.1 hq) (fun v H1 locs1 hv hz1 hz2 hSq13 => ?_)
  have hPq := hW.1
  obtain ⟨rfl, hW⟩ := hv
  have hk : kp (Pm ad) _ H1 := kp_call hz1 hz2 (MA_Pm rfl)
  have fu12 := fu12.keep hk (Pm_P hPq)
  have fu10 := fu10.keep hk (Pm_P hPq)
  have hS := hSq13
  have hSz := hS.1
  refine lv_istore_n (pc := 27) (lv' := [(3, .int q13.1), (2, .ref u12), (1, .ref u10), (0, .ref (ad 3))]) hx hb d115_27 rfl hl (by decide) rfl (fun ls hl => ?_)
  refine lv_iload_n (pc := 28) hx hb d115_28 rfl (lv_at hl 0 rfl) ?_
  refine lv_iconst (pc := 29) (v := 1) hx hb d115_29 (by decide) ?_
  refine lv_icmp_lt (pc := 30) (tgt := 77) hx hb d115_30 (by decide) (fun c30 => ?_) (fun c30 => ?_)
  · have h := jb_t c30 h
    exact kc77   q13.2 _ _ _ _ _ _ hW hS (lv_sub hl [] rfl) her hc1 hs1 h
  · have h := jb_f c30 h
    refine lv_iload_n (pc := 33) hx hb d115_33 rfl (lv_at hl 0 rfl) ?_
    refine lv_iconst (pc := 34) (v := 1) hx hb d115_34 (by decide) ?_
    refine lv_isub (pc := 35) hx hb d115_35 ?_
    obtain ⟨v14, ev14, h⟩ := jn_ex h
    refine nm_i ev14 ?_
    refine lv_istore (pc := 36) (lv' := [(4, .int v14), (3, .int q13.1), (2, .ref u12), (1, .ref u10), (0, .ref (ad 3))]) hx hb d115_36 hl (by decide) rfl (fun ls hl => ?_)
    exact kc38  FU q13.2 q9.1.1 q11.1.1 v14 u10 u12 _ _ _ _ _ _ hW hS fu10 fu12 (lv_sub hl [3, 2, 0] rfl) her hc1 hs1 h
