abbrev b70 : ByteArray := prog_5_method_14_code
theorem d70_0 : decode b70 0 = .ok ((.aload_n 0), 1) := by decide +kernel
theorem d70_1 : decode b70 1 = .ok ((.invokevirtual 148), 3) := by decide +kernel
theorem d70_4 : decode b70 4 = .ok ((.aload_n 1), 1) := by decide +kernel
theorem d70_5 : decode b70 5 = .ok ((.invokevirtual 148), 3) := by decide +kernel
theorem d70_8 : decode b70 8 = .ok ((.if_icmp .eq 5), 3) := by decide +kernel
theorem d70_11 : decode b70 11 = .ok ((.iconst 0), 1) := by decide +kernel
theorem d70_12 : decode b70 12 = .ok (.ireturn, 1) := by decide +kernel
theorem d70_13 : decode b70 13 = .ok ((.iconst 0), 1) := by decide +kernel
theorem d70_14 : decode b70 14 = .ok ((.istore_n 2), 1) := by decide +kernel
theorem d70_15 : decode b70 15 = .ok ((.iload_n 2), 1) := by decide +kernel
theorem d70_16 : decode b70 16 = .ok ((.aload_n 1), 1) := by decide +kernel
theorem d70_17 : decode b70 17 = .ok ((.invokevirtual 148), 3) := by decide +kernel
theorem d70_20 : decode b70 20 = .ok ((.if_icmp .ge 27), 3) := by decide +kernel
theorem d70_23 : decode b70 23 = .ok ((.aload_n 0), 1) := by decide +kernel
theorem d70_24 : decode b70 24 = .ok ((.iload_n 2), 1) := by decide +kernel
theorem d70_25 : decode b70 25 = .ok ((.invokevirtual 153), 3) := by decide +kernel
theorem d70_28 : decode b70 28 = .ok ((.invokestatic 157), 3) := by decide +kernel
theorem d70_31 : decode b70 31 = .ok ((.aload_n 1), 1) := by decide +kernel
theorem d70_32 : decode b70 32 = .ok ((.iload_n 2), 1) := by decide +kernel
theorem d70_33 : decode b70 33 = .ok ((.invokevirtual 153), 3) := by decide +kernel
theorem d70_36 : decode b70 36 = .ok ((.if_icmp .eq 5), 3) := by decide +kernel
theorem d70_39 : decode b70 39 = .ok ((.iconst 0), 1) := by decide +kernel
theorem d70_40 : decode b70 40 = .ok (.ireturn, 1) := by decide +kernel
theorem d70_41 : decode b70 41 = .ok ((.iinc 2 1), 3) := by decide +kernel
theorem d70_44 : decode b70 44 = .ok ((.goto (-29)), 3) := by decide +kernel
theorem d70_47 : decode b70 47 = .ok ((.iconst 1), 1) := by decide +kernel
theorem d70_48 : decode b70 48 = .ok (.ireturn, 1) := by decide +kernel
abbrev b73 : ByteArray := prog_5_method_15_code
theorem d73_0 : decode b73 0 = .ok ((.iload_n 0), 1) := by decide +kernel
theorem d73_1 : decode b73 1 = .ok ((.invokestatic 32), 3) := by decide +kernel
theorem d73_4 : decode b73 4 = .ok ((.istore_n 2), 1) := by decide +kernel
theorem d73_5 : decode b73 5 = .ok ((.iload_n 0), 1) := by decide +kernel
theorem d73_6 : decode b73 6 = .ok ((.iload_n 2), 1) := by decide +kernel
theorem d73_7 : decode b73 7 = .ok ((.invokestatic 88), 3) := by decide +kernel
theorem d73_10 : decode b73 10 = .ok (.isub, 1) := by decide +kernel
theorem d73_11 : decode b73 11 = .ok ((.istore_n 3), 1) := by decide +kernel
theorem d73_12 : decode b73 12 = .ok ((.iload_n 2), 1) := by decide +kernel
theorem d73_13 : decode b73 13 = .ok ((.iload_n 1), 1) := by decide +kernel
theorem d73_14 : decode b73 14 = .ok (.iadd, 1) := by decide +kernel
theorem d73_15 : decode b73 15 = .ok ((.iconst 1), 1) := by decide +kernel
theorem d73_16 : decode b73 16 = .ok (.iadd, 1) := by decide +kernel
theorem d73_17 : decode b73 17 = .ok ((.invokestatic 88), 3) := by decide +kernel
theorem d73_20 : decode b73 20 = .ok ((.istore 4), 2) := by decide +kernel
theorem d73_22 : decode b73 22 = .ok ((.iload_n 2), 1) := by decide +kernel
theorem d73_23 : decode b73 23 = .ok ((.iload_n 1), 1) := by decide +kernel
theorem d73_24 : decode b73 24 = .ok (.iadd, 1) := by decide +kernel
theorem d73_25 : decode b73 25 = .ok ((.invokestatic 88), 3) := by decide +kernel
theorem d73_28 : decode b73 28 = .ok ((.iload_n 3), 1) := by decide +kernel
theorem d73_29 : decode b73 29 = .ok (.iadd, 1) := by decide +kernel
theorem d73_30 : decode b73 30 = .ok ((.iload 4), 2) := by decide +kernel
theorem d73_32 : decode b73 32 = .ok ((.invokestatic 122), 3) := by decide +kernel
theorem d73_35 : decode b73 35 = .ok (.ireturn, 1) := by decide +kernel
abbrev b67 : ByteArray := prog_5_method_13_code
theorem d67_0 : decode b67 0 = .ok ((.aload_n 0), 1) := by decide +kernel
theorem d67_1 : decode b67 1 = .ok ((.getfield 15), 3) := by decide +kernel
theorem d67_4 : decode b67 4 = .ok ((.iconst 0), 1) := by decide +kernel
theorem d67_5 : decode b67 5 = .ok ((.invokevirtual 26), 3) := by decide +kernel
theorem d67_8 : decode b67 8 = .ok ((.istore_n 1), 1) := by decide +kernel
theorem d67_9 : decode b67 9 = .ok ((.aload_n 0), 1) := by decide +kernel
theorem d67_10 : decode b67 10 = .ok ((.getfield 15), 3) := by decide +kernel
theorem d67_13 : decode b67 13 = .ok ((.iconst 1), 1) := by decide +kernel
theorem d67_14 : decode b67 14 = .ok ((.invokevirtual 26), 3) := by decide +kernel
theorem d67_17 : decode b67 17 = .ok ((.istore_n 2), 1) := by decide +kernel
theorem d67_18 : decode b67 18 = .ok ((.aload_n 0), 1) := by decide +kernel
theorem d67_19 : decode b67 19 = .ok ((.getfield 15), 3) := by decide +kernel
theorem d67_22 : decode b67 22 = .ok ((.iconst 2), 1) := by decide +kernel
theorem d67_23 : decode b67 23 = .ok ((.invokevirtual 125), 3) := by decide +kernel
theorem d67_26 : decode b67 26 = .ok ((.astore_n 3), 1) := by decide +kernel
theorem d67_27 : decode b67 27 = .ok ((.iload_n 1), 1) := by decide +kernel
theorem d67_28 : decode b67 28 = .ok ((.iload_n 2), 1) := by decide +kernel
theorem d67_29 : decode b67 29 = .ok ((.if_icmp .le 9), 3) := by decide +kernel
theorem d67_32 : decode b67 32 = .ok ((.bipush 6), 2) := by decide +kernel
theorem d67_34 : decode b67 34 = .ok ((.invokestatic 76), 3) := by decide +kernel
theorem d67_37 : decode b67 37 = .ok (.areturn, 1) := by decide +kernel
theorem d67_38 : decode b67 38 = .ok ((.iload_n 2), 1) := by decide +kernel
theorem d67_39 : decode b67 39 = .ok ((.invokestatic 32), 3) := by decide +kernel
theorem d67_42 : decode b67 42 = .ok ((.iload_n 1), 1) := by decide +kernel
theorem d67_43 : decode b67 43 = .ok ((.invokestatic 32), 3) := by decide +kernel
theorem d67_46 : decode b67 46 = .ok (.isub, 1) := by decide +kernel
theorem d67_47 : decode b67 47 = .ok ((.istore 4), 2) := by decide +kernel
theorem d67_49 : decode b67 49 = .ok ((.iload_n 2), 1) := by decide +kernel
theorem d67_50 : decode b67 50 = .ok ((.invokestatic 43), 3) := by decide +kernel
theorem d67_53 : decode b67 53 = .ok ((.iload_n 1), 1) := by decide +kernel
theorem d67_54 : decode b67 54 = .ok ((.invokestatic 43), 3) := by decide +kernel
theorem d67_57 : decode b67 57 = .ok ((.if_icmp .ge 6), 3) := by decide +kernel
theorem d67_60 : decode b67 60 = .ok ((.iinc 4 (-1)), 3) := by decide +kernel
theorem d67_63 : decode b67 63 = .ok ((.aload_n 3), 1) := by decide +kernel
theorem d67_64 : decode b67 64 = .ok ((.ldc 129), 2) := by decide +kernel
theorem d67_66 : decode b67 66 = .ok ((.invokestatic 131), 3) := by decide +kernel
theorem d67_69 : decode b67 69 = .ok ((.ifCond .eq 13), 3) := by decide +kernel
theorem d67_72 : decode b67 72 = .ok ((.iload 4), 2) := by decide +kernel
theorem d67_74 : decode b67 74 = .ok ((.bipush 12), 2) := by decide +kernel
theorem d67_76 : decode b67 76 = .ok (.idiv, 1) := by decide +kernel
theorem d67_77 : decode b67 77 = .ok (.i2d, 1) := by decide +kernel
theorem d67_78 : decode b67 78 = .ok ((.invokestatic 37), 3) := by decide +kernel
theorem d67_81 : decode b67 81 = .ok (.areturn, 1) := by decide +kernel
theorem d67_82 : decode b67 82 = .ok ((.aload_n 3), 1) := by decide +kernel
theorem d67_83 : decode b67 83 = .ok ((.ldc 135), 2) := by decide +kernel
theorem d67_85 : decode b67 85 = .ok ((.invokestatic 131), 3) := by decide +kernel
theorem d67_88 : decode b67 88 = .ok ((.ifCond .eq 10), 3) := by decide +kernel
theorem d67_91 : decode b67 91 = .ok ((.iload 4), 2) := by decide +kernel
theorem d67_93 : decode b67 93 = .ok (.i2d, 1) := by decide +kernel
theorem d67_94 : decode b67 94 = .ok ((.invokestatic 37), 3) := by decide +kernel
theorem d67_97 : decode b67 97 = .ok (.areturn, 1) := by decide +kernel
theorem d67_98 : decode b67 98 = .ok ((.aload_n 3), 1) := by decide +kernel
theorem d67_99 : decode b67 99 = .ok ((.ldc 137), 2) := by decide +kernel
theorem d67_101 : decode b67 101 = .ok ((.invokestatic 131), 3) := by decide +kernel
theorem d67_104 : decode b67 104 = .ok ((.ifCond .eq 11), 3) := by decide +kernel
theorem d67_107 : decode b67 107 = .ok ((.iload_n 2), 1) := by decide +kernel
theorem d67_108 : decode b67 108 = .ok ((.iload_n 1), 1) := by decide +kernel
theorem d67_109 : decode b67 109 = .ok (.isub, 1) := by decide +kernel
theorem d67_110 : decode b67 110 = .ok (.i2d, 1) := by decide +kernel
theorem d67_111 : decode b67 111 = .ok ((.invokestatic 37), 3) := by decide +kernel
theorem d67_114 : decode b67 114 = .ok (.areturn, 1) := by decide +kernel
theorem d67_115 : decode b67 115 = .ok ((.aload_n 3), 1) := by decide +kernel
theorem d67_116 : decode b67 116 = .ok ((.ldc 139), 2) := by decide +kernel
theorem d67_118 : decode b67 118 = .ok ((.invokestatic 131), 3) := by decide +kernel
theorem d67_121 : decode b67 121 = .ok ((.ifCond .eq 13), 3) := by decide +kernel
theorem d67_124 : decode b67 124 = .ok ((.iload 4), 2) := by decide +kernel
theorem d67_126 : decode b67 126 = .ok ((.bipush 12), 2) := by decide +kernel
theorem d67_128 : decode b67 128 = .ok (.irem, 1) := by decide +kernel
theorem d67_129 : decode b67 129 = .ok (.i2d, 1) := by decide +kernel
theorem d67_130 : decode b67 130 = .ok ((.invokestatic 37), 3) := by decide +kernel
theorem d67_133 : decode b67 133 = .ok (.areturn, 1) := by decide +kernel
theorem d67_134 : decode b67 134 = .ok ((.aload_n 3), 1) := by decide +kernel
theorem d67_135 : decode b67 135 = .ok ((.ldc 141), 2) := by decide +kernel
theorem d67_137 : decode b67 137 = .ok ((.invokestatic 131), 3) := by decide +kernel
theorem d67_140 : decode b67 140 = .ok ((.ifCond .eq 16), 3) := by decide +kernel
theorem d67_143 : decode b67 143 = .ok ((.iload_n 2), 1) := by decide +kernel
theorem d67_144 : decode b67 144 = .ok ((.iload_n 1), 1) := by decide +kernel
theorem d67_145 : decode b67 145 = .ok ((.iload 4), 2) := by decide +kernel
theorem d67_147 : decode b67 147 = .ok ((.invokestatic 143), 3) := by decide +kernel
theorem d67_150 : decode b67 150 = .ok (.isub, 1) := by decide +kernel
theorem d67_151 : decode b67 151 = .ok (.i2d, 1) := by decide +kernel
theorem d67_152 : decode b67 152 = .ok ((.invokestatic 37), 3) := by decide +kernel
theorem d67_155 : decode b67 155 = .ok (.areturn, 1) := by decide +kernel
theorem d67_156 : decode b67 156 = .ok ((.aload_n 3), 1) := by decide +kernel
theorem d67_157 : decode b67 157 = .ok ((.ldc 146), 2) := by decide +kernel
theorem d67_159 : decode b67 159 = .ok ((.invokestatic 131), 3) := by decide +kernel
theorem d67_162 : decode b67 162 = .ok ((.ifCond .eq 22), 3) := by decide +kernel
theorem d67_165 : decode b67 165 = .ok ((.iload_n 2), 1) := by decide +kernel
theorem d67_166 : decode b67 166 = .ok ((.iload_n 1), 1) := by decide +kernel
theorem d67_167 : decode b67 167 = .ok ((.iload 4), 2) := by decide +kernel
theorem d67_169 : decode b67 169 = .ok ((.iload 4), 2) := by decide +kernel
theorem d67_171 : decode b67 171 = .ok ((.bipush 12), 2) := by decide +kernel
theorem d67_173 : decode b67 173 = .ok (.irem, 1) := by decide +kernel
theorem d67_174 : decode b67 174 = .ok (.isub, 1) := by decide +kernel
theorem d67_175 : decode b67 175 = .ok ((.invokestatic 143), 3) := by decide +kernel
theorem d67_178 : decode b67 178 = .ok (.isub, 1) := by decide +kernel
theorem d67_179 : decode b67 179 = .ok (.i2d, 1) := by decide +kernel
theorem d67_180 : decode b67 180 = .ok ((.invokestatic 37), 3) := by decide +kernel
theorem d67_183 : decode b67 183 = .ok (.areturn, 1) := by decide +kernel
theorem d67_184 : decode b67 184 = .ok ((.bipush 6), 2) := by decide +kernel
theorem d67_186 : decode b67 186 = .ok ((.invokestatic 76), 3) := by decide +kernel
theorem d67_189 : decode b67 189 = .ok (.areturn, 1) := by decide +kernel
abbrev b69 : ByteArray := prog_5_method_6_code
theorem d69_0 : decode b69 0 = .ok ((.iload_n 0), 1) := by decide +kernel
theorem d69_1 : decode b69 1 = .ok ((.ifCond .lt 14), 3) := by decide +kernel
theorem d69_4 : decode b69 4 = .ok ((.iload_n 0), 1) := by decide +kernel
theorem d69_5 : decode b69 5 = .ok ((.sipush 32767), 3) := by decide +kernel
theorem d69_8 : decode b69 8 = .ok ((.if_icmp .gt 7), 3) := by decide +kernel
theorem d69_11 : decode b69 11 = .ok ((.iconst 1), 1) := by decide +kernel
theorem d69_12 : decode b69 12 = .ok ((.goto 4), 3) := by decide +kernel
theorem d69_15 : decode b69 15 = .ok ((.iconst 0), 1) := by decide +kernel
theorem d69_16 : decode b69 16 = .ok (.ireturn, 1) := by decide +kernel
abbrev b71 : ByteArray := prog_5_method_11_code
theorem d71_0 : decode b71 0 = .ok ((.aload_n 0), 1) := by decide +kernel
theorem d71_1 : decode b71 1 = .ok ((.getfield 15), 3) := by decide +kernel
theorem d71_4 : decode b71 4 = .ok ((.iconst 0), 1) := by decide +kernel
theorem d71_5 : decode b71 5 = .ok ((.invokevirtual 26), 3) := by decide +kernel
theorem d71_8 : decode b71 8 = .ok ((.istore_n 2), 1) := by decide +kernel
theorem d71_9 : decode b71 9 = .ok ((.aload_n 0), 1) := by decide +kernel
theorem d71_10 : decode b71 10 = .ok ((.getfield 15), 3) := by decide +kernel
theorem d71_13 : decode b71 13 = .ok ((.iconst 1), 1) := by decide +kernel
theorem d71_14 : decode b71 14 = .ok ((.invokevirtual 82), 3) := by decide +kernel
theorem d71_17 : decode b71 17 = .ok ((.istore_n 3), 1) := by decide +kernel
theorem d71_18 : decode b71 18 = .ok ((.iload_n 3), 1) := by decide +kernel
theorem d71_19 : decode b71 19 = .ok ((.invokestatic 85), 3) := by decide +kernel
theorem d71_22 : decode b71 22 = .ok ((.ifCond .eq 9), 3) := by decide +kernel
theorem d71_25 : decode b71 25 = .ok ((.bipush 6), 2) := by decide +kernel
theorem d71_27 : decode b71 27 = .ok ((.invokestatic 76), 3) := by decide +kernel
theorem d71_30 : decode b71 30 = .ok (.areturn, 1) := by decide +kernel
theorem d71_31 : decode b71 31 = .ok ((.iload_n 2), 1) := by decide +kernel
theorem d71_32 : decode b71 32 = .ok ((.invokestatic 32), 3) := by decide +kernel
theorem d71_35 : decode b71 35 = .ok ((.iload_n 3), 1) := by decide +kernel
theorem d71_36 : decode b71 36 = .ok (.iadd, 1) := by decide +kernel
theorem d71_37 : decode b71 37 = .ok ((.istore 4), 2) := by decide +kernel
theorem d71_39 : decode b71 39 = .ok ((.iload 4), 2) := by decide +kernel
theorem d71_41 : decode b71 41 = .ok ((.invokestatic 119), 3) := by decide +kernel
theorem d71_44 : decode b71 44 = .ok ((.istore 5), 2) := by decide +kernel
theorem d71_46 : decode b71 46 = .ok ((.iload_n 1), 1) := by decide +kernel
theorem d71_47 : decode b71 47 = .ok ((.ifCond .eq 8), 3) := by decide +kernel
theorem d71_50 : decode b71 50 = .ok ((.iload 5), 2) := by decide +kernel
theorem d71_52 : decode b71 52 = .ok ((.goto 12), 3) := by decide +kernel
theorem d71_55 : decode b71 55 = .ok ((.iload_n 2), 1) := by decide +kernel
theorem d71_56 : decode b71 56 = .ok ((.invokestatic 43), 3) := by decide +kernel
theorem d71_59 : decode b71 59 = .ok ((.iload 5), 2) := by decide +kernel
theorem d71_61 : decode b71 61 = .ok ((.invokestatic 122), 3) := by decide +kernel
theorem d71_64 : decode b71 64 = .ok ((.istore 6), 2) := by decide +kernel
theorem d71_66 : decode b71 66 = .ok ((.iload 4), 2) := by decide +kernel
theorem d71_68 : decode b71 68 = .ok ((.invokestatic 88), 3) := by decide +kernel
theorem d71_71 : decode b71 71 = .ok ((.iload 6), 2) := by decide +kernel
theorem d71_73 : decode b71 73 = .ok (.iadd, 1) := by decide +kernel
theorem d71_74 : decode b71 74 = .ok ((.iconst 1), 1) := by decide +kernel
theorem d71_75 : decode b71 75 = .ok (.isub, 1) := by decide +kernel
theorem d71_76 : decode b71 76 = .ok ((.invokestatic 91), 3) := by decide +kernel
theorem d71_79 : decode b71 79 = .ok (.areturn, 1) := by decide +kernel
abbrev b76 : ByteArray := prog_5_method_7_code
theorem d76_0 : decode b76 0 = .ok ((.aload_n 0), 1) := by decide +kernel
theorem d76_1 : decode b76 1 = .ok ((.getfield 15), 3) := by decide +kernel
theorem d76_4 : decode b76 4 = .ok ((.iconst 0), 1) := by decide +kernel
theorem d76_5 : decode b76 5 = .ok ((.invokevirtual 82), 3) := by decide +kernel
theorem d76_8 : decode b76 8 = .ok ((.istore_n 1), 1) := by decide +kernel
theorem d76_9 : decode b76 9 = .ok ((.aload_n 0), 1) := by decide +kernel
theorem d76_10 : decode b76 10 = .ok ((.getfield 15), 3) := by decide +kernel
theorem d76_13 : decode b76 13 = .ok ((.iconst 1), 1) := by decide +kernel
theorem d76_14 : decode b76 14 = .ok ((.invokevirtual 82), 3) := by decide +kernel
theorem d76_17 : decode b76 17 = .ok ((.istore_n 2), 1) := by decide +kernel
theorem d76_18 : decode b76 18 = .ok ((.aload_n 0), 1) := by decide +kernel
theorem d76_19 : decode b76 19 = .ok ((.getfield 15), 3) := by decide +kernel
theorem d76_22 : decode b76 22 = .ok ((.iconst 2), 1) := by decide +kernel
theorem d76_23 : decode b76 23 = .ok ((.invokevirtual 82), 3) := by decide +kernel
theorem d76_26 : decode b76 26 = .ok ((.istore_n 3), 1) := by decide +kernel
theorem d76_27 : decode b76 27 = .ok ((.iload_n 1), 1) := by decide +kernel
theorem d76_28 : decode b76 28 = .ok ((.invokestatic 94), 3) := by decide +kernel
theorem d76_31 : decode b76 31 = .ok ((.ifCond .eq 17), 3) := by decide +kernel
theorem d76_34 : decode b76 34 = .ok ((.iload_n 2), 1) := by decide +kernel
theorem d76_35 : decode b76 35 = .ok ((.invokestatic 94), 3) := by decide +kernel
theorem d76_38 : decode b76 38 = .ok ((.ifCond .eq 10), 3) := by decide +kernel
theorem d76_41 : decode b76 41 = .ok ((.iload_n 3), 1) := by decide +kernel
theorem d76_42 : decode b76 42 = .ok ((.invokestatic 94), 3) := by decide +kernel
theorem d76_45 : decode b76 45 = .ok ((.ifCond .ne 9), 3) := by decide +kernel
theorem d76_48 : decode b76 48 = .ok ((.bipush 6), 2) := by decide +kernel
theorem d76_50 : decode b76 50 = .ok ((.invokestatic 76), 3) := by decide +kernel
theorem d76_53 : decode b76 53 = .ok (.areturn, 1) := by decide +kernel
theorem d76_54 : decode b76 54 = .ok ((.iload_n 1), 1) := by decide +kernel
theorem d76_55 : decode b76 55 = .ok ((.sipush 3600), 3) := by decide +kernel
theorem d76_58 : decode b76 58 = .ok (.imul, 1) := by decide +kernel
theorem d76_59 : decode b76 59 = .ok ((.iload_n 2), 1) := by decide +kernel
theorem d76_60 : decode b76 60 = .ok ((.bipush 60), 2) := by decide +kernel
theorem d76_62 : decode b76 62 = .ok (.imul, 1) := by decide +kernel
theorem d76_63 : decode b76 63 = .ok (.iadd, 1) := by decide +kernel
theorem d76_64 : decode b76 64 = .ok ((.iload_n 3), 1) := by decide +kernel
theorem d76_65 : decode b76 65 = .ok (.iadd, 1) := by decide +kernel
theorem d76_66 : decode b76 66 = .ok ((.ldc 97), 2) := by decide +kernel
theorem d76_68 : decode b76 68 = .ok (.irem, 1) := by decide +kernel
theorem d76_69 : decode b76 69 = .ok (.i2d, 1) := by decide +kernel
theorem d76_70 : decode b76 70 = .ok ((.ldc2_w 98), 3) := by decide +kernel
theorem d76_73 : decode b76 73 = .ok (.ddiv, 1) := by decide +kernel
theorem d76_74 : decode b76 74 = .ok ((.invokestatic 37), 3) := by decide +kernel
theorem d76_77 : decode b76 77 = .ok (.areturn, 1) := by decide +kernel
abbrev b75 : ByteArray := prog_5_method_8_code
theorem d75_0 : decode b75 0 = .ok ((.aload_n 0), 1) := by decide +kernel
theorem d75_1 : decode b75 1 = .ok ((.getfield 15), 3) := by decide +kernel
theorem d75_4 : decode b75 4 = .ok ((.iconst 0), 1) := by decide +kernel
theorem d75_5 : decode b75 5 = .ok ((.invokevirtual 26), 3) := by decide +kernel
theorem d75_8 : decode b75 8 = .ok ((.istore_n 1), 1) := by decide +kernel
theorem d75_9 : decode b75 9 = .ok ((.aload_n 0), 1) := by decide +kernel
theorem d75_10 : decode b75 10 = .ok ((.getfield 15), 3) := by decide +kernel
theorem d75_13 : decode b75 13 = .ok ((.getfield 100), 3) := by decide +kernel
theorem d75_16 : decode b75 16 = .ok ((.ifCond .eq 5), 3) := by decide +kernel
theorem d75_19 : decode b75 19 = .ok ((.iconst 0), 1) := by decide +kernel
theorem d75_20 : decode b75 20 = .ok (.ireturn, 1) := by decide +kernel
theorem d75_21 : decode b75 21 = .ok ((.aload_n 0), 1) := by decide +kernel
theorem d75_22 : decode b75 22 = .ok ((.getfield 15), 3) := by decide +kernel
theorem d75_25 : decode b75 25 = .ok ((.iconst 0), 1) := by decide +kernel
theorem d75_26 : decode b75 26 = .ok ((.invokevirtual 104), 3) := by decide +kernel
theorem d75_29 : decode b75 29 = .ok ((.iload_n 1), 1) := by decide +kernel
theorem d75_30 : decode b75 30 = .ok (.i2d, 1) := by decide +kernel
theorem d75_31 : decode b75 31 = .ok (.dsub, 1) := by decide +kernel
theorem d75_32 : decode b75 32 = .ok ((.ldc2_w 98), 3) := by decide +kernel
theorem d75_35 : decode b75 35 = .ok (.dmul, 1) := by decide +kernel
theorem d75_36 : decode b75 36 = .ok ((.dstore_n 2), 1) := by decide +kernel
theorem d75_37 : decode b75 37 = .ok ((.dload_n 2), 1) := by decide +kernel
theorem d75_38 : decode b75 38 = .ok (.d2i, 1) := by decide +kernel
theorem d75_39 : decode b75 39 = .ok ((.istore 4), 2) := by decide +kernel
theorem d75_41 : decode b75 41 = .ok ((.dload_n 2), 1) := by decide +kernel
theorem d75_42 : decode b75 42 = .ok ((.iload 4), 2) := by decide +kernel
theorem d75_44 : decode b75 44 = .ok (.i2d, 1) := by decide +kernel
theorem d75_45 : decode b75 45 = .ok (.dsub, 1) := by decide +kernel
theorem d75_46 : decode b75 46 = .ok ((.ldc2_w 108), 3) := by decide +kernel
theorem d75_49 : decode b75 49 = .ok ((.dcmp .l), 1) := by decide +kernel
theorem d75_50 : decode b75 50 = .ok ((.ifCond .lt 6), 3) := by decide +kernel
theorem d75_53 : decode b75 53 = .ok ((.iinc 4 1), 3) := by decide +kernel
theorem d75_56 : decode b75 56 = .ok ((.iload 4), 2) := by decide +kernel
theorem d75_58 : decode b75 58 = .ok ((.ldc 97), 2) := by decide +kernel
theorem d75_60 : decode b75 60 = .ok (.irem, 1) := by decide +kernel
theorem d75_61 : decode b75 61 = .ok (.ireturn, 1) := by decide +kernel
abbrev b78 : ByteArray := prog_5_method_9_code
theorem d78_0 : decode b78 0 = .ok ((.aload_n 0), 1) := by decide +kernel
theorem d78_1 : decode b78 1 = .ok ((.getfield 15), 3) := by decide +kernel
theorem d78_4 : decode b78 4 = .ok ((.iconst 0), 1) := by decide +kernel
theorem d78_5 : decode b78 5 = .ok ((.invokevirtual 26), 3) := by decide +kernel
theorem d78_8 : decode b78 8 = .ok ((.istore_n 1), 1) := by decide +kernel
theorem d78_9 : decode b78 9 = .ok ((.aload_n 0), 1) := by decide +kernel
theorem d78_10 : decode b78 10 = .ok ((.getfield 15), 3) := by decide +kernel
theorem d78_13 : decode b78 13 = .ok ((.iconst 1), 1) := by decide +kernel
theorem d78_14 : decode b78 14 = .ok ((.iconst 1), 1) := by decide +kernel
theorem d78_15 : decode b78 15 = .ok ((.invokevirtual 110), 3) := by decide +kernel
theorem d78_18 : decode b78 18 = .ok ((.istore_n 2), 1) := by decide +kernel
theorem d78_19 : decode b78 19 = .ok ((.iload_n 1), 1) := by decide +kernel
theorem d78_20 : decode b78 20 = .ok ((.iconst 2), 1) := by decide +kernel
theorem d78_21 : decode b78 21 = .ok (.isub, 1) := by decide +kernel
theorem d78_22 : decode b78 22 = .ok ((.bipush 7), 2) := by decide +kernel
theorem d78_24 : decode b78 24 = .ok ((.invokestatic 114), 3) := by decide +kernel
theorem d78_27 : decode b78 27 = .ok ((.istore_n 3), 1) := by decide +kernel
theorem d78_28 : decode b78 28 = .ok ((.iload_n 2), 1) := by decide +kernel
theorem d78_29 : decode b78 29 = .ok ((.tableswitch 54 1 3 #[27, 40, 48]), 27) := by decide +kernel
theorem d78_56 : decode b78 56 = .ok ((.iload_n 3), 1) := by decide +kernel
theorem d78_57 : decode b78 57 = .ok ((.iconst 1), 1) := by decide +kernel
theorem d78_58 : decode b78 58 = .ok (.iadd, 1) := by decide +kernel
theorem d78_59 : decode b78 59 = .ok ((.bipush 7), 2) := by decide +kernel
theorem d78_61 : decode b78 61 = .ok (.irem, 1) := by decide +kernel
theorem d78_62 : decode b78 62 = .ok ((.iconst 1), 1) := by decide +kernel
theorem d78_63 : decode b78 63 = .ok (.iadd, 1) := by decide +kernel
theorem d78_64 : decode b78 64 = .ok (.i2d, 1) := by decide +kernel
theorem d78_65 : decode b78 65 = .ok ((.invokestatic 37), 3) := by decide +kernel
theorem d78_68 : decode b78 68 = .ok (.areturn, 1) := by decide +kernel
theorem d78_69 : decode b78 69 = .ok ((.iload_n 3), 1) := by decide +kernel
theorem d78_70 : decode b78 70 = .ok ((.iconst 1), 1) := by decide +kernel
theorem d78_71 : decode b78 71 = .ok (.iadd, 1) := by decide +kernel
theorem d78_72 : decode b78 72 = .ok (.i2d, 1) := by decide +kernel
theorem d78_73 : decode b78 73 = .ok ((.invokestatic 37), 3) := by decide +kernel
theorem d78_76 : decode b78 76 = .ok (.areturn, 1) := by decide +kernel
theorem d78_77 : decode b78 77 = .ok ((.iload_n 3), 1) := by decide +kernel
theorem d78_78 : decode b78 78 = .ok (.i2d, 1) := by decide +kernel
theorem d78_79 : decode b78 79 = .ok ((.invokestatic 37), 3) := by decide +kernel
theorem d78_82 : decode b78 82 = .ok (.areturn, 1) := by decide +kernel
theorem d78_83 : decode b78 83 = .ok ((.bipush 6), 2) := by decide +kernel
theorem d78_85 : decode b78 85 = .ok ((.invokestatic 76), 3) := by decide +kernel
theorem d78_88 : decode b78 88 = .ok (.areturn, 1) := by decide +kernel
abbrev b77 : ByteArray := prog_5_method_10_code
theorem d77_0 : decode b77 0 = .ok ((.aload_n 0), 1) := by decide +kernel
theorem d77_1 : decode b77 1 = .ok ((.getfield 15), 3) := by decide +kernel
theorem d77_4 : decode b77 4 = .ok ((.iconst 0), 1) := by decide +kernel
theorem d77_5 : decode b77 5 = .ok ((.invokevirtual 26), 3) := by decide +kernel
theorem d77_8 : decode b77 8 = .ok ((.istore_n 1), 1) := by decide +kernel
theorem d77_9 : decode b77 9 = .ok ((.aload_n 0), 1) := by decide +kernel
theorem d77_10 : decode b77 10 = .ok ((.getfield 15), 3) := by decide +kernel
theorem d77_13 : decode b77 13 = .ok ((.iconst 1), 1) := by decide +kernel
theorem d77_14 : decode b77 14 = .ok ((.iconst 1), 1) := by decide +kernel
theorem d77_15 : decode b77 15 = .ok ((.invokevirtual 110), 3) := by decide +kernel
theorem d77_18 : decode b77 18 = .ok ((.istore_n 2), 1) := by decide +kernel
theorem d77_19 : decode b77 19 = .ok ((.iload_n 2), 1) := by decide +kernel
theorem d77_20 : decode b77 20 = .ok ((.iconst 1), 1) := by decide +kernel
theorem d77_21 : decode b77 21 = .ok ((.if_icmp .eq 14), 3) := by decide +kernel
theorem d77_24 : decode b77 24 = .ok ((.iload_n 2), 1) := by decide +kernel
theorem d77_25 : decode b77 25 = .ok ((.iconst 2), 1) := by decide +kernel
theorem d77_26 : decode b77 26 = .ok ((.if_icmp .eq 9), 3) := by decide +kernel
theorem d77_29 : decode b77 29 = .ok ((.bipush 6), 2) := by decide +kernel
theorem d77_31 : decode b77 31 = .ok ((.invokestatic 76), 3) := by decide +kernel
theorem d77_34 : decode b77 34 = .ok (.areturn, 1) := by decide +kernel
theorem d77_35 : decode b77 35 = .ok ((.iload_n 1), 1) := by decide +kernel
theorem d77_36 : decode b77 36 = .ok ((.invokestatic 32), 3) := by decide +kernel
theorem d77_39 : decode b77 39 = .ok ((.istore_n 3), 1) := by decide +kernel
theorem d77_40 : decode b77 40 = .ok ((.iload_n 3), 1) := by decide +kernel
theorem d77_41 : decode b77 41 = .ok ((.iload_n 3), 1) := by decide +kernel
theorem d77_42 : decode b77 42 = .ok ((.bipush 12), 2) := by decide +kernel
theorem d77_44 : decode b77 44 = .ok (.irem, 1) := by decide +kernel
theorem d77_45 : decode b77 45 = .ok (.isub, 1) := by decide +kernel
theorem d77_46 : decode b77 46 = .ok ((.invokestatic 88), 3) := by decide +kernel
theorem d77_49 : decode b77 49 = .ok ((.istore 4), 2) := by decide +kernel
theorem d77_51 : decode b77 51 = .ok ((.iload_n 2), 1) := by decide +kernel
theorem d77_52 : decode b77 52 = .ok ((.iconst 1), 1) := by decide +kernel
theorem d77_53 : decode b77 53 = .ok ((.if_icmp .ne 7), 3) := by decide +kernel
theorem d77_56 : decode b77 56 = .ok ((.iconst 1), 1) := by decide +kernel
theorem d77_57 : decode b77 57 = .ok ((.goto 4), 3) := by decide +kernel
theorem d77_60 : decode b77 60 = .ok ((.iconst 2), 1) := by decide +kernel
theorem d77_61 : decode b77 61 = .ok ((.istore 5), 2) := by decide +kernel
theorem d77_63 : decode b77 63 = .ok ((.iload 4), 2) := by decide +kernel
theorem d77_65 : decode b77 65 = .ok ((.iload 5), 2) := by decide +kernel
theorem d77_67 : decode b77 67 = .ok (.isub, 1) := by decide +kernel
theorem d77_68 : decode b77 68 = .ok ((.bipush 7), 2) := by decide +kernel
theorem d77_70 : decode b77 70 = .ok ((.invokestatic 114), 3) := by decide +kernel
theorem d77_73 : decode b77 73 = .ok ((.istore 6), 2) := by decide +kernel
theorem d77_75 : decode b77 75 = .ok ((.iload_n 1), 1) := by decide +kernel
theorem d77_76 : decode b77 76 = .ok ((.iload 4), 2) := by decide +kernel
theorem d77_78 : decode b77 78 = .ok (.isub, 1) := by decide +kernel
theorem d77_79 : decode b77 79 = .ok ((.iload 6), 2) := by decide +kernel
theorem d77_81 : decode b77 81 = .ok (.iadd, 1) := by decide +kernel
theorem d77_82 : decode b77 82 = .ok ((.bipush 7), 2) := by decide +kernel
theorem d77_84 : decode b77 84 = .ok (.idiv, 1) := by decide +kernel
theorem d77_85 : decode b77 85 = .ok ((.iconst 1), 1) := by decide +kernel
theorem d77_86 : decode b77 86 = .ok (.iadd, 1) := by decide +kernel
theorem d77_87 : decode b77 87 = .ok (.i2d, 1) := by decide +kernel
theorem d77_88 : decode b77 88 = .ok ((.invokestatic 37), 3) := by decide +kernel
theorem d77_91 : decode b77 91 = .ok (.areturn, 1) := by decide +kernel
abbrev b74 : ByteArray := prog_5_method_16_code
theorem d74_0 : decode b74 0 = .ok ((.aload_n 0), 1) := by decide +kernel
theorem d74_1 : decode b74 1 = .ok ((.iconst 0), 1) := by decide +kernel
theorem d74_2 : decode b74 2 = .ok ((.putfield 161), 3) := by decide +kernel
theorem d74_5 : decode b74 5 = .ok ((.aload_n 0), 1) := by decide +kernel
theorem d74_6 : decode b74 6 = .ok ((.getfield 15), 3) := by decide +kernel
theorem d74_9 : decode b74 9 = .ok ((.iload_n 1), 1) := by decide +kernel
theorem d74_10 : decode b74 10 = .ok ((.invokevirtual 164), 3) := by decide +kernel
theorem d74_13 : decode b74 13 = .ok ((.istore_n 2), 1) := by decide +kernel
theorem d74_14 : decode b74 14 = .ok ((.iconst 0), 1) := by decide +kernel
theorem d74_15 : decode b74 15 = .ok ((.istore_n 3), 1) := by decide +kernel
theorem d74_16 : decode b74 16 = .ok ((.iload_n 3), 1) := by decide +kernel
theorem d74_17 : decode b74 17 = .ok ((.iload_n 2), 1) := by decide +kernel
theorem d74_18 : decode b74 18 = .ok ((.if_icmp .ge 50), 3) := by decide +kernel
theorem d74_21 : decode b74 21 = .ok ((.aload_n 0), 1) := by decide +kernel
theorem d74_22 : decode b74 22 = .ok ((.getfield 15), 3) := by decide +kernel
theorem d74_25 : decode b74 25 = .ok ((.iload_n 1), 1) := by decide +kernel
theorem d74_26 : decode b74 26 = .ok ((.iload_n 3), 1) := by decide +kernel
theorem d74_27 : decode b74 27 = .ok ((.invokevirtual 167), 3) := by decide +kernel
theorem d74_30 : decode b74 30 = .ok ((.astore 4), 2) := by decide +kernel
theorem d74_32 : decode b74 32 = .ok ((.aload 4), 2) := by decide +kernel
theorem d74_34 : decode b74 34 = .ok ((.getfield 171), 3) := by decide +kernel
theorem d74_37 : decode b74 37 = .ok ((.iconst 1), 1) := by decide +kernel
theorem d74_38 : decode b74 38 = .ok ((.if_icmp .ne 24), 3) := by decide +kernel
theorem d74_41 : decode b74 41 = .ok ((.aload 4), 2) := by decide +kernel
theorem d74_43 : decode b74 43 = .ok ((.getfield 174), 3) := by decide +kernel
theorem d74_46 : decode b74 46 = .ok ((.invokestatic 176), 3) := by decide +kernel
theorem d74_49 : decode b74 49 = .ok ((.ifCond .eq 13), 3) := by decide +kernel
theorem d74_52 : decode b74 52 = .ok ((.aload_n 0), 1) := by decide +kernel
theorem d74_53 : decode b74 53 = .ok ((.aload 4), 2) := by decide +kernel
theorem d74_55 : decode b74 55 = .ok ((.getfield 174), 3) := by decide +kernel
theorem d74_58 : decode b74 58 = .ok (.d2i, 1) := by decide +kernel
theorem d74_59 : decode b74 59 = .ok ((.invokevirtual 180), 3) := by decide +kernel
theorem d74_62 : decode b74 62 = .ok ((.iinc 3 1), 3) := by decide +kernel
theorem d74_65 : decode b74 65 = .ok ((.goto (-49)), 3) := by decide +kernel
theorem d74_68 : decode b74 68 = .ok (.return_, 1) := by decide +kernel
abbrev b82 : ByteArray := prog_5_method_18_code
theorem d82_0 : decode b82 0 = .ok ((.aload_n 0), 1) := by decide +kernel
theorem d82_1 : decode b82 1 = .ok ((.getfield 15), 3) := by decide +kernel
theorem d82_4 : decode b82 4 = .ok ((.iconst 0), 1) := by decide +kernel
theorem d82_5 : decode b82 5 = .ok ((.invokevirtual 26), 3) := by decide +kernel
theorem d82_8 : decode b82 8 = .ok ((.istore_n 1), 1) := by decide +kernel
theorem d82_9 : decode b82 9 = .ok ((.aload_n 0), 1) := by decide +kernel
theorem d82_10 : decode b82 10 = .ok ((.getfield 15), 3) := by decide +kernel
theorem d82_13 : decode b82 13 = .ok ((.iconst 1), 1) := by decide +kernel
theorem d82_14 : decode b82 14 = .ok ((.invokevirtual 26), 3) := by decide +kernel
theorem d82_17 : decode b82 17 = .ok ((.istore_n 2), 1) := by decide +kernel
theorem d82_18 : decode b82 18 = .ok ((.aload_n 0), 1) := by decide +kernel
theorem d82_19 : decode b82 19 = .ok ((.iconst 2), 1) := by decide +kernel
theorem d82_20 : decode b82 20 = .ok ((.invokevirtual 187), 3) := by decide +kernel
theorem d82_23 : decode b82 23 = .ok ((.iload_n 1), 1) := by decide +kernel
theorem d82_24 : decode b82 24 = .ok ((.iload_n 2), 1) := by decide +kernel
theorem d82_25 : decode b82 25 = .ok ((.invokestatic 122), 3) := by decide +kernel
theorem d82_28 : decode b82 28 = .ok ((.istore_n 3), 1) := by decide +kernel
theorem d82_29 : decode b82 29 = .ok ((.iload_n 1), 1) := by decide +kernel
theorem d82_30 : decode b82 30 = .ok ((.iload_n 2), 1) := by decide +kernel
theorem d82_31 : decode b82 31 = .ok ((.invokestatic 190), 3) := by decide +kernel
theorem d82_34 : decode b82 34 = .ok ((.istore 4), 2) := by decide +kernel
theorem d82_36 : decode b82 36 = .ok ((.iload 4), 2) := by decide +kernel
theorem d82_38 : decode b82 38 = .ok ((.invokestatic 193), 3) := by decide +kernel
theorem d82_41 : decode b82 41 = .ok ((.iload_n 3), 1) := by decide +kernel
theorem d82_42 : decode b82 42 = .ok ((.iconst 1), 1) := by decide +kernel
theorem d82_43 : decode b82 43 = .ok (.isub, 1) := by decide +kernel
theorem d82_44 : decode b82 44 = .ok ((.invokestatic 193), 3) := by decide +kernel
theorem d82_47 : decode b82 47 = .ok (.isub, 1) := by decide +kernel
theorem d82_48 : decode b82 48 = .ok ((.istore 5), 2) := by decide +kernel
theorem d82_50 : decode b82 50 = .ok ((.iconst 0), 1) := by decide +kernel
theorem d82_51 : decode b82 51 = .ok ((.istore 6), 2) := by decide +kernel
theorem d82_53 : decode b82 53 = .ok ((.iload 6), 2) := by decide +kernel
theorem d82_55 : decode b82 55 = .ok ((.aload_n 0), 1) := by decide +kernel
theorem d82_56 : decode b82 56 = .ok ((.getfield 161), 3) := by decide +kernel
theorem d82_59 : decode b82 59 = .ok ((.if_icmp .ge 35), 3) := by decide +kernel
theorem d82_62 : decode b82 62 = .ok ((.aload_n 0), 1) := by decide +kernel
theorem d82_63 : decode b82 63 = .ok ((.getfield 9), 3) := by decide +kernel
theorem d82_66 : decode b82 66 = .ok ((.iload 6), 2) := by decide +kernel
theorem d82_68 : decode b82 68 = .ok (.iaload, 1) := by decide +kernel
theorem d82_69 : decode b82 69 = .ok ((.iload_n 3), 1) := by decide +kernel
theorem d82_70 : decode b82 70 = .ok ((.if_icmp .lt 18), 3) := by decide +kernel
theorem d82_73 : decode b82 73 = .ok ((.aload_n 0), 1) := by decide +kernel
theorem d82_74 : decode b82 74 = .ok ((.getfield 9), 3) := by decide +kernel
theorem d82_77 : decode b82 77 = .ok ((.iload 6), 2) := by decide +kernel
theorem d82_79 : decode b82 79 = .ok (.iaload, 1) := by decide +kernel
theorem d82_80 : decode b82 80 = .ok ((.iload 4), 2) := by decide +kernel
theorem d82_82 : decode b82 82 = .ok ((.if_icmp .gt 6), 3) := by decide +kernel
theorem d82_85 : decode b82 85 = .ok ((.iinc 5 (-1)), 3) := by decide +kernel
theorem d82_88 : decode b82 88 = .ok ((.iinc 6 1), 3) := by decide +kernel
theorem d82_91 : decode b82 91 = .ok ((.goto (-38)), 3) := by decide +kernel
theorem d82_94 : decode b82 94 = .ok ((.iload_n 1), 1) := by decide +kernel
theorem d82_95 : decode b82 95 = .ok ((.iload_n 2), 1) := by decide +kernel
theorem d82_96 : decode b82 96 = .ok ((.if_icmp .gt 9), 3) := by decide +kernel
theorem d82_99 : decode b82 99 = .ok ((.iload 5), 2) := by decide +kernel
theorem d82_101 : decode b82 101 = .ok (.i2d, 1) := by decide +kernel
theorem d82_102 : decode b82 102 = .ok ((.goto 7), 3) := by decide +kernel
theorem d82_105 : decode b82 105 = .ok ((.iload 5), 2) := by decide +kernel
theorem d82_107 : decode b82 107 = .ok (.ineg, 1) := by decide +kernel
theorem d82_108 : decode b82 108 = .ok (.i2d, 1) := by decide +kernel
theorem d82_109 : decode b82 109 = .ok ((.invokestatic 37), 3) := by decide +kernel
theorem d82_112 : decode b82 112 = .ok (.areturn, 1) := by decide +kernel
abbrev b81 : ByteArray := prog_5_method_20_code
theorem d81_0 : decode b81 0 = .ok ((.iload_n 1), 1) := by decide +kernel
theorem d81_1 : decode b81 1 = .ok ((.invokestatic 193), 3) := by decide +kernel
theorem d81_4 : decode b81 4 = .ok ((.iload_n 2), 1) := by decide +kernel
theorem d81_5 : decode b81 5 = .ok (.iadd, 1) := by decide +kernel
theorem d81_6 : decode b81 6 = .ok ((.istore_n 3), 1) := by decide +kernel
theorem d81_7 : decode b81 7 = .ok ((.iconst 0), 1) := by decide +kernel
theorem d81_8 : decode b81 8 = .ok ((.istore 4), 2) := by decide +kernel
theorem d81_10 : decode b81 10 = .ok ((.iload 4), 2) := by decide +kernel
theorem d81_12 : decode b81 12 = .ok ((.aload_n 0), 1) := by decide +kernel
theorem d81_13 : decode b81 13 = .ok ((.getfield 161), 3) := by decide +kernel
theorem d81_16 : decode b81 16 = .ok ((.if_icmp .ge 37), 3) := by decide +kernel
theorem d81_19 : decode b81 19 = .ok ((.aload_n 0), 1) := by decide +kernel
theorem d81_20 : decode b81 20 = .ok ((.getfield 9), 3) := by decide +kernel
theorem d81_23 : decode b81 23 = .ok ((.iload 4), 2) := by decide +kernel
theorem d81_25 : decode b81 25 = .ok (.iaload, 1) := by decide +kernel
theorem d81_26 : decode b81 26 = .ok ((.iload_n 1), 1) := by decide +kernel
theorem d81_27 : decode b81 27 = .ok ((.if_icmp .le 20), 3) := by decide +kernel
theorem d81_30 : decode b81 30 = .ok ((.aload_n 0), 1) := by decide +kernel
theorem d81_31 : decode b81 31 = .ok ((.getfield 9), 3) := by decide +kernel
theorem d81_34 : decode b81 34 = .ok ((.iload 4), 2) := by decide +kernel
theorem d81_36 : decode b81 36 = .ok (.iaload, 1) := by decide +kernel
theorem d81_37 : decode b81 37 = .ok ((.iload_n 3), 1) := by decide +kernel
theorem d81_38 : decode b81 38 = .ok ((.invokestatic 202), 3) := by decide +kernel
theorem d81_41 : decode b81 41 = .ok ((.if_icmp .gt 6), 3) := by decide +kernel
theorem d81_44 : decode b81 44 = .ok ((.iinc 3 1), 3) := by decide +kernel
theorem d81_47 : decode b81 47 = .ok ((.iinc 4 1), 3) := by decide +kernel
theorem d81_50 : decode b81 50 = .ok ((.goto (-40)), 3) := by decide +kernel
theorem d81_53 : decode b81 53 = .ok ((.iload_n 3), 1) := by decide +kernel
theorem d81_54 : decode b81 54 = .ok ((.invokestatic 202), 3) := by decide +kernel
theorem d81_57 : decode b81 57 = .ok (.ireturn, 1) := by decide +kernel
abbrev b80 : ByteArray := prog_5_method_21_code
theorem d80_0 : decode b80 0 = .ok ((.iload_n 1), 1) := by decide +kernel
theorem d80_1 : decode b80 1 = .ok ((.iconst 1), 1) := by decide +kernel
theorem d80_2 : decode b80 2 = .ok (.isub, 1) := by decide +kernel
theorem d80_3 : decode b80 3 = .ok ((.invokestatic 193), 3) := by decide +kernel
theorem d80_6 : decode b80 6 = .ok ((.iload_n 2), 1) := by decide +kernel
theorem d80_7 : decode b80 7 = .ok (.isub, 1) := by decide +kernel
theorem d80_8 : decode b80 8 = .ok ((.iconst 1), 1) := by decide +kernel
theorem d80_9 : decode b80 9 = .ok (.iadd, 1) := by decide +kernel
theorem d80_10 : decode b80 10 = .ok ((.istore_n 3), 1) := by decide +kernel
theorem d80_11 : decode b80 11 = .ok ((.aload_n 0), 1) := by decide +kernel
theorem d80_12 : decode b80 12 = .ok ((.getfield 161), 3) := by decide +kernel
theorem d80_15 : decode b80 15 = .ok ((.iconst 1), 1) := by decide +kernel
theorem d80_16 : decode b80 16 = .ok (.isub, 1) := by decide +kernel
theorem d80_17 : decode b80 17 = .ok ((.istore 4), 2) := by decide +kernel
theorem d80_19 : decode b80 19 = .ok ((.iload 4), 2) := by decide +kernel
theorem d80_21 : decode b80 21 = .ok ((.ifCond .lt 37), 3) := by decide +kernel
theorem d80_24 : decode b80 24 = .ok ((.aload_n 0), 1) := by decide +kernel
theorem d80_25 : decode b80 25 = .ok ((.getfield 9), 3) := by decide +kernel
theorem d80_28 : decode b80 28 = .ok ((.iload 4), 2) := by decide +kernel
theorem d80_30 : decode b80 30 = .ok (.iaload, 1) := by decide +kernel
theorem d80_31 : decode b80 31 = .ok ((.iload_n 1), 1) := by decide +kernel
theorem d80_32 : decode b80 32 = .ok ((.if_icmp .ge 20), 3) := by decide +kernel
theorem d80_35 : decode b80 35 = .ok ((.aload_n 0), 1) := by decide +kernel
theorem d80_36 : decode b80 36 = .ok ((.getfield 9), 3) := by decide +kernel
theorem d80_39 : decode b80 39 = .ok ((.iload 4), 2) := by decide +kernel
theorem d80_41 : decode b80 41 = .ok (.iaload, 1) := by decide +kernel
theorem d80_42 : decode b80 42 = .ok ((.iload_n 3), 1) := by decide +kernel
theorem d80_43 : decode b80 43 = .ok ((.invokestatic 202), 3) := by decide +kernel
theorem d80_46 : decode b80 46 = .ok ((.if_icmp .lt 6), 3) := by decide +kernel
theorem d80_49 : decode b80 49 = .ok ((.iinc 3 (-1)), 3) := by decide +kernel
theorem d80_52 : decode b80 52 = .ok ((.iinc 4 (-1)), 3) := by decide +kernel
theorem d80_55 : decode b80 55 = .ok ((.goto (-36)), 3) := by decide +kernel
theorem d80_58 : decode b80 58 = .ok ((.iload_n 3), 1) := by decide +kernel
theorem d80_59 : decode b80 59 = .ok ((.invokestatic 202), 3) := by decide +kernel
theorem d80_62 : decode b80 62 = .ok (.ireturn, 1) := by decide +kernel
abbrev b79 : ByteArray := prog_5_method_19_code
theorem d79_0 : decode b79 0 = .ok ((.aload_n 0), 1) := by decide +kernel
theorem d79_1 : decode b79 1 = .ok ((.getfield 15), 3) := by decide +kernel
theorem d79_4 : decode b79 4 = .ok ((.iconst 0), 1) := by decide +kernel
theorem d79_5 : decode b79 5 = .ok ((.invokevirtual 26), 3) := by decide +kernel
theorem d79_8 : decode b79 8 = .ok ((.istore_n 1), 1) := by decide +kernel
theorem d79_9 : decode b79 9 = .ok ((.aload_n 0), 1) := by decide +kernel
theorem d79_10 : decode b79 10 = .ok ((.getfield 15), 3) := by decide +kernel
theorem d79_13 : decode b79 13 = .ok ((.iconst 1), 1) := by decide +kernel
theorem d79_14 : decode b79 14 = .ok ((.invokevirtual 82), 3) := by decide +kernel
theorem d79_17 : decode b79 17 = .ok ((.istore_n 2), 1) := by decide +kernel
theorem d79_18 : decode b79 18 = .ok ((.aload_n 0), 1) := by decide +kernel
theorem d79_19 : decode b79 19 = .ok ((.iconst 2), 1) := by decide +kernel
theorem d79_20 : decode b79 20 = .ok ((.invokevirtual 187), 3) := by decide +kernel
theorem d79_23 : decode b79 23 = .ok ((.iload_n 2), 1) := by decide +kernel
theorem d79_24 : decode b79 24 = .ok ((.invokestatic 85), 3) := by decide +kernel
theorem d79_27 : decode b79 27 = .ok ((.ifCond .eq 9), 3) := by decide +kernel
theorem d79_30 : decode b79 30 = .ok ((.bipush 6), 2) := by decide +kernel
theorem d79_32 : decode b79 32 = .ok ((.invokestatic 76), 3) := by decide +kernel
theorem d79_35 : decode b79 35 = .ok (.areturn, 1) := by decide +kernel
theorem d79_36 : decode b79 36 = .ok ((.iload_n 2), 1) := by decide +kernel
theorem d79_37 : decode b79 37 = .ok ((.ifCond .ne 9), 3) := by decide +kernel
theorem d79_40 : decode b79 40 = .ok ((.iload_n 1), 1) := by decide +kernel
theorem d79_41 : decode b79 41 = .ok (.i2d, 1) := by decide +kernel
theorem d79_42 : decode b79 42 = .ok ((.invokestatic 37), 3) := by decide +kernel
theorem d79_45 : decode b79 45 = .ok (.areturn, 1) := by decide +kernel
theorem d79_46 : decode b79 46 = .ok ((.iload_n 2), 1) := by decide +kernel
theorem d79_47 : decode b79 47 = .ok ((.ifCond .le 12), 3) := by decide +kernel
theorem d79_50 : decode b79 50 = .ok ((.aload_n 0), 1) := by decide +kernel
theorem d79_51 : decode b79 51 = .ok ((.iload_n 1), 1) := by decide +kernel
theorem d79_52 : decode b79 52 = .ok ((.iload_n 2), 1) := by decide +kernel
theorem d79_53 : decode b79 53 = .ok ((.invokevirtual 196), 3) := by decide +kernel
theorem d79_56 : decode b79 56 = .ok ((.goto 10), 3) := by decide +kernel
theorem d79_59 : decode b79 59 = .ok ((.aload_n 0), 1) := by decide +kernel
theorem d79_60 : decode b79 60 = .ok ((.iload_n 1), 1) := by decide +kernel
theorem d79_61 : decode b79 61 = .ok ((.iload_n 2), 1) := by decide +kernel
theorem d79_62 : decode b79 62 = .ok (.ineg, 1) := by decide +kernel
theorem d79_63 : decode b79 63 = .ok ((.invokevirtual 199), 3) := by decide +kernel
theorem d79_66 : decode b79 66 = .ok ((.invokestatic 91), 3) := by decide +kernel
theorem d79_69 : decode b79 69 = .ok (.areturn, 1) := by decide +kernel
abbrev b72 : ByteArray := prog_5_method_2_code
theorem d72_0 : decode b72 0 = .ok ((.iload_n 1), 1) := by decide +kernel
theorem d72_1 : decode b72 1 = .ok ((.tableswitch 218 101 115 #[75, 80, 85, 104, 125, 141, 154, 169, 181, 186, 191, 197, 203, 208, 213]), 75) := by decide +kernel
theorem d72_76 : decode b72 76 = .ok ((.aload_n 0), 1) := by decide +kernel
theorem d72_77 : decode b72 77 = .ok ((.invokevirtual 19), 3) := by decide +kernel
theorem d72_80 : decode b72 80 = .ok (.areturn, 1) := by decide +kernel
theorem d72_81 : decode b72 81 = .ok ((.aload_n 0), 1) := by decide +kernel
theorem d72_82 : decode b72 82 = .ok ((.invokevirtual 23), 3) := by decide +kernel
theorem d72_85 : decode b72 85 = .ok (.areturn, 1) := by decide +kernel
theorem d72_86 : decode b72 86 = .ok ((.aload_n 0), 1) := by decide +kernel
theorem d72_87 : decode b72 87 = .ok ((.getfield 15), 3) := by decide +kernel
theorem d72_90 : decode b72 90 = .ok ((.iconst 0), 1) := by decide +kernel
theorem d72_91 : decode b72 91 = .ok ((.invokevirtual 26), 3) := by decide +kernel
theorem d72_94 : decode b72 94 = .ok ((.invokestatic 32), 3) := by decide +kernel
theorem d72_97 : decode b72 97 = .ok ((.bipush 12), 2) := by decide +kernel
theorem d72_99 : decode b72 99 = .ok (.idiv, 1) := by decide +kernel
theorem d72_100 : decode b72 100 = .ok (.i2d, 1) := by decide +kernel
theorem d72_101 : decode b72 101 = .ok ((.invokestatic 37), 3) := by decide +kernel
theorem d72_104 : decode b72 104 = .ok (.areturn, 1) := by decide +kernel
theorem d72_105 : decode b72 105 = .ok ((.aload_n 0), 1) := by decide +kernel
theorem d72_106 : decode b72 106 = .ok ((.getfield 15), 3) := by decide +kernel
theorem d72_109 : decode b72 109 = .ok ((.iconst 0), 1) := by decide +kernel
theorem d72_110 : decode b72 110 = .ok ((.invokevirtual 26), 3) := by decide +kernel
theorem d72_113 : decode b72 113 = .ok ((.invokestatic 32), 3) := by decide +kernel
theorem d72_116 : decode b72 116 = .ok ((.bipush 12), 2) := by decide +kernel
theorem d72_118 : decode b72 118 = .ok (.irem, 1) := by decide +kernel
theorem d72_119 : decode b72 119 = .ok ((.iconst 1), 1) := by decide +kernel
theorem d72_120 : decode b72 120 = .ok (.iadd, 1) := by decide +kernel
theorem d72_121 : decode b72 121 = .ok (.i2d, 1) := by decide +kernel
theorem d72_122 : decode b72 122 = .ok ((.invokestatic 37), 3) := by decide +kernel
theorem d72_125 : decode b72 125 = .ok (.areturn, 1) := by decide +kernel
theorem d72_126 : decode b72 126 = .ok ((.aload_n 0), 1) := by decide +kernel
theorem d72_127 : decode b72 127 = .ok ((.getfield 15), 3) := by decide +kernel
theorem d72_130 : decode b72 130 = .ok ((.iconst 0), 1) := by decide +kernel
theorem d72_131 : decode b72 131 = .ok ((.invokevirtual 26), 3) := by decide +kernel
theorem d72_134 : decode b72 134 = .ok ((.invokestatic 43), 3) := by decide +kernel
theorem d72_137 : decode b72 137 = .ok (.i2d, 1) := by decide +kernel
theorem d72_138 : decode b72 138 = .ok ((.invokestatic 37), 3) := by decide +kernel
theorem d72_141 : decode b72 141 = .ok (.areturn, 1) := by decide +kernel
theorem d72_142 : decode b72 142 = .ok ((.aload_n 0), 1) := by decide +kernel
theorem d72_143 : decode b72 143 = .ok ((.invokevirtual 46), 3) := by decide +kernel
theorem d72_146 : decode b72 146 = .ok ((.sipush 3600), 3) := by decide +kernel
theorem d72_149 : decode b72 149 = .ok (.idiv, 1) := by decide +kernel
theorem d72_150 : decode b72 150 = .ok (.i2d, 1) := by decide +kernel
theorem d72_151 : decode b72 151 = .ok ((.invokestatic 37), 3) := by decide +kernel
theorem d72_154 : decode b72 154 = .ok (.areturn, 1) := by decide +kernel
theorem d72_155 : decode b72 155 = .ok ((.aload_n 0), 1) := by decide +kernel
theorem d72_156 : decode b72 156 = .ok ((.invokevirtual 46), 3) := by decide +kernel
theorem d72_159 : decode b72 159 = .ok ((.bipush 60), 2) := by decide +kernel
theorem d72_161 : decode b72 161 = .ok (.idiv, 1) := by decide +kernel
theorem d72_162 : decode b72 162 = .ok ((.bipush 60), 2) := by decide +kernel
theorem d72_164 : decode b72 164 = .ok (.irem, 1) := by decide +kernel
theorem d72_165 : decode b72 165 = .ok (.i2d, 1) := by decide +kernel
theorem d72_166 : decode b72 166 = .ok ((.invokestatic 37), 3) := by decide +kernel
theorem d72_169 : decode b72 169 = .ok (.areturn, 1) := by decide +kernel
theorem d72_170 : decode b72 170 = .ok ((.aload_n 0), 1) := by decide +kernel
theorem d72_171 : decode b72 171 = .ok ((.invokevirtual 46), 3) := by decide +kernel
theorem d72_174 : decode b72 174 = .ok ((.bipush 60), 2) := by decide +kernel
theorem d72_176 : decode b72 176 = .ok (.irem, 1) := by decide +kernel
theorem d72_177 : decode b72 177 = .ok (.i2d, 1) := by decide +kernel
theorem d72_178 : decode b72 178 = .ok ((.invokestatic 37), 3) := by decide +kernel
theorem d72_181 : decode b72 181 = .ok (.areturn, 1) := by decide +kernel
theorem d72_182 : decode b72 182 = .ok ((.aload_n 0), 1) := by decide +kernel
theorem d72_183 : decode b72 183 = .ok ((.invokevirtual 50), 3) := by decide +kernel
theorem d72_186 : decode b72 186 = .ok (.areturn, 1) := by decide +kernel
theorem d72_187 : decode b72 187 = .ok ((.aload_n 0), 1) := by decide +kernel
theorem d72_188 : decode b72 188 = .ok ((.invokevirtual 53), 3) := by decide +kernel
theorem d72_191 : decode b72 191 = .ok (.areturn, 1) := by decide +kernel
theorem d72_192 : decode b72 192 = .ok ((.aload_n 0), 1) := by decide +kernel
theorem d72_193 : decode b72 193 = .ok ((.iconst 0), 1) := by decide +kernel
theorem d72_194 : decode b72 194 = .ok ((.invokevirtual 56), 3) := by decide +kernel
theorem d72_197 : decode b72 197 = .ok (.areturn, 1) := by decide +kernel
theorem d72_198 : decode b72 198 = .ok ((.aload_n 0), 1) := by decide +kernel
theorem d72_199 : decode b72 199 = .ok ((.iconst 1), 1) := by decide +kernel
theorem d72_200 : decode b72 200 = .ok ((.invokevirtual 56), 3) := by decide +kernel
theorem d72_203 : decode b72 203 = .ok (.areturn, 1) := by decide +kernel
theorem d72_204 : decode b72 204 = .ok ((.aload_n 0), 1) := by decide +kernel
theorem d72_205 : decode b72 205 = .ok ((.invokevirtual 60), 3) := by decide +kernel
theorem d72_208 : decode b72 208 = .ok (.areturn, 1) := by decide +kernel
theorem d72_209 : decode b72 209 = .ok ((.aload_n 0), 1) := by decide +kernel
theorem d72_210 : decode b72 210 = .ok ((.invokevirtual 63), 3) := by decide +kernel
theorem d72_213 : decode b72 213 = .ok (.areturn, 1) := by decide +kernel
theorem d72_214 : decode b72 214 = .ok ((.aload_n 0), 1) := by decide +kernel
theorem d72_215 : decode b72 215 = .ok ((.invokevirtual 66), 3) := by decide +kernel
theorem d72_218 : decode b72 218 = .ok (.areturn, 1) := by decide +kernel
theorem d72_219 : decode b72 219 = .ok ((.aload_n 0), 1) := by decide +kernel
theorem d72_220 : decode b72 220 = .ok ((.invokevirtual 69), 3) := by decide +kernel
theorem d72_223 : decode b72 223 = .ok (.areturn, 1) := by decide +kernel
abbrev b86 : ByteArray := prog_7_method_3_code
theorem d86_0 : decode b86 0 = .ok ((.aload_n 0), 1) := by decide +kernel
theorem d86_1 : decode b86 1 = .ok ((.getfield 9), 3) := by decide +kernel
theorem d86_4 : decode b86 4 = .ok ((.iconst 0), 1) := by decide +kernel
theorem d86_5 : decode b86 5 = .ok ((.invokevirtual 55), 3) := by decide +kernel
theorem d86_8 : decode b86 8 = .ok ((.iconst 1), 1) := by decide +kernel
theorem d86_9 : decode b86 9 = .ok ((.if_icmp .le 6), 3) := by decide +kernel
theorem d86_12 : decode b86 12 = .ok ((.bipush 64), 2) := by decide +kernel
theorem d86_14 : decode b86 14 = .ok (.ireturn, 1) := by decide +kernel
theorem d86_15 : decode b86 15 = .ok ((.aload_n 1), 1) := by decide +kernel
theorem d86_16 : decode b86 16 = .ok ((.getfield 21), 3) := by decide +kernel
theorem d86_19 : decode b86 19 = .ok ((.tableswitch 32 2 4 #[25, 27, 29]), 25) := by decide +kernel
theorem d86_44 : decode b86 44 = .ok ((.iconst 2), 1) := by decide +kernel
theorem d86_45 : decode b86 45 = .ok (.ireturn, 1) := by decide +kernel
theorem d86_46 : decode b86 46 = .ok ((.iconst 4), 1) := by decide +kernel
theorem d86_47 : decode b86 47 = .ok (.ireturn, 1) := by decide +kernel
theorem d86_48 : decode b86 48 = .ok ((.bipush 16), 2) := by decide +kernel
theorem d86_50 : decode b86 50 = .ok (.ireturn, 1) := by decide +kernel
theorem d86_51 : decode b86 51 = .ok ((.iconst 1), 1) := by decide +kernel
theorem d86_52 : decode b86 52 = .ok (.ireturn, 1) := by decide +kernel
abbrev b85 : ByteArray := prog_7_method_2_code
theorem d85_0 : decode b85 0 = .ok ((.aload_n 0), 1) := by decide +kernel
theorem d85_1 : decode b85 1 = .ok ((.getfield 9), 3) := by decide +kernel
theorem d85_4 : decode b85 4 = .ok ((.iconst 0), 1) := by decide +kernel
theorem d85_5 : decode b85 5 = .ok ((.iconst 0), 1) := by decide +kernel
theorem d85_6 : decode b85 6 = .ok ((.invokevirtual 15), 3) := by decide +kernel
theorem d85_9 : decode b85 9 = .ok ((.astore_n 2), 1) := by decide +kernel
theorem d85_10 : decode b85 10 = .ok ((.aload_n 2), 1) := by decide +kernel
theorem d85_11 : decode b85 11 = .ok ((.getfield 21), 3) := by decide +kernel
theorem d85_14 : decode b85 14 = .ok ((.iconst 4), 1) := by decide +kernel
theorem d85_15 : decode b85 15 = .ok ((.if_icmp .ne 18), 3) := by decide +kernel
theorem d85_18 : decode b85 18 = .ok ((.aload_n 2), 1) := by decide +kernel
theorem d85_19 : decode b85 19 = .ok ((.getfield 27), 3) := by decide +kernel
theorem d85_22 : decode b85 22 = .ok ((.ldc2_w 31), 3) := by decide +kernel
theorem d85_25 : decode b85 25 = .ok ((.dcmp .l), 1) := by decide +kernel
theorem d85_26 : decode b85 26 = .ok ((.ifCond .ne 7), 3) := by decide +kernel
theorem d85_29 : decode b85 29 = .ok ((.iconst 1), 1) := by decide +kernel
theorem d85_30 : decode b85 30 = .ok ((.goto 4), 3) := by decide +kernel
theorem d85_33 : decode b85 33 = .ok ((.iconst 0), 1) := by decide +kernel
theorem d85_34 : decode b85 34 = .ok ((.istore_n 3), 1) := by decide +kernel
theorem d85_35 : decode b85 35 = .ok ((.iload_n 1), 1) := by decide +kernel
theorem d85_36 : decode b85 36 = .ok ((.tableswitch 279 119 131 #[68, 84, 101, 118, 135, 152, 169, 190, 195, 217, 239, 245, 255]), 68) := by decide +kernel
theorem d85_104 : decode b85 104 = .ok ((.aload_n 2), 1) := by decide +kernel
theorem d85_105 : decode b85 105 = .ok ((.getfield 21), 3) := by decide +kernel
theorem d85_108 : decode b85 108 = .ok ((.ifCond .ne 7), 3) := by decide +kernel
theorem d85_111 : decode b85 111 = .ok ((.iconst 1), 1) := by decide +kernel
theorem d85_112 : decode b85 112 = .ok ((.goto 4), 3) := by decide +kernel
theorem d85_115 : decode b85 115 = .ok ((.iconst 0), 1) := by decide +kernel
theorem d85_116 : decode b85 116 = .ok ((.invokestatic 33), 3) := by decide +kernel
theorem d85_119 : decode b85 119 = .ok (.areturn, 1) := by decide +kernel
theorem d85_120 : decode b85 120 = .ok ((.aload_n 2), 1) := by decide +kernel
theorem d85_121 : decode b85 121 = .ok ((.getfield 21), 3) := by decide +kernel
theorem d85_124 : decode b85 124 = .ok ((.iconst 1), 1) := by decide +kernel
theorem d85_125 : decode b85 125 = .ok ((.if_icmp .ne 7), 3) := by decide +kernel
theorem d85_128 : decode b85 128 = .ok ((.iconst 1), 1) := by decide +kernel
theorem d85_129 : decode b85 129 = .ok ((.goto 4), 3) := by decide +kernel
theorem d85_132 : decode b85 132 = .ok ((.iconst 0), 1) := by decide +kernel
theorem d85_133 : decode b85 133 = .ok ((.invokestatic 33), 3) := by decide +kernel
theorem d85_136 : decode b85 136 = .ok (.areturn, 1) := by decide +kernel
theorem d85_137 : decode b85 137 = .ok ((.aload_n 2), 1) := by decide +kernel
theorem d85_138 : decode b85 138 = .ok ((.getfield 21), 3) := by decide +kernel
theorem d85_141 : decode b85 141 = .ok ((.iconst 2), 1) := by decide +kernel
theorem d85_142 : decode b85 142 = .ok ((.if_icmp .ne 7), 3) := by decide +kernel
theorem d85_145 : decode b85 145 = .ok ((.iconst 1), 1) := by decide +kernel
theorem d85_146 : decode b85 146 = .ok ((.goto 4), 3) := by decide +kernel
theorem d85_149 : decode b85 149 = .ok ((.iconst 0), 1) := by decide +kernel
theorem d85_150 : decode b85 150 = .ok ((.invokestatic 33), 3) := by decide +kernel
theorem d85_153 : decode b85 153 = .ok (.areturn, 1) := by decide +kernel
theorem d85_154 : decode b85 154 = .ok ((.aload_n 2), 1) := by decide +kernel
theorem d85_155 : decode b85 155 = .ok ((.getfield 21), 3) := by decide +kernel
theorem d85_158 : decode b85 158 = .ok ((.iconst 2), 1) := by decide +kernel
theorem d85_159 : decode b85 159 = .ok ((.if_icmp .eq 7), 3) := by decide +kernel
theorem d85_162 : decode b85 162 = .ok ((.iconst 1), 1) := by decide +kernel
theorem d85_163 : decode b85 163 = .ok ((.goto 4), 3) := by decide +kernel
theorem d85_166 : decode b85 166 = .ok ((.iconst 0), 1) := by decide +kernel
theorem d85_167 : decode b85 167 = .ok ((.invokestatic 33), 3) := by decide +kernel
theorem d85_170 : decode b85 170 = .ok (.areturn, 1) := by decide +kernel
theorem d85_171 : decode b85 171 = .ok ((.aload_n 2), 1) := by decide +kernel
theorem d85_172 : decode b85 172 = .ok ((.getfield 21), 3) := by decide +kernel
theorem d85_175 : decode b85 175 = .ok ((.iconst 3), 1) := by decide +kernel
theorem d85_176 : decode b85 176 = .ok ((.if_icmp .ne 7), 3) := by decide +kernel
theorem d85_179 : decode b85 179 = .ok ((.iconst 1), 1) := by decide +kernel
theorem d85_180 : decode b85 180 = .ok ((.goto 4), 3) := by decide +kernel
theorem d85_183 : decode b85 183 = .ok ((.iconst 0), 1) := by decide +kernel
theorem d85_184 : decode b85 184 = .ok ((.invokestatic 33), 3) := by decide +kernel
theorem d85_187 : decode b85 187 = .ok (.areturn, 1) := by decide +kernel
theorem d85_188 : decode b85 188 = .ok ((.aload_n 2), 1) := by decide +kernel
theorem d85_189 : decode b85 189 = .ok ((.getfield 21), 3) := by decide +kernel
theorem d85_192 : decode b85 192 = .ok ((.iconst 4), 1) := by decide +kernel
theorem d85_193 : decode b85 193 = .ok ((.if_icmp .ne 7), 3) := by decide +kernel
theorem d85_196 : decode b85 196 = .ok ((.iconst 1), 1) := by decide +kernel
theorem d85_197 : decode b85 197 = .ok ((.goto 4), 3) := by decide +kernel
theorem d85_200 : decode b85 200 = .ok ((.iconst 0), 1) := by decide +kernel
theorem d85_201 : decode b85 201 = .ok ((.invokestatic 33), 3) := by decide +kernel
theorem d85_204 : decode b85 204 = .ok (.areturn, 1) := by decide +kernel
theorem d85_205 : decode b85 205 = .ok ((.aload_n 2), 1) := by decide +kernel
theorem d85_206 : decode b85 206 = .ok ((.getfield 21), 3) := by decide +kernel
theorem d85_209 : decode b85 209 = .ok ((.iconst 4), 1) := by decide +kernel
theorem d85_210 : decode b85 210 = .ok ((.if_icmp .ne 11), 3) := by decide +kernel
theorem d85_213 : decode b85 213 = .ok ((.iload_n 3), 1) := by decide +kernel
theorem d85_214 : decode b85 214 = .ok ((.ifCond .ne 7), 3) := by decide +kernel
theorem d85_217 : decode b85 217 = .ok ((.iconst 1), 1) := by decide +kernel
theorem d85_218 : decode b85 218 = .ok ((.goto 4), 3) := by decide +kernel
theorem d85_221 : decode b85 221 = .ok ((.iconst 0), 1) := by decide +kernel
theorem d85_222 : decode b85 222 = .ok ((.invokestatic 33), 3) := by decide +kernel
theorem d85_225 : decode b85 225 = .ok (.areturn, 1) := by decide +kernel
theorem d85_226 : decode b85 226 = .ok ((.iload_n 3), 1) := by decide +kernel
theorem d85_227 : decode b85 227 = .ok ((.invokestatic 33), 3) := by decide +kernel
theorem d85_230 : decode b85 230 = .ok (.areturn, 1) := by decide +kernel
theorem d85_231 : decode b85 231 = .ok ((.aload_n 0), 1) := by decide +kernel
theorem d85_232 : decode b85 232 = .ok ((.getfield 9), 3) := by decide +kernel
theorem d85_235 : decode b85 235 = .ok ((.iconst 0), 1) := by decide +kernel
theorem d85_236 : decode b85 236 = .ok ((.invokevirtual 37), 3) := by decide +kernel
theorem d85_239 : decode b85 239 = .ok ((.iconst 2), 1) := by decide +kernel
theorem d85_240 : decode b85 240 = .ok (.irem, 1) := by decide +kernel
theorem d85_241 : decode b85 241 = .ok ((.ifCond .ne 7), 3) := by decide +kernel
theorem d85_244 : decode b85 244 = .ok ((.iconst 1), 1) := by decide +kernel
theorem d85_245 : decode b85 245 = .ok ((.goto 4), 3) := by decide +kernel
theorem d85_248 : decode b85 248 = .ok ((.iconst 0), 1) := by decide +kernel
theorem d85_249 : decode b85 249 = .ok ((.invokestatic 33), 3) := by decide +kernel
theorem d85_252 : decode b85 252 = .ok (.areturn, 1) := by decide +kernel
theorem d85_253 : decode b85 253 = .ok ((.aload_n 0), 1) := by decide +kernel
theorem d85_254 : decode b85 254 = .ok ((.getfield 9), 3) := by decide +kernel
theorem d85_257 : decode b85 257 = .ok ((.iconst 0), 1) := by decide +kernel
theorem d85_258 : decode b85 258 = .ok ((.invokevirtual 37), 3) := by decide +kernel
theorem d85_261 : decode b85 261 = .ok ((.iconst 2), 1) := by decide +kernel
theorem d85_262 : decode b85 262 = .ok (.irem, 1) := by decide +kernel
theorem d85_263 : decode b85 263 = .ok ((.ifCond .eq 7), 3) := by decide +kernel
theorem d85_266 : decode b85 266 = .ok ((.iconst 1), 1) := by decide +kernel
theorem d85_267 : decode b85 267 = .ok ((.goto 4), 3) := by decide +kernel
theorem d85_270 : decode b85 270 = .ok ((.iconst 0), 1) := by decide +kernel
theorem d85_271 : decode b85 271 = .ok ((.invokestatic 33), 3) := by decide +kernel
theorem d85_274 : decode b85 274 = .ok (.areturn, 1) := by decide +kernel
theorem d85_275 : decode b85 275 = .ok ((.bipush 7), 2) := by decide +kernel
theorem d85_277 : decode b85 277 = .ok ((.invokestatic 41), 3) := by decide +kernel
theorem d85_280 : decode b85 280 = .ok (.areturn, 1) := by decide +kernel
theorem d85_281 : decode b85 281 = .ok ((.aload_n 0), 1) := by decide +kernel
theorem d85_282 : decode b85 282 = .ok ((.aload_n 2), 1) := by decide +kernel
theorem d85_283 : decode b85 283 = .ok ((.invokevirtual 45), 3) := by decide +kernel
theorem d85_286 : decode b85 286 = .ok (.i2d, 1) := by decide +kernel
theorem d85_287 : decode b85 287 = .ok ((.invokestatic 49), 3) := by decide +kernel
theorem d85_290 : decode b85 290 = .ok (.areturn, 1) := by decide +kernel
theorem d85_291 : decode b85 291 = .ok ((.aload_n 2), 1) := by decide +kernel
theorem d85_292 : decode b85 292 = .ok ((.getfield 21), 3) := by decide +kernel
theorem d85_295 : decode b85 295 = .ok ((.iconst 4), 1) := by decide +kernel
theorem d85_296 : decode b85 296 = .ok ((.if_icmp .ne 13), 3) := by decide +kernel
theorem d85_299 : decode b85 299 = .ok ((.aload_n 2), 1) := by decide +kernel
theorem d85_300 : decode b85 300 = .ok ((.getfield 27), 3) := by decide +kernel
theorem d85_303 : decode b85 303 = .ok ((.invokestatic 49), 3) := by decide +kernel
theorem d85_306 : decode b85 306 = .ok ((.goto 8), 3) := by decide +kernel
theorem d85_309 : decode b85 309 = .ok ((.bipush 7), 2) := by decide +kernel
theorem d85_311 : decode b85 311 = .ok ((.invokestatic 41), 3) := by decide +kernel
theorem d85_314 : decode b85 314 = .ok (.areturn, 1) := by decide +kernel
theorem d85_315 : decode b85 315 = .ok ((.ldc2_w 53), 3) := by decide +kernel
theorem d85_318 : decode b85 318 = .ok ((.invokestatic 49), 3) := by decide +kernel
theorem d85_321 : decode b85 321 = .ok (.areturn, 1) := by decide +kernel
abbrev b89 : ByteArray := prog_8_method_13_code
theorem d89_0 : decode b89 0 = .ok ((.iload_n 1), 1) := by decide +kernel
theorem d89_1 : decode b89 1 = .ok ((.sipush 703), 3) := by decide +kernel
theorem d89_4 : decode b89 4 = .ok ((.if_icmp .lt 21), 3) := by decide +kernel
theorem d89_7 : decode b89 7 = .ok ((.aload_n 0), 1) := by decide +kernel
theorem d89_8 : decode b89 8 = .ok ((.bipush 65), 2) := by decide +kernel
theorem d89_10 : decode b89 10 = .ok ((.iload_n 1), 1) := by decide +kernel
theorem d89_11 : decode b89 11 = .ok ((.sipush 703), 3) := by decide +kernel
theorem d89_14 : decode b89 14 = .ok (.isub, 1) := by decide +kernel
theorem d89_15 : decode b89 15 = .ok ((.sipush 676), 3) := by decide +kernel
theorem d89_18 : decode b89 18 = .ok (.idiv, 1) := by decide +kernel
theorem d89_19 : decode b89 19 = .ok (.iadd, 1) := by decide +kernel
theorem d89_20 : decode b89 20 = .ok (.i2c, 1) := by decide +kernel
theorem d89_21 : decode b89 21 = .ok ((.invokevirtual 198), 3) := by decide +kernel
theorem d89_24 : decode b89 24 = .ok (.pop, 1) := by decide +kernel
theorem d89_25 : decode b89 25 = .ok ((.iload_n 1), 1) := by decide +kernel
theorem d89_26 : decode b89 26 = .ok ((.bipush 27), 2) := by decide +kernel
theorem d89_28 : decode b89 28 = .ok ((.if_icmp .lt 22), 3) := by decide +kernel
theorem d89_31 : decode b89 31 = .ok ((.aload_n 0), 1) := by decide +kernel
theorem d89_32 : decode b89 32 = .ok ((.bipush 65), 2) := by decide +kernel
theorem d89_34 : decode b89 34 = .ok ((.iload_n 1), 1) := by decide +kernel
theorem d89_35 : decode b89 35 = .ok ((.bipush 27), 2) := by decide +kernel
theorem d89_37 : decode b89 37 = .ok (.isub, 1) := by decide +kernel
theorem d89_38 : decode b89 38 = .ok ((.bipush 26), 2) := by decide +kernel
theorem d89_40 : decode b89 40 = .ok (.idiv, 1) := by decide +kernel
theorem d89_41 : decode b89 41 = .ok ((.bipush 26), 2) := by decide +kernel
theorem d89_43 : decode b89 43 = .ok (.irem, 1) := by decide +kernel
theorem d89_44 : decode b89 44 = .ok (.iadd, 1) := by decide +kernel
theorem d89_45 : decode b89 45 = .ok (.i2c, 1) := by decide +kernel
theorem d89_46 : decode b89 46 = .ok ((.invokevirtual 198), 3) := by decide +kernel
theorem d89_49 : decode b89 49 = .ok (.pop, 1) := by decide +kernel
theorem d89_50 : decode b89 50 = .ok ((.aload_n 0), 1) := by decide +kernel
theorem d89_51 : decode b89 51 = .ok ((.bipush 65), 2) := by decide +kernel
theorem d89_53 : decode b89 53 = .ok ((.iload_n 1), 1) := by decide +kernel
theorem d89_54 : decode b89 54 = .ok ((.iconst 1), 1) := by decide +kernel
theorem d89_55 : decode b89 55 = .ok (.isub, 1) := by decide +kernel
theorem d89_56 : decode b89 56 = .ok ((.bipush 26), 2) := by decide +kernel
theorem d89_58 : decode b89 58 = .ok (.irem, 1) := by decide +kernel
theorem d89_59 : decode b89 59 = .ok (.iadd, 1) := by decide +kernel
theorem d89_60 : decode b89 60 = .ok (.i2c, 1) := by decide +kernel
theorem d89_61 : decode b89 61 = .ok ((.invokevirtual 198), 3) := by decide +kernel
theorem d89_64 : decode b89 64 = .ok (.pop, 1) := by decide +kernel
theorem d89_65 : decode b89 65 = .ok (.return_, 1) := by decide +kernel
abbrev b90 : ByteArray := prog_8_method_14_code
theorem d90_0 : decode b90 0 = .ok ((.aload_n 0), 1) := by decide +kernel
theorem d90_1 : decode b90 1 = .ok ((.iload_n 1), 1) := by decide +kernel
theorem d90_2 : decode b90 2 = .ok ((.invokevirtual 198), 3) := by decide +kernel
theorem d90_5 : decode b90 5 = .ok (.pop, 1) := by decide +kernel
theorem d90_6 : decode b90 6 = .ok ((.aload_n 0), 1) := by decide +kernel
theorem d90_7 : decode b90 7 = .ok ((.iload_n 3), 1) := by decide +kernel
theorem d90_8 : decode b90 8 = .ok ((.ifCond .eq 8), 3) := by decide +kernel
theorem d90_11 : decode b90 11 = .ok ((.ldc 203), 2) := by decide +kernel
theorem d90_13 : decode b90 13 = .ok ((.goto 5), 3) := by decide +kernel
theorem d90_16 : decode b90 16 = .ok ((.ldc 220), 2) := by decide +kernel
theorem d90_18 : decode b90 18 = .ok ((.invokevirtual 194), 3) := by decide +kernel
theorem d90_21 : decode b90 21 = .ok (.pop, 1) := by decide +kernel
theorem d90_22 : decode b90 22 = .ok ((.aload_n 0), 1) := by decide +kernel
theorem d90_23 : decode b90 23 = .ok ((.iload_n 2), 1) := by decide +kernel
theorem d90_24 : decode b90 24 = .ok ((.invokevirtual 209), 3) := by decide +kernel
theorem d90_27 : decode b90 27 = .ok (.pop, 1) := by decide +kernel
theorem d90_28 : decode b90 28 = .ok ((.aload_n 0), 1) := by decide +kernel
theorem d90_29 : decode b90 29 = .ok ((.iload_n 3), 1) := by decide +kernel
theorem d90_30 : decode b90 30 = .ok ((.ifCond .eq 8), 3) := by decide +kernel
theorem d90_33 : decode b90 33 = .ok ((.ldc 203), 2) := by decide +kernel
theorem d90_35 : decode b90 35 = .ok ((.goto 5), 3) := by decide +kernel
theorem d90_38 : decode b90 38 = .ok ((.ldc 222), 2) := by decide +kernel
theorem d90_40 : decode b90 40 = .ok ((.invokevirtual 194), 3) := by decide +kernel
theorem d90_43 : decode b90 43 = .ok (.pop, 1) := by decide +kernel
theorem d90_44 : decode b90 44 = .ok (.return_, 1) := by decide +kernel
abbrev b88 : ByteArray := prog_8_method_12_code
theorem d88_0 : decode b88 0 = .ok ((.aload_n 0), 1) := by decide +kernel
theorem d88_1 : decode b88 1 = .ok ((.getfield 9), 3) := by decide +kernel
theorem d88_4 : decode b88 4 = .ok ((.iconst 0), 1) := by decide +kernel
theorem d88_5 : decode b88 5 = .ok ((.invokevirtual 115), 3) := by decide +kernel
theorem d88_8 : decode b88 8 = .ok ((.istore_n 1), 1) := by decide +kernel
theorem d88_9 : decode b88 9 = .ok ((.aload_n 0), 1) := by decide +kernel
theorem d88_10 : decode b88 10 = .ok ((.getfield 9), 3) := by decide +kernel
theorem d88_13 : decode b88 13 = .ok ((.iconst 1), 1) := by decide +kernel
theorem d88_14 : decode b88 14 = .ok ((.invokevirtual 115), 3) := by decide +kernel
theorem d88_17 : decode b88 17 = .ok ((.istore_n 2), 1) := by decide +kernel
theorem d88_18 : decode b88 18 = .ok ((.aload_n 0), 1) := by decide +kernel
theorem d88_19 : decode b88 19 = .ok ((.getfield 9), 3) := by decide +kernel
theorem d88_22 : decode b88 22 = .ok ((.iconst 2), 1) := by decide +kernel
theorem d88_23 : decode b88 23 = .ok ((.iconst 1), 1) := by decide +kernel
theorem d88_24 : decode b88 24 = .ok ((.invokevirtual 141), 3) := by decide +kernel
theorem d88_27 : decode b88 27 = .ok ((.istore_n 3), 1) := by decide +kernel
theorem d88_28 : decode b88 28 = .ok ((.aload_n 0), 1) := by decide +kernel
theorem d88_29 : decode b88 29 = .ok ((.getfield 9), 3) := by decide +kernel
theorem d88_32 : decode b88 32 = .ok ((.iconst 3), 1) := by decide +kernel
theorem d88_33 : decode b88 33 = .ok ((.iconst 1), 1) := by decide +kernel
theorem d88_34 : decode b88 34 = .ok ((.invokevirtual 118), 3) := by decide +kernel
theorem d88_37 : decode b88 37 = .ok ((.istore 4), 2) := by decide +kernel
theorem d88_39 : decode b88 39 = .ok ((.aload_n 0), 1) := by decide +kernel
theorem d88_40 : decode b88 40 = .ok ((.getfield 9), 3) := by decide +kernel
theorem d88_43 : decode b88 43 = .ok ((.iconst 4), 1) := by decide +kernel
theorem d88_44 : decode b88 44 = .ok ((.invokevirtual 134), 3) := by decide +kernel
theorem d88_47 : decode b88 47 = .ok ((.ifCond .ne 7), 3) := by decide +kernel
theorem d88_50 : decode b88 50 = .ok ((.iconst 1), 1) := by decide +kernel
theorem d88_51 : decode b88 51 = .ok ((.goto 4), 3) := by decide +kernel
theorem d88_54 : decode b88 54 = .ok ((.iconst 0), 1) := by decide +kernel
theorem d88_55 : decode b88 55 = .ok ((.istore 5), 2) := by decide +kernel
theorem d88_57 : decode b88 57 = .ok ((.aload_n 0), 1) := by decide +kernel
theorem d88_58 : decode b88 58 = .ok ((.getfield 9), 3) := by decide +kernel
theorem d88_61 : decode b88 61 = .ok ((.iconst 4), 1) := by decide +kernel
theorem d88_62 : decode b88 62 = .ok ((.invokevirtual 185), 3) := by decide +kernel
theorem d88_65 : decode b88 65 = .ok ((.astore 6), 2) := by decide +kernel
theorem d88_67 : decode b88 67 = .ok ((.iload_n 1), 1) := by decide +kernel
theorem d88_68 : decode b88 68 = .ok ((.iload_n 2), 1) := by decide +kernel
theorem d88_69 : decode b88 69 = .ok ((.invokestatic 188), 3) := by decide +kernel
theorem d88_72 : decode b88 72 = .ok ((.ifCond .eq 13), 3) := by decide +kernel
theorem d88_75 : decode b88 75 = .ok ((.iload_n 3), 1) := by decide +kernel
theorem d88_76 : decode b88 76 = .ok ((.iconst 1), 1) := by decide +kernel
theorem d88_77 : decode b88 77 = .ok ((.if_icmp .lt 8), 3) := by decide +kernel
theorem d88_80 : decode b88 80 = .ok ((.iload_n 3), 1) := by decide +kernel
theorem d88_81 : decode b88 81 = .ok ((.iconst 4), 1) := by decide +kernel
theorem d88_82 : decode b88 82 = .ok ((.if_icmp .le 8), 3) := by decide +kernel
theorem d88_85 : decode b88 85 = .ok ((.iconst 3), 1) := by decide +kernel
theorem d88_86 : decode b88 86 = .ok ((.invokestatic 122), 3) := by decide +kernel
theorem d88_89 : decode b88 89 = .ok (.areturn, 1) := by decide +kernel
theorem d88_90 : decode b88 90 = .ok ((.iload_n 3), 1) := by decide +kernel
theorem d88_91 : decode b88 91 = .ok ((.iconst 2), 1) := by decide +kernel
theorem d88_92 : decode b88 92 = .ok ((.if_icmp .gt 7), 3) := by decide +kernel
theorem d88_95 : decode b88 95 = .ok ((.iconst 1), 1) := by decide +kernel
theorem d88_96 : decode b88 96 = .ok ((.goto 4), 3) := by decide +kernel
theorem d88_99 : decode b88 99 = .ok ((.iconst 0), 1) := by decide +kernel
theorem d88_100 : decode b88 100 = .ok ((.istore 7), 2) := by decide +kernel
theorem d88_102 : decode b88 102 = .ok ((.iload_n 3), 1) := by decide +kernel
theorem d88_103 : decode b88 103 = .ok ((.iconst 1), 1) := by decide +kernel
theorem d88_104 : decode b88 104 = .ok ((.if_icmp .eq 8), 3) := by decide +kernel
theorem d88_107 : decode b88 107 = .ok ((.iload_n 3), 1) := by decide +kernel
theorem d88_108 : decode b88 108 = .ok ((.iconst 3), 1) := by decide +kernel
theorem d88_109 : decode b88 109 = .ok ((.if_icmp .ne 7), 3) := by decide +kernel
theorem d88_112 : decode b88 112 = .ok ((.iconst 1), 1) := by decide +kernel
theorem d88_113 : decode b88 113 = .ok ((.goto 4), 3) := by decide +kernel
theorem d88_116 : decode b88 116 = .ok ((.iconst 0), 1) := by decide +kernel
theorem d88_117 : decode b88 117 = .ok ((.istore 8), 2) := by decide +kernel
theorem d88_119 : decode b88 119 = .ok ((.new 191), 3) := by decide +kernel
theorem d88_122 : decode b88 122 = .ok (.dup, 1) := by decide +kernel
theorem d88_123 : decode b88 123 = .ok ((.invokespecial 193), 3) := by decide +kernel
theorem d88_126 : decode b88 126 = .ok ((.astore 9), 2) := by decide +kernel
theorem d88_128 : decode b88 128 = .ok ((.iload 5), 2) := by decide +kernel
theorem d88_130 : decode b88 130 = .ok ((.ifCond .eq 19), 3) := by decide +kernel
theorem d88_133 : decode b88 133 = .ok ((.aload 9), 2) := by decide +kernel
theorem d88_135 : decode b88 135 = .ok ((.aload 6), 2) := by decide +kernel
theorem d88_137 : decode b88 137 = .ok ((.invokevirtual 194), 3) := by decide +kernel
theorem d88_140 : decode b88 140 = .ok (.pop, 1) := by decide +kernel
theorem d88_141 : decode b88 141 = .ok ((.aload 9), 2) := by decide +kernel
theorem d88_143 : decode b88 143 = .ok ((.bipush 33), 2) := by decide +kernel
theorem d88_145 : decode b88 145 = .ok ((.invokevirtual 198), 3) := by decide +kernel
theorem d88_148 : decode b88 148 = .ok (.pop, 1) := by decide +kernel
theorem d88_149 : decode b88 149 = .ok ((.iload 4), 2) := by decide +kernel
theorem d88_151 : decode b88 151 = .ok ((.ifCond .eq 55), 3) := by decide +kernel
theorem d88_154 : decode b88 154 = .ok ((.aload 9), 2) := by decide +kernel
theorem d88_156 : decode b88 156 = .ok ((.iload 8), 2) := by decide +kernel
theorem d88_158 : decode b88 158 = .ok ((.ifCond .eq 8), 3) := by decide +kernel
theorem d88_161 : decode b88 161 = .ok ((.ldc 201), 2) := by decide +kernel
theorem d88_163 : decode b88 163 = .ok ((.goto 5), 3) := by decide +kernel
theorem d88_166 : decode b88 166 = .ok ((.ldc 203), 2) := by decide +kernel
theorem d88_168 : decode b88 168 = .ok ((.invokevirtual 194), 3) := by decide +kernel
theorem d88_171 : decode b88 171 = .ok (.pop, 1) := by decide +kernel
theorem d88_172 : decode b88 172 = .ok ((.aload 9), 2) := by decide +kernel
theorem d88_174 : decode b88 174 = .ok ((.iload_n 2), 1) := by decide +kernel
theorem d88_175 : decode b88 175 = .ok ((.invokestatic 205), 3) := by decide +kernel
theorem d88_178 : decode b88 178 = .ok ((.aload 9), 2) := by decide +kernel
theorem d88_180 : decode b88 180 = .ok ((.iload 7), 2) := by decide +kernel
theorem d88_182 : decode b88 182 = .ok ((.ifCond .eq 8), 3) := by decide +kernel
theorem d88_185 : decode b88 185 = .ok ((.ldc 201), 2) := by decide +kernel
theorem d88_187 : decode b88 187 = .ok ((.goto 5), 3) := by decide +kernel
theorem d88_190 : decode b88 190 = .ok ((.ldc 203), 2) := by decide +kernel
theorem d88_192 : decode b88 192 = .ok ((.invokevirtual 194), 3) := by decide +kernel
theorem d88_195 : decode b88 195 = .ok (.pop, 1) := by decide +kernel
theorem d88_196 : decode b88 196 = .ok ((.aload 9), 2) := by decide +kernel
theorem d88_198 : decode b88 198 = .ok ((.iload_n 1), 1) := by decide +kernel
theorem d88_199 : decode b88 199 = .ok ((.invokevirtual 209), 3) := by decide +kernel
theorem d88_202 : decode b88 202 = .ok (.pop, 1) := by decide +kernel
theorem d88_203 : decode b88 203 = .ok ((.goto 23), 3) := by decide +kernel
theorem d88_206 : decode b88 206 = .ok ((.aload 9), 2) := by decide +kernel
theorem d88_208 : decode b88 208 = .ok ((.bipush 82), 2) := by decide +kernel
theorem d88_210 : decode b88 210 = .ok ((.iload_n 1), 1) := by decide +kernel
theorem d88_211 : decode b88 211 = .ok ((.iload 7), 2) := by decide +kernel
theorem d88_213 : decode b88 213 = .ok ((.invokestatic 212), 3) := by decide +kernel
theorem d88_216 : decode b88 216 = .ok ((.aload 9), 2) := by decide +kernel
theorem d88_218 : decode b88 218 = .ok ((.bipush 67), 2) := by decide +kernel
theorem d88_220 : decode b88 220 = .ok ((.iload_n 2), 1) := by decide +kernel
theorem d88_221 : decode b88 221 = .ok ((.iload 8), 2) := by decide +kernel
theorem d88_223 : decode b88 223 = .ok ((.invokestatic 212), 3) := by decide +kernel
theorem d88_226 : decode b88 226 = .ok ((.aload 9), 2) := by decide +kernel
theorem d88_228 : decode b88 228 = .ok ((.invokestatic 216), 3) := by decide +kernel
theorem d88_231 : decode b88 231 = .ok (.areturn, 1) := by decide +kernel
abbrev b91 : ByteArray := prog_8_method_11_code
theorem d91_0 : decode b91 0 = .ok ((.aload_n 0), 1) := by decide +kernel
theorem d91_1 : decode b91 1 = .ok ((.getfield 9), 3) := by decide +kernel
theorem d91_4 : decode b91 4 = .ok ((.iconst 0), 1) := by decide +kernel
theorem d91_5 : decode b91 5 = .ok ((.invokevirtual 134), 3) := by decide +kernel
theorem d91_8 : decode b91 8 = .ok ((.ifCond .eq 30), 3) := by decide +kernel
theorem d91_11 : decode b91 11 = .ok ((.iload_n 1), 1) := by decide +kernel
theorem d91_12 : decode b91 12 = .ok ((.ifCond .eq 14), 3) := by decide +kernel
theorem d91_15 : decode b91 15 = .ok ((.aload_n 0), 1) := by decide +kernel
theorem d91_16 : decode b91 16 = .ok ((.getfield 9), 3) := by decide +kernel
theorem d91_19 : decode b91 19 = .ok ((.getfield 163), 3) := by decide +kernel
theorem d91_22 : decode b91 22 = .ok (.i2d, 1) := by decide +kernel
theorem d91_23 : decode b91 23 = .ok ((.goto 11), 3) := by decide +kernel
theorem d91_26 : decode b91 26 = .ok ((.aload_n 0), 1) := by decide +kernel
theorem d91_27 : decode b91 27 = .ok ((.getfield 9), 3) := by decide +kernel
theorem d91_30 : decode b91 30 = .ok ((.getfield 166), 3) := by decide +kernel
theorem d91_33 : decode b91 33 = .ok (.i2d, 1) := by decide +kernel
theorem d91_34 : decode b91 34 = .ok ((.invokestatic 39), 3) := by decide +kernel
theorem d91_37 : decode b91 37 = .ok (.areturn, 1) := by decide +kernel
theorem d91_38 : decode b91 38 = .ok ((.aload_n 0), 1) := by decide +kernel
theorem d91_39 : decode b91 39 = .ok ((.getfield 9), 3) := by decide +kernel
theorem d91_42 : decode b91 42 = .ok ((.iconst 0), 1) := by decide +kernel
theorem d91_43 : decode b91 43 = .ok ((.invokevirtual 169), 3) := by decide +kernel
theorem d91_46 : decode b91 46 = .ok ((.astore_n 2), 1) := by decide +kernel
theorem d91_47 : decode b91 47 = .ok ((.aload_n 2), 1) := by decide +kernel
theorem d91_48 : decode b91 48 = .ok ((.getfield 173), 3) := by decide +kernel
theorem d91_51 : decode b91 51 = .ok ((.ifCond .ne 8), 3) := by decide +kernel
theorem d91_54 : decode b91 54 = .ok ((.iconst 3), 1) := by decide +kernel
theorem d91_55 : decode b91 55 = .ok ((.invokestatic 122), 3) := by decide +kernel
theorem d91_58 : decode b91 58 = .ok (.areturn, 1) := by decide +kernel
theorem d91_59 : decode b91 59 = .ok ((.iload_n 1), 1) := by decide +kernel
theorem d91_60 : decode b91 60 = .ok ((.ifCond .eq 11), 3) := by decide +kernel
theorem d91_63 : decode b91 63 = .ok ((.aload_n 2), 1) := by decide +kernel
theorem d91_64 : decode b91 64 = .ok ((.getfield 179), 3) := by decide +kernel
theorem d91_67 : decode b91 67 = .ok (.i2d, 1) := by decide +kernel
theorem d91_68 : decode b91 68 = .ok ((.goto 8), 3) := by decide +kernel
theorem d91_71 : decode b91 71 = .ok ((.aload_n 2), 1) := by decide +kernel
theorem d91_72 : decode b91 72 = .ok ((.getfield 182), 3) := by decide +kernel
theorem d91_75 : decode b91 75 = .ok (.i2d, 1) := by decide +kernel
theorem d91_76 : decode b91 76 = .ok ((.invokestatic 39), 3) := by decide +kernel
theorem d91_79 : decode b91 79 = .ok (.areturn, 1) := by decide +kernel
abbrev b102 : ByteArray := prog_9_method_2_code
theorem d102_0 : decode b102 0 = .ok ((.iload_n 0), 1) := by decide +kernel
theorem d102_1 : decode b102 1 = .ok ((.bipush 63), 2) := by decide +kernel
theorem d102_3 : decode b102 3 = .ok ((.if_icmp .eq 15), 3) := by decide +kernel
theorem d102_6 : decode b102 6 = .ok ((.iload_n 0), 1) := by decide +kernel
theorem d102_7 : decode b102 7 = .ok ((.bipush 42), 2) := by decide +kernel
theorem d102_9 : decode b102 9 = .ok ((.if_icmp .eq 9), 3) := by decide +kernel
theorem d102_12 : decode b102 12 = .ok ((.iload_n 0), 1) := by decide +kernel
theorem d102_13 : decode b102 13 = .ok ((.bipush 126), 2) := by decide +kernel
theorem d102_15 : decode b102 15 = .ok ((.if_icmp .ne 7), 3) := by decide +kernel
theorem d102_18 : decode b102 18 = .ok ((.iconst 1), 1) := by decide +kernel
theorem d102_19 : decode b102 19 = .ok ((.goto 4), 3) := by decide +kernel
theorem d102_22 : decode b102 22 = .ok ((.iconst 0), 1) := by decide +kernel
theorem d102_23 : decode b102 23 = .ok (.ireturn, 1) := by decide +kernel
def da_isWord_15  : Nat → TT → TT → Int32 → Option (Int32)
  | 0, _, _, _ => none
  | fu + 1, x0, x1, x2 => jc (f_js_length x1) (fun q1 => jb (q1 ≤ x2) (some 1) (jc (f_js_charAt x0 x2) (fun q2 => jc (f_wf_great q2) (fun q3 => jc (f_js_charAt x1 x2) (fun q4 => jb (q3 = q4) (jn (x2 + 1) (fun v5 => da_isWord_15 fu x0 x1 v5)) (some 0))))))
def f_da_isWord  (p0 : TT) (p1 : TT) : Option (Int32) := jc (f_js_length p0) (fun q6 => jc (f_js_length p1) (fun q7 => jb (q6 = q7) (da_isWord_15 FU p0 p1 0) (some 0)))
set_option maxHeartbeats 4000000 in
set_option maxRecDepth 100000 in
theorem c_da_isWord (l : Launch) (ρ : RH) (H : Heap) (P : Nat → Prop) (ap0 : Nat) (p0 : TT) (ap1 : Nat) (p1 : TT) (res : Int32) (hC : CC ρ P H) (hPb : ∀ q, P q → q < H.size) (fap0 : isS ρ P H ap0 p0) (fap1 : isS ρ P H ap1 p1) (h : f_da_isWord p0 p1 = some res) : Met l y70 (wsOf y70 b70 3 (some .boolean)) ({ frames := 13, cells := 0, slots := 0, locals := 621 } : Room) (va_Pc [.ref ap0, .ref ap1] (KP ρ H)) (mQ (fun v H1 => v = some (.int res) ∧ H1 = H) (fun _ => False)) 0 0 (fun _ => False) := by
  refine m_ofW (own := "WordFunctions$Dates") (plainFor_of_name rfl) rfl (Nat.le_of_ble_eq_true rfl) fun p e s m args below meth c ls hx hb hr hlk _ X hs hl => ?_
  subst hs
  have hS : va_S (fun _ => False) s.heap s.heap [] := va_S.rf
  have hSz := hS.1
  have hl : lv_has ls 3 [(0, .ref ap0), (1, .ref ap1)] := hl
  have kc15 : ∀ (fu : Nat), ∀ (x0 : TT) (x1 : TT) (x2 : Int32) (ax0 : Nat) (ax1 : Nat) (locs : List Loc) (ls : Array Slot), va_S (fun _ => False) s.heap s.heap locs → isS ρ P s.heap ax0 x0 → isS ρ P s.heap ax1 x1 → lv_has ls 3 [(0, .ref ax0), (1, .ref ax1), (2, .int x2)] → da_isWord_15 fu x0 x1 x2 = some res → W p l e ({ frames := 13, cells := 0, slots := 0, locals := 621 } : Room) s m args below meth c s.heap locs 0 0 (MQ below (mQ (fun v H1 => v = some (.int res) ∧ H1 = s.heap) (fun _ => False)) args s 0 0 (fun _ => False)) (F0 m 15 ls []) := by
    intro  fu
    induction fu with
    | zero => intro x0 x1 x2 ax0 ax1 locs ls hS fax0 fax1 hl h; cases h
    | succ fu hK15 =>
      intro x0 x1 x2 ax0 ax1 locs ls hS fax0 fax1 hl h
      have hSz := hS.1
      unfold da_isWord_15 at h
      refine lv_iload_n (pc := 15) hx hb d70_15 rfl (lv_at hl 2 rfl) ?_
      refine lv_aload_n (pc := 16) hx hb d70_16 rfl (lv_at hl 1 rfl) ?_
      obtain ⟨q1, hq1, h⟩ := jc_some h
      refine k_callV (pc := 17) (n := 0) X hS (c_js_length l ρ _ P ax1 x1 q1 hC hPb fax1 hq1) wd538 wd1284 wd536 wd537 wd14 (by decide) ⟨rfl, rfl, Nat.le_of_ble_eq_true rfl, Nat.le_of_ble_eq_true rfl⟩ (s_recv X fax1) (As := []) (rest := [.int x2]) rfl rfl hl.1 (Nat.le_of_ble_eq_true rfl) d70_17 ⟨Nat.le_refl _, Nat.le_refl _⟩ (fun q hq => False.elim hq) (fun v H1 locs1 hv _ _ hSq1 => ?_)
      obtain ⟨rfl, rfl⟩ := hv
      have hS := hSq1
      have hSz := hS.1
      refine lv_icmp_ge (pc := 20) (tgt := 47) hx hb d70_20 (by decide) (fun c20 => ?_) (fun c20 => ?_)
      · have h := jb_t c20 h
        refine lv_iconst (pc := 47) (v := 1) hx hb d70_47 (by decide) ?_
        obtain rfl := Option.some.inj h
        exact m_zret (pc := 48) hx hb hr hlk hS ⟨rfl, rfl⟩ (Nat.le_refl _) (Nat.le_refl _) d70_48 (by decide)
      · have h := jb_f c20 h
        refine lv_aload_n (pc := 23) hx hb d70_23 rfl (lv_at hl 0 rfl) ?_
        refine lv_iload_n (pc := 24) hx hb d70_24 rfl (lv_at hl 2 rfl) ?_
        obtain ⟨q2, hq2, h⟩ := jc_some h
        refine k_callV (pc := 25) (n := 1) X hS (c_js_charAt l ρ _ P ax0 x0 x2 q2 hC hPb fax0 hq2) wd683 wd1285 wd681 wd682 wd14 (by decide) ⟨rfl, rfl, Nat.le_of_ble_eq_true rfl, Nat.le_of_ble_eq_true rfl⟩ (s_recv X fax0) (As := [.int x2]) (rest := []) rfl rfl hl.1 (Nat.le_of_ble_eq_true rfl) d70_25 ⟨Nat.le_refl _, Nat.le_refl _⟩ (fun q hq => False.elim hq) (fun v H1 locs1 hv _ _ hSq2 => ?_)
        obtain ⟨rfl, rfl⟩ := hv
        have hS := hSq2
        have hSz := hS.1
        obtain ⟨q3, hq3, h⟩ := jc_some h
        refine k_callSN (pc := 28) (n := 1) X hS (c_wf_great l ρ _ P q2 q3 hC hPb  hq3) wd985 11 rfl wd984 wd1 (by decide) ⟨rfl, rfl, Nat.le_of_ble_eq_true rfl, Nat.le_of_ble_eq_true rfl⟩ (As := [.int q2]) (rest := []) rfl rfl hl.1 (Nat.le_of_ble_eq_true rfl) d70_28 ⟨Nat.le_refl _, Nat.le_refl _⟩ (fun q hq => False.elim hq) (fun v H1 locs1 hv _ _ hSq3 => ?_)
        obtain ⟨rfl, rfl⟩ := hv
        have hS := hSq3
        have hSz := hS.1
        refine lv_aload_n (pc := 31) hx hb d70_31 rfl (lv_at hl 1 rfl) ?_
        refine lv_iload_n (pc := 32) hx hb d70_32 rfl (lv_at hl 2 rfl) ?_
        obtain ⟨q4, hq4, h⟩ := jc_some h
        refine k_callV (pc := 33) (n := 1) X hS (c_js_charAt l ρ _ P ax1 x1 x2 q4 hC hPb fax1 hq4) wd683 wd1285 wd681 wd682 wd14 (by decide) ⟨rfl, rfl, Nat.le_of_ble_eq_true rfl, Nat.le_of_ble_eq_true rfl⟩ (s_recv X fax1) (As := [.int x2]) (rest := [.int q3]) rfl rfl hl.1 (Nat.le_of_ble_eq_true rfl) d70_33 ⟨Nat.le_refl _, Nat.le_refl _⟩ (fun q hq => False.elim hq) (fun v H1 locs1 hv _ _ hSq4 => ?_)
        obtain ⟨rfl, rfl⟩ := hv
        have hS := hSq4
        have hSz := hS.1
        refine lv_icmp_eq (pc := 36) (tgt := 41) hx hb d70_36 (by decide) (fun c36 => ?_) (fun c36 => ?_)
        · have h := jb_t c36 h
          obtain ⟨v5, ev5, h⟩ := jn_ex h
          refine lv_iinc (pc := 41) (v := v5) (lv' := [(2, .int v5), (0, .ref ax0), (1, .ref ax1)]) hx hb d70_41 hl (k := 2) rfl (by rw [ev5]; rfl) (by decide) rfl (fun ls hl => ?_)
          refine lv_goto (pc := 44) (tgt := 15) hx hb d70_44 (by decide) ?_
          exact hK15 x0 x1 v5 ax0 ax1 _ _ hS fax0 fax1 (lv_sub hl [1, 2, 0] rfl) h
        · have h := jb_f c36 h
          refine lv_iconst (pc := 39) (v := 0) hx hb d70_39 (by decide) ?_
          obtain rfl := Option.some.inj h
          exact m_zret (pc := 40) hx hb hr hlk hS ⟨rfl, rfl⟩ (Nat.le_refl _) (Nat.le_refl _) d70_40 (by decide)
  unfold f_da_isWord at h
  refine lv_aload_n (pc := 0) hx hb d70_0 rfl (lv_at hl 0 rfl) ?_
  obtain ⟨q6, hq6, h⟩ := jc_some h
  refine k_callV (pc := 1) (n := 0) X hS (c_js_length l ρ _ P ap0 p0 q6 hC hPb fap0 hq6) wd538 wd1284 wd536 wd537 wd14 (by decide) ⟨rfl, rfl, Nat.le_of_ble_eq_true rfl, Nat.le_of_ble_eq_true rfl⟩ (s_recv X fap0) (As := []) (rest := []) rfl rfl hl.1 (Nat.le_of_ble_eq_true rfl) d70_1 ⟨Nat.le_refl _, Nat.le_refl _⟩ (fun q hq => False.elim hq) (fun v H1 locs1 hv _ _ hSq6 => ?_)
  obtain ⟨rfl, rfl⟩ := hv
  have hS := hSq6
  have hSz := hS.1
  refine lv_aload_n (pc := 4) hx hb d70_4 rfl (lv_at hl 1 rfl) ?_
  obtain ⟨q7, hq7, h⟩ := jc_some h
  refine k_callV (pc := 5) (n := 0) X hS (c_js_length l ρ _ P ap1 p1 q7 hC hPb fap1 hq7) wd538 wd1284 wd536 wd537 wd14 (by decide) ⟨rfl, rfl, Nat.le_of_ble_eq_true rfl, Nat.le_of_ble_eq_true rfl⟩ (s_recv X fap1) (As := []) (rest := [.int q6]) rfl rfl hl.1 (Nat.le_of_ble_eq_true rfl) d70_5 ⟨Nat.le_refl _, Nat.le_refl _⟩ (fun q hq => False.elim hq) (fun v H1 locs1 hv _ _ hSq7 => ?_)
  obtain ⟨rfl, rfl⟩ := hv
  have hS := hSq7
  have hSz := hS.1
  refine lv_icmp_eq (pc := 8) (tgt := 13) hx hb d70_8 (by decide) (fun c8 => ?_) (fun c8 => ?_)
  · have h := jb_t c8 h
    refine lv_iconst (pc := 13) (v := 0) hx hb d70_13 (by decide) ?_
    refine lv_istore_n (pc := 14) (lv' := [(2, .int 0), (0, .ref ap0), (1, .ref ap1)]) hx hb d70_14 rfl hl (by decide) rfl (fun ls hl => ?_)
    exact kc15  FU p0 p1 0 ap0 ap1 _ _ hS fap0 fap1 (lv_sub hl [1, 2, 0] rfl) h
  · have h := jb_f c8 h
    refine lv_iconst (pc := 11) (v := 0) hx hb d70_11 (by decide) ?_
    obtain rfl := Option.some.inj h
    exact m_zret (pc := 12) hx hb hr hlk hS ⟨rfl, rfl⟩ (Nat.le_refl _) (Nat.le_refl _) d70_12 (by decide)
def f_da_over  (p0 : Int32) (p1 : Int32) : Option (Int32) := jc (f_ca_monthOf p0) (fun q1 => jc (f_ca_firstOf q1) (fun q2 => jn (p0 - q2) (fun v3 => jc (f_ca_firstOf ((q1 + p1) + 1)) (fun q4 => jc (f_ca_firstOf (q1 + p1)) (fun q5 => jc (f_ma_min (q5 + v3) q4) (fun q6 => some q6))))))
set_option maxHeartbeats 4000000 in
set_option maxRecDepth 100000 in
theorem c_da_over (l : Launch) (ρ : RH) (H : Heap) (P : Nat → Prop) (p0 : Int32) (p1 : Int32) (res : Int32) (hC : CC ρ P H) (hPb : ∀ q, P q → q < H.size) (h : f_da_over p0 p1 = some res) : Met l y73 (wsOf y73 b73 5 (some .int)) ({ frames := 4, cells := 0, slots := 0, locals := 89 } : Room) (va_Pc [.int p0, .int p1] (KP ρ H)) (mQ (fun v H1 => v = some (.int res) ∧ H1 = H) (fun _ => False)) 0 0 (fun _ => False) := by
  refine m_ofW (own := "WordFunctions$Dates") (plainFor_of_name rfl) rfl (Nat.le_of_ble_eq_true rfl) fun p e s m args below meth c ls hx hb hr hlk _ X hs hl => ?_
  subst hs
  have hS : va_S (fun _ => False) s.heap s.heap [] := va_S.rf
  have hSz := hS.1
  have hl : lv_has ls 5 [(0, .int p0), (1, .int p1)] := hl
  unfold f_da_over at h
  refine lv_iload_n (pc := 0) hx hb d73_0 rfl (lv_at hl 0 rfl) ?_
  obtain ⟨q1, hq1, h⟩ := jc_some h
  refine k_callS (pc := 1) (n := 1) X hS (c_ca_monthOf l ρ _ P p0 q1 hC hPb  hq1) wd1239 wd1237 wd1238 wd29 (by decide) ⟨rfl, rfl, Nat.le_of_ble_eq_true rfl, Nat.le_of_ble_eq_true rfl⟩ (As := [.int p0]) (rest := []) rfl rfl hl.1 (Nat.le_of_ble_eq_true rfl) d73_1 ⟨Nat.le_refl _, Nat.le_refl _⟩ (fun q hq => False.elim hq) (fun v H1 locs1 hv _ _ hSq1 => ?_)
  obtain ⟨rfl, rfl⟩ := hv
  have hS := hSq1
  have hSz := hS.1
  refine lv_istore_n (pc := 4) (lv' := [(2, .int q1), (0, .int p0), (1, .int p1)]) hx hb d73_4 rfl hl (by decide) rfl (fun ls hl => ?_)
  refine lv_iload_n (pc := 5) hx hb d73_5 rfl (lv_at hl 1 rfl) ?_
  refine lv_iload_n (pc := 6) hx hb d73_6 rfl (lv_at hl 0 rfl) ?_
  obtain ⟨q2, hq2, h⟩ := jc_some h
  refine k_callS (pc := 7) (n := 1) X hS (c_ca_firstOf l ρ _ P q1 q2 hC hPb  hq2) wd1199 wd1197 wd1198 wd29 (by decide) ⟨rfl, rfl, Nat.le_of_ble_eq_true rfl, Nat.le_of_ble_eq_true rfl⟩ (As := [.int q1]) (rest := [.int p0]) rfl rfl hl.1 (Nat.le_of_ble_eq_true rfl) d73_7 ⟨Nat.le_refl _, Nat.le_refl _⟩ (fun q hq => False.elim hq) (fun v H1 locs1 hv _ _ hSq2 => ?_)
  obtain ⟨rfl, rfl⟩ := hv
  have hS := hSq2
  have hSz := hS.1
  refine lv_isub (pc := 10) hx hb d73_10 ?_
  obtain ⟨v3, ev3, h⟩ := jn_ex h
  refine nm_i ev3 ?_
  refine lv_istore_n (pc := 11) (lv' := [(3, .int v3), (2, .int q1), (0, .int p0), (1, .int p1)]) hx hb d73_11 rfl hl (by decide) rfl (fun ls hl => ?_)
  refine lv_iload_n (pc := 12) hx hb d73_12 rfl (lv_at hl 1 rfl) ?_
  refine lv_iload_n (pc := 13) hx hb d73_13 rfl (lv_at hl 3 rfl) ?_
  refine lv_iadd (pc := 14) hx hb d73_14 ?_
  refine lv_iconst (pc := 15) (v := 1) hx hb d73_15 (by decide) ?_
  refine lv_iadd (pc := 16) hx hb d73_16 ?_
  obtain ⟨q4, hq4, h⟩ := jc_some h
  refine k_callS (pc := 17) (n := 1) X hS (c_ca_firstOf l ρ _ P ((q1 + p1) + 1) q4 hC hPb  hq4) wd1199 wd1197 wd1198 wd29 (by decide) ⟨rfl, rfl, Nat.le_of_ble_eq_true rfl, Nat.le_of_ble_eq_true rfl⟩ (As := [.int ((q1 + p1) + 1)]) (rest := []) rfl rfl hl.1 (Nat.le_of_ble_eq_true rfl) d73_17 ⟨Nat.le_refl _, Nat.le_refl _⟩ (fun q hq => False.elim hq) (fun v H1 locs1 hv _ _ hSq4 => ?_)
  obtain ⟨rfl, rfl⟩ := hv
  have hS := hSq4
  have hSz := hS.1
  refine lv_istore (pc := 20) (lv' := [(4, .int q4), (3, .int v3), (2, .int q1), (0, .int p0), (1, .int p1)]) hx hb d73_20 hl (by decide) rfl (fun ls hl => ?_)
  refine lv_iload_n (pc := 22) hx hb d73_22 rfl (lv_at hl 2 rfl) ?_
  refine lv_iload_n (pc := 23) hx hb d73_23 rfl (lv_at hl 4 rfl) ?_
  refine lv_iadd (pc := 24) hx hb d73_24 ?_
  obtain ⟨q5, hq5, h⟩ := jc_some h
  refine k_callS (pc := 25) (n := 1) X hS (c_ca_firstOf l ρ _ P (q1 + p1) q5 hC hPb  hq5) wd1199 wd1197 wd1198 wd29 (by decide) ⟨rfl, rfl, Nat.le_of_ble_eq_true rfl, Nat.le_of_ble_eq_true rfl⟩ (As := [.int (q1 + p1)]) (rest := []) rfl rfl hl.1 (Nat.le_of_ble_eq_true rfl) d73_25 ⟨Nat.le_refl _, Nat.le_refl _⟩ (fun q hq => False.elim hq) (fun v H1 locs1 hv _ _ hSq5 => ?_)
  obtain ⟨rfl, rfl⟩ := hv
  have hS := hSq5
  have hSz := hS.1
  refine lv_iload_n (pc := 28) hx hb d73_28 rfl (lv_at hl 1 rfl) ?_
  refine lv_iadd (pc := 29) hx hb d73_29 ?_
  refine lv_iload (pc := 30) hx hb d73_30 (lv_at hl 0 rfl) ?_
  obtain ⟨q6, hq6, h⟩ := jc_some h
  refine k_callS (pc := 32) (n := 2) X hS (c_ma_min l ρ _ P (q5 + v3) q4 q6 hC hPb  hq6) wd351 wd1270 wd350 wd17 (by decide) ⟨rfl, rfl, Nat.le_of_ble_eq_true rfl, Nat.le_of_ble_eq_true rfl⟩ (As := [.int (q5 + v3), .int q4]) (rest := []) rfl rfl hl.1 (Nat.le_of_ble_eq_true rfl) d73_32 ⟨Nat.le_refl _, Nat.le_refl _⟩ (fun q hq => False.elim hq) (fun v H1 locs1 hv _ _ hSq6 => ?_)
  obtain ⟨rfl, rfl⟩ := hv
  have hS := hSq6
  have hSz := hS.1
  obtain rfl := Option.some.inj h
  exact m_iret (pc := 35) hx hb hr hlk hS ⟨rfl, rfl⟩ (Nat.le_refl _) (Nat.le_refl _) d73_35
def da_difference_63  (st : CS) (x1 : Int32) (x2 : Int32) (x3 : TT) (x4 : Int32) : Option ((VV × CS) × Nat × Nat) := jc (f_da_isWord x3 TX17) (fun q1 => jb (q1 = 0) (jc (f_da_isWord x3 TX18) (fun q2 => jb (q2 = 0) (jc (f_da_isWord x3 TX19) (fun q3 => jb (q3 = 0) (jc (f_da_isWord x3 TX20) (fun q4 => jb (q4 = 0) (jc (f_da_isWord x3 TX21) (fun q5 => jb (q5 = 0) (jc (f_da_isWord x3 TX22) (fun q6 => jb (q6 = 0) (jd (f_vl_ofError 6) (fun q7 => some ((q7, st), 0, 0))) (jc (f_da_over x1 (x4 - (x4 - x4 / 12 * 12))) (fun q9 => jd (f_vl_ofNumber (FP.i2d (x2 - q9))) (fun q10 => some ((q10, st), 0, 0)))))) (jc (f_da_over x1 x4) (fun q12 => jd (f_vl_ofNumber (FP.i2d (x2 - q12))) (fun q13 => some ((q13, st), 0, 0)))))) (jd (f_vl_ofNumber (FP.i2d (x4 - x4 / 12 * 12))) (fun q15 => some ((q15, st), 0, 0))))) (jd (f_vl_ofNumber (FP.i2d (x2 - x1))) (fun q17 => some ((q17, st), 0, 0))))) (jd (f_vl_ofNumber (FP.i2d x4)) (fun q19 => some ((q19, st), 0, 0))))) (jd (f_vl_ofNumber (FP.i2d (x4 / 12))) (fun q21 => some ((q21, st), 0, 0))))
def f_da_difference (st : CS) : Option ((VV × CS) × Nat × Nat) := jc (f_ar_day st 0) (fun q23 => jc (f_ar_day q23.2 1) (fun q24 => jd (f_ar_text q24.2 2) (fun q25 => jb (q23.1 ≤ q24.1) (jc (f_ca_monthOf q24.1) (fun q27 => jc (f_ca_monthOf q23.1) (fun q28 => jn (q27 - q28) (fun v29 => jc (f_ca_dayInMonth q24.1) (fun q30 => jc (f_ca_dayInMonth q23.1) (fun q31 => jb (q31 ≤ q30) (da_difference_63 q25.2 q23.1 q24.1 q25.1 v29) (jn (v29 + (-1)) (fun v32 => da_difference_63 q25.2 q23.1 q24.1 q25.1 v32)))))))) (jd (f_vl_ofError 6) (fun q33 => some ((q33, q25.2), 0, 0))))))
set_option maxHeartbeats 4000000 in
set_option maxRecDepth 100000 in
theorem c_da_difference (l : Launch) (ρ : RH) (ad : Nat → Nat) (H : Heap) (P : Nat → Prop) (st : CS) (res : (VV × CS) × Nat × Nat) (hW : CW ρ P ad st H) (h : f_da_difference st = some res) : Met l y67 (wsOf y67 b67 5 (some (.object "WordFunctions$Value"))) ({ frames := 16, cells := res.2.1, slots := res.2.2, locals := 696 } : Room) (va_Pc [.ref (ad 5)] (KP ρ H)) (mQ (fun v H1 => ∃ x : Nat, v = some (.ref x) ∧ isV ρ P H1 x res.1.1 ∧ CW ρ P ad res.1.2 H1) (MA wC ad H.size)) res.2.1 res.2.2 (MA wC ad H.size) := by
  refine m_ofW (own := "WordFunctions$Dates") (plainFor_of_name rfl) rfl (Nat.le_of_ble_eq_true rfl) fun p e s m args below meth c ls hx hb hr hlk _ X hs hl => ?_
  subst hs
  have hS : va_S (MA wC ad s.heap.size) s.heap s.heap [] := va_S.rf
  have hSz := hS.1
  have hAz : ∀ q, s.heap.size ≤ q → (MA wC ad s.heap.size) q := fun q hq => Or.inr hq
  have hAp : ∀ i, i < 46 → (MA wC ad s.heap.size) (ad i) := fun i hi => MA.in hi
  have hPp : ∀ i, i < 46 → P (ad i) := hW.1
  have hl : lv_has ls 5 [(0, .ref (ad 5))] := hl
  have kc63 : ∀ (st : CS) (x1 : Int32) (x2 : Int32) (x3 : TT) (x4 : Int32) (ax3 : Nat) (H : Heap) (locs : List Loc) (ls : Array Slot) (cells slots : Nat) (r : (VV × CS) × Nat × Nat), CW ρ P ad st H → va_S (MA wC ad s.heap.size) s.heap H locs → isS ρ P H ax3 x3 → lv_has ls 5 [(1, .int x1), (2, .int x2), (3, .ref ax3), (4, .int x4)] → res.1 = r.1 → cells + r.2.1 ≤ res.2.1 → slots + r.2.2 ≤ res.2.2 → da_difference_63 st x1 x2 x3 x4 = some r → W p l e ({ frames := 16, cells := res.2.1, slots := res.2.2, locals := 696 } : Room) s m args below meth c H locs cells slots (MQ below (mQ (fun v H1 => ∃ x : Nat, v = some (.ref x) ∧ isV ρ P H1 x res.1.1 ∧ CW ρ P ad res.1.2 H1) (MA wC ad s.heap.size)) args s res.2.1 res.2.2 (MA wC ad s.heap.size)) (F0 m 63 ls []) := by
    intro st x1 x2 x3 x4 ax3 H locs ls cells slots r hW hS fax3 hl her hc1 hs1 h
    have hSz := hS.1
    unfold da_difference_63 at h
    refine lv_aload_n (pc := 63) hx hb d67_63 rfl (lv_at hl 2 rfl) ?_
    refine c_ldcS (pc := 64) (t := TX17) X hW.2.2.1 17 rfl rfl d67_64 (fun f_rS_ρ_17_ => ?_)
    obtain ⟨q1, hq1, h⟩ := jc_some h
    refine k_callS (pc := 66) (n := 2) X hS (c_da_isWord l ρ _ P ax3 x3 (rS ρ 17) TX17 q1 hW.2.2.1 hW.2.1 fax3 f_rS_ρ_17_ hq1) wd1283 wd1281 wd1282 wd9 (by decide) ⟨rfl, rfl, Nat.le_of_ble_eq_true rfl, Nat.le_of_ble_eq_true rfl⟩ (As := [.ref ax3, .ref (rS ρ 17)]) (rest := []) rfl rfl hl.1 (Nat.le_of_ble_eq_true rfl) d67_66 ⟨room_l0 hc1, room_l0 hs1⟩ (fun q hq => False.elim hq) (fun v H1 locs1 hv _ _ hSq1 => ?_)
    obtain ⟨rfl, rfl⟩ := hv
    have hS := hSq1
    have hSz := hS.1
    refine lv_if_eq (pc := 69) (tgt := 82) hx hb d67_69 (by decide) (fun c69 => ?_) (fun c69 => ?_)
    · have h := jb_t c69 h
      refine lv_aload_n (pc := 82) hx hb d67_82 rfl (lv_at hl 2 rfl) ?_
      refine c_ldcS (pc := 83) (t := TX18) X hW.2.2.1 18 rfl rfl d67_83 (fun f_rS_ρ_18_ => ?_)
      obtain ⟨q2, hq2, h⟩ := jc_some h
      refine k_callS (pc := 85) (n := 2) X hS (c_da_isWord l ρ _ P ax3 x3 (rS ρ 18) TX18 q2 hW.2.2.1 hW.2.1 fax3 f_rS_ρ_18_ hq2) wd1283 wd1281 wd1282 wd9 (by decide) ⟨rfl, rfl, Nat.le_of_ble_eq_true rfl, Nat.le_of_ble_eq_true rfl⟩ (As := [.ref ax3, .ref (rS ρ 18)]) (rest := []) rfl rfl hl.1 (Nat.le_of_ble_eq_true rfl) d67_85 ⟨room_l0 hc1, room_l0 hs1⟩ (fun q hq => False.elim hq) (fun v H1 locs1 hv _ _ hSq2 => ?_)
      obtain ⟨rfl, rfl⟩ := hv
      have hS := hSq2
      have hSz := hS.1
      refine lv_if_eq (pc := 88) (tgt := 98) hx hb d67_88 (by decide) (fun c88 => ?_) (fun c88 => ?_)
      · have h := jb_t c88 h
        refine lv_aload_n (pc := 98) hx hb d67_98 rfl (lv_at hl 2 rfl) ?_
        refine c_ldcS (pc := 99) (t := TX19) X hW.2.2.1 19 rfl rfl d67_99 (fun f_rS_ρ_19_ => ?_)
        obtain ⟨q3, hq3, h⟩ := jc_some h
        refine k_callS (pc := 101) (n := 2) X hS (c_da_isWord l ρ _ P ax3 x3 (rS ρ 19) TX19 q3 hW.2.2.1 hW.2.1 fax3 f_rS_ρ_19_ hq3) wd1283 wd1281 wd1282 wd9 (by decide) ⟨rfl, rfl, Nat.le_of_ble_eq_true rfl, Nat.le_of_ble_eq_true rfl⟩ (As := [.ref ax3, .ref (rS ρ 19)]) (rest := []) rfl rfl hl.1 (Nat.le_of_ble_eq_true rfl) d67_101 ⟨room_l0 hc1, room_l0 hs1⟩ (fun q hq => False.elim hq) (fun v H1 locs1 hv _ _ hSq3 => ?_)
        obtain ⟨rfl, rfl⟩ := hv
        have hS := hSq3
        have hSz := hS.1
        refine lv_if_eq (pc := 104) (tgt := 115) hx hb d67_104 (by decide) (fun c104 => ?_) (fun c104 => ?_)
        · have h := jb_t c104 h
          refine lv_aload_n (pc := 115) hx hb d67_115 rfl (lv_at hl 2 rfl) ?_
          refine c_ldcS (pc := 116) (t := TX20) X hW.2.2.1 20 rfl rfl d67_116 (fun f_rS_ρ_20_ => ?_)
          obtain ⟨q4, hq4, h⟩ := jc_some h
          refine k_callS (pc := 118) (n := 2) X hS (c_da_isWord l ρ _ P ax3 x3 (rS ρ 20) TX20 q4 hW.2.2.1 hW.2.1 fax3 f_rS_ρ_20_ hq4) wd1283 wd1281 wd1282 wd9 (by decide) ⟨rfl, rfl, Nat.le_of_ble_eq_true rfl, Nat.le_of_ble_eq_true rfl⟩ (As := [.ref ax3, .ref (rS ρ 20)]) (rest := []) rfl rfl hl.1 (Nat.le_of_ble_eq_true rfl) d67_118 ⟨room_l0 hc1, room_l0 hs1⟩ (fun q hq => False.elim hq) (fun v H1 locs1 hv _ _ hSq4 => ?_)
          obtain ⟨rfl, rfl⟩ := hv
          have hS := hSq4
          have hSz := hS.1
          refine lv_if_eq (pc := 121) (tgt := 134) hx hb d67_121 (by decide) (fun c121 => ?_) (fun c121 => ?_)
          · have h := jb_t c121 h
            refine lv_aload_n (pc := 134) hx hb d67_134 rfl (lv_at hl 2 rfl) ?_
            refine c_ldcS (pc := 135) (t := TX21) X hW.2.2.1 21 rfl rfl d67_135 (fun f_rS_ρ_21_ => ?_)
            obtain ⟨q5, hq5, h⟩ := jc_some h
            refine k_callS (pc := 137) (n := 2) X hS (c_da_isWord l ρ _ P ax3 x3 (rS ρ 21) TX21 q5 hW.2.2.1 hW.2.1 fax3 f_rS_ρ_21_ hq5) wd1283 wd1281 wd1282 wd9 (by decide) ⟨rfl, rfl, Nat.le_of_ble_eq_true rfl, Nat.le_of_ble_eq_true rfl⟩ (As := [.ref ax3, .ref (rS ρ 21)]) (rest := []) rfl rfl hl.1 (Nat.le_of_ble_eq_true rfl) d67_137 ⟨room_l0 hc1, room_l0 hs1⟩ (fun q hq => False.elim hq) (fun v H1 locs1 hv _ _ hSq5 => ?_)
            obtain ⟨rfl, rfl⟩ := hv
            have hS := hSq5
            have hSz := hS.1
            refine lv_if_eq (pc := 140) (tgt := 156) hx hb d67_140 (by decide) (fun c140 => ?_) (fun c140 => ?_)
            · have h := jb_t c140 h
              refine lv_aload_n (pc := 156) hx hb d67_156 rfl (lv_at hl 2 rfl) ?_
              refine c_ldcS (pc := 157) (t := TX22) X hW.2.2.1 22 rfl rfl d67_157 (fun f_rS_ρ_22_ => ?_)
              obtain ⟨q6, hq6, h⟩ := jc_some h
              refine k_callS (pc := 159) (n := 2) X hS (c_da_isWord l ρ _ P ax3 x3 (rS ρ 22) TX22 q6 hW.2.2.1 hW.2.1 fax3 f_rS_ρ_22_ hq6) wd1283 wd1281 wd1282 wd9 (by decide) ⟨rfl, rfl, Nat.le_of_ble_eq_true rfl, Nat.le_of_ble_eq_true rfl⟩ (As := [.ref ax3, .ref (rS ρ 22)]) (rest := []) rfl rfl hl.1 (Nat.le_of_ble_eq_true rfl) d67_159 ⟨room_l0 hc1, room_l0 hs1⟩ (fun q hq => False.elim hq) (fun v H1 locs1 hv _ _ hSq6 => ?_)
              obtain ⟨rfl, rfl⟩ := hv
              have hS := hSq6
              have hSz := hS.1
              refine lv_if_eq (pc := 162) (tgt := 184) hx hb d67_162 (by decide) (fun c162 => ?_) (fun c162 => ?_)
              · have h := jb_t c162 h
                refine lv_bipush (pc := 184) (v := 6) hx hb d67_184 (by decide) ?_
                obtain ⟨q7, rq7, hq7, h, herq7, hccq7, hssq7⟩ := jd_some h
                refine k_callS (pc := 186) (n := 1) X hS (c_vl_ofError l ρ _ P 6 q7 hW.2.2.1 hW.2.1  hq7) wd651 wd1196 wd650 wd4 (by decide) ⟨rfl, rfl, Nat.le_of_ble_eq_true rfl, Nat.le_of_ble_eq_true rfl⟩ (As := [.int 6]) (rest := []) rfl rfl hl.1 (Nat.le_of_ble_eq_true rfl) d67_186 ⟨room_le hccq7 hc1, room_le hssq7 hs1⟩ (fun q hq => hAz q (Nat.le_trans hS.1 hq)) (fun v H1 locs1 hv hz1 hz2 hSq7 => ?_)
                obtain ⟨u8, rfl, fu8⟩ := hv
                have hk : kp no _ H1 := kp_call hz1 hz2 (fun q hq z => absurd hq (Nat.not_lt.mpr z))
                have hW := hW.keep hk no_hz (fun _ _ z => z)
                have hS := hSq7
                have hSz := hS.1
                have her := her.trans herq7
                have hc1 := room_st hccq7 hc1
                have hs1 := room_st hssq7 hs1
                have her : res.1 = (q7.1, st) := her.trans (congrArg Prod.fst (Option.some.inj h)).symm
                exact m_aret (pc := 189) hx hb hr (Or.inl ⟨_, rfl⟩) hlk hS ⟨u8, rfl, by rw [her]; exact fu8, by rw [her]; exact hW⟩ (Nat.le_trans (Nat.le_add_right _ _) hc1) (Nat.le_trans (Nat.le_add_right _ _) hs1) d67_189
              · have h := jb_f c162 h
                refine lv_iload_n (pc := 165) hx hb d67_165 rfl (lv_at hl 1 rfl) ?_
                refine lv_iload_n (pc := 166) hx hb d67_166 rfl (lv_at hl 0 rfl) ?_
                refine lv_iload (pc := 167) hx hb d67_167 (lv_at hl 3 rfl) ?_
                refine lv_iload (pc := 169) hx hb d67_169 (lv_at hl 3 rfl) ?_
                refine lv_bipush (pc := 171) (v := 12) hx hb d67_171 (by decide) ?_
                refine lv_irem (pc := 173) hx hb d67_173 (by decide) ?_
                refine lv_isub (pc := 174) hx hb d67_174 ?_
                obtain ⟨q9, hq9, h⟩ := jc_some h
                refine k_callS (pc := 175) (n := 2) X hS (c_da_over l ρ _ P x1 (x4 - (x4 - x4 / 12 * 12)) q9 hW.2.2.1 hW.2.1  hq9) wd1293 wd1291 wd1292 wd9 (by decide) ⟨rfl, rfl, Nat.le_of_ble_eq_true rfl, Nat.le_of_ble_eq_true rfl⟩ (As := [.int x1, .int (x4 - (x4 - x4 / 12 * 12))]) (rest := [.int x2]) rfl rfl hl.1 (Nat.le_of_ble_eq_true rfl) d67_175 ⟨room_l0 hc1, room_l0 hs1⟩ (fun q hq => False.elim hq) (fun v H1 locs1 hv _ _ hSq9 => ?_)
                obtain ⟨rfl, rfl⟩ := hv
                have hS := hSq9
                have hSz := hS.1
                refine lv_isub (pc := 178) hx hb d67_178 ?_
                refine lv_i2d (pc := 179) hx hb d67_179 ?_
                obtain ⟨q10, rq10, hq10, h, herq10, hccq10, hssq10⟩ := jd_some h
                refine k_callS (pc := 180) (n := 1) X hS (c_vl_ofNumber l ρ _ P (FP.i2d (x2 - q9)) q10 hW.2.2.1 hW.2.1  hq10) wd642 wd1219 wd641 wd4 (by decide) ⟨rfl, rfl, Nat.le_of_ble_eq_true rfl, Nat.le_of_ble_eq_true rfl⟩ (As := [.double (FP.i2d (x2 - q9))]) (rest := []) rfl rfl hl.1 (Nat.le_of_ble_eq_true rfl) d67_180 ⟨room_le hccq10 hc1, room_le hssq10 hs1⟩ (fun q hq => hAz q (Nat.le_trans hS.1 hq)) (fun v H1 locs1 hv hz1 hz2 hSq10 => ?_)
                obtain ⟨u11, rfl, fu11⟩ := hv
                have hk : kp no _ H1 := kp_call hz1 hz2 (fun q hq z => absurd hq (Nat.not_lt.mpr z))
                have hW := hW.keep hk no_hz (fun _ _ z => z)
                have hS := hSq10
                have hSz := hS.1
                have her := her.trans herq10
                have hc1 := room_st hccq10 hc1
                have hs1 := room_st hssq10 hs1
                have her : res.1 = (q10.1, st) := her.trans (congrArg Prod.fst (Option.some.inj h)).symm
                exact m_aret (pc := 183) hx hb hr (Or.inl ⟨_, rfl⟩) hlk hS ⟨u11, rfl, by rw [her]; exact fu11, by rw [her]; exact hW⟩ (Nat.le_trans (Nat.le_add_right _ _) hc1) (Nat.le_trans (Nat.le_add_right _ _) hs1) d67_183
            · have h := jb_f c140 h
              refine lv_iload_n (pc := 143) hx hb d67_143 rfl (lv_at hl 1 rfl) ?_
              refine lv_iload_n (pc := 144) hx hb d67_144 rfl (lv_at hl 0 rfl) ?_
              refine lv_iload (pc := 145) hx hb d67_145 (lv_at hl 3 rfl) ?_
              obtain ⟨q12, hq12, h⟩ := jc_some h
              refine k_callS (pc := 147) (n := 2) X hS (c_da_over l ρ _ P x1 x4 q12 hW.2.2.1 hW.2.1  hq12) wd1293 wd1291 wd1292 wd9 (by decide) ⟨rfl, rfl, Nat.le_of_ble_eq_true rfl, Nat.le_of_ble_eq_true rfl⟩ (As := [.int x1, .int x4]) (rest := [.int x2]) rfl rfl hl.1 (Nat.le_of_ble_eq_true rfl) d67_147 ⟨room_l0 hc1, room_l0 hs1⟩ (fun q hq => False.elim hq) (fun v H1 locs1 hv _ _ hSq12 => ?_)
              obtain ⟨rfl, rfl⟩ := hv
              have hS := hSq12
              have hSz := hS.1
              refine lv_isub (pc := 150) hx hb d67_150 ?_
              refine lv_i2d (pc := 151) hx hb d67_151 ?_
              obtain ⟨q13, rq13, hq13, h, herq13, hccq13, hssq13⟩ := jd_some h
              refine k_callS (pc := 152) (n := 1) X hS (c_vl_ofNumber l ρ _ P (FP.i2d (x2 - q12)) q13 hW.2.2.1 hW.2.1  hq13) wd642 wd1219 wd641 wd4 (by decide) ⟨rfl, rfl, Nat.le_of_ble_eq_true rfl, Nat.le_of_ble_eq_true rfl⟩ (As := [.double (FP.i2d (x2 - q12))]) (rest := []) rfl rfl hl.1 (Nat.le_of_ble_eq_true rfl) d67_152 ⟨room_le hccq13 hc1, room_le hssq13 hs1⟩ (fun q hq => hAz q (Nat.le_trans hS.1 hq)) (fun v H1 locs1 hv hz1 hz2 hSq13 => ?_)
              obtain ⟨u14, rfl, fu14⟩ := hv
              have hk : kp no _ H1 := kp_call hz1 hz2 (fun q hq z => absurd hq (Nat.not_lt.mpr z))
              have hW := hW.keep hk no_hz (fun _ _ z => z)
              have hS := hSq13
              have hSz := hS.1
              have her := her.trans herq13
              have hc1 := room_st hccq13 hc1
              have hs1 := room_st hssq13 hs1
              have her : res.1 = (q13.1, st) := her.trans (congrArg Prod.fst (Option.some.inj h)).symm
              exact m_aret (pc := 155) hx hb hr (Or.inl ⟨_, rfl⟩) hlk hS ⟨u14, rfl, by rw [her]; exact fu14, by rw [her]; exact hW⟩ (Nat.le_trans (Nat.le_add_right _ _) hc1) (Nat.le_trans (Nat.le_add_right _ _) hs1) d67_155
          · have h := jb_f c121 h
            refine lv_iload (pc := 124) hx hb d67_124 (lv_at hl 3 rfl) ?_
            refine lv_bipush (pc := 126) (v := 12) hx hb d67_126 (by decide) ?_
            refine lv_irem (pc := 128) hx hb d67_128 (by decide) ?_
            refine lv_i2d (pc := 129) hx hb d67_129 ?_
            obtain ⟨q15, rq15, hq15, h, herq15, hccq15, hssq15⟩ := jd_some h
            refine k_callS (pc := 130) (n := 1) X hS (c_vl_ofNumber l ρ _ P (FP.i2d (x4 - x4 / 12 * 12)) q15 hW.2.2.1 hW.2.1  hq15) wd642 wd1219 wd641 wd4 (by decide) ⟨rfl, rfl, Nat.le_of_ble_eq_true rfl, Nat.le_of_ble_eq_true rfl⟩ (As := [.double (FP.i2d (x4 - x4 / 12 * 12))]) (rest := []) rfl rfl hl.1 (Nat.le_of_ble_eq_true rfl) d67_130 ⟨room_le hccq15 hc1, room_le hssq15 hs1⟩ (fun q hq => hAz q (Nat.le_trans hS.1 hq)) (fun v H1 locs1 hv hz1 hz2 hSq15 => ?_)
            obtain ⟨u16, rfl, fu16⟩ := hv
            have hk : kp no _ H1 := kp_call hz1 hz2 (fun q hq z => absurd hq (Nat.not_lt.mpr z))
            have hW := hW.keep hk no_hz (fun _ _ z => z)
            have hS := hSq15
            have hSz := hS.1
            have her := her.trans herq15
            have hc1 := room_st hccq15 hc1
            have hs1 := room_st hssq15 hs1
            have her : res.1 = (q15.1, st) := her.trans (congrArg Prod.fst (Option.some.inj h)).symm
            exact m_aret (pc := 133) hx hb hr (Or.inl ⟨_, rfl⟩) hlk hS ⟨u16, rfl, by rw [her]; exact fu16, by rw [her]; exact hW⟩ (Nat.le_trans (Nat.le_add_right _ _) hc1) (Nat.le_trans (Nat.le_add_right _ _) hs1) d67_133
        · have h := jb_f c104 h
          refine lv_iload_n (pc := 107) hx hb d67_107 rfl (lv_at hl 1 rfl) ?_
          refine lv_iload_n (pc := 108) hx hb d67_108 rfl (lv_at hl 0 rfl) ?_
          refine lv_isub (pc := 109) hx hb d67_109 ?_
          refine lv_i2d (pc := 110) hx hb d67_110 ?_
          obtain ⟨q17, rq17, hq17, h, herq17, hccq17, hssq17⟩ := jd_some h
          refine k_callS (pc := 111) (n := 1) X hS (c_vl_ofNumber l ρ _ P (FP.i2d (x2 - x1)) q17 hW.2.2.1 hW.2.1  hq17) wd642 wd1219 wd641 wd4 (by decide) ⟨rfl, rfl, Nat.le_of_ble_eq_true rfl, Nat.le_of_ble_eq_true rfl⟩ (As := [.double (FP.i2d (x2 - x1))]) (rest := []) rfl rfl hl.1 (Nat.le_of_ble_eq_true rfl) d67_111 ⟨room_le hccq17 hc1, room_le hssq17 hs1⟩ (fun q hq => hAz q (Nat.le_trans hS.1 hq)) (fun v H1 locs1 hv hz1 hz2 hSq17 => ?_)
          obtain ⟨u18, rfl, fu18⟩ := hv
          have hk : kp no _ H1 := kp_call hz1 hz2 (fun q hq z => absurd hq (Nat.not_lt.mpr z))
          have hW := hW.keep hk no_hz (fun _ _ z => z)
          have hS := hSq17
          have hSz := hS.1
          have her := her.trans herq17
          have hc1 := room_st hccq17 hc1
          have hs1 := room_st hssq17 hs1
          have her : res.1 = (q17.1, st) := her.trans (congrArg Prod.fst (Option.some.inj h)).symm
          exact m_aret (pc := 114) hx hb hr (Or.inl ⟨_, rfl⟩) hlk hS ⟨u18, rfl, by rw [her]; exact fu18, by rw [her]; exact hW⟩ (Nat.le_trans (Nat.le_add_right _ _) hc1) (Nat.le_trans (Nat.le_add_right _ _) hs1) d67_114
      · have h := jb_f c88 h
        refine lv_iload (pc := 91) hx hb d67_91 (lv_at hl 3 rfl) ?_
        refine lv_i2d (pc := 93) hx hb d67_93 ?_
        obtain ⟨q19, rq19, hq19, h, herq19, hccq19, hssq19⟩ := jd_some h
        refine k_callS (pc := 94) (n := 1) X hS (c_vl_ofNumber l ρ _ P (FP.i2d x4) q19 hW.2.2.1 hW.2.1  hq19) wd642 wd1219 wd641 wd4 (by decide) ⟨rfl, rfl, Nat.le_of_ble_eq_true rfl, Nat.le_of_ble_eq_true rfl⟩ (As := [.double (FP.i2d x4)]) (rest := []) rfl rfl hl.1 (Nat.le_of_ble_eq_true rfl) d67_94 ⟨room_le hccq19 hc1, room_le hssq19 hs1⟩ (fun q hq => hAz q (Nat.le_trans hS.1 hq)) (fun v H1 locs1 hv hz1 hz2 hSq19 => ?_)
        obtain ⟨u20, rfl, fu20⟩ := hv
        have hk : kp no _ H1 := kp_call hz1 hz2 (fun q hq z => absurd hq (Nat.not_lt.mpr z))
        have hW := hW.keep hk no_hz (fun _ _ z => z)
        have hS := hSq19
        have hSz := hS.1
        have her := her.trans herq19
        have hc1 := room_st hccq19 hc1
        have hs1 := room_st hssq19 hs1
        have her : res.1 = (q19.1, st) := her.trans (congrArg Prod.fst (Option.some.inj h)).symm
        exact m_aret (pc := 97) hx hb hr (Or.inl ⟨_, rfl⟩) hlk hS ⟨u20, rfl, by rw [her]; exact fu20, by rw [her]; exact hW⟩ (Nat.le_trans (Nat.le_add_right _ _) hc1) (Nat.le_trans (Nat.le_add_right _ _) hs1) d67_97
    · have h := jb_f c69 h
      refine lv_iload (pc := 72) hx hb d67_72 (lv_at hl 3 rfl) ?_
      refine lv_bipush (pc := 74) (v := 12) hx hb d67_74 (by decide) ?_
      refine lv_idiv (pc := 76) hx hb d67_76 (by decide) ?_
      refine lv_i2d (pc := 77) hx hb d67_77 ?_
      obtain ⟨q21, rq21, hq21, h, herq21, hccq21, hssq21⟩ := jd_some h
      refine k_callS (pc := 78) (n := 1) X hS (c_vl_ofNumber l ρ _ P (FP.i2d (x4 / 12)) q21 hW.2.2.1 hW.2.1  hq21) wd642 wd1219 wd641 wd4 (by decide) ⟨rfl, rfl, Nat.le_of_ble_eq_true rfl, Nat.le_of_ble_eq_true rfl⟩ (As := [.double (FP.i2d (x4 / 12))]) (rest := []) rfl rfl hl.1 (Nat.le_of_ble_eq_true rfl) d67_78 ⟨room_le hccq21 hc1, room_le hssq21 hs1⟩ (fun q hq => hAz q (Nat.le_trans hS.1 hq)) (fun v H1 locs1 hv hz1 hz2 hSq21 => ?_)
      obtain ⟨u22, rfl, fu22⟩ := hv
      have hk : kp no _ H1 := kp_call hz1 hz2 (fun q hq z => absurd hq (Nat.not_lt.mpr z))
      have hW := hW.keep hk no_hz (fun _ _ z => z)
      have hS := hSq21
      have hSz := hS.1
      have her := her.trans herq21
      have hc1 := room_st hccq21 hc1
      have hs1 := room_st hssq21 hs1
      have her : res.1 = (q21.1, st) := her.trans (congrArg Prod.fst (Option.some.inj h)).symm
      exact m_aret (pc := 81) hx hb hr (Or.inl ⟨_, rfl⟩) hlk hS ⟨u22, rfl, by rw [her]; exact fu22, by rw [her]; exact hW⟩ (Nat.le_trans (Nat.le_add_right _ _) hc1) (Nat.le_trans (Nat.le_add_right _ _) hs1) d67_81
  have her : res.1 = res.1 := rfl
  have hc1 : 0 + res.2.1 ≤ res.2.1 := Nat.le_of_eq (Nat.zero_add _)
  have hs1 : 0 + res.2.2 ≤ res.2.2 := Nat.le_of_eq (Nat.zero_add _)
  unfold f_da_difference at h
  refine lv_aload_n (pc := 0) hx hb d67_0 rfl (lv_at hl 0 rfl) ?_
  refine c_getK (pc := 1) X hW 5 0 7 1 (C := "WordFunctions$Dates") (T := T7) (N := 3) (by decide) rfl rfl rfl rfl tin7 rfl wd222 rfl rfl d67_1 ?_
  refine lv_iconst (pc := 4) (v := 0) hx hb d67_4 (by decide) ?_
  obtain ⟨q23, hq23, h⟩ := jc_some h
  refine k_callV (pc := 5) (n := 1) X hS (c_ar_day l ρ ad _ P st 0 q23 hW  hq23) wd1232 wd1229 wd1230 wd1231 wd3 (by decide) ⟨rfl, rfl, Nat.le_of_ble_eq_true rfl, Nat.le_of_ble_eq_true rfl⟩ (c_recv X hW 1 3 (by decide) rfl rfl) (As := [.int 0]) (rest := []) rfl rfl hl.1 (Nat.le_of_ble_eq_true rfl) d67_5 ⟨room_l0 hc1, room_l0 hs1⟩ (fun q hq => MA.mono hS.1 hq) (fun v H1 locs1 hv hz1 hz2 hSq23 => ?_)
  have hPq := hW.1
  obtain ⟨rfl, hW⟩ := hv
  have hS := hSq23
  have hSz := hS.1
  refine lv_istore_n (pc := 8) (lv' := [(1, .int q23.1), (0, .ref (ad 5))]) hx hb d67_8 rfl hl (by decide) rfl (fun ls hl => ?_)
  refine lv_aload_n (pc := 9) hx hb d67_9 rfl (lv_at hl 1 rfl) ?_
  refine c_getK (pc := 10) X hW 5 0 7 1 (C := "WordFunctions$Dates") (T := T7) (N := 3) (by decide) rfl rfl rfl rfl tin7 rfl wd222 rfl rfl d67_10 ?_
  refine lv_iconst (pc := 13) (v := 1) hx hb d67_13 (by decide) ?_
  obtain ⟨q24, hq24, h⟩ := jc_some h
  refine k_callV (pc := 14) (n := 1) X hS (c_ar_day l ρ ad _ P q23.2 1 q24 hW  hq24) wd1232 wd1229 wd1230 wd1231 wd3 (by decide) ⟨rfl, rfl, Nat.le_of_ble_eq_true rfl, Nat.le_of_ble_eq_true rfl⟩ (c_recv X hW 1 3 (by decide) rfl rfl) (As := [.int 1]) (rest := []) rfl rfl hl.1 (Nat.le_of_ble_eq_true rfl) d67_14 ⟨room_l0 hc1, room_l0 hs1⟩ (fun q hq => MA.mono hS.1 hq) (fun v H1 locs1 hv hz1 hz2 hSq24 => ?_)
  have hPq := hW.1
  obtain ⟨rfl, hW⟩ := hv
  have hS := hSq24
  have hSz := hS.1
  refine lv_istore_n (pc := 17) (lv' := [(2, .int q24.1), (1, .int q23.1), (0, .ref (ad 5))]) hx hb d67_17 rfl hl (by decide) rfl (fun ls hl => ?_)
  refine lv_aload_n (pc := 18) hx hb d67_18 rfl (lv_at hl 2 rfl) ?_
  refine c_getK (pc := 19) X hW 5 0 7 1 (C := "WordFunctions$Dates") (T := T7) (N := 3) (by decide) rfl rfl rfl rfl tin7 rfl wd222 rfl rfl d67_19 ?_
  refine lv_iconst (pc := 22) (v := 2) hx hb d67_22 (by decide) ?_
  obtain ⟨q25, rq25, hq25, h, herq25, hccq25, hssq25⟩ := jd_some h
  refine k_callV (pc := 23) (n := 1) X hS (c_ar_text l ρ ad _ P q24.2 2 q25 hW  hq25) wd868 wd1279 wd866 wd867 wd3 (by decide) ⟨rfl, rfl, Nat.le_of_ble_eq_true rfl, Nat.le_of_ble_eq_true rfl⟩ (c_recv X hW 1 3 (by decide) rfl rfl) (As := [.int 2]) (rest := []) rfl rfl hl.1 (Nat.le_of_ble_eq_true rfl) d67_23 ⟨room_le hccq25 hc1, room_le hssq25 hs1⟩ (fun q hq => MA.mono hS.1 hq) (fun v H1 locs1 hv hz1 hz2 hSq25 => ?_)
  have hPq := hW.1
  obtain ⟨u26, rfl, fu26, hW⟩ := hv
  have hS := hSq25
  have hSz := hS.1
  have her := her.trans herq25
  have hc1 := room_st hccq25 hc1
  have hs1 := room_st hssq25 hs1
  refine lv_astore_n (pc := 26) (lv' := [(3, .ref u26), (2, .int q24.1), (1, .int q23.1), (0, .ref (ad 5))]) hx hb d67_26 rfl hl (by decide) rfl (fun ls hl => ?_)
  refine lv_iload_n (pc := 27) hx hb d67_27 rfl (lv_at hl 2 rfl) ?_
  refine lv_iload_n (pc := 28) hx hb d67_28 rfl (lv_at hl 1 rfl) ?_
  refine lv_icmp_le (pc := 29) (tgt := 38) hx hb d67_29 (by decide) (fun c29 => ?_) (fun c29 => ?_)
  · have h := jb_t c29 h
    refine lv_iload_n (pc := 38) hx hb d67_38 rfl (lv_at hl 1 rfl) ?_
    obtain ⟨q27, hq27, h⟩ := jc_some h
    refine k_callS (pc := 39) (n := 1) X hS (c_ca_monthOf l ρ _ P q24.1 q27 hW.2.2.1 hW.2.1  hq27) wd1239 wd1237 wd1238 wd29 (by decide) ⟨rfl, rfl, Nat.le_of_ble_eq_true rfl, Nat.le_of_ble_eq_true rfl⟩ (As := [.int q24.1]) (rest := []) rfl rfl hl.1 (Nat.le_of_ble_eq_true rfl) d67_39 ⟨room_l0 hc1, room_l0 hs1⟩ (fun q hq => False.elim hq) (fun v H1 locs1 hv _ _ hSq27 => ?_)
    obtain ⟨rfl, rfl⟩ := hv
    have hS := hSq27
    have hSz := hS.1
    refine lv_iload_n (pc := 42) hx hb d67_42 rfl (lv_at hl 2 rfl) ?_
    obtain ⟨q28, hq28, h⟩ := jc_some h
    refine k_callS (pc := 43) (n := 1) X hS (c_ca_monthOf l ρ _ P q23.1 q28 hW.2.2.1 hW.2.1  hq28) wd1239 wd1237 wd1238 wd29 (by decide) ⟨rfl, rfl, Nat.le_of_ble_eq_true rfl, Nat.le_of_ble_eq_true rfl⟩ (As := [.int q23.1]) (rest := [.int q27]) rfl rfl hl.1 (Nat.le_of_ble_eq_true rfl) d67_43 ⟨room_l0 hc1, room_l0 hs1⟩ (fun q hq => False.elim hq) (fun v H1 locs1 hv _ _ hSq28 => ?_)
    obtain ⟨rfl, rfl⟩ := hv
    have hS := hSq28
    have hSz := hS.1
    refine lv_isub (pc := 46) hx hb d67_46 ?_
    obtain ⟨v29, ev29, h⟩ := jn_ex h
    refine nm_i ev29 ?_
    refine lv_istore (pc := 47) (lv' := [(4, .int v29), (3, .ref u26), (2, .int q24.1), (1, .int q23.1), (0, .ref (ad 5))]) hx hb d67_47 hl (by decide) rfl (fun ls hl => ?_)
    refine lv_iload_n (pc := 49) hx hb d67_49 rfl (lv_at hl 2 rfl) ?_
    obtain ⟨q30, hq30, h⟩ := jc_some h
    refine k_callS (pc := 50) (n := 1) X hS (c_ca_dayInMonth l ρ _ P q24.1 q30 hW.2.2.1 hW.2.1  hq30) wd1245 wd1243 wd1244 wd29 (by decide) ⟨rfl, rfl, Nat.le_of_ble_eq_true rfl, Nat.le_of_ble_eq_true rfl⟩ (As := [.int q24.1]) (rest := []) rfl rfl hl.1 (Nat.le_of_ble_eq_true rfl) d67_50 ⟨room_l0 hc1, room_l0 hs1⟩ (fun q hq => False.elim hq) (fun v H1 locs1 hv _ _ hSq30 => ?_)
    obtain ⟨rfl, rfl⟩ := hv
    have hS := hSq30
    have hSz := hS.1
    refine lv_iload_n (pc := 53) hx hb d67_53 rfl (lv_at hl 3 rfl) ?_
    obtain ⟨q31, hq31, h⟩ := jc_some h
    refine k_callS (pc := 54) (n := 1) X hS (c_ca_dayInMonth l ρ _ P q23.1 q31 hW.2.2.1 hW.2.1  hq31) wd1245 wd1243 wd1244 wd29 (by decide) ⟨rfl, rfl, Nat.le_of_ble_eq_true rfl, Nat.le_of_ble_eq_true rfl⟩ (As := [.int q23.1]) (rest := [.int q30]) rfl rfl hl.1 (Nat.le_of_ble_eq_true rfl) d67_54 ⟨room_l0 hc1, room_l0 hs1⟩ (fun q hq => False.elim hq) (fun v H1 locs1 hv _ _ hSq31 => ?_)
    obtain ⟨rfl, rfl⟩ := hv
    have hS := hSq31
    have hSz := hS.1
    refine lv_icmp_ge (pc := 57) (tgt := 63) hx hb d67_57 (by decide) (fun c57 => ?_) (fun c57 => ?_)
    · have h := jb_t c57 h
      exact kc63   q25.1.2 q23.1 q24.1 q25.1.1 v29 u26 _ _ _ _ _ _ hW hS fu26 (lv_sub hl [3, 2, 1, 0] rfl) her hc1 hs1 h
    · have h := jb_f c57 h
      obtain ⟨v32, ev32, h⟩ := jn_ex h
      refine lv_iinc (pc := 60) (v := v32) (lv' := [(4, .int v32), (3, .ref u26), (2, .int q24.1), (1, .int q23.1), (0, .ref (ad 5))]) hx hb d67_60 hl (k := 0) rfl (by rw [ev32]; rfl) (by decide) rfl (fun ls hl => ?_)
      exact kc63   q25.1.2 q23.1 q24.1 q25.1.1 v32 u26 _ _ _ _ _ _ hW hS fu26 (lv_sub hl [3, 2, 1, 0] rfl) her hc1 hs1 h
  · have h := jb_f c29 h
    refine lv_bipush (pc := 32) (v := 6) hx hb d67_32 (by decide) ?_
    obtain ⟨q33, rq33, hq33, h, herq33, hccq33, hssq33⟩ := jd_some h
    refine k_callS (pc := 34) (n := 1) X hS (c_vl_ofError l ρ _ P 6 q33 hW.2.2.1 hW.2.1  hq33) wd651 wd1196 wd650 wd4 (by decide) ⟨rfl, rfl, Nat.le_of_ble_eq_true rfl, Nat.le_of_ble_eq_true rfl⟩ (As := [.int 6]) (rest := []) rfl rfl hl.1 (Nat.le_of_ble_eq_true rfl) d67_34 ⟨room_le hccq33 hc1, room_le hssq33 hs1⟩ (fun q hq => hAz q (Nat.le_trans hS.1 hq)) (fun v H1 locs1 hv hz1 hz2 hSq33 => ?_)
    obtain ⟨u34, rfl, fu34⟩ := hv
    have hk : kp no _ H1 := kp_call hz1 hz2 (fun q hq z => absurd hq (Nat.not_lt.mpr z))
    have hW := hW.keep hk no_hz (fun _ _ z => z)
    have hS := hSq33
    have hSz := hS.1
    have her := her.trans herq33
    have hc1 := room_st hccq33 hc1
    have hs1 := room_st hssq33 hs1
    have her : res.1 = (q33.1, q25.1.2) := her.trans (congrArg Prod.fst (Option.some.inj h)).symm
    exact m_aret (pc := 37) hx hb hr (Or.inl ⟨_, rfl⟩) hlk hS ⟨u34, rfl, by rw [her]; exact fu34, by rw [her]; exact hW⟩ (Nat.le_trans (Nat.le_add_right _ _) hc1) (Nat.le_trans (Nat.le_add_right _ _) hs1) d67_37
def f_da_isInTime  (p0 : Int32) : Option (Int32) := jb (p0 < 0) (some 0) (jb (32767 < p0) (some 0) (some 1))
set_option maxHeartbeats 4000000 in
set_option maxRecDepth 100000 in
theorem c_da_isInTime (l : Launch) (ρ : RH) (H : Heap) (P : Nat → Prop) (p0 : Int32) (res : Int32) (hC : CC ρ P H) (hPb : ∀ q, P q → q < H.size) (h : f_da_isInTime p0 = some res) : Met l y69 (wsOf y69 b69 1 (some .boolean)) ({ frames := 0, cells := 0, slots := 0, locals := 0 } : Room) (va_Pc [.int p0] (KP ρ H)) (mQ (fun v H1 => v = some (.int res) ∧ H1 = H) (fun _ => False)) 0 0 (fun _ => False) := by
  refine m_ofW (own := "WordFunctions$Dates") (plainFor_of_name rfl) rfl (Nat.le_of_ble_eq_true rfl) fun p e s m args below meth c ls hx hb hr hlk _ X hs hl => ?_
  subst hs
  have hS : va_S (fun _ => False) s.heap s.heap [] := va_S.rf
  have hSz := hS.1
  have hl : lv_has ls 1 [(0, .int p0)] := hl
  unfold f_da_isInTime at h
  refine lv_iload_n (pc := 0) hx hb d69_0 rfl (lv_at hl 0 rfl) ?_
  refine lv_if_lt (pc := 1) (tgt := 15) hx hb d69_1 (by decide) (fun c1 => ?_) (fun c1 => ?_)
  · have h := jb_t c1 h
    refine lv_iconst (pc := 15) (v := 0) hx hb d69_15 (by decide) ?_
    obtain rfl := Option.some.inj h
    exact m_zret (pc := 16) hx hb hr hlk hS ⟨rfl, rfl⟩ (Nat.le_refl _) (Nat.le_refl _) d69_16 (by decide)
  · have h := jb_f c1 h
    refine lv_iload_n (pc := 4) hx hb d69_4 rfl (lv_at hl 0 rfl) ?_
    refine lv_sipush (pc := 5) (v := 32767) hx hb d69_5 (by decide) ?_
    refine lv_icmp_gt (pc := 8) (tgt := 15) hx hb d69_8 (by decide) (fun c8 => ?_) (fun c8 => ?_)
    · have h := jb_t c8 h
      refine lv_iconst (pc := 15) (v := 0) hx hb d69_15 (by decide) ?_
      obtain rfl := Option.some.inj h
      exact m_zret (pc := 16) hx hb hr hlk hS ⟨rfl, rfl⟩ (Nat.le_refl _) (Nat.le_refl _) d69_16 (by decide)
    · have h := jb_f c8 h
      refine lv_iconst (pc := 11) (v := 1) hx hb d69_11 (by decide) ?_
      refine lv_goto (pc := 12) (tgt := 16) hx hb d69_12 (by decide) ?_
      obtain rfl := Option.some.inj h
      exact m_zret (pc := 16) hx hb hr hlk hS ⟨rfl, rfl⟩ (Nat.le_refl _) (Nat.le_refl _) d69_16 (by decide)
def da_monthsLater_64  (st : CS) (x4 : Int32) (z0 : Int32) : Option ((VV × CS) × Nat × Nat) := jc (f_ca_firstOf x4) (fun q1 => jd (f_da_dateOrError ((q1 + z0) - 1)) (fun q2 => some ((q2, st), 0, 0)))
def f_da_monthsLater (st : CS) (p0 : Int32) : Option ((VV × CS) × Nat × Nat) := jc (f_ar_day st 0) (fun q4 => jc (f_ar_whole q4.2 1) (fun q5 => jc (f_da_isFar q5.1) (fun q6 => jb (q6 = 0) (jc (f_ca_monthOf q4.1) (fun q7 => jn (q7 + q5.1) (fun v8 => jc (f_ca_lengthOf v8) (fun q9 => jb (p0 = 0) (jc (f_ca_dayInMonth q4.1) (fun q10 => jc (f_ma_min q10 q9) (fun q11 => da_monthsLater_64 q5.2 v8 q11))) (da_monthsLater_64 q5.2 v8 q9))))) (jd (f_vl_ofError 6) (fun q12 => some ((q12, q5.2), 0, 0))))))
set_option maxHeartbeats 4000000 in
set_option maxRecDepth 100000 in
theorem c_da_monthsLater (l : Launch) (ρ : RH) (ad : Nat → Nat) (H : Heap) (P : Nat → Prop) (st : CS) (p0 : Int32) (res : (VV × CS) × Nat × Nat) (hW : CW ρ P ad st H) (h : f_da_monthsLater st p0 = some res) : Met l y71 (wsOf y71 b71 7 (some (.object "WordFunctions$Value"))) ({ frames := 16, cells := res.2.1, slots := res.2.2, locals := 698 } : Room) (va_Pc [.ref (ad 5), .int p0] (KP ρ H)) (mQ (fun v H1 => ∃ x : Nat, v = some (.ref x) ∧ isV ρ P H1 x res.1.1 ∧ CW ρ P ad res.1.2 H1) (MA wC ad H.size)) res.2.1 res.2.2 (MA wC ad H.size) := by
  refine m_ofW (own := "WordFunctions$Dates") (plainFor_of_name rfl) rfl (Nat.le_of_ble_eq_true rfl) fun p e s m args below meth c ls hx hb hr hlk _ X hs hl => ?_
  subst hs
  have hS : va_S (MA wC ad s.heap.size) s.heap s.heap [] := va_S.rf
  have hSz := hS.1
  have hAz : ∀ q, s.heap.size ≤ q → (MA wC ad s.heap.size) q := fun q hq => Or.inr hq
  have hAp : ∀ i, i < 46 → (MA wC ad s.heap.size) (ad i) := fun i hi => MA.in hi
  have hPp : ∀ i, i < 46 → P (ad i) := hW.1
  have hl : lv_has ls 7 [(0, .ref (ad 5)), (1, .int p0)] := hl
  have kc64 : ∀ (st : CS) (x4 : Int32) (z0 : Int32) (H : Heap) (locs : List Loc) (ls : Array Slot) (cells slots : Nat) (r : (VV × CS) × Nat × Nat), CW ρ P ad st H → va_S (MA wC ad s.heap.size) s.heap H locs → lv_has ls 7 [(4, .int x4)] → res.1 = r.1 → cells + r.2.1 ≤ res.2.1 → slots + r.2.2 ≤ res.2.2 → da_monthsLater_64 st x4 z0 = some r → W p l e ({ frames := 16, cells := res.2.1, slots := res.2.2, locals := 698 } : Room) s m args below meth c H locs cells slots (MQ below (mQ (fun v H1 => ∃ x : Nat, v = some (.ref x) ∧ isV ρ P H1 x res.1.1 ∧ CW ρ P ad res.1.2 H1) (MA wC ad s.heap.size)) args s res.2.1 res.2.2 (MA wC ad s.heap.size)) (F0 m 64 ls [.int z0]) := by
    intro st x4 z0 H locs ls cells slots r hW hS hl her hc1 hs1 h
    have hSz := hS.1
    unfold da_monthsLater_64 at h
    refine lv_istore (pc := 64) (lv' := [(6, .int z0), (4, .int x4)]) hx hb d71_64 hl (by decide) rfl (fun ls hl => ?_)
    refine lv_iload (pc := 66) hx hb d71_66 (lv_at hl 1 rfl) ?_
    obtain ⟨q1, hq1, h⟩ := jc_some h
    refine k_callS (pc := 68) (n := 1) X hS (c_ca_firstOf l ρ _ P x4 q1 hW.2.2.1 hW.2.1  hq1) wd1199 wd1197 wd1198 wd29 (by decide) ⟨rfl, rfl, Nat.le_of_ble_eq_true rfl, Nat.le_of_ble_eq_true rfl⟩ (As := [.int x4]) (rest := []) rfl rfl hl.1 (Nat.le_of_ble_eq_true rfl) d71_68 ⟨room_l0 hc1, room_l0 hs1⟩ (fun q hq => False.elim hq) (fun v H1 locs1 hv _ _ hSq1 => ?_)
    obtain ⟨rfl, rfl⟩ := hv
    have hS := hSq1
    have hSz := hS.1
    refine lv_iload (pc := 71) hx hb d71_71 (lv_at hl 0 rfl) ?_
    refine lv_iadd (pc := 73) hx hb d71_73 ?_
    refine lv_iconst (pc := 74) (v := 1) hx hb d71_74 (by decide) ?_
    refine lv_isub (pc := 75) hx hb d71_75 ?_
    obtain ⟨q2, rq2, hq2, h, herq2, hccq2, hssq2⟩ := jd_some h
    refine k_callS (pc := 76) (n := 1) X hS (c_da_dateOrError l ρ _ P ((q1 + z0) - 1) q2 hW.2.2.1 hW.2.1  hq2) wd1214 wd1212 wd1213 wd9 (by decide) ⟨rfl, rfl, Nat.le_of_ble_eq_true rfl, Nat.le_of_ble_eq_true rfl⟩ (As := [.int ((q1 + z0) - 1)]) (rest := []) rfl rfl hl.1 (Nat.le_of_ble_eq_true rfl) d71_76 ⟨room_le hccq2 hc1, room_le hssq2 hs1⟩ (fun q hq => hAz q (Nat.le_trans hS.1 hq)) (fun v H1 locs1 hv hz1 hz2 hSq2 => ?_)
    obtain ⟨u3, rfl, fu3⟩ := hv
    have hk : kp no _ H1 := kp_call hz1 hz2 (fun q hq z => absurd hq (Nat.not_lt.mpr z))
    have hW := hW.keep hk no_hz (fun _ _ z => z)
    have hS := hSq2
    have hSz := hS.1
    have her := her.trans herq2
    have hc1 := room_st hccq2 hc1
    have hs1 := room_st hssq2 hs1
    have her : res.1 = (q2.1, st) := her.trans (congrArg Prod.fst (Option.some.inj h)).symm
    exact m_aret (pc := 79) hx hb hr (Or.inl ⟨_, rfl⟩) hlk hS ⟨u3, rfl, by rw [her]; exact fu3, by rw [her]; exact hW⟩ (Nat.le_trans (Nat.le_add_right _ _) hc1) (Nat.le_trans (Nat.le_add_right _ _) hs1) d71_79
  have her : res.1 = res.1 := rfl
  have hc1 : 0 + res.2.1 ≤ res.2.1 := Nat.le_of_eq (Nat.zero_add _)
  have hs1 : 0 + res.2.2 ≤ res.2.2 := Nat.le_of_eq (Nat.zero_add _)
  unfold f_da_monthsLater at h
  refine lv_aload_n (pc := 0) hx hb d71_0 rfl (lv_at hl 0 rfl) ?_
  refine c_getK (pc := 1) X hW 5 0 7 1 (C := "WordFunctions$Dates") (T := T7) (N := 3) (by decide) rfl rfl rfl rfl tin7 rfl wd222 rfl rfl d71_1 ?_
  refine lv_iconst (pc := 4) (v := 0) hx hb d71_4 (by decide) ?_
  obtain ⟨q4, hq4, h⟩ := jc_some h
  refine k_callV (pc := 5) (n := 1) X hS (c_ar_day l ρ ad _ P st 0 q4 hW  hq4) wd1232 wd1229 wd1230 wd1231 wd3 (by decide) ⟨rfl, rfl, Nat.le_of_ble_eq_true rfl, Nat.le_of_ble_eq_true rfl⟩ (c_recv X hW 1 3 (by decide) rfl rfl) (As := [.int 0]) (rest := []) rfl rfl hl.1 (Nat.le_of_ble_eq_true rfl) d71_5 ⟨room_l0 hc1, room_l0 hs1⟩ (fun q hq => MA.mono hS.1 hq) (fun v H1 locs1 hv hz1 hz2 hSq4 => ?_)
  have hPq := hW.1
  obtain ⟨rfl, hW⟩ := hv
  have hS := hSq4
  have hSz := hS.1
  refine lv_istore_n (pc := 8) (lv' := [(2, .int q4.1), (0, .ref (ad 5)), (1, .int p0)]) hx hb d71_8 rfl hl (by decide) rfl (fun ls hl => ?_)
  refine lv_aload_n (pc := 9) hx hb d71_9 rfl (lv_at hl 1 rfl) ?_
  refine c_getK (pc := 10) X hW 5 0 7 1 (C := "WordFunctions$Dates") (T := T7) (N := 3) (by decide) rfl rfl rfl rfl tin7 rfl wd222 rfl rfl d71_10 ?_
  refine lv_iconst (pc := 13) (v := 1) hx hb d71_13 (by decide) ?_
  obtain ⟨q5, hq5, h⟩ := jc_some h
  refine k_callV (pc := 14) (n := 1) X hS (c_ar_whole l ρ ad _ P q4.2 1 q5 hW  hq5) wd762 wd1190 wd760 wd761 wd3 (by decide) ⟨rfl, rfl, Nat.le_of_ble_eq_true rfl, Nat.le_of_ble_eq_true rfl⟩ (c_recv X hW 1 3 (by decide) rfl rfl) (As := [.int 1]) (rest := []) rfl rfl hl.1 (Nat.le_of_ble_eq_true rfl) d71_14 ⟨room_l0 hc1, room_l0 hs1⟩ (fun q hq => MA.mono hS.1 hq) (fun v H1 locs1 hv hz1 hz2 hSq5 => ?_)
  have hPq := hW.1
  obtain ⟨rfl, hW⟩ := hv
  have hS := hSq5
  have hSz := hS.1
  refine lv_istore_n (pc := 17) (lv' := [(3, .int q5.1), (2, .int q4.1), (0, .ref (ad 5)), (1, .int p0)]) hx hb d71_17 rfl hl (by decide) rfl (fun ls hl => ?_)
  refine lv_iload_n (pc := 18) hx hb d71_18 rfl (lv_at hl 0 rfl) ?_
  obtain ⟨q6, hq6, h⟩ := jc_some h
  refine k_callS (pc := 19) (n := 1) X hS (c_da_isFar l ρ _ P q5.1 q6 hW.2.2.1 hW.2.1  hq6) wd1193 wd1191 wd1192 wd9 (by decide) ⟨rfl, rfl, Nat.le_of_ble_eq_true rfl, Nat.le_of_ble_eq_true rfl⟩ (As := [.int q5.1]) (rest := []) rfl rfl hl.1 (Nat.le_of_ble_eq_true rfl) d71_19 ⟨room_l0 hc1, room_l0 hs1⟩ (fun q hq => False.elim hq) (fun v H1 locs1 hv _ _ hSq6 => ?_)
  obtain ⟨rfl, rfl⟩ := hv
  have hS := hSq6
  have hSz := hS.1
  refine lv_if_eq (pc := 22) (tgt := 31) hx hb d71_22 (by decide) (fun c22 => ?_) (fun c22 => ?_)
  · have h := jb_t c22 h
    refine lv_iload_n (pc := 31) hx hb d71_31 rfl (lv_at hl 1 rfl) ?_
    obtain ⟨q7, hq7, h⟩ := jc_some h
    refine k_callS (pc := 32) (n := 1) X hS (c_ca_monthOf l ρ _ P q4.1 q7 hW.2.2.1 hW.2.1  hq7) wd1239 wd1237 wd1238 wd29 (by decide) ⟨rfl, rfl, Nat.le_of_ble_eq_true rfl, Nat.le_of_ble_eq_true rfl⟩ (As := [.int q4.1]) (rest := []) rfl rfl hl.1 (Nat.le_of_ble_eq_true rfl) d71_32 ⟨room_l0 hc1, room_l0 hs1⟩ (fun q hq => False.elim hq) (fun v H1 locs1 hv _ _ hSq7 => ?_)
    obtain ⟨rfl, rfl⟩ := hv
    have hS := hSq7
    have hSz := hS.1
    refine lv_iload_n (pc := 35) hx hb d71_35 rfl (lv_at hl 0 rfl) ?_
    refine lv_iadd (pc := 36) hx hb d71_36 ?_
    obtain ⟨v8, ev8, h⟩ := jn_ex h
    refine nm_i ev8 ?_
    refine lv_istore (pc := 37) (lv' := [(4, .int v8), (3, .int q5.1), (2, .int q4.1), (0, .ref (ad 5)), (1, .int p0)]) hx hb d71_37 hl (by decide) rfl (fun ls hl => ?_)
    refine lv_iload (pc := 39) hx hb d71_39 (lv_at hl 0 rfl) ?_
    obtain ⟨q9, hq9, h⟩ := jc_some h
    refine k_callS (pc := 41) (n := 1) X hS (c_ca_lengthOf l ρ _ P v8 q9 hW.2.2.1 hW.2.1  hq9) wd1269 wd1267 wd1268 wd29 (by decide) ⟨rfl, rfl, Nat.le_of_ble_eq_true rfl, Nat.le_of_ble_eq_true rfl⟩ (As := [.int v8]) (rest := []) rfl rfl hl.1 (Nat.le_of_ble_eq_true rfl) d71_41 ⟨room_l0 hc1, room_l0 hs1⟩ (fun q hq => False.elim hq) (fun v H1 locs1 hv _ _ hSq9 => ?_)
    obtain ⟨rfl, rfl⟩ := hv
    have hS := hSq9
    have hSz := hS.1
    refine lv_istore (pc := 44) (lv' := [(5, .int q9), (4, .int v8), (3, .int q5.1), (2, .int q4.1), (0, .ref (ad 5)), (1, .int p0)]) hx hb d71_44 hl (by decide) rfl (fun ls hl => ?_)
    refine lv_iload_n (pc := 46) hx hb d71_46 rfl (lv_at hl 5 rfl) ?_
    refine lv_if_eq (pc := 47) (tgt := 55) hx hb d71_47 (by decide) (fun c47 => ?_) (fun c47 => ?_)
    · have h := jb_t c47 h
      refine lv_iload_n (pc := 55) hx hb d71_55 rfl (lv_at hl 3 rfl) ?_
      obtain ⟨q10, hq10, h⟩ := jc_some h
      refine k_callS (pc := 56) (n := 1) X hS (c_ca_dayInMonth l ρ _ P q4.1 q10 hW.2.2.1 hW.2.1  hq10) wd1245 wd1243 wd1244 wd29 (by decide) ⟨rfl, rfl, Nat.le_of_ble_eq_true rfl, Nat.le_of_ble_eq_true rfl⟩ (As := [.int q4.1]) (rest := []) rfl rfl hl.1 (Nat.le_of_ble_eq_true rfl) d71_56 ⟨room_l0 hc1, room_l0 hs1⟩ (fun q hq => False.elim hq) (fun v H1 locs1 hv _ _ hSq10 => ?_)
      obtain ⟨rfl, rfl⟩ := hv
      have hS := hSq10
      have hSz := hS.1
      refine lv_iload (pc := 59) hx hb d71_59 (lv_at hl 0 rfl) ?_
      obtain ⟨q11, hq11, h⟩ := jc_some h
      refine k_callS (pc := 61) (n := 2) X hS (c_ma_min l ρ _ P q10 q9 q11 hW.2.2.1 hW.2.1  hq11) wd351 wd1270 wd350 wd17 (by decide) ⟨rfl, rfl, Nat.le_of_ble_eq_true rfl, Nat.le_of_ble_eq_true rfl⟩ (As := [.int q10, .int q9]) (rest := []) rfl rfl hl.1 (Nat.le_of_ble_eq_true rfl) d71_61 ⟨room_l0 hc1, room_l0 hs1⟩ (fun q hq => False.elim hq) (fun v H1 locs1 hv _ _ hSq11 => ?_)
      obtain ⟨rfl, rfl⟩ := hv
      have hS := hSq11
      have hSz := hS.1
      exact kc64   q5.2 v8 q11 _ _ _ _ _ _ hW hS (lv_sub hl [1] rfl) her hc1 hs1 h
    · have h := jb_f c47 h
      refine lv_iload (pc := 50) hx hb d71_50 (lv_at hl 0 rfl) ?_
      refine lv_goto (pc := 52) (tgt := 64) hx hb d71_52 (by decide) ?_
      exact kc64   q5.2 v8 q9 _ _ _ _ _ _ hW hS (lv_sub hl [1] rfl) her hc1 hs1 h
  · have h := jb_f c22 h
    refine lv_bipush (pc := 25) (v := 6) hx hb d71_25 (by decide) ?_
    obtain ⟨q12, rq12, hq12, h, herq12, hccq12, hssq12⟩ := jd_some h
    refine k_callS (pc := 27) (n := 1) X hS (c_vl_ofError l ρ _ P 6 q12 hW.2.2.1 hW.2.1  hq12) wd651 wd1196 wd650 wd4 (by decide) ⟨rfl, rfl, Nat.le_of_ble_eq_true rfl, Nat.le_of_ble_eq_true rfl⟩ (As := [.int 6]) (rest := []) rfl rfl hl.1 (Nat.le_of_ble_eq_true rfl) d71_27 ⟨room_le hccq12 hc1, room_le hssq12 hs1⟩ (fun q hq => hAz q (Nat.le_trans hS.1 hq)) (fun v H1 locs1 hv hz1 hz2 hSq12 => ?_)
    obtain ⟨u13, rfl, fu13⟩ := hv
    have hk : kp no _ H1 := kp_call hz1 hz2 (fun q hq z => absurd hq (Nat.not_lt.mpr z))
    have hW := hW.keep hk no_hz (fun _ _ z => z)
    have hS := hSq12
    have hSz := hS.1
    have her := her.trans herq12
    have hc1 := room_st hccq12 hc1
    have hs1 := room_st hssq12 hs1
    have her : res.1 = (q12.1, q5.2) := her.trans (congrArg Prod.fst (Option.some.inj h)).symm
    exact m_aret (pc := 30) hx hb hr (Or.inl ⟨_, rfl⟩) hlk hS ⟨u13, rfl, by rw [her]; exact fu13, by rw [her]; exact hW⟩ (Nat.le_trans (Nat.le_add_right _ _) hc1) (Nat.le_trans (Nat.le_add_right _ _) hs1) d71_30
def da_time_48  (st : CS) : Option ((VV × CS) × Nat × Nat) := jd (f_vl_ofError 6) (fun q1 => some ((q1, st), 0, 0))
def f_da_time (st : CS) : Option ((VV × CS) × Nat × Nat) := jc (f_ar_whole st 0) (fun q3 => jc (f_ar_whole q3.2 1) (fun q4 => jc (f_ar_whole q4.2 2) (fun q5 => jc (f_da_isInTime q3.1) (fun q6 => jb (q6 = 0) (da_time_48 q5.2) (jc (f_da_isInTime q4.1) (fun q7 => jb (q7 = 0) (da_time_48 q5.2) (jc (f_da_isInTime q5.1) (fun q8 => jb (q8 = 0) (da_time_48 q5.2) (jg (nn (FP.ddiv (FP.i2d ((((q3.1 * 3600) + (q4.1 * 60)) + q5.1) - (((q3.1 * 3600) + (q4.1 * 60)) + q5.1) / 86400 * 86400)) (4680673776000565248 : UInt64))) (jd (f_vl_ofNumber (FP.ddiv (FP.i2d ((((q3.1 * 3600) + (q4.1 * 60)) + q5.1) - (((q3.1 * 3600) + (q4.1 * 60)) + q5.1) / 86400 * 86400)) (4680673776000565248 : UInt64))) (fun q10 => some ((q10, q5.2), 0, 0))))))))))))
set_option maxHeartbeats 4000000 in
set_option maxRecDepth 100000 in
theorem c_da_time (l : Launch) (ρ : RH) (ad : Nat → Nat) (H : Heap) (P : Nat → Prop) (st : CS) (res : (VV × CS) × Nat × Nat) (hW : CW ρ P ad st H) (h : f_da_time st = some res) : Met l y76 (wsOf y76 b76 4 (some (.object "WordFunctions$Value"))) ({ frames := 16, cells := res.2.1, slots := res.2.2, locals := 698 } : Room) (va_Pc [.ref (ad 5)] (KP ρ H)) (mQ (fun v H1 => ∃ x : Nat, v = some (.ref x) ∧ isV ρ P H1 x res.1.1 ∧ CW ρ P ad res.1.2 H1) (MA wC ad H.size)) res.2.1 res.2.2 (MA wC ad H.size) := by
  refine m_ofW (own := "WordFunctions$Dates") (plainFor_of_name rfl) rfl (Nat.le_of_ble_eq_true rfl) fun p e s m args below meth c ls hx hb hr hlk _ X hs hl => ?_
  subst hs
  have hS : va_S (MA wC ad s.heap.size) s.heap s.heap [] := va_S.rf
  have hSz := hS.1
  have hAz : ∀ q, s.heap.size ≤ q → (MA wC ad s.heap.size) q := fun q hq => Or.inr hq
  have hAp : ∀ i, i < 46 → (MA wC ad s.heap.size) (ad i) := fun i hi => MA.in hi
  have hPp : ∀ i, i < 46 → P (ad i) := hW.1
  have hl : lv_has ls 4 [(0, .ref (ad 5))] := hl
  have kc48 : ∀ (st : CS) (H : Heap) (locs : List Loc) (ls : Array Slot) (cells slots : Nat) (r : (VV × CS) × Nat × Nat), CW ρ P ad st H → va_S (MA wC ad s.heap.size) s.heap H locs → lv_has ls 4 [] → res.1 = r.1 → cells + r.2.1 ≤ res.2.1 → slots + r.2.2 ≤ res.2.2 → da_time_48 st = some r → W p l e ({ frames := 16, cells := res.2.1, slots := res.2.2, locals := 698 } : Room) s m args below meth c H locs cells slots (MQ below (mQ (fun v H1 => ∃ x : Nat, v = some (.ref x) ∧ isV ρ P H1 x res.1.1 ∧ CW ρ P ad res.1.2 H1) (MA wC ad s.heap.size)) args s res.2.1 res.2.2 (MA wC ad s.heap.size)) (F0 m 48 ls []) := by
    intro st H locs ls cells slots r hW hS hl her hc1 hs1 h
    have hSz := hS.1
    unfold da_time_48 at h
    refine lv_bipush (pc := 48) (v := 6) hx hb d76_48 (by decide) ?_
    obtain ⟨q1, rq1, hq1, h, herq1, hccq1, hssq1⟩ := jd_some h
    refine k_callS (pc := 50) (n := 1) X hS (c_vl_ofError l ρ _ P 6 q1 hW.2.2.1 hW.2.1  hq1) wd651 wd1196 wd650 wd4 (by decide) ⟨rfl, rfl, Nat.le_of_ble_eq_true rfl, Nat.le_of_ble_eq_true rfl⟩ (As := [.int 6]) (rest := []) rfl rfl hl.1 (Nat.le_of_ble_eq_true rfl) d76_50 ⟨room_le hccq1 hc1, room_le hssq1 hs1⟩ (fun q hq => hAz q (Nat.le_trans hS.1 hq)) (fun v H1 locs1 hv hz1 hz2 hSq1 => ?_)
    obtain ⟨u2, rfl, fu2⟩ := hv
    have hk : kp no _ H1 := kp_call hz1 hz2 (fun q hq z => absurd hq (Nat.not_lt.mpr z))
    have hW := hW.keep hk no_hz (fun _ _ z => z)
    have hS := hSq1
    have hSz := hS.1
    have her := her.trans herq1
    have hc1 := room_st hccq1 hc1
    have hs1 := room_st hssq1 hs1
    have her : res.1 = (q1.1, st) := her.trans (congrArg Prod.fst (Option.some.inj h)).symm
    exact m_aret (pc := 53) hx hb hr (Or.inl ⟨_, rfl⟩) hlk hS ⟨u2, rfl, by rw [her]; exact fu2, by rw [her]; exact hW⟩ (Nat.le_trans (Nat.le_add_right _ _) hc1) (Nat.le_trans (Nat.le_add_right _ _) hs1) d76_53
  have her : res.1 = res.1 := rfl
  have hc1 : 0 + res.2.1 ≤ res.2.1 := Nat.le_of_eq (Nat.zero_add _)
  have hs1 : 0 + res.2.2 ≤ res.2.2 := Nat.le_of_eq (Nat.zero_add _)
  unfold f_da_time at h
  refine lv_aload_n (pc := 0) hx hb d76_0 rfl (lv_at hl 0 rfl) ?_
  refine c_getK (pc := 1) X hW 5 0 7 1 (C := "WordFunctions$Dates") (T := T7) (N := 3) (by decide) rfl rfl rfl rfl tin7 rfl wd222 rfl rfl d76_1 ?_
  refine lv_iconst (pc := 4) (v := 0) hx hb d76_4 (by decide) ?_
  obtain ⟨q3, hq3, h⟩ := jc_some h
  refine k_callV (pc := 5) (n := 1) X hS (c_ar_whole l ρ ad _ P st 0 q3 hW  hq3) wd762 wd1190 wd760 wd761 wd3 (by decide) ⟨rfl, rfl, Nat.le_of_ble_eq_true rfl, Nat.le_of_ble_eq_true rfl⟩ (c_recv X hW 1 3 (by decide) rfl rfl) (As := [.int 0]) (rest := []) rfl rfl hl.1 (Nat.le_of_ble_eq_true rfl) d76_5 ⟨room_l0 hc1, room_l0 hs1⟩ (fun q hq => MA.mono hS.1 hq) (fun v H1 locs1 hv hz1 hz2 hSq3 => ?_)
  have hPq := hW.1
  obtain ⟨rfl, hW⟩ := hv
  have hS := hSq3
  have hSz := hS.1
  refine lv_istore_n (pc := 8) (lv' := [(1, .int q3.1), (0, .ref (ad 5))]) hx hb d76_8 rfl hl (by decide) rfl (fun ls hl => ?_)
  refine lv_aload_n (pc := 9) hx hb d76_9 rfl (lv_at hl 1 rfl) ?_
  refine c_getK (pc := 10) X hW 5 0 7 1 (C := "WordFunctions$Dates") (T := T7) (N := 3) (by decide) rfl rfl rfl rfl tin7 rfl wd222 rfl rfl d76_10 ?_
  refine lv_iconst (pc := 13) (v := 1) hx hb d76_13 (by decide) ?_
  obtain ⟨q4, hq4, h⟩ := jc_some h
  refine k_callV (pc := 14) (n := 1) X hS (c_ar_whole l ρ ad _ P q3.2 1 q4 hW  hq4) wd762 wd1190 wd760 wd761 wd3 (by decide) ⟨rfl, rfl, Nat.le_of_ble_eq_true rfl, Nat.le_of_ble_eq_true rfl⟩ (c_recv X hW 1 3 (by decide) rfl rfl) (As := [.int 1]) (rest := []) rfl rfl hl.1 (Nat.le_of_ble_eq_true rfl) d76_14 ⟨room_l0 hc1, room_l0 hs1⟩ (fun q hq => MA.mono hS.1 hq) (fun v H1 locs1 hv hz1 hz2 hSq4 => ?_)
  have hPq := hW.1
  obtain ⟨rfl, hW⟩ := hv
  have hS := hSq4
  have hSz := hS.1
  refine lv_istore_n (pc := 17) (lv' := [(2, .int q4.1), (1, .int q3.1), (0, .ref (ad 5))]) hx hb d76_17 rfl hl (by decide) rfl (fun ls hl => ?_)
  refine lv_aload_n (pc := 18) hx hb d76_18 rfl (lv_at hl 2 rfl) ?_
  refine c_getK (pc := 19) X hW 5 0 7 1 (C := "WordFunctions$Dates") (T := T7) (N := 3) (by decide) rfl rfl rfl rfl tin7 rfl wd222 rfl rfl d76_19 ?_
  refine lv_iconst (pc := 22) (v := 2) hx hb d76_22 (by decide) ?_
  obtain ⟨q5, hq5, h⟩ := jc_some h
  refine k_callV (pc := 23) (n := 1) X hS (c_ar_whole l ρ ad _ P q4.2 2 q5 hW  hq5) wd762 wd1190 wd760 wd761 wd3 (by decide) ⟨rfl, rfl, Nat.le_of_ble_eq_true rfl, Nat.le_of_ble_eq_true rfl⟩ (c_recv X hW 1 3 (by decide) rfl rfl) (As := [.int 2]) (rest := []) rfl rfl hl.1 (Nat.le_of_ble_eq_true rfl) d76_23 ⟨room_l0 hc1, room_l0 hs1⟩ (fun q hq => MA.mono hS.1 hq) (fun v H1 locs1 hv hz1 hz2 hSq5 => ?_)
  have hPq := hW.1
  obtain ⟨rfl, hW⟩ := hv
  have hS := hSq5
  have hSz := hS.1
  refine lv_istore_n (pc := 26) (lv' := [(3, .int q5.1), (2, .int q4.1), (1, .int q3.1), (0, .ref (ad 5))]) hx hb d76_26 rfl hl (by decide) rfl (fun ls hl => ?_)
  refine lv_iload_n (pc := 27) hx hb d76_27 rfl (lv_at hl 2 rfl) ?_
  obtain ⟨q6, hq6, h⟩ := jc_some h
  refine k_callS (pc := 28) (n := 1) X hS (c_da_isInTime l ρ _ P q3.1 q6 hW.2.2.1 hW.2.1  hq6) wd1226 wd1224 wd1225 wd9 (by decide) ⟨rfl, rfl, Nat.le_of_ble_eq_true rfl, Nat.le_of_ble_eq_true rfl⟩ (As := [.int q3.1]) (rest := []) rfl rfl hl.1 (Nat.le_of_ble_eq_true rfl) d76_28 ⟨room_l0 hc1, room_l0 hs1⟩ (fun q hq => False.elim hq) (fun v H1 locs1 hv _ _ hSq6 => ?_)
  obtain ⟨rfl, rfl⟩ := hv
  have hS := hSq6
  have hSz := hS.1
  refine lv_if_eq (pc := 31) (tgt := 48) hx hb d76_31 (by decide) (fun c31 => ?_) (fun c31 => ?_)
  · have h := jb_t c31 h
    exact kc48   q5.2 _ _ _ _ _ _ hW hS (lv_sub hl [] rfl) her hc1 hs1 h
  · have h := jb_f c31 h
    refine lv_iload_n (pc := 34) hx hb d76_34 rfl (lv_at hl 1 rfl) ?_
    obtain ⟨q7, hq7, h⟩ := jc_some h
    refine k_callS (pc := 35) (n := 1) X hS (c_da_isInTime l ρ _ P q4.1 q7 hW.2.2.1 hW.2.1  hq7) wd1226 wd1224 wd1225 wd9 (by decide) ⟨rfl, rfl, Nat.le_of_ble_eq_true rfl, Nat.le_of_ble_eq_true rfl⟩ (As := [.int q4.1]) (rest := []) rfl rfl hl.1 (Nat.le_of_ble_eq_true rfl) d76_35 ⟨room_l0 hc1, room_l0 hs1⟩ (fun q hq => False.elim hq) (fun v H1 locs1 hv _ _ hSq7 => ?_)
    obtain ⟨rfl, rfl⟩ := hv
    have hS := hSq7
    have hSz := hS.1
    refine lv_if_eq (pc := 38) (tgt := 48) hx hb d76_38 (by decide) (fun c38 => ?_) (fun c38 => ?_)
    · have h := jb_t c38 h
      exact kc48   q5.2 _ _ _ _ _ _ hW hS (lv_sub hl [] rfl) her hc1 hs1 h
    · have h := jb_f c38 h
      refine lv_iload_n (pc := 41) hx hb d76_41 rfl (lv_at hl 0 rfl) ?_
      obtain ⟨q8, hq8, h⟩ := jc_some h
      refine k_callS (pc := 42) (n := 1) X hS (c_da_isInTime l ρ _ P q5.1 q8 hW.2.2.1 hW.2.1  hq8) wd1226 wd1224 wd1225 wd9 (by decide) ⟨rfl, rfl, Nat.le_of_ble_eq_true rfl, Nat.le_of_ble_eq_true rfl⟩ (As := [.int q5.1]) (rest := []) rfl rfl hl.1 (Nat.le_of_ble_eq_true rfl) d76_42 ⟨room_l0 hc1, room_l0 hs1⟩ (fun q hq => False.elim hq) (fun v H1 locs1 hv _ _ hSq8 => ?_)
      obtain ⟨rfl, rfl⟩ := hv
      have hS := hSq8
      have hSz := hS.1
      refine lv_if_ne (pc := 45) (tgt := 54) hx hb d76_45 (by decide) (fun c45 => ?_) (fun c45 => ?_)
      · have h := jb_f c45 h
        refine lv_iload_n (pc := 54) hx hb d76_54 rfl (lv_at hl 2 rfl) ?_
        refine lv_sipush (pc := 55) (v := 3600) hx hb d76_55 (by decide) ?_
        refine lv_imul (pc := 58) hx hb d76_58 ?_
        refine lv_iload_n (pc := 59) hx hb d76_59 rfl (lv_at hl 1 rfl) ?_
        refine lv_bipush (pc := 60) (v := 60) hx hb d76_60 (by decide) ?_
        refine lv_imul (pc := 62) hx hb d76_62 ?_
        refine lv_iadd (pc := 63) hx hb d76_63 ?_
        refine lv_iload_n (pc := 64) hx hb d76_64 rfl (lv_at hl 0 rfl) ?_
        refine lv_iadd (pc := 65) hx hb d76_65 ?_
        refine lv_ldc (pc := 66) hx hb X.1.2.2.2.1 (X.ts wd1227) d76_66 ?_
        refine lv_irem (pc := 68) hx hb d76_68 (by decide) ?_
        refine lv_i2d (pc := 69) hx hb d76_69 ?_
        refine lv_ldc2d (pc := 70) hx hb X.1.2.2.2.1 (X.ts wd1228) d76_70 ?_
        obtain ⟨g9, h⟩ := jg_some h
        refine lv_ddiv (pc := 73) hx hb d76_73 (nn_ok g9) ?_
        obtain ⟨q10, rq10, hq10, h, herq10, hccq10, hssq10⟩ := jd_some h
        refine k_callS (pc := 74) (n := 1) X hS (c_vl_ofNumber l ρ _ P (FP.ddiv (FP.i2d ((((q3.1 * 3600) + (q4.1 * 60)) + q5.1) - (((q3.1 * 3600) + (q4.1 * 60)) + q5.1) / 86400 * 86400)) (4680673776000565248 : UInt64)) q10 hW.2.2.1 hW.2.1  hq10) wd642 wd1219 wd641 wd4 (by decide) ⟨rfl, rfl, Nat.le_of_ble_eq_true rfl, Nat.le_of_ble_eq_true rfl⟩ (As := [.double (FP.ddiv (FP.i2d ((((q3.1 * 3600) + (q4.1 * 60)) + q5.1) - (((q3.1 * 3600) + (q4.1 * 60)) + q5.1) / 86400 * 86400)) (4680673776000565248 : UInt64))]) (rest := []) rfl rfl hl.1 (Nat.le_of_ble_eq_true rfl) d76_74 ⟨room_le hccq10 hc1, room_le hssq10 hs1⟩ (fun q hq => hAz q (Nat.le_trans hS.1 hq)) (fun v H1 locs1 hv hz1 hz2 hSq10 => ?_)
        obtain ⟨u11, rfl, fu11⟩ := hv
        have hk : kp no _ H1 := kp_call hz1 hz2 (fun q hq z => absurd hq (Nat.not_lt.mpr z))
        have hW := hW.keep hk no_hz (fun _ _ z => z)
        have hS := hSq10
        have hSz := hS.1
        have her := her.trans herq10
        have hc1 := room_st hccq10 hc1
        have hs1 := room_st hssq10 hs1
        have her : res.1 = (q10.1, q5.2) := her.trans (congrArg Prod.fst (Option.some.inj h)).symm
        exact m_aret (pc := 77) hx hb hr (Or.inl ⟨_, rfl⟩) hlk hS ⟨u11, rfl, by rw [her]; exact fu11, by rw [her]; exact hW⟩ (Nat.le_trans (Nat.le_add_right _ _) hc1) (Nat.le_trans (Nat.le_add_right _ _) hs1) d76_77
      · have h := jb_t c45 h
        exact kc48   q5.2 _ _ _ _ _ _ hW hS (lv_sub hl [] rfl) her hc1 hs1 h
def da_secondsOfDay_56  (st : CS) (x4 : Int32) : Option (Int32 × CS) := some ((x4 - x4 / 86400 * 86400), st)
def f_da_secondsOfDay (st : CS) : Option (Int32 × CS) := jc (f_ar_day st 0) (fun q1 => jb ((q1.2.1 1 6) = 0) (jc (f_ar_number q1.2 0) (fun q2 => jg (nn (FP.dsub q2.1 (FP.i2d q1.1))) (jg (nn (FP.dmul (FP.dsub q2.1 (FP.i2d q1.1)) (4680673776000565248 : UInt64))) (jn (FP.dmul (FP.dsub q2.1 (FP.i2d q1.1)) (4680673776000565248 : UInt64)) (fun v5 => jn (FP.d2i v5) (fun v6 => jg (nn (FP.dsub v5 (FP.i2d v6))) (jb ((Op.cmpValue (FP.dcmp (FP.dsub v5 (FP.i2d v6)) (4602678819172646912 : UInt64)) .l) < 0) (da_secondsOfDay_56 q2.2 v6) (jn (v6 + 1) (fun v8 => da_secondsOfDay_56 q2.2 v8))))))))) (some (0, q1.2)))
set_option maxHeartbeats 4000000 in
set_option maxRecDepth 100000 in
theorem c_da_secondsOfDay (l : Launch) (ρ : RH) (ad : Nat → Nat) (H : Heap) (P : Nat → Prop) (st : CS) (res : Int32 × CS) (hW : CW ρ P ad st H) (h : f_da_secondsOfDay st = some res) : Met l y75 (wsOf y75 b75 5 (some .int)) ({ frames := 16, cells := 0, slots := 0, locals := 696 } : Room) (va_Pc [.ref (ad 5)] (KP ρ H)) (mQ (fun v H1 => v = some (.int res.1) ∧ CW ρ P ad res.2 H1) (MA wC ad H.size)) 0 0 (MA wC ad H.size) := by
  refine m_ofW (own := "WordFunctions$Dates") (plainFor_of_name rfl) rfl (Nat.le_of_ble_eq_true rfl) fun p e s m args below meth c ls hx hb hr hlk _ X hs hl => ?_
  subst hs
  have hS : va_S (MA wC ad s.heap.size) s.heap s.heap [] := va_S.rf
  have hSz := hS.1
  have hAz : ∀ q, s.heap.size ≤ q → (MA wC ad s.heap.size) q := fun q hq => Or.inr hq
  have hAp : ∀ i, i < 46 → (MA wC ad s.heap.size) (ad i) := fun i hi => MA.in hi
  have hPp : ∀ i, i < 46 → P (ad i) := hW.1
  have hl : lv_has ls 5 [(0, .ref (ad 5))] := hl
  have kc56 : ∀ (st : CS) (x4 : Int32) (H : Heap) (locs : List Loc) (ls : Array Slot), CW ρ P ad st H → va_S (MA wC ad s.heap.size) s.heap H locs → lv_has ls 5 [(4, .int x4)] → da_secondsOfDay_56 st x4 = some res → W p l e ({ frames := 16, cells := 0, slots := 0, locals := 696 } : Room) s m args below meth c H locs 0 0 (MQ below (mQ (fun v H1 => v = some (.int res.1) ∧ CW ρ P ad res.2 H1) (MA wC ad s.heap.size)) args s 0 0 (MA wC ad s.heap.size)) (F0 m 56 ls []) := by
    intro st x4 H locs ls hW hS hl h
    have hSz := hS.1
    unfold da_secondsOfDay_56 at h
    refine lv_iload (pc := 56) hx hb d75_56 (lv_at hl 0 rfl) ?_
    refine lv_ldc (pc := 58) hx hb X.1.2.2.2.1 (X.ts wd1227) d75_58 ?_
    refine lv_irem (pc := 60) hx hb d75_60 (by decide) ?_
    obtain rfl := Option.some.inj h
    exact m_iret (pc := 61) hx hb hr hlk hS ⟨rfl, hW⟩ (Nat.le_refl _) (Nat.le_refl _) d75_61
  unfold f_da_secondsOfDay at h
  refine lv_aload_n (pc := 0) hx hb d75_0 rfl (lv_at hl 0 rfl) ?_
  refine c_getK (pc := 1) X hW 5 0 7 1 (C := "WordFunctions$Dates") (T := T7) (N := 3) (by decide) rfl rfl rfl rfl tin7 rfl wd222 rfl rfl d75_1 ?_
  refine lv_iconst (pc := 4) (v := 0) hx hb d75_4 (by decide) ?_
  obtain ⟨q1, hq1, h⟩ := jc_some h
  refine k_callV (pc := 5) (n := 1) X hS (c_ar_day l ρ ad _ P st 0 q1 hW  hq1) wd1232 wd1229 wd1230 wd1231 wd3 (by decide) ⟨rfl, rfl, Nat.le_of_ble_eq_true rfl, Nat.le_of_ble_eq_true rfl⟩ (c_recv X hW 1 3 (by decide) rfl rfl) (As := [.int 0]) (rest := []) rfl rfl hl.1 (Nat.le_of_ble_eq_true rfl) d75_5 ⟨Nat.le_refl _, Nat.le_refl _⟩ (fun q hq => MA.mono hS.1 hq) (fun v H1 locs1 hv hz1 hz2 hSq1 => ?_)
  have hPq := hW.1
  obtain ⟨rfl, hW⟩ := hv
  have hS := hSq1
  have hSz := hS.1
  refine lv_istore_n (pc := 8) (lv' := [(1, .int q1.1), (0, .ref (ad 5))]) hx hb d75_8 rfl hl (by decide) rfl (fun ls hl => ?_)
  refine lv_aload_n (pc := 9) hx hb d75_9 rfl (lv_at hl 1 rfl) ?_
  refine c_getK (pc := 10) X hW 5 0 7 1 (C := "WordFunctions$Dates") (T := T7) (N := 3) (by decide) rfl rfl rfl rfl tin7 rfl wd222 rfl rfl d75_10 ?_
  refine c_getI (pc := 13) X hW 1 6 3 (C := "WordFunctions$Arguments") (T := T3) (N := 9) (by decide) rfl rfl rfl rfl tin3 rfl wd137 rfl d75_13 ?_
  refine lv_if_eq (pc := 16) (tgt := 21) hx hb d75_16 (by decide) (fun c16 => ?_) (fun c16 => ?_)
  · have h := jb_t c16 h
    refine lv_aload_n (pc := 21) hx hb d75_21 rfl (lv_at hl 1 rfl) ?_
    refine c_getK (pc := 22) X hW 5 0 7 1 (C := "WordFunctions$Dates") (T := T7) (N := 3) (by decide) rfl rfl rfl rfl tin7 rfl wd222 rfl rfl d75_22 ?_
    refine lv_iconst (pc := 25) (v := 0) hx hb d75_25 (by decide) ?_
    obtain ⟨q2, hq2, h⟩ := jc_some h
    refine k_callV (pc := 26) (n := 1) X hS (c_ar_number l ρ ad _ P q1.2 0 q2 hW  hq2) wd766 wd1251 wd764 wd765 wd3 (by decide) ⟨rfl, rfl, Nat.le_of_ble_eq_true rfl, Nat.le_of_ble_eq_true rfl⟩ (c_recv X hW 1 3 (by decide) rfl rfl) (As := [.int 0]) (rest := []) rfl rfl hl.1 (Nat.le_of_ble_eq_true rfl) d75_26 ⟨Nat.le_refl _, Nat.le_refl _⟩ (fun q hq => MA.mono hS.1 hq) (fun v H1 locs1 hv hz1 hz2 hSq2 => ?_)
    have hPq := hW.1
    obtain ⟨rfl, hW⟩ := hv
    have hS := hSq2
    have hSz := hS.1
    refine lv_iload_n (pc := 29) hx hb d75_29 rfl (lv_at hl 0 rfl) ?_
    refine lv_i2d (pc := 30) hx hb d75_30 ?_
    obtain ⟨g3, h⟩ := jg_some h
    refine lv_dsub (pc := 31) hx hb d75_31 (nn_ok g3) ?_
    refine lv_ldc2d (pc := 32) hx hb X.1.2.2.2.1 (X.ts wd1228) d75_32 ?_
    obtain ⟨g4, h⟩ := jg_some h
    refine lv_dmul (pc := 35) hx hb d75_35 (nn_ok g4) ?_
    obtain ⟨v5, ev5, h⟩ := jn_ex h
    refine nm_d ev5 ?_
    refine lv_dstore_n (pc := 36) (lv' := [(2, .double v5), (1, .int q1.1), (0, .ref (ad 5))]) hx hb d75_36 rfl hl (by decide) rfl (fun ls hl => ?_)
    refine lv_dload_n (pc := 37) hx hb d75_37 rfl (lv_at hl 0 rfl) ?_
    refine lv_d2i (pc := 38) hx hb d75_38 ?_
    obtain ⟨v6, ev6, h⟩ := jn_ex h
    refine nm_i ev6 ?_
    refine lv_istore (pc := 39) (lv' := [(4, .int v6), (2, .double v5), (1, .int q1.1), (0, .ref (ad 5))]) hx hb d75_39 hl (by decide) rfl (fun ls hl => ?_)
    refine lv_dload_n (pc := 41) hx hb d75_41 rfl (lv_at hl 1 rfl) ?_
    refine lv_iload (pc := 42) hx hb d75_42 (lv_at hl 0 rfl) ?_
    refine lv_i2d (pc := 44) hx hb d75_44 ?_
    obtain ⟨g7, h⟩ := jg_some h
    refine lv_dsub (pc := 45) hx hb d75_45 (nn_ok g7) ?_
    refine lv_ldc2d (pc := 46) hx hb X.1.2.2.2.1 (X.ts wd1252) d75_46 ?_
    refine lv_dcmp (pc := 49) hx hb d75_49 ?_
    refine lv_if_lt (pc := 50) (tgt := 56) hx hb d75_50 (by decide) (fun c50 => ?_) (fun c50 => ?_)
    · have h := jb_t c50 h
      exact kc56   q2.2 v6 _ _ _ hW hS (lv_sub hl [0] rfl) h
    · have h := jb_f c50 h
      obtain ⟨v8, ev8, h⟩ := jn_ex h
      refine lv_iinc (pc := 53) (v := v8) (lv' := [(4, .int v8), (2, .double v5), (1, .int q1.1), (0, .ref (ad 5))]) hx hb d75_53 hl (k := 0) rfl (by rw [ev8]; rfl) (by decide) rfl (fun ls hl => ?_)
      exact kc56   q2.2 v8 _ _ _ hW hS (lv_sub hl [0] rfl) h
  · have h := jb_f c16 h
    refine lv_iconst (pc := 19) (v := 0) hx hb d75_19 (by decide) ?_
    obtain rfl := Option.some.inj h
    exact m_iret (pc := 20) hx hb hr hlk hS ⟨rfl, hW⟩ (Nat.le_refl _) (Nat.le_refl _) d75_20
def f_da_weekday (st : CS) : Option ((VV × CS) × Nat × Nat) := jc (f_ar_day st 0) (fun q1 => jc (f_ar_wholeOr q1.2 1 1) (fun q2 => jc (f_ma_floorMod (q1.1 - 2) 7) (fun q3 => jb (q2.1 = 1) (jd (f_vl_ofNumber (FP.i2d (((q3 + 1) - (q3 + 1) / 7 * 7) + 1))) (fun q4 => some ((q4, q2.2), 0, 0))) (jb (q2.1 = 2) (jd (f_vl_ofNumber (FP.i2d (q3 + 1))) (fun q6 => some ((q6, q2.2), 0, 0))) (jb (q2.1 = 3) (jd (f_vl_ofNumber (FP.i2d q3)) (fun q8 => some ((q8, q2.2), 0, 0))) (jd (f_vl_ofError 6) (fun q10 => some ((q10, q2.2), 0, 0))))))))
set_option maxHeartbeats 4000000 in
set_option maxRecDepth 100000 in
theorem c_da_weekday (l : Launch) (ρ : RH) (ad : Nat → Nat) (H : Heap) (P : Nat → Prop) (st : CS) (res : (VV × CS) × Nat × Nat) (hW : CW ρ P ad st H) (h : f_da_weekday st = some res) : Met l y78 (wsOf y78 b78 4 (some (.object "WordFunctions$Value"))) ({ frames := 17, cells := res.2.1, slots := res.2.2, locals := 720 } : Room) (va_Pc [.ref (ad 5)] (KP ρ H)) (mQ (fun v H1 => ∃ x : Nat, v = some (.ref x) ∧ isV ρ P H1 x res.1.1 ∧ CW ρ P ad res.1.2 H1) (MA wC ad H.size)) res.2.1 res.2.2 (MA wC ad H.size) := by
  refine m_ofW (own := "WordFunctions$Dates") (plainFor_of_name rfl) rfl (Nat.le_of_ble_eq_true rfl) fun p e s m args below meth c ls hx hb hr hlk _ X hs hl => ?_
  subst hs
  have hS : va_S (MA wC ad s.heap.size) s.heap s.heap [] := va_S.rf
  have hSz := hS.1
  have hAz : ∀ q, s.heap.size ≤ q → (MA wC ad s.heap.size) q := fun q hq => Or.inr hq
  have hAp : ∀ i, i < 46 → (MA wC ad s.heap.size) (ad i) := fun i hi => MA.in hi
  have hPp : ∀ i, i < 46 → P (ad i) := hW.1
  have hl : lv_has ls 4 [(0, .ref (ad 5))] := hl
  have her : res.1 = res.1 := rfl
  have hc1 : 0 + res.2.1 ≤ res.2.1 := Nat.le_of_eq (Nat.zero_add _)
  have hs1 : 0 + res.2.2 ≤ res.2.2 := Nat.le_of_eq (Nat.zero_add _)
  unfold f_da_weekday at h
  refine lv_aload_n (pc := 0) hx hb d78_0 rfl (lv_at hl 0 rfl) ?_
  refine c_getK (pc := 1) X hW 5 0 7 1 (C := "WordFunctions$Dates") (T := T7) (N := 3) (by decide) rfl rfl rfl rfl tin7 rfl wd222 rfl rfl d78_1 ?_
  refine lv_iconst (pc := 4) (v := 0) hx hb d78_4 (by decide) ?_
  obtain ⟨q1, hq1, h⟩ := jc_some h
  refine k_callV (pc := 5) (n := 1) X hS (c_ar_day l ρ ad _ P st 0 q1 hW  hq1) wd1232 wd1229 wd1230 wd1231 wd3 (by decide) ⟨rfl, rfl, Nat.le_of_ble_eq_true rfl, Nat.le_of_ble_eq_true rfl⟩ (c_recv X hW 1 3 (by decide) rfl rfl) (As := [.int 0]) (rest := []) rfl rfl hl.1 (Nat.le_of_ble_eq_true rfl) d78_5 ⟨room_l0 hc1, room_l0 hs1⟩ (fun q hq => MA.mono hS.1 hq) (fun v H1 locs1 hv hz1 hz2 hSq1 => ?_)
  have hPq := hW.1
  obtain ⟨rfl, hW⟩ := hv
  have hS := hSq1
  have hSz := hS.1
  refine lv_istore_n (pc := 8) (lv' := [(1, .int q1.1), (0, .ref (ad 5))]) hx hb d78_8 rfl hl (by decide) rfl (fun ls hl => ?_)
  refine lv_aload_n (pc := 9) hx hb d78_9 rfl (lv_at hl 1 rfl) ?_
  refine c_getK (pc := 10) X hW 5 0 7 1 (C := "WordFunctions$Dates") (T := T7) (N := 3) (by decide) rfl rfl rfl rfl tin7 rfl wd222 rfl rfl d78_10 ?_
  refine lv_iconst (pc := 13) (v := 1) hx hb d78_13 (by decide) ?_
  refine lv_iconst (pc := 14) (v := 1) hx hb d78_14 (by decide) ?_
  obtain ⟨q2, hq2, h⟩ := jc_some h
  refine k_callV (pc := 15) (n := 2) X hS (c_ar_wholeOr l ρ ad _ P q1.2 1 1 q2 hW  hq2) wd925 wd1257 wd923 wd924 wd3 (by decide) ⟨rfl, rfl, Nat.le_of_ble_eq_true rfl, Nat.le_of_ble_eq_true rfl⟩ (c_recv X hW 1 3 (by decide) rfl rfl) (As := [.int 1, .int 1]) (rest := []) rfl rfl hl.1 (Nat.le_of_ble_eq_true rfl) d78_15 ⟨room_l0 hc1, room_l0 hs1⟩ (fun q hq => MA.mono hS.1 hq) (fun v H1 locs1 hv hz1 hz2 hSq2 => ?_)
  have hPq := hW.1
  obtain ⟨rfl, hW⟩ := hv
  have hS := hSq2
  have hSz := hS.1
  refine lv_istore_n (pc := 18) (lv' := [(2, .int q2.1), (1, .int q1.1), (0, .ref (ad 5))]) hx hb d78_18 rfl hl (by decide) rfl (fun ls hl => ?_)
  refine lv_iload_n (pc := 19) hx hb d78_19 rfl (lv_at hl 1 rfl) ?_
  refine lv_iconst (pc := 20) (v := 2) hx hb d78_20 (by decide) ?_
  refine lv_isub (pc := 21) hx hb d78_21 ?_
  refine lv_bipush (pc := 22) (v := 7) hx hb d78_22 (by decide) ?_
  obtain ⟨q3, hq3, h⟩ := jc_some h
  refine k_callS (pc := 24) (n := 2) X hS (c_ma_floorMod l ρ _ P (q1.1 - 2) 7 q3 hW.2.2.1 hW.2.1  hq3) wd1205 wd1258 wd1204 wd17 (by decide) ⟨rfl, rfl, Nat.le_of_ble_eq_true rfl, Nat.le_of_ble_eq_true rfl⟩ (As := [.int (q1.1 - 2), .int 7]) (rest := []) rfl rfl hl.1 (Nat.le_of_ble_eq_true rfl) d78_24 ⟨room_l0 hc1, room_l0 hs1⟩ (fun q hq => False.elim hq) (fun v H1 locs1 hv _ _ hSq3 => ?_)
  obtain ⟨rfl, rfl⟩ := hv
  have hS := hSq3
  have hSz := hS.1
  refine lv_istore_n (pc := 27) (lv' := [(3, .int q3), (2, .int q2.1), (1, .int q1.1), (0, .ref (ad 5))]) hx hb d78_27 rfl hl (by decide) rfl (fun ls hl => ?_)
  refine lv_iload_n (pc := 28) hx hb d78_28 rfl (lv_at hl 1 rfl) ?_
  by_cases c29_1 : q2.1 = 1
  · have h := jb_t c29_1 h
    refine lv_tableIn (pc := 29) (off := 27) (tgt := 56) hx hb d78_29 (by rw [c29_1]; decide) (by rw [c29_1]; decide) (by rw [c29_1]; rfl) (by decide) ?_
    refine lv_iload_n (pc := 56) hx hb d78_56 rfl (lv_at hl 0 rfl) ?_
    refine lv_iconst (pc := 57) (v := 1) hx hb d78_57 (by decide) ?_
    refine lv_iadd (pc := 58) hx hb d78_58 ?_
    refine lv_bipush (pc := 59) (v := 7) hx hb d78_59 (by decide) ?_
    refine lv_irem (pc := 61) hx hb d78_61 (by decide) ?_
    refine lv_iconst (pc := 62) (v := 1) hx hb d78_62 (by decide) ?_
    refine lv_iadd (pc := 63) hx hb d78_63 ?_
    refine lv_i2d (pc := 64) hx hb d78_64 ?_
    obtain ⟨q4, rq4, hq4, h, herq4, hccq4, hssq4⟩ := jd_some h
    refine k_callS (pc := 65) (n := 1) X hS (c_vl_ofNumber l ρ _ P (FP.i2d (((q3 + 1) - (q3 + 1) / 7 * 7) + 1)) q4 hW.2.2.1 hW.2.1  hq4) wd642 wd1219 wd641 wd4 (by decide) ⟨rfl, rfl, Nat.le_of_ble_eq_true rfl, Nat.le_of_ble_eq_true rfl⟩ (As := [.double (FP.i2d (((q3 + 1) - (q3 + 1) / 7 * 7) + 1))]) (rest := []) rfl rfl hl.1 (Nat.le_of_ble_eq_true rfl) d78_65 ⟨room_le hccq4 hc1, room_le hssq4 hs1⟩ (fun q hq => hAz q (Nat.le_trans hS.1 hq)) (fun v H1 locs1 hv hz1 hz2 hSq4 => ?_)
    obtain ⟨u5, rfl, fu5⟩ := hv
    have hk : kp no _ H1 := kp_call hz1 hz2 (fun q hq z => absurd hq (Nat.not_lt.mpr z))
    have hW := hW.keep hk no_hz (fun _ _ z => z)
    have hS := hSq4
    have hSz := hS.1
    have her := her.trans herq4
    have hc1 := room_st hccq4 hc1
    have hs1 := room_st hssq4 hs1
    have her : res.1 = (q4.1, q2.2) := her.trans (congrArg Prod.fst (Option.some.inj h)).symm
    exact m_aret (pc := 68) hx hb hr (Or.inl ⟨_, rfl⟩) hlk hS ⟨u5, rfl, by rw [her]; exact fu5, by rw [her]; exact hW⟩ (Nat.le_trans (Nat.le_add_right _ _) hc1) (Nat.le_trans (Nat.le_add_right _ _) hs1) d78_68
  have h := jb_f c29_1 h
  by_cases c29_2 : q2.1 = 2
  · have h := jb_t c29_2 h
    refine lv_tableIn (pc := 29) (off := 40) (tgt := 69) hx hb d78_29 (by rw [c29_2]; decide) (by rw [c29_2]; decide) (by rw [c29_2]; rfl) (by decide) ?_
    refine lv_iload_n (pc := 69) hx hb d78_69 rfl (lv_at hl 0 rfl) ?_
    refine lv_iconst (pc := 70) (v := 1) hx hb d78_70 (by decide) ?_
    refine lv_iadd (pc := 71) hx hb d78_71 ?_
    refine lv_i2d (pc := 72) hx hb d78_72 ?_
    obtain ⟨q6, rq6, hq6, h, herq6, hccq6, hssq6⟩ := jd_some h
    refine k_callS (pc := 73) (n := 1) X hS (c_vl_ofNumber l ρ _ P (FP.i2d (q3 + 1)) q6 hW.2.2.1 hW.2.1  hq6) wd642 wd1219 wd641 wd4 (by decide) ⟨rfl, rfl, Nat.le_of_ble_eq_true rfl, Nat.le_of_ble_eq_true rfl⟩ (As := [.double (FP.i2d (q3 + 1))]) (rest := []) rfl rfl hl.1 (Nat.le_of_ble_eq_true rfl) d78_73 ⟨room_le hccq6 hc1, room_le hssq6 hs1⟩ (fun q hq => hAz q (Nat.le_trans hS.1 hq)) (fun v H1 locs1 hv hz1 hz2 hSq6 => ?_)
    obtain ⟨u7, rfl, fu7⟩ := hv
    have hk : kp no _ H1 := kp_call hz1 hz2 (fun q hq z => absurd hq (Nat.not_lt.mpr z))
    have hW := hW.keep hk no_hz (fun _ _ z => z)
    have hS := hSq6
    have hSz := hS.1
    have her := her.trans herq6
    have hc1 := room_st hccq6 hc1
    have hs1 := room_st hssq6 hs1
    have her : res.1 = (q6.1, q2.2) := her.trans (congrArg Prod.fst (Option.some.inj h)).symm
    exact m_aret (pc := 76) hx hb hr (Or.inl ⟨_, rfl⟩) hlk hS ⟨u7, rfl, by rw [her]; exact fu7, by rw [her]; exact hW⟩ (Nat.le_trans (Nat.le_add_right _ _) hc1) (Nat.le_trans (Nat.le_add_right _ _) hs1) d78_76
  have h := jb_f c29_2 h
  by_cases c29_3 : q2.1 = 3
  · have h := jb_t c29_3 h
    refine lv_tableIn (pc := 29) (off := 48) (tgt := 77) hx hb d78_29 (by rw [c29_3]; decide) (by rw [c29_3]; decide) (by rw [c29_3]; rfl) (by decide) ?_
    refine lv_iload_n (pc := 77) hx hb d78_77 rfl (lv_at hl 0 rfl) ?_
    refine lv_i2d (pc := 78) hx hb d78_78 ?_
    obtain ⟨q8, rq8, hq8, h, herq8, hccq8, hssq8⟩ := jd_some h
    refine k_callS (pc := 79) (n := 1) X hS (c_vl_ofNumber l ρ _ P (FP.i2d q3) q8 hW.2.2.1 hW.2.1  hq8) wd642 wd1219 wd641 wd4 (by decide) ⟨rfl, rfl, Nat.le_of_ble_eq_true rfl, Nat.le_of_ble_eq_true rfl⟩ (As := [.double (FP.i2d q3)]) (rest := []) rfl rfl hl.1 (Nat.le_of_ble_eq_true rfl) d78_79 ⟨room_le hccq8 hc1, room_le hssq8 hs1⟩ (fun q hq => hAz q (Nat.le_trans hS.1 hq)) (fun v H1 locs1 hv hz1 hz2 hSq8 => ?_)
    obtain ⟨u9, rfl, fu9⟩ := hv
    have hk : kp no _ H1 := kp_call hz1 hz2 (fun q hq z => absurd hq (Nat.not_lt.mpr z))
    have hW := hW.keep hk no_hz (fun _ _ z => z)
    have hS := hSq8
    have hSz := hS.1
    have her := her.trans herq8
    have hc1 := room_st hccq8 hc1
    have hs1 := room_st hssq8 hs1
    have her : res.1 = (q8.1, q2.2) := her.trans (congrArg Prod.fst (Option.some.inj h)).symm
    exact m_aret (pc := 82) hx hb hr (Or.inl ⟨_, rfl⟩) hlk hS ⟨u9, rfl, by rw [her]; exact fu9, by rw [her]; exact hW⟩ (Nat.le_trans (Nat.le_add_right _ _) hc1) (Nat.le_trans (Nat.le_add_right _ _) hs1) d78_82
  have h := jb_f c29_3 h
  refine lv_tableOut (pc := 29) (tgt := 83) hx hb d78_29 (sw_out 3 (by decide) (by
    intro i hi
    match i, hi with
    | 0, _ => exact fun z => c29_1 (Int32.toInt_inj.mp (by rw [z]; decide))
    | 1, _ => exact fun z => c29_2 (Int32.toInt_inj.mp (by rw [z]; decide))
    | 2, _ => exact fun z => c29_3 (Int32.toInt_inj.mp (by rw [z]; decide))
    | i + 3, q => exact absurd q (by omega))) (by decide) ?_
  refine lv_bipush (pc := 83) (v := 6) hx hb d78_83 (by decide) ?_
  obtain ⟨q10, rq10, hq10, h, herq10, hccq10, hssq10⟩ := jd_some h
  refine k_callS (pc := 85) (n := 1) X hS (c_vl_ofError l ρ _ P 6 q10 hW.2.2.1 hW.2.1  hq10) wd651 wd1196 wd650 wd4 (by decide) ⟨rfl, rfl, Nat.le_of_ble_eq_true rfl, Nat.le_of_ble_eq_true rfl⟩ (As := [.int 6]) (rest := []) rfl rfl hl.1 (Nat.le_of_ble_eq_true rfl) d78_85 ⟨room_le hccq10 hc1, room_le hssq10 hs1⟩ (fun q hq => hAz q (Nat.le_trans hS.1 hq)) (fun v H1 locs1 hv hz1 hz2 hSq10 => ?_)
  obtain ⟨u11, rfl, fu11⟩ := hv
  have hk : kp no _ H1 := kp_call hz1 hz2 (fun q hq z => absurd hq (Nat.not_lt.mpr z))
  have hW := hW.keep hk no_hz (fun _ _ z => z)
  have hS := hSq10
  have hSz := hS.1
  have her := her.trans herq10
  have hc1 := room_st hccq10 hc1
  have hs1 := room_st hssq10 hs1
  have her : res.1 = (q10.1, q2.2) := her.trans (congrArg Prod.fst (Option.some.inj h)).symm
  exact m_aret (pc := 88) hx hb hr (Or.inl ⟨_, rfl⟩) hlk hS ⟨u11, rfl, by rw [her]; exact fu11, by rw [her]; exact hW⟩ (Nat.le_trans (Nat.le_add_right _ _) hc1) (Nat.le_trans (Nat.le_add_right _ _) hs1) d78_88
def da_weekNumber_61  (st : CS) (x1 : Int32) (x4 : Int32) (z0 : Int32) : Option ((VV × CS) × Nat × Nat) := jc (f_ma_floorMod (x4 - z0) 7) (fun q1 => jd (f_vl_ofNumber (FP.i2d ((((x1 - x4) + q1) / 7) + 1))) (fun q2 => some ((q2, st), 0, 0)))
def da_weekNumber_35  (st : CS) (x1 : Int32) (x2 : Int32) : Option ((VV × CS) × Nat × Nat) := jc (f_ca_monthOf x1) (fun q4 => jc (f_ca_firstOf (q4 - (q4 - q4 / 12 * 12))) (fun q5 => jb (x2 = 1) (da_weekNumber_61 st x1 q5 1) (da_weekNumber_61 st x1 q5 2)))
def f_da_weekNumber (st : CS) : Option ((VV × CS) × Nat × Nat) := jc (f_ar_day st 0) (fun q6 => jc (f_ar_wholeOr q6.2 1 1) (fun q7 => jb (q7.1 = 1) (da_weekNumber_35 q7.2 q6.1 q7.1) (jb (q7.1 = 2) (da_weekNumber_35 q7.2 q6.1 q7.1) (jd (f_vl_ofError 6) (fun q8 => some ((q8, q7.2), 0, 0))))))
set_option maxHeartbeats 4000000 in
set_option maxRecDepth 100000 in
theorem c_da_weekNumber (l : Launch) (ρ : RH) (ad : Nat → Nat) (H : Heap) (P : Nat → Prop) (st : CS) (res : (VV × CS) × Nat × Nat) (hW : CW ρ P ad st H) (h : f_da_weekNumber st = some res) : Met l y77 (wsOf y77 b77 7 (some (.object "WordFunctions$Value"))) ({ frames := 17, cells := res.2.1, slots := res.2.2, locals := 720 } : Room) (va_Pc [.ref (ad 5)] (KP ρ H)) (mQ (fun v H1 => ∃ x : Nat, v = some (.ref x) ∧ isV ρ P H1 x res.1.1 ∧ CW ρ P ad res.1.2 H1) (MA wC ad H.size)) res.2.1 res.2.2 (MA wC ad H.size) := by
  refine m_ofW (own := "WordFunctions$Dates") (plainFor_of_name rfl) rfl (Nat.le_of_ble_eq_true rfl) fun p e s m args below meth c ls hx hb hr hlk _ X hs hl => ?_
  subst hs
  have hS : va_S (MA wC ad s.heap.size) s.heap s.heap [] := va_S.rf
  have hSz := hS.1
  have hAz : ∀ q, s.heap.size ≤ q → (MA wC ad s.heap.size) q := fun q hq => Or.inr hq
  have hAp : ∀ i, i < 46 → (MA wC ad s.heap.size) (ad i) := fun i hi => MA.in hi
  have hPp : ∀ i, i < 46 → P (ad i) := hW.1
  have hl : lv_has ls 7 [(0, .ref (ad 5))] := hl
  have kc61 : ∀ (st : CS) (x1 : Int32) (x4 : Int32) (z0 : Int32) (H : Heap) (locs : List Loc) (ls : Array Slot) (cells slots : Nat) (r : (VV × CS) × Nat × Nat), CW ρ P ad st H → va_S (MA wC ad s.heap.size) s.heap H locs → lv_has ls 7 [(1, .int x1), (4, .int x4)] → res.1 = r.1 → cells + r.2.1 ≤ res.2.1 → slots + r.2.2 ≤ res.2.2 → da_weekNumber_61 st x1 x4 z0 = some r → W p l e ({ frames := 17, cells := res.2.1, slots := res.2.2, locals := 720 } : Room) s m args below meth c H locs cells slots (MQ below (mQ (fun v H1 => ∃ x : Nat, v = some (.ref x) ∧ isV ρ P H1 x res.1.1 ∧ CW ρ P ad res.1.2 H1) (MA wC ad s.heap.size)) args s res.2.1 res.2.2 (MA wC ad s.heap.size)) (F0 m 61 ls [.int z0]) := by
    intro st x1 x4 z0 H locs ls cells slots r hW hS hl her hc1 hs1 h
    have hSz := hS.1
    unfold da_weekNumber_61 at h
    refine lv_istore (pc := 61) (lv' := [(5, .int z0), (1, .int x1), (4, .int x4)]) hx hb d77_61 hl (by decide) rfl (fun ls hl => ?_)
    refine lv_iload (pc := 63) hx hb d77_63 (lv_at hl 2 rfl) ?_
    refine lv_iload (pc := 65) hx hb d77_65 (lv_at hl 0 rfl) ?_
    refine lv_isub (pc := 67) hx hb d77_67 ?_
    refine lv_bipush (pc := 68) (v := 7) hx hb d77_68 (by decide) ?_
    obtain ⟨q1, hq1, h⟩ := jc_some h
    refine k_callS (pc := 70) (n := 2) X hS (c_ma_floorMod l ρ _ P (x4 - z0) 7 q1 hW.2.2.1 hW.2.1  hq1) wd1205 wd1258 wd1204 wd17 (by decide) ⟨rfl, rfl, Nat.le_of_ble_eq_true rfl, Nat.le_of_ble_eq_true rfl⟩ (As := [.int (x4 - z0), .int 7]) (rest := []) rfl rfl hl.1 (Nat.le_of_ble_eq_true rfl) d77_70 ⟨room_l0 hc1, room_l0 hs1⟩ (fun q hq => False.elim hq) (fun v H1 locs1 hv _ _ hSq1 => ?_)
    obtain ⟨rfl, rfl⟩ := hv
    have hS := hSq1
    have hSz := hS.1
    refine lv_istore (pc := 73) (lv' := [(6, .int q1), (5, .int z0), (1, .int x1), (4, .int x4)]) hx hb d77_73 hl (by decide) rfl (fun ls hl => ?_)
    refine lv_iload_n (pc := 75) hx hb d77_75 rfl (lv_at hl 2 rfl) ?_
    refine lv_iload (pc := 76) hx hb d77_76 (lv_at hl 3 rfl) ?_
    refine lv_isub (pc := 78) hx hb d77_78 ?_
    refine lv_iload (pc := 79) hx hb d77_79 (lv_at hl 0 rfl) ?_
    refine lv_iadd (pc := 81) hx hb d77_81 ?_
    refine lv_bipush (pc := 82) (v := 7) hx hb d77_82 (by decide) ?_
    refine lv_idiv (pc := 84) hx hb d77_84 (by decide) ?_
    refine lv_iconst (pc := 85) (v := 1) hx hb d77_85 (by decide) ?_
    refine lv_iadd (pc := 86) hx hb d77_86 ?_
    refine lv_i2d (pc := 87) hx hb d77_87 ?_
    obtain ⟨q2, rq2, hq2, h, herq2, hccq2, hssq2⟩ := jd_some h
    refine k_callS (pc := 88) (n := 1) X hS (c_vl_ofNumber l ρ _ P (FP.i2d ((((x1 - x4) + q1) / 7) + 1)) q2 hW.2.2.1 hW.2.1  hq2) wd642 wd1219 wd641 wd4 (by decide) ⟨rfl, rfl, Nat.le_of_ble_eq_true rfl, Nat.le_of_ble_eq_true rfl⟩ (As := [.double (FP.i2d ((((x1 - x4) + q1) / 7) + 1))]) (rest := []) rfl rfl hl.1 (Nat.le_of_ble_eq_true rfl) d77_88 ⟨room_le hccq2 hc1, room_le hssq2 hs1⟩ (fun q hq => hAz q (Nat.le_trans hS.1 hq)) (fun v H1 locs1 hv hz1 hz2 hSq2 => ?_)
    obtain ⟨u3, rfl, fu3⟩ := hv
    have hk : kp no _ H1 := kp_call hz1 hz2 (fun q hq z => absurd hq (Nat.not_lt.mpr z))
    have hW := hW.keep hk no_hz (fun _ _ z => z)
    have hS := hSq2
    have hSz := hS.1
    have her := her.trans herq2
    have hc1 := room_st hccq2 hc1
    have hs1 := room_st hssq2 hs1
    have her : res.1 = (q2.1, st) := her.trans (congrArg Prod.fst (Option.some.inj h)).symm
    exact m_aret (pc := 91) hx hb hr (Or.inl ⟨_, rfl⟩) hlk hS ⟨u3, rfl, by rw [her]; exact fu3, by rw [her]; exact hW⟩ (Nat.le_trans (Nat.le_add_right _ _) hc1) (Nat.le_trans (Nat.le_add_right _ _) hs1) d77_91
  have kc35 : ∀ (st : CS) (x1 : Int32) (x2 : Int32) (H : Heap) (locs : List Loc) (ls : Array Slot) (cells slots : Nat) (r : (VV × CS) × Nat × Nat), CW ρ P ad st H → va_S (MA wC ad s.heap.size) s.heap H locs → lv_has ls 7 [(1, .int x1), (2, .int x2)] → res.1 = r.1 → cells + r.2.1 ≤ res.2.1 → slots + r.2.2 ≤ res.2.2 → da_weekNumber_35 st x1 x2 = some r → W p l e ({ frames := 17, cells := res.2.1, slots := res.2.2, locals := 720 } : Room) s m args below meth c H locs cells slots (MQ below (mQ (fun v H1 => ∃ x : Nat, v = some (.ref x) ∧ isV ρ P H1 x res.1.1 ∧ CW ρ P ad res.1.2 H1) (MA wC ad s.heap.size)) args s res.2.1 res.2.2 (MA wC ad s.heap.size)) (F0 m 35 ls []) := by
    intro st x1 x2 H locs ls cells slots r hW hS hl her hc1 hs1 h
    have hSz := hS.1
    unfold da_weekNumber_35 at h
    refine lv_iload_n (pc := 35) hx hb d77_35 rfl (lv_at hl 0 rfl) ?_
    obtain ⟨q4, hq4, h⟩ := jc_some h
    refine k_callS (pc := 36) (n := 1) X hS (c_ca_monthOf l ρ _ P x1 q4 hW.2.2.1 hW.2.1  hq4) wd1239 wd1237 wd1238 wd29 (by decide) ⟨rfl, rfl, Nat.le_of_ble_eq_true rfl, Nat.le_of_ble_eq_true rfl⟩ (As := [.int x1]) (rest := []) rfl rfl hl.1 (Nat.le_of_ble_eq_true rfl) d77_36 ⟨room_l0 hc1, room_l0 hs1⟩ (fun q hq => False.elim hq) (fun v H1 locs1 hv _ _ hSq4 => ?_)
    obtain ⟨rfl, rfl⟩ := hv
    have hS := hSq4
    have hSz := hS.1
    refine lv_istore_n (pc := 39) (lv' := [(3, .int q4), (1, .int x1), (2, .int x2)]) hx hb d77_39 rfl hl (by decide) rfl (fun ls hl => ?_)
    refine lv_iload_n (pc := 40) hx hb d77_40 rfl (lv_at hl 0 rfl) ?_
    refine lv_iload_n (pc := 41) hx hb d77_41 rfl (lv_at hl 0 rfl) ?_
    refine lv_bipush (pc := 42) (v := 12) hx hb d77_42 (by decide) ?_
    refine lv_irem (pc := 44) hx hb d77_44 (by decide) ?_
    refine lv_isub (pc := 45) hx hb d77_45 ?_
    obtain ⟨q5, hq5, h⟩ := jc_some h
    refine k_callS (pc := 46) (n := 1) X hS (c_ca_firstOf l ρ _ P (q4 - (q4 - q4 / 12 * 12)) q5 hW.2.2.1 hW.2.1  hq5) wd1199 wd1197 wd1198 wd29 (by decide) ⟨rfl, rfl, Nat.le_of_ble_eq_true rfl, Nat.le_of_ble_eq_true rfl⟩ (As := [.int (q4 - (q4 - q4 / 12 * 12))]) (rest := []) rfl rfl hl.1 (Nat.le_of_ble_eq_true rfl) d77_46 ⟨room_l0 hc1, room_l0 hs1⟩ (fun q hq => False.elim hq) (fun v H1 locs1 hv _ _ hSq5 => ?_)
    obtain ⟨rfl, rfl⟩ := hv
    have hS := hSq5
    have hSz := hS.1
    refine lv_istore (pc := 49) (lv' := [(4, .int q5), (3, .int q4), (1, .int x1), (2, .int x2)]) hx hb d77_49 hl (by decide) rfl (fun ls hl => ?_)
    refine lv_iload_n (pc := 51) hx hb d77_51 rfl (lv_at hl 3 rfl) ?_
    refine lv_iconst (pc := 52) (v := 1) hx hb d77_52 (by decide) ?_
    refine lv_icmp_ne (pc := 53) (tgt := 60) hx hb d77_53 (by decide) (fun c53 => ?_) (fun c53 => ?_)
    · have h := jb_f c53 h
      refine lv_iconst (pc := 60) (v := 2) hx hb d77_60 (by decide) ?_
      exact kc61   st x1 q5 2 _ _ _ _ _ _ hW hS (lv_sub hl [2, 0] rfl) her hc1 hs1 h
    · have h := jb_t c53 h
      refine lv_iconst (pc := 56) (v := 1) hx hb d77_56 (by decide) ?_
      refine lv_goto (pc := 57) (tgt := 61) hx hb d77_57 (by decide) ?_
      exact kc61   st x1 q5 1 _ _ _ _ _ _ hW hS (lv_sub hl [2, 0] rfl) her hc1 hs1 h
  have her : res.1 = res.1 := rfl
  have hc1 : 0 + res.2.1 ≤ res.2.1 := Nat.le_of_eq (Nat.zero_add _)
  have hs1 : 0 + res.2.2 ≤ res.2.2 := Nat.le_of_eq (Nat.zero_add _)
  unfold f_da_weekNumber at h
  refine lv_aload_n (pc := 0) hx hb d77_0 rfl (lv_at hl 0 rfl) ?_
  refine c_getK (pc := 1) X hW 5 0 7 1 (C := "WordFunctions$Dates") (T := T7) (N := 3) (by decide) rfl rfl rfl rfl tin7 rfl wd222 rfl rfl d77_1 ?_
  refine lv_iconst (pc := 4) (v := 0) hx hb d77_4 (by decide) ?_
  obtain ⟨q6, hq6, h⟩ := jc_some h
  refine k_callV (pc := 5) (n := 1) X hS (c_ar_day l ρ ad _ P st 0 q6 hW  hq6) wd1232 wd1229 wd1230 wd1231 wd3 (by decide) ⟨rfl, rfl, Nat.le_of_ble_eq_true rfl, Nat.le_of_ble_eq_true rfl⟩ (c_recv X hW 1 3 (by decide) rfl rfl) (As := [.int 0]) (rest := []) rfl rfl hl.1 (Nat.le_of_ble_eq_true rfl) d77_5 ⟨room_l0 hc1, room_l0 hs1⟩ (fun q hq => MA.mono hS.1 hq) (fun v H1 locs1 hv hz1 hz2 hSq6 => ?_)
  have hPq := hW.1
  obtain ⟨rfl, hW⟩ := hv
  have hS := hSq6
  have hSz := hS.1
  refine lv_istore_n (pc := 8) (lv' := [(1, .int q6.1), (0, .ref (ad 5))]) hx hb d77_8 rfl hl (by decide) rfl (fun ls hl => ?_)
  refine lv_aload_n (pc := 9) hx hb d77_9 rfl (lv_at hl 1 rfl) ?_
  refine c_getK (pc := 10) X hW 5 0 7 1 (C := "WordFunctions$Dates") (T := T7) (N := 3) (by decide) rfl rfl rfl rfl tin7 rfl wd222 rfl rfl d77_10 ?_
  refine lv_iconst (pc := 13) (v := 1) hx hb d77_13 (by decide) ?_
  refine lv_iconst (pc := 14) (v := 1) hx hb d77_14 (by decide) ?_
  obtain ⟨q7, hq7, h⟩ := jc_some h
  refine k_callV (pc := 15) (n := 2) X hS (c_ar_wholeOr l ρ ad _ P q6.2 1 1 q7 hW  hq7) wd925 wd1257 wd923 wd924 wd3 (by decide) ⟨rfl, rfl, Nat.le_of_ble_eq_true rfl, Nat.le_of_ble_eq_true rfl⟩ (c_recv X hW 1 3 (by decide) rfl rfl) (As := [.int 1, .int 1]) (rest := []) rfl rfl hl.1 (Nat.le_of_ble_eq_true rfl) d77_15 ⟨room_l0 hc1, room_l0 hs1⟩ (fun q hq => MA.mono hS.1 hq) (fun v H1 locs1 hv hz1 hz2 hSq7 => ?_)
  have hPq := hW.1
  obtain ⟨rfl, hW⟩ := hv
  have hS := hSq7
  have hSz := hS.1
  refine lv_istore_n (pc := 18) (lv' := [(2, .int q7.1), (1, .int q6.1), (0, .ref (ad 5))]) hx hb d77_18 rfl hl (by decide) rfl (fun ls hl => ?_)
  refine lv_iload_n (pc := 19) hx hb d77_19 rfl (lv_at hl 0 rfl) ?_
  refine lv_iconst (pc := 20) (v := 1) hx hb d77_20 (by decide) ?_
  refine lv_icmp_eq (pc := 21) (tgt := 35) hx hb d77_21 (by decide) (fun c21 => ?_) (fun c21 => ?_)
  · have h := jb_t c21 h
    exact kc35   q7.2 q6.1 q7.1 _ _ _ _ _ _ hW hS (lv_sub hl [1, 0] rfl) her hc1 hs1 h
  · have h := jb_f c21 h
    refine lv_iload_n (pc := 24) hx hb d77_24 rfl (lv_at hl 0 rfl) ?_
    refine lv_iconst (pc := 25) (v := 2) hx hb d77_25 (by decide) ?_
    refine lv_icmp_eq (pc := 26) (tgt := 35) hx hb d77_26 (by decide) (fun c26 => ?_) (fun c26 => ?_)
    · have h := jb_t c26 h
      exact kc35   q7.2 q6.1 q7.1 _ _ _ _ _ _ hW hS (lv_sub hl [1, 0] rfl) her hc1 hs1 h
    · have h := jb_f c26 h
      refine lv_bipush (pc := 29) (v := 6) hx hb d77_29 (by decide) ?_
      obtain ⟨q8, rq8, hq8, h, herq8, hccq8, hssq8⟩ := jd_some h
      refine k_callS (pc := 31) (n := 1) X hS (c_vl_ofError l ρ _ P 6 q8 hW.2.2.1 hW.2.1  hq8) wd651 wd1196 wd650 wd4 (by decide) ⟨rfl, rfl, Nat.le_of_ble_eq_true rfl, Nat.le_of_ble_eq_true rfl⟩ (As := [.int 6]) (rest := []) rfl rfl hl.1 (Nat.le_of_ble_eq_true rfl) d77_31 ⟨room_le hccq8 hc1, room_le hssq8 hs1⟩ (fun q hq => hAz q (Nat.le_trans hS.1 hq)) (fun v H1 locs1 hv hz1 hz2 hSq8 => ?_)
      obtain ⟨u9, rfl, fu9⟩ := hv
      have hk : kp no _ H1 := kp_call hz1 hz2 (fun q hq z => absurd hq (Nat.not_lt.mpr z))
      have hW := hW.keep hk no_hz (fun _ _ z => z)
      have hS := hSq8
      have hSz := hS.1
      have her := her.trans herq8
      have hc1 := room_st hccq8 hc1
      have hs1 := room_st hssq8 hs1
      have her : res.1 = (q8.1, q7.2) := her.trans (congrArg Prod.fst (Option.some.inj h)).symm
      exact m_aret (pc := 34) hx hb hr (Or.inl ⟨_, rfl⟩) hlk hS ⟨u9, rfl, by rw [her]; exact fu9, by rw [her]; exact hW⟩ (Nat.le_trans (Nat.le_add_right _ _) hc1) (Nat.le_trans (Nat.le_add_right _ _) hs1) d77_34
def da_readFree_62 (K16 : CS → Int32 → Int32 → Int32 → Option (CS)) (st : CS) (x1 : Int32) (x2 : Int32) (x3 : Int32) : Option (CS) := jn (x3 + 1) (fun v1 => K16 st x1 x2 v1)
def da_readFree_16  : Nat → CS → Int32 → Int32 → Int32 → Option (CS)
  | 0, _, _, _, _ => none
  | fu + 1, st, x1, x2, x3 => jb (x2 ≤ x3) (some st) (jc (f_ar_nth st x1 x3) (fun q2 => jb (q2.1 = 1) (jc (f_ca_hasDay q2.2.1) (fun q4 => jb (q4 = 0) (da_readFree_62 (da_readFree_16 fu) st x1 x2 x3) (jc (f_da_addFree st (FP.d2i q2.2.1)) (fun q5 => da_readFree_62 (da_readFree_16 fu) q5 x1 x2 x3)))) (da_readFree_62 (da_readFree_16 fu) st x1 x2 x3)))
def f_da_readFree (st : CS) (p0 : Int32) : Option (CS) := jn (uC st 5 2 0) (fun st6 => jc (f_ar_many st6 p0) (fun q7 => da_readFree_16 FU st6 p0 q7 0))
set_option maxHeartbeats 4000000 in
set_option maxRecDepth 100000 in
theorem c_da_readFree (l : Launch) (ρ : RH) (ad : Nat → Nat) (H : Heap) (P : Nat → Prop) (st : CS) (p0 : Int32) (res : CS) (hW : CW ρ P ad st H) (h : f_da_readFree st p0 = some res) : Met l y74 (wsOf y74 b74 5 none) ({ frames := 3, cells := 0, slots := 0, locals := 66 } : Room) (va_Pc [.ref (ad 5), .int p0] (KP ρ H)) (mQ (fun v H1 => v = none ∧ CW ρ P ad res H1) (MA wC ad H.size)) 0 0 (MA wC ad H.size) := by
  refine m_ofW (own := "WordFunctions$Dates") (plainFor_of_name rfl) rfl (Nat.le_of_ble_eq_true rfl) fun p e s m args below meth c ls hx hb hr hlk _ X hs hl => ?_
  subst hs
  have hS : va_S (MA wC ad s.heap.size) s.heap s.heap [] := va_S.rf
  have hSz := hS.1
  have hAz : ∀ q, s.heap.size ≤ q → (MA wC ad s.heap.size) q := fun q hq => Or.inr hq
  have hAp : ∀ i, i < 46 → (MA wC ad s.heap.size) (ad i) := fun i hi => MA.in hi
  have hPp : ∀ i, i < 46 → P (ad i) := hW.1
  have hl : lv_has ls 5 [(0, .ref (ad 5)), (1, .int p0)] := hl
  have kc62 : ∀ (K16 : CS → Int32 → Int32 → Int32 → Option (CS)) (hK16 : ∀ (st : CS) (x1 : Int32) (x2 : Int32) (x3 : Int32) (H : Heap) (locs : List Loc) (ls : Array Slot), CW ρ P ad st H → va_S (MA wC ad s.heap.size) s.heap H locs → lv_has ls 5 [(0, .ref (ad 5)), (1, .int x1), (2, .int x2), (3, .int x3)] → K16 st x1 x2 x3 = some res → W p l e ({ frames := 3, cells := 0, slots := 0, locals := 66 } : Room) s m args below meth c H locs 0 0 (MQ below (mQ (fun v H1 => v = none ∧ CW ρ P ad res H1) (MA wC ad s.heap.size)) args s 0 0 (MA wC ad s.heap.size)) (F0 m 16 ls [])), ∀ (st : CS) (x1 : Int32) (x2 : Int32) (x3 : Int32) (H : Heap) (locs : List Loc) (ls : Array Slot), CW ρ P ad st H → va_S (MA wC ad s.heap.size) s.heap H locs → lv_has ls 5 [(0, .ref (ad 5)), (1, .int x1), (2, .int x2), (3, .int x3)] → da_readFree_62 K16 st x1 x2 x3 = some res → W p l e ({ frames := 3, cells := 0, slots := 0, locals := 66 } : Room) s m args below meth c H locs 0 0 (MQ below (mQ (fun v H1 => v = none ∧ CW ρ P ad res H1) (MA wC ad s.heap.size)) args s 0 0 (MA wC ad s.heap.size)) (F0 m 62 ls []) := by
    intro K16 hK16
    intro st x1 x2 x3 H locs ls hW hS hl h
    have hSz := hS.1
    unfold da_readFree_62 at h
    obtain ⟨v1, ev1, h⟩ := jn_ex h
    refine lv_iinc (pc := 62) (v := v1) (lv' := [(3, .int v1), (0, .ref (ad 5)), (1, .int x1), (2, .int x2)]) hx hb d74_62 hl (k := 3) rfl (by rw [ev1]; rfl) (by decide) rfl (fun ls hl => ?_)
    refine lv_goto (pc := 65) (tgt := 16) hx hb d74_65 (by decide) ?_
    exact hK16 st x1 x2 v1 _ _ _ hW hS (lv_sub hl [1, 2, 3, 0] rfl) h
  have kc16 : ∀ (fu : Nat), ∀ (st : CS) (x1 : Int32) (x2 : Int32) (x3 : Int32) (H : Heap) (locs : List Loc) (ls : Array Slot), CW ρ P ad st H → va_S (MA wC ad s.heap.size) s.heap H locs → lv_has ls 5 [(0, .ref (ad 5)), (1, .int x1), (2, .int x2), (3, .int x3)] → da_readFree_16 fu st x1 x2 x3 = some res → W p l e ({ frames := 3, cells := 0, slots := 0, locals := 66 } : Room) s m args below meth c H locs 0 0 (MQ below (mQ (fun v H1 => v = none ∧ CW ρ P ad res H1) (MA wC ad s.heap.size)) args s 0 0 (MA wC ad s.heap.size)) (F0 m 16 ls []) := by
    intro  fu
    induction fu with
    | zero => intro st x1 x2 x3 H locs ls hW hS hl h; cases h
    | succ fu hK16 =>
      intro st x1 x2 x3 H locs ls hW hS hl h
      have hSz := hS.1
      unfold da_readFree_16 at h
      refine lv_iload_n (pc := 16) hx hb d74_16 rfl (lv_at hl 3 rfl) ?_
      refine lv_iload_n (pc := 17) hx hb d74_17 rfl (lv_at hl 2 rfl) ?_
      refine lv_icmp_ge (pc := 18) (tgt := 68) hx hb d74_18 (by decide) (fun c18 => ?_) (fun c18 => ?_)
      · have h := jb_t c18 h
        obtain rfl := Option.some.inj h
        exact m_vret (pc := 68) hx hb hr hlk hS ⟨rfl, hW⟩ (Nat.le_refl _) (Nat.le_refl _) d74_68
      · have h := jb_f c18 h
        refine lv_aload_n (pc := 21) hx hb d74_21 rfl (lv_at hl 0 rfl) ?_
        refine c_getK (pc := 22) X hW 5 0 7 1 (C := "WordFunctions$Dates") (T := T7) (N := 3) (by decide) rfl rfl rfl rfl tin7 rfl wd222 rfl rfl d74_22 ?_
        refine lv_iload_n (pc := 25) hx hb d74_25 rfl (lv_at hl 1 rfl) ?_
        refine lv_iload_n (pc := 26) hx hb d74_26 rfl (lv_at hl 3 rfl) ?_
        obtain ⟨q2, hq2, h⟩ := jc_some h
        refine k_callV (pc := 27) (n := 2) X hS (c_ar_nth l ρ ad _ P st x1 x3 q2 hW  hq2) wd770 wd1304 wd768 wd769 wd3 (by decide) ⟨rfl, rfl, Nat.le_of_ble_eq_true rfl, Nat.le_of_ble_eq_true rfl⟩ (c_recv X hW 1 3 (by decide) rfl rfl) (As := [.int x1, .int x3]) (rest := []) rfl rfl hl.1 (Nat.le_of_ble_eq_true rfl) d74_27 ⟨Nat.le_refl _, Nat.le_refl _⟩ (fun q hq => False.elim hq) (fun v H1 locs1 hv _ _ hSq2 => ?_)
        obtain ⟨u3, rfl, fu3, rfl⟩ := hv
        have hS := hSq2
        have hSz := hS.1
        refine lv_astore (pc := 30) (lv' := [(4, .ref u3), (0, .ref (ad 5)), (1, .int x1), (2, .int x2), (3, .int x3)]) hx hb d74_30 hl (by decide) rfl (fun ls hl => ?_)
        refine lv_aload (pc := 32) hx hb d74_32 (lv_at hl 0 rfl) ?_
        refine v_kind (pc := 34) X fu3 wd80 d74_34 ?_
        refine lv_iconst (pc := 37) (v := 1) hx hb d74_37 (by decide) ?_
        refine lv_icmp_ne (pc := 38) (tgt := 62) hx hb d74_38 (by decide) (fun c38 => ?_) (fun c38 => ?_)
        · have h := jb_f c38 h
          exact kc62 _ hK16  st x1 x2 x3 _ _ _ hW hS (lv_sub hl [1, 2, 3, 4] rfl) h
        · have h := jb_t c38 h
          refine lv_aload (pc := 41) hx hb d74_41 (lv_at hl 0 rfl) ?_
          refine v_number (pc := 43) X fu3 wd86 d74_43 ?_
          obtain ⟨q4, hq4, h⟩ := jc_some h
          refine k_callS (pc := 46) (n := 1) X hS (c_ca_hasDay l ρ _ P q2.2.1 q4 hW.2.2.1 hW.2.1  hq4) wd1235 wd1305 wd1234 wd29 (by decide) ⟨rfl, rfl, Nat.le_of_ble_eq_true rfl, Nat.le_of_ble_eq_true rfl⟩ (As := [.double q2.2.1]) (rest := []) rfl rfl hl.1 (Nat.le_of_ble_eq_true rfl) d74_46 ⟨Nat.le_refl _, Nat.le_refl _⟩ (fun q hq => False.elim hq) (fun v H1 locs1 hv _ _ hSq4 => ?_)
          obtain ⟨rfl, rfl⟩ := hv
          have hS := hSq4
          have hSz := hS.1
          refine lv_if_eq (pc := 49) (tgt := 62) hx hb d74_49 (by decide) (fun c49 => ?_) (fun c49 => ?_)
          · have h := jb_t c49 h
            exact kc62 _ hK16  st x1 x2 x3 _ _ _ hW hS (lv_sub hl [1, 2, 3, 4] rfl) h
          · have h := jb_f c49 h
            refine lv_aload_n (pc := 52) hx hb d74_52 rfl (lv_at hl 1 rfl) ?_
            refine lv_aload (pc := 53) hx hb d74_53 (lv_at hl 0 rfl) ?_
            refine v_number (pc := 55) X fu3 wd86 d74_55 ?_
            refine lv_d2i (pc := 58) hx hb d74_58 ?_
            obtain ⟨q5, hq5, h⟩ := jc_some h
            refine k_callV (pc := 59) (n := 1) X hS (c_da_addFree l ρ ad _ P st (FP.d2i q2.2.1) q5 hW  hq5) wd1309 wd1306 wd1308 sl63 wd9 (by decide) ⟨rfl, rfl, Nat.le_of_ble_eq_true rfl, Nat.le_of_ble_eq_true rfl⟩ (c_recv X hW 5 7 (by decide) rfl rfl) (As := [.int (FP.d2i q2.2.1)]) (rest := []) rfl rfl hl.1 (Nat.le_of_ble_eq_true rfl) d74_59 ⟨Nat.le_refl _, Nat.le_refl _⟩ (fun q hq => MA.mono hS.1 hq) (fun v H1 locs1 hv hz1 hz2 hSq5 => ?_)
            have hPq := hW.1
            obtain ⟨rfl, hW⟩ := hv
            have hS := hSq5
            have hSz := hS.1
            exact kc62 _ hK16  q5 x1 x2 x3 _ _ _ hW hS (lv_sub hl [1, 2, 3, 4] rfl) h
  unfold f_da_readFree at h
  refine lv_aload_n (pc := 0) hx hb d74_0 rfl (lv_at hl 0 rfl) ?_
  refine lv_iconst (pc := 1) (v := 0) hx hb d74_1 (by decide) ?_
  obtain ⟨st6, est6, h⟩ := jn_ex h
  refine c_putI (pc := 2) X hW hS 5 2 7 (C := "WordFunctions$Dates") (T := T7) (N := 3) est6 (hAp _ (by decide)) (by decide) rfl rfl rfl rfl tin7 ty7 tyo7 tnm7 rfl wd224 rfl rfl rfl rfl d74_2 (fun H locs hW hS hk => ?_)
  have hSz := hS.1
  refine lv_aload_n (pc := 5) hx hb d74_5 rfl (lv_at hl 0 rfl) ?_
  refine c_getK (pc := 6) X hW 5 0 7 1 (C := "WordFunctions$Dates") (T := T7) (N := 3) (by decide) rfl rfl rfl rfl tin7 rfl wd222 rfl rfl d74_6 ?_
  refine lv_iload_n (pc := 9) hx hb d74_9 rfl (lv_at hl 1 rfl) ?_
  obtain ⟨q7, hq7, h⟩ := jc_some h
  refine k_callV (pc := 10) (n := 1) X hS (c_ar_many l ρ ad _ P st6 p0 q7 hW  hq7) wd1056 wd1303 wd1054 wd1055 wd3 (by decide) ⟨rfl, rfl, Nat.le_of_ble_eq_true rfl, Nat.le_of_ble_eq_true rfl⟩ (c_recv X hW 1 3 (by decide) rfl rfl) (As := [.int p0]) (rest := []) rfl rfl hl.1 (Nat.le_of_ble_eq_true rfl) d74_10 ⟨Nat.le_refl _, Nat.le_refl _⟩ (fun q hq => False.elim hq) (fun v H1 locs1 hv _ _ hSq7 => ?_)
  obtain ⟨rfl, rfl⟩ := hv
  have hS := hSq7
  have hSz := hS.1
  refine lv_istore_n (pc := 13) (lv' := [(2, .int q7), (0, .ref (ad 5)), (1, .int p0)]) hx hb d74_13 rfl hl (by decide) rfl (fun ls hl => ?_)
  refine lv_iconst (pc := 14) (v := 0) hx hb d74_14 (by decide) ?_
  refine lv_istore_n (pc := 15) (lv' := [(3, .int 0), (2, .int q7), (0, .ref (ad 5)), (1, .int p0)]) hx hb d74_15 rfl hl (by decide) rfl (fun ls hl => ?_)
  exact kc16  FU st6 p0 q7 0 _ _ _ hW hS (lv_sub hl [2, 3, 1, 0] rfl) h
def da_workdays_109  (st : CS) (z0 : UInt64) : Option ((VV × CS) × Nat × Nat) := jd (f_vl_ofNumber z0) (fun q1 => some ((q1, st), 0, 0))
def da_workdays_88 (K53 : CS → Int32 → Int32 → Int32 → Int32 → Int32 → Int32 → Option ((VV × CS) × Nat × Nat)) (st : CS) (x1 : Int32) (x2 : Int32) (x3 : Int32) (x4 : Int32) (x5 : Int32) (x6 : Int32) : Option ((VV × CS) × Nat × Nat) := jn (x6 + 1) (fun v3 => K53 st x1 x2 x3 x4 x5 v3)
def da_workdays_53  : Nat → CS → Int32 → Int32 → Int32 → Int32 → Int32 → Int32 → Option ((VV × CS) × Nat × Nat)
  | 0, _, _, _, _, _, _, _ => none
  | fu + 1, st, x1, x2, x3, x4, x5, x6 => jb ((st.1 5 2) ≤ x6) (jb (x2 < x1) (da_workdays_109 st (FP.i2d (-x5))) (da_workdays_109 st (FP.i2d x5))) (jg (inb x6 512) (jb ((st.1 45 x6.toNatClampNeg) < x3) (da_workdays_88 (da_workdays_53 fu) st x1 x2 x3 x4 x5 x6) (jg (inb x6 512) (jb (x4 < (st.1 45 x6.toNatClampNeg)) (da_workdays_88 (da_workdays_53 fu) st x1 x2 x3 x4 x5 x6) (jn (x5 + (-1)) (fun v6 => da_workdays_88 (da_workdays_53 fu) st x1 x2 x3 x4 v6 x6))))))
def f_da_workdays (st : CS) : Option ((VV × CS) × Nat × Nat) := jc (f_ar_day st 0) (fun q7 => jc (f_ar_day q7.2 1) (fun q8 => jc (f_da_readFree q8.2 2) (fun q9 => jc (f_ma_min q7.1 q8.1) (fun q10 => jc (f_ma_max q7.1 q8.1) (fun q11 => jc (f_ca_workdaysTo q11) (fun q12 => jc (f_ca_workdaysTo (q10 - 1)) (fun q13 => jn (q12 - q13) (fun v14 => da_workdays_53 FU q9 q7.1 q8.1 q10 q11 v14 0))))))))
set_option maxHeartbeats 4000000 in
set_option maxRecDepth 100000 in
theorem c_da_workdays (l : Launch) (ρ : RH) (ad : Nat → Nat) (H : Heap) (P : Nat → Prop) (st : CS) (res : (VV × CS) × Nat × Nat) (hW : CW ρ P ad st H) (h : f_da_workdays st = some res) : Met l y82 (wsOf y82 b82 7 (some (.object "WordFunctions$Value"))) ({ frames := 16, cells := res.2.1, slots := res.2.2, locals := 696 } : Room) (va_Pc [.ref (ad 5)] (KP ρ H)) (mQ (fun v H1 => ∃ x : Nat, v = some (.ref x) ∧ isV ρ P H1 x res.1.1 ∧ CW ρ P ad res.1.2 H1) (MA wC ad H.size)) res.2.1 res.2.2 (MA wC ad H.size) := by
  refine m_ofW (own := "WordFunctions$Dates") (plainFor_of_name rfl) rfl (Nat.le_of_ble_eq_true rfl) fun p e s m args below meth c ls hx hb hr hlk _ X hs hl => ?_
  subst hs
  have hS : va_S (MA wC ad s.heap.size) s.heap s.heap [] := va_S.rf
  have hSz := hS.1
  have hAz : ∀ q, s.heap.size ≤ q → (MA wC ad s.heap.size) q := fun q hq => Or.inr hq
  have hAp : ∀ i, i < 46 → (MA wC ad s.heap.size) (ad i) := fun i hi => MA.in hi
  have hPp : ∀ i, i < 46 → P (ad i) := hW.1
  have hl : lv_has ls 7 [(0, .ref (ad 5))] := hl
  have kc109 : ∀ (st : CS) (z0 : UInt64) (H : Heap) (locs : List Loc) (ls : Array Slot) (cells slots : Nat) (r : (VV × CS) × Nat × Nat), CW ρ P ad st H → va_S (MA wC ad s.heap.size) s.heap H locs → lv_has ls 7 [] → res.1 = r.1 → cells + r.2.1 ≤ res.2.1 → slots + r.2.2 ≤ res.2.2 → da_workdays_109 st z0 = some r → W p l e ({ frames := 16, cells := res.2.1, slots := res.2.2, locals := 696 } : Room) s m args below meth c H locs cells slots (MQ below (mQ (fun v H1 => ∃ x : Nat, v = some (.ref x) ∧ isV ρ P H1 x res.1.1 ∧ CW ρ P ad res.1.2 H1) (MA wC ad s.heap.size)) args s res.2.1 res.2.2 (MA wC ad s.heap.size)) (F0 m 109 ls [.double z0]) := by
    intro st z0 H locs ls cells slots r hW hS hl her hc1 hs1 h
    have hSz := hS.1
    unfold da_workdays_109 at h
    obtain ⟨q1, rq1, hq1, h, herq1, hccq1, hssq1⟩ := jd_some h
    refine k_callS (pc := 109) (n := 1) X hS (c_vl_ofNumber l ρ _ P z0 q1 hW.2.2.1 hW.2.1  hq1) wd642 wd1219 wd641 wd4 (by decide) ⟨rfl, rfl, Nat.le_of_ble_eq_true rfl, Nat.le_of_ble_eq_true rfl⟩ (As := [.double z0]) (rest := []) rfl rfl hl.1 (Nat.le_of_ble_eq_true rfl) d82_109 ⟨room_le hccq1 hc1, room_le hssq1 hs1⟩ (fun q hq => hAz q (Nat.le_trans hS.1 hq)) (fun v H1 locs1 hv hz1 hz2 hSq1 => ?_)
    obtain ⟨u2, rfl, fu2⟩ := hv
    have hk : kp no _ H1 := kp_call hz1 hz2 (fun q hq z => absurd hq (Nat.not_lt.mpr z))
    have hW := hW.keep hk no_hz (fun _ _ z => z)
    have hS := hSq1
    have hSz := hS.1
    have her := her.trans herq1
    have hc1 := room_st hccq1 hc1
    have hs1 := room_st hssq1 hs1
    have her : res.1 = (q1.1, st) := her.trans (congrArg Prod.fst (Option.some.inj h)).symm
    exact m_aret (pc := 112) hx hb hr (Or.inl ⟨_, rfl⟩) hlk hS ⟨u2, rfl, by rw [her]; exact fu2, by rw [her]; exact hW⟩ (Nat.le_trans (Nat.le_add_right _ _) hc1) (Nat.le_trans (Nat.le_add_right _ _) hs1) d82_112
  have kc88 : ∀ (K53 : CS → Int32 → Int32 → Int32 → Int32 → Int32 → Int32 → Option ((VV × CS) × Nat × Nat)) (hK53 : ∀ (st : CS) (x1 : Int32) (x2 : Int32) (x3 : Int32) (x4 : Int32) (x5 : Int32) (x6 : Int32) (H : Heap) (locs : List Loc) (ls : Array Slot) (cells slots : Nat) (r : (VV × CS) × Nat × Nat), CW ρ P ad st H → va_S (MA wC ad s.heap.size) s.heap H locs → lv_has ls 7 [(0, .ref (ad 5)), (1, .int x1), (2, .int x2), (3, .int x3), (4, .int x4), (5, .int x5), (6, .int x6)] → res.1 = r.1 → cells + r.2.1 ≤ res.2.1 → slots + r.2.2 ≤ res.2.2 → K53 st x1 x2 x3 x4 x5 x6 = some r → W p l e ({ frames := 16, cells := res.2.1, slots := res.2.2, locals := 696 } : Room) s m args below meth c H locs cells slots (MQ below (mQ (fun v H1 => ∃ x : Nat, v = some (.ref x) ∧ isV ρ P H1 x res.1.1 ∧ CW ρ P ad res.1.2 H1) (MA wC ad s.heap.size)) args s res.2.1 res.2.2 (MA wC ad s.heap.size)) (F0 m 53 ls [])), ∀ (st : CS) (x1 : Int32) (x2 : Int32) (x3 : Int32) (x4 : Int32) (x5 : Int32) (x6 : Int32) (H : Heap) (locs : List Loc) (ls : Array Slot) (cells slots : Nat) (r : (VV × CS) × Nat × Nat), CW ρ P ad st H → va_S (MA wC ad s.heap.size) s.heap H locs → lv_has ls 7 [(0, .ref (ad 5)), (1, .int x1), (2, .int x2), (3, .int x3), (4, .int x4), (5, .int x5), (6, .int x6)] → res.1 = r.1 → cells + r.2.1 ≤ res.2.1 → slots + r.2.2 ≤ res.2.2 → da_workdays_88 K53 st x1 x2 x3 x4 x5 x6 = some r → W p l e ({ frames := 16, cells := res.2.1, slots := res.2.2, locals := 696 } : Room) s m args below meth c H locs cells slots (MQ below (mQ (fun v H1 => ∃ x : Nat, v = some (.ref x) ∧ isV ρ P H1 x res.1.1 ∧ CW ρ P ad res.1.2 H1) (MA wC ad s.heap.size)) args s res.2.1 res.2.2 (MA wC ad s.heap.size)) (F0 m 88 ls []) := by
    intro K53 hK53
    intro st x1 x2 x3 x4 x5 x6 H locs ls cells slots r hW hS hl her hc1 hs1 h
    have hSz := hS.1
    unfold da_workdays_88 at h
    obtain ⟨v3, ev3, h⟩ := jn_ex h
    refine lv_iinc (pc := 88) (v := v3) (lv' := [(6, .int v3), (0, .ref (ad 5)), (1, .int x1), (2, .int x2), (3, .int x3), (4, .int x4), (5, .int x5)]) hx hb d82_88 hl (k := 6) rfl (by rw [ev3]; rfl) (by decide) rfl (fun ls hl => ?_)
    refine lv_goto (pc := 91) (tgt := 53) hx hb d82_91 (by decide) ?_
    exact hK53 st x1 x2 x3 x4 x5 v3 _ _ _ _ _ _ hW hS (lv_sub hl [1, 2, 3, 4, 5, 6, 0] rfl) her hc1 hs1 h
  have kc53 : ∀ (fu : Nat), ∀ (st : CS) (x1 : Int32) (x2 : Int32) (x3 : Int32) (x4 : Int32) (x5 : Int32) (x6 : Int32) (H : Heap) (locs : List Loc) (ls : Array Slot) (cells slots : Nat) (r : (VV × CS) × Nat × Nat), CW ρ P ad st H → va_S (MA wC ad s.heap.size) s.heap H locs → lv_has ls 7 [(0, .ref (ad 5)), (1, .int x1), (2, .int x2), (3, .int x3), (4, .int x4), (5, .int x5), (6, .int x6)] → res.1 = r.1 → cells + r.2.1 ≤ res.2.1 → slots + r.2.2 ≤ res.2.2 → da_workdays_53 fu st x1 x2 x3 x4 x5 x6 = some r → W p l e ({ frames := 16, cells := res.2.1, slots := res.2.2, locals := 696 } : Room) s m args below meth c H locs cells slots (MQ below (mQ (fun v H1 => ∃ x : Nat, v = some (.ref x) ∧ isV ρ P H1 x res.1.1 ∧ CW ρ P ad res.1.2 H1) (MA wC ad s.heap.size)) args s res.2.1 res.2.2 (MA wC ad s.heap.size)) (F0 m 53 ls []) := by
    intro  fu
    induction fu with
    | zero => intro st x1 x2 x3 x4 x5 x6 H locs ls cells slots r hW hS hl her hc1 hs1 h; cases h
    | succ fu hK53 =>
      intro st x1 x2 x3 x4 x5 x6 H locs ls cells slots r hW hS hl her hc1 hs1 h
      have hSz := hS.1
      unfold da_workdays_53 at h
      refine lv_iload (pc := 53) hx hb d82_53 (lv_at hl 6 rfl) ?_
      refine lv_aload_n (pc := 55) hx hb d82_55 rfl (lv_at hl 0 rfl) ?_
      refine c_getI (pc := 56) X hW 5 2 7 (C := "WordFunctions$Dates") (T := T7) (N := 3) (by decide) rfl rfl rfl rfl tin7 rfl wd224 rfl d82_56 ?_
      refine lv_icmp_ge (pc := 59) (tgt := 94) hx hb d82_59 (by decide) (fun c59 => ?_) (fun c59 => ?_)
      · have h := jb_t c59 h
        refine lv_iload_n (pc := 94) hx hb d82_94 rfl (lv_at hl 1 rfl) ?_
        refine lv_iload_n (pc := 95) hx hb d82_95 rfl (lv_at hl 2 rfl) ?_
        refine lv_icmp_gt (pc := 96) (tgt := 105) hx hb d82_96 (by decide) (fun c96 => ?_) (fun c96 => ?_)
        · have h := jb_t c96 h
          refine lv_iload (pc := 105) hx hb d82_105 (lv_at hl 5 rfl) ?_
          refine lv_ineg (pc := 107) hx hb d82_107 ?_
          refine lv_i2d (pc := 108) hx hb d82_108 ?_
          exact kc109   st (FP.i2d (-x5)) _ _ _ _ _ _ hW hS (lv_sub hl [] rfl) her hc1 hs1 h
        · have h := jb_f c96 h
          refine lv_iload (pc := 99) hx hb d82_99 (lv_at hl 5 rfl) ?_
          refine lv_i2d (pc := 101) hx hb d82_101 ?_
          refine lv_goto (pc := 102) (tgt := 109) hx hb d82_102 (by decide) ?_
          exact kc109   st (FP.i2d x5) _ _ _ _ _ _ hW hS (lv_sub hl [] rfl) her hc1 hs1 h
      · have h := jb_f c59 h
        refine lv_aload_n (pc := 62) hx hb d82_62 rfl (lv_at hl 0 rfl) ?_
        refine c_getK (pc := 63) X hW 5 1 7 45 (C := "WordFunctions$Dates") (T := T7) (N := 3) (by decide) rfl rfl rfl rfl tin7 rfl wd223 rfl rfl d82_63 ?_
        refine lv_iload (pc := 66) hx hb d82_66 (lv_at hl 6 rfl) ?_
        obtain ⟨g4, h⟩ := jg_some h
        refine c_iald (pc := 68) X hW 45 (by decide) rfl g4 d82_68 ?_
        refine lv_iload_n (pc := 69) hx hb d82_69 rfl (lv_at hl 3 rfl) ?_
        refine lv_icmp_lt (pc := 70) (tgt := 88) hx hb d82_70 (by decide) (fun c70 => ?_) (fun c70 => ?_)
        · have h := jb_t c70 h
          exact kc88 _ hK53  st x1 x2 x3 x4 x5 x6 _ _ _ _ _ _ hW hS (lv_sub hl [0, 1, 2, 3, 4, 5, 6] rfl) her hc1 hs1 h
        · have h := jb_f c70 h
          refine lv_aload_n (pc := 73) hx hb d82_73 rfl (lv_at hl 0 rfl) ?_
          refine c_getK (pc := 74) X hW 5 1 7 45 (C := "WordFunctions$Dates") (T := T7) (N := 3) (by decide) rfl rfl rfl rfl tin7 rfl wd223 rfl rfl d82_74 ?_
          refine lv_iload (pc := 77) hx hb d82_77 (lv_at hl 6 rfl) ?_
          obtain ⟨g5, h⟩ := jg_some h
          refine c_iald (pc := 79) X hW 45 (by decide) rfl g5 d82_79 ?_
          refine lv_iload (pc := 80) hx hb d82_80 (lv_at hl 4 rfl) ?_
          refine lv_icmp_gt (pc := 82) (tgt := 88) hx hb d82_82 (by decide) (fun c82 => ?_) (fun c82 => ?_)
          · have h := jb_t c82 h
            exact kc88 _ hK53  st x1 x2 x3 x4 x5 x6 _ _ _ _ _ _ hW hS (lv_sub hl [0, 1, 2, 3, 4, 5, 6] rfl) her hc1 hs1 h
          · have h := jb_f c82 h
            obtain ⟨v6, ev6, h⟩ := jn_ex h
            refine lv_iinc (pc := 85) (v := v6) (lv' := [(5, .int v6), (0, .ref (ad 5)), (1, .int x1), (2, .int x2), (3, .int x3), (4, .int x4), (6, .int x6)]) hx hb d82_85 hl (k := 5) rfl (by rw [ev6]; rfl) (by decide) rfl (fun ls hl => ?_)
            exact kc88 _ hK53  st x1 x2 x3 x4 v6 x6 _ _ _ _ _ _ hW hS (lv_sub hl [1, 2, 3, 4, 5, 0, 6] rfl) her hc1 hs1 h
  have her : res.1 = res.1 := rfl
  have hc1 : 0 + res.2.1 ≤ res.2.1 := Nat.le_of_eq (Nat.zero_add _)
  have hs1 : 0 + res.2.2 ≤ res.2.2 := Nat.le_of_eq (Nat.zero_add _)
  unfold f_da_workdays at h
  refine lv_aload_n (pc := 0) hx hb d82_0 rfl (lv_at hl 0 rfl) ?_
  refine c_getK (pc := 1) X hW 5 0 7 1 (C := "WordFunctions$Dates") (T := T7) (N := 3) (by decide) rfl rfl rfl rfl tin7 rfl wd222 rfl rfl d82_1 ?_
  refine lv_iconst (pc := 4) (v := 0) hx hb d82_4 (by decide) ?_
  obtain ⟨q7, hq7, h⟩ := jc_some h
  refine k_callV (pc := 5) (n := 1) X hS (c_ar_day l ρ ad _ P st 0 q7 hW  hq7) wd1232 wd1229 wd1230 wd1231 wd3 (by decide) ⟨rfl, rfl, Nat.le_of_ble_eq_true rfl, Nat.le_of_ble_eq_true rfl⟩ (c_recv X hW 1 3 (by decide) rfl rfl) (As := [.int 0]) (rest := []) rfl rfl hl.1 (Nat.le_of_ble_eq_true rfl) d82_5 ⟨room_l0 hc1, room_l0 hs1⟩ (fun q hq => MA.mono hS.1 hq) (fun v H1 locs1 hv hz1 hz2 hSq7 => ?_)
  have hPq := hW.1
  obtain ⟨rfl, hW⟩ := hv
  have hS := hSq7
  have hSz := hS.1
  refine lv_istore_n (pc := 8) (lv' := [(1, .int q7.1), (0, .ref (ad 5))]) hx hb d82_8 rfl hl (by decide) rfl (fun ls hl => ?_)
  refine lv_aload_n (pc := 9) hx hb d82_9 rfl (lv_at hl 1 rfl) ?_
  refine c_getK (pc := 10) X hW 5 0 7 1 (C := "WordFunctions$Dates") (T := T7) (N := 3) (by decide) rfl rfl rfl rfl tin7 rfl wd222 rfl rfl d82_10 ?_
  refine lv_iconst (pc := 13) (v := 1) hx hb d82_13 (by decide) ?_
  obtain ⟨q8, hq8, h⟩ := jc_some h
  refine k_callV (pc := 14) (n := 1) X hS (c_ar_day l ρ ad _ P q7.2 1 q8 hW  hq8) wd1232 wd1229 wd1230 wd1231 wd3 (by decide) ⟨rfl, rfl, Nat.le_of_ble_eq_true rfl, Nat.le_of_ble_eq_true rfl⟩ (c_recv X hW 1 3 (by decide) rfl rfl) (As := [.int 1]) (rest := []) rfl rfl hl.1 (Nat.le_of_ble_eq_true rfl) d82_14 ⟨room_l0 hc1, room_l0 hs1⟩ (fun q hq => MA.mono hS.1 hq) (fun v H1 locs1 hv hz1 hz2 hSq8 => ?_)
  have hPq := hW.1
  obtain ⟨rfl, hW⟩ := hv
  have hS := hSq8
  have hSz := hS.1
  refine lv_istore_n (pc := 17) (lv' := [(2, .int q8.1), (1, .int q7.1), (0, .ref (ad 5))]) hx hb d82_17 rfl hl (by decide) rfl (fun ls hl => ?_)
  refine lv_aload_n (pc := 18) hx hb d82_18 rfl (lv_at hl 2 rfl) ?_
  refine lv_iconst (pc := 19) (v := 2) hx hb d82_19 (by decide) ?_
  obtain ⟨q9, hq9, h⟩ := jc_some h
  refine k_callV (pc := 20) (n := 1) X hS (c_da_readFree l ρ ad _ P q8.2 2 q9 hW  hq9) wd1302 wd1299 wd1301 sl74 wd9 (by decide) ⟨rfl, rfl, Nat.le_of_ble_eq_true rfl, Nat.le_of_ble_eq_true rfl⟩ (c_recv X hW 5 7 (by decide) rfl rfl) (As := [.int 2]) (rest := []) rfl rfl hl.1 (Nat.le_of_ble_eq_true rfl) d82_20 ⟨room_l0 hc1, room_l0 hs1⟩ (fun q hq => MA.mono hS.1 hq) (fun v H1 locs1 hv hz1 hz2 hSq9 => ?_)
  have hPq := hW.1
  obtain ⟨rfl, hW⟩ := hv
  have hS := hSq9
  have hSz := hS.1
  refine lv_iload_n (pc := 23) hx hb d82_23 rfl (lv_at hl 1 rfl) ?_
  refine lv_iload_n (pc := 24) hx hb d82_24 rfl (lv_at hl 0 rfl) ?_
  obtain ⟨q10, hq10, h⟩ := jc_some h
  refine k_callS (pc := 25) (n := 2) X hS (c_ma_min l ρ _ P q7.1 q8.1 q10 hW.2.2.1 hW.2.1  hq10) wd351 wd1270 wd350 wd17 (by decide) ⟨rfl, rfl, Nat.le_of_ble_eq_true rfl, Nat.le_of_ble_eq_true rfl⟩ (As := [.int q7.1, .int q8.1]) (rest := []) rfl rfl hl.1 (Nat.le_of_ble_eq_true rfl) d82_25 ⟨room_l0 hc1, room_l0 hs1⟩ (fun q hq => False.elim hq) (fun v H1 locs1 hv _ _ hSq10 => ?_)
  obtain ⟨rfl, rfl⟩ := hv
  have hS := hSq10
  have hSz := hS.1
  refine lv_istore_n (pc := 28) (lv' := [(3, .int q10), (2, .int q8.1), (1, .int q7.1), (0, .ref (ad 5))]) hx hb d82_28 rfl hl (by decide) rfl (fun ls hl => ?_)
  refine lv_iload_n (pc := 29) hx hb d82_29 rfl (lv_at hl 2 rfl) ?_
  refine lv_iload_n (pc := 30) hx hb d82_30 rfl (lv_at hl 1 rfl) ?_
  obtain ⟨q11, hq11, h⟩ := jc_some h
  refine k_callS (pc := 31) (n := 2) X hS (c_ma_max l ρ _ P q7.1 q8.1 q11 hW.2.2.1 hW.2.1  hq11) wd333 wd1313 wd332 wd17 (by decide) ⟨rfl, rfl, Nat.le_of_ble_eq_true rfl, Nat.le_of_ble_eq_true rfl⟩ (As := [.int q7.1, .int q8.1]) (rest := []) rfl rfl hl.1 (Nat.le_of_ble_eq_true rfl) d82_31 ⟨room_l0 hc1, room_l0 hs1⟩ (fun q hq => False.elim hq) (fun v H1 locs1 hv _ _ hSq11 => ?_)
  obtain ⟨rfl, rfl⟩ := hv
  have hS := hSq11
  have hSz := hS.1
  refine lv_istore (pc := 34) (lv' := [(4, .int q11), (3, .int q10), (2, .int q8.1), (1, .int q7.1), (0, .ref (ad 5))]) hx hb d82_34 hl (by decide) rfl (fun ls hl => ?_)
  refine lv_iload (pc := 36) hx hb d82_36 (lv_at hl 0 rfl) ?_
  obtain ⟨q12, hq12, h⟩ := jc_some h
  refine k_callS (pc := 38) (n := 1) X hS (c_ca_workdaysTo l ρ _ P q11 q12 hW.2.2.1 hW.2.1  hq12) wd1316 wd1314 wd1315 wd29 (by decide) ⟨rfl, rfl, Nat.le_of_ble_eq_true rfl, Nat.le_of_ble_eq_true rfl⟩ (As := [.int q11]) (rest := []) rfl rfl hl.1 (Nat.le_of_ble_eq_true rfl) d82_38 ⟨room_l0 hc1, room_l0 hs1⟩ (fun q hq => False.elim hq) (fun v H1 locs1 hv _ _ hSq12 => ?_)
  obtain ⟨rfl, rfl⟩ := hv
  have hS := hSq12
  have hSz := hS.1
  refine lv_iload_n (pc := 41) hx hb d82_41 rfl (lv_at hl 1 rfl) ?_
  refine lv_iconst (pc := 42) (v := 1) hx hb d82_42 (by decide) ?_
  refine lv_isub (pc := 43) hx hb d82_43 ?_
  obtain ⟨q13, hq13, h⟩ := jc_some h
  refine k_callS (pc := 44) (n := 1) X hS (c_ca_workdaysTo l ρ _ P (q10 - 1) q13 hW.2.2.1 hW.2.1  hq13) wd1316 wd1314 wd1315 wd29 (by decide) ⟨rfl, rfl, Nat.le_of_ble_eq_true rfl, Nat.le_of_ble_eq_true rfl⟩ (As := [.int (q10 - 1)]) (rest := [.int q12]) rfl rfl hl.1 (Nat.le_of_ble_eq_true rfl) d82_44 ⟨room_l0 hc1, room_l0 hs1⟩ (fun q hq => False.elim hq) (fun v H1 locs1 hv _ _ hSq13 => ?_)
  obtain ⟨rfl, rfl⟩ := hv
  have hS := hSq13
  have hSz := hS.1
  refine lv_isub (pc := 47) hx hb d82_47 ?_
  obtain ⟨v14, ev14, h⟩ := jn_ex h
  refine nm_i ev14 ?_
  refine lv_istore (pc := 48) (lv' := [(5, .int v14), (4, .int q11), (3, .int q10), (2, .int q8.1), (1, .int q7.1), (0, .ref (ad 5))]) hx hb d82_48 hl (by decide) rfl (fun ls hl => ?_)
  refine lv_iconst (pc := 50) (v := 0) hx hb d82_50 (by decide) ?_
  refine lv_istore (pc := 51) (lv' := [(6, .int 0), (5, .int v14), (4, .int q11), (3, .int q10), (2, .int q8.1), (1, .int q7.1), (0, .ref (ad 5))]) hx hb d82_51 hl (by decide) rfl (fun ls hl => ?_)
  exact kc53  FU q9 q7.1 q8.1 q10 q11 v14 0 _ _ _ _ _ _ hW hS (lv_sub hl [6, 5, 4, 3, 2, 1, 0] rfl) her hc1 hs1 h
def da_workdayBehind_47 (K10 : CS → Int32 → Int32 → Int32 → Option (Int32)) (st : CS) (x1 : Int32) (x3 : Int32) (x4 : Int32) : Option (Int32) := jn (x4 + 1) (fun v1 => K10 st x1 x3 v1)
def da_workdayBehind_10  : Nat → CS → Int32 → Int32 → Int32 → Option (Int32)
  | 0, _, _, _, _ => none
  | fu + 1, st, x1, x3, x4 => jb ((st.1 5 2) ≤ x4) (jc (f_ca_workday x3) (fun q2 => some q2)) (jg (inb x4 512) (jb ((st.1 45 x4.toNatClampNeg) ≤ x1) (da_workdayBehind_47 (da_workdayBehind_10 fu) st x1 x3 x4) (jg (inb x4 512) (jc (f_ca_workday x3) (fun q5 => jb (q5 < (st.1 45 x4.toNatClampNeg)) (da_workdayBehind_47 (da_workdayBehind_10 fu) st x1 x3 x4) (jn (x3 + 1) (fun v6 => da_workdayBehind_47 (da_workdayBehind_10 fu) st x1 v6 x4)))))))
def f_da_workdayBehind (st : CS) (p0 : Int32) (p1 : Int32) : Option (Int32) := jc (f_ca_workdaysTo p0) (fun q7 => jn (q7 + p1) (fun v8 => da_workdayBehind_10 FU st p0 v8 0))
set_option maxHeartbeats 4000000 in
set_option maxRecDepth 100000 in
theorem c_da_workdayBehind (l : Launch) (ρ : RH) (ad : Nat → Nat) (H : Heap) (P : Nat → Prop) (st : CS) (p0 : Int32) (p1 : Int32) (res : Int32) (hW : CW ρ P ad st H) (h : f_da_workdayBehind st p0 p1 = some res) : Met l y81 (wsOf y81 b81 5 (some .int)) ({ frames := 2, cells := 0, slots := 0, locals := 43 } : Room) (va_Pc [.ref (ad 5), .int p0, .int p1] (KP ρ H)) (mQ (fun v H1 => v = some (.int res) ∧ H1 = H) (fun _ => False)) 0 0 (fun _ => False) := by
  refine m_ofW (own := "WordFunctions$Dates") (plainFor_of_name rfl) rfl (Nat.le_of_ble_eq_true rfl) fun p e s m args below meth c ls hx hb hr hlk _ X hs hl => ?_
  subst hs
  have hS : va_S (fun _ => False) s.heap s.heap [] := va_S.rf
  have hSz := hS.1
  have hPp : ∀ i, i < 46 → P (ad i) := hW.1
  have hl : lv_has ls 5 [(0, .ref (ad 5)), (1, .int p0), (2, .int p1)] := hl
  have kc47 : ∀ (K10 : CS → Int32 → Int32 → Int32 → Option (Int32)) (hK10 : ∀ (x1 : Int32) (x3 : Int32) (x4 : Int32) (locs : List Loc) (ls : Array Slot), va_S (fun _ => False) s.heap s.heap locs → lv_has ls 5 [(0, .ref (ad 5)), (1, .int x1), (3, .int x3), (4, .int x4)] → K10 st x1 x3 x4 = some res → W p l e ({ frames := 2, cells := 0, slots := 0, locals := 43 } : Room) s m args below meth c s.heap locs 0 0 (MQ below (mQ (fun v H1 => v = some (.int res) ∧ H1 = s.heap) (fun _ => False)) args s 0 0 (fun _ => False)) (F0 m 10 ls [])), ∀ (x1 : Int32) (x3 : Int32) (x4 : Int32) (locs : List Loc) (ls : Array Slot), va_S (fun _ => False) s.heap s.heap locs → lv_has ls 5 [(0, .ref (ad 5)), (1, .int x1), (3, .int x3), (4, .int x4)] → da_workdayBehind_47 K10 st x1 x3 x4 = some res → W p l e ({ frames := 2, cells := 0, slots := 0, locals := 43 } : Room) s m args below meth c s.heap locs 0 0 (MQ below (mQ (fun v H1 => v = some (.int res) ∧ H1 = s.heap) (fun _ => False)) args s 0 0 (fun _ => False)) (F0 m 47 ls []) := by
    intro K10 hK10
    intro x1 x3 x4 locs ls hS hl h
    have hSz := hS.1
    unfold da_workdayBehind_47 at h
    obtain ⟨v1, ev1, h⟩ := jn_ex h
    refine lv_iinc (pc := 47) (v := v1) (lv' := [(4, .int v1), (0, .ref (ad 5)), (1, .int x1), (3, .int x3)]) hx hb d81_47 hl (k := 3) rfl (by rw [ev1]; rfl) (by decide) rfl (fun ls hl => ?_)
    refine lv_goto (pc := 50) (tgt := 10) hx hb d81_50 (by decide) ?_
    exact hK10 x1 x3 v1 _ _ hS (lv_sub hl [1, 2, 3, 0] rfl) h
  have kc10 : ∀ (fu : Nat), ∀ (x1 : Int32) (x3 : Int32) (x4 : Int32) (locs : List Loc) (ls : Array Slot), va_S (fun _ => False) s.heap s.heap locs → lv_has ls 5 [(0, .ref (ad 5)), (1, .int x1), (3, .int x3), (4, .int x4)] → da_workdayBehind_10 fu st x1 x3 x4 = some res → W p l e ({ frames := 2, cells := 0, slots := 0, locals := 43 } : Room) s m args below meth c s.heap locs 0 0 (MQ below (mQ (fun v H1 => v = some (.int res) ∧ H1 = s.heap) (fun _ => False)) args s 0 0 (fun _ => False)) (F0 m 10 ls []) := by
    intro  fu
    induction fu with
    | zero => intro x1 x3 x4 locs ls hS hl h; cases h
    | succ fu hK10 =>
      intro x1 x3 x4 locs ls hS hl h
      have hSz := hS.1
      unfold da_workdayBehind_10 at h
      refine lv_iload (pc := 10) hx hb d81_10 (lv_at hl 3 rfl) ?_
      refine lv_aload_n (pc := 12) hx hb d81_12 rfl (lv_at hl 0 rfl) ?_
      refine c_getI (pc := 13) X hW 5 2 7 (C := "WordFunctions$Dates") (T := T7) (N := 3) (by decide) rfl rfl rfl rfl tin7 rfl wd224 rfl d81_13 ?_
      refine lv_icmp_ge (pc := 16) (tgt := 53) hx hb d81_16 (by decide) (fun c16 => ?_) (fun c16 => ?_)
      · have h := jb_t c16 h
        refine lv_iload_n (pc := 53) hx hb d81_53 rfl (lv_at hl 2 rfl) ?_
        obtain ⟨q2, hq2, h⟩ := jc_some h
        refine k_callS (pc := 54) (n := 1) X hS (c_ca_workday l ρ _ P x3 q2 hW.2.2.1 hW.2.1  hq2) wd1328 wd1326 wd1327 wd29 (by decide) ⟨rfl, rfl, Nat.le_of_ble_eq_true rfl, Nat.le_of_ble_eq_true rfl⟩ (As := [.int x3]) (rest := []) rfl rfl hl.1 (Nat.le_of_ble_eq_true rfl) d81_54 ⟨Nat.le_refl _, Nat.le_refl _⟩ (fun q hq => False.elim hq) (fun v H1 locs1 hv _ _ hSq2 => ?_)
        obtain ⟨rfl, rfl⟩ := hv
        have hS := hSq2
        have hSz := hS.1
        obtain rfl := Option.some.inj h
        exact m_iret (pc := 57) hx hb hr hlk hS ⟨rfl, rfl⟩ (Nat.le_refl _) (Nat.le_refl _) d81_57
      · have h := jb_f c16 h
        refine lv_aload_n (pc := 19) hx hb d81_19 rfl (lv_at hl 0 rfl) ?_
        refine c_getK (pc := 20) X hW 5 1 7 45 (C := "WordFunctions$Dates") (T := T7) (N := 3) (by decide) rfl rfl rfl rfl tin7 rfl wd223 rfl rfl d81_20 ?_
        refine lv_iload (pc := 23) hx hb d81_23 (lv_at hl 3 rfl) ?_
        obtain ⟨g3, h⟩ := jg_some h
        refine c_iald (pc := 25) X hW 45 (by decide) rfl g3 d81_25 ?_
        refine lv_iload_n (pc := 26) hx hb d81_26 rfl (lv_at hl 1 rfl) ?_
        refine lv_icmp_le (pc := 27) (tgt := 47) hx hb d81_27 (by decide) (fun c27 => ?_) (fun c27 => ?_)
        · have h := jb_t c27 h
          exact kc47 _ hK10  x1 x3 x4 _ _ hS (lv_sub hl [0, 1, 2, 3] rfl) h
        · have h := jb_f c27 h
          refine lv_aload_n (pc := 30) hx hb d81_30 rfl (lv_at hl 0 rfl) ?_
          refine c_getK (pc := 31) X hW 5 1 7 45 (C := "WordFunctions$Dates") (T := T7) (N := 3) (by decide) rfl rfl rfl rfl tin7 rfl wd223 rfl rfl d81_31 ?_
          refine lv_iload (pc := 34) hx hb d81_34 (lv_at hl 3 rfl) ?_
          obtain ⟨g4, h⟩ := jg_some h
          refine c_iald (pc := 36) X hW 45 (by decide) rfl g4 d81_36 ?_
          refine lv_iload_n (pc := 37) hx hb d81_37 rfl (lv_at hl 2 rfl) ?_
          obtain ⟨q5, hq5, h⟩ := jc_some h
          refine k_callS (pc := 38) (n := 1) X hS (c_ca_workday l ρ _ P x3 q5 hW.2.2.1 hW.2.1  hq5) wd1328 wd1326 wd1327 wd29 (by decide) ⟨rfl, rfl, Nat.le_of_ble_eq_true rfl, Nat.le_of_ble_eq_true rfl⟩ (As := [.int x3]) (rest := [.int (st.1 45 x4.toNatClampNeg)]) rfl rfl hl.1 (Nat.le_of_ble_eq_true rfl) d81_38 ⟨Nat.le_refl _, Nat.le_refl _⟩ (fun q hq => False.elim hq) (fun v H1 locs1 hv _ _ hSq5 => ?_)
          obtain ⟨rfl, rfl⟩ := hv
          have hS := hSq5
          have hSz := hS.1
          refine lv_icmp_gt (pc := 41) (tgt := 47) hx hb d81_41 (by decide) (fun c41 => ?_) (fun c41 => ?_)
          · have h := jb_t c41 h
            exact kc47 _ hK10  x1 x3 x4 _ _ hS (lv_sub hl [0, 1, 2, 3] rfl) h
          · have h := jb_f c41 h
            obtain ⟨v6, ev6, h⟩ := jn_ex h
            refine lv_iinc (pc := 44) (v := v6) (lv' := [(3, .int v6), (0, .ref (ad 5)), (1, .int x1), (4, .int x4)]) hx hb d81_44 hl (k := 2) rfl (by rw [ev6]; rfl) (by decide) rfl (fun ls hl => ?_)
            exact kc47 _ hK10  x1 v6 x4 _ _ hS (lv_sub hl [1, 2, 0, 3] rfl) h
  unfold f_da_workdayBehind at h
  refine lv_iload_n (pc := 0) hx hb d81_0 rfl (lv_at hl 1 rfl) ?_
  obtain ⟨q7, hq7, h⟩ := jc_some h
  refine k_callS (pc := 1) (n := 1) X hS (c_ca_workdaysTo l ρ _ P p0 q7 hW.2.2.1 hW.2.1  hq7) wd1316 wd1314 wd1315 wd29 (by decide) ⟨rfl, rfl, Nat.le_of_ble_eq_true rfl, Nat.le_of_ble_eq_true rfl⟩ (As := [.int p0]) (rest := []) rfl rfl hl.1 (Nat.le_of_ble_eq_true rfl) d81_1 ⟨Nat.le_refl _, Nat.le_refl _⟩ (fun q hq => False.elim hq) (fun v H1 locs1 hv _ _ hSq7 => ?_)
  obtain ⟨rfl, rfl⟩ := hv
  have hS := hSq7
  have hSz := hS.1
  refine lv_iload_n (pc := 4) hx hb d81_4 rfl (lv_at hl 2 rfl) ?_
  refine lv_iadd (pc := 5) hx hb d81_5 ?_
  obtain ⟨v8, ev8, h⟩ := jn_ex h
  refine nm_i ev8 ?_
  refine lv_istore_n (pc := 6) (lv' := [(3, .int v8), (0, .ref (ad 5)), (1, .int p0), (2, .int p1)]) hx hb d81_6 rfl hl (by decide) rfl (fun ls hl => ?_)
  refine lv_iconst (pc := 7) (v := 0) hx hb d81_7 (by decide) ?_
  refine lv_istore (pc := 8) (lv' := [(4, .int 0), (3, .int v8), (0, .ref (ad 5)), (1, .int p0), (2, .int p1)]) hx hb d81_8 hl (by decide) rfl (fun ls hl => ?_)
  exact kc10  FU p0 v8 0 _ _ hS (lv_sub hl [2, 3, 1, 0] rfl) h
def da_workdayBefore_52 (K19 : CS → Int32 → Int32 → Int32 → Option (Int32)) (st : CS) (x1 : Int32) (x3 : Int32) (x4 : Int32) : Option (Int32) := jn (x4 + (-1)) (fun v1 => K19 st x1 x3 v1)
def da_workdayBefore_19  : Nat → CS → Int32 → Int32 → Int32 → Option (Int32)
  | 0, _, _, _, _ => none
  | fu + 1, st, x1, x3, x4 => jb (x4 < 0) (jc (f_ca_workday x3) (fun q2 => some q2)) (jg (inb x4 512) (jb (x1 ≤ (st.1 45 x4.toNatClampNeg)) (da_workdayBefore_52 (da_workdayBefore_19 fu) st x1 x3 x4) (jg (inb x4 512) (jc (f_ca_workday x3) (fun q5 => jb ((st.1 45 x4.toNatClampNeg) < q5) (da_workdayBefore_52 (da_workdayBefore_19 fu) st x1 x3 x4) (jn (x3 + (-1)) (fun v6 => da_workdayBefore_52 (da_workdayBefore_19 fu) st x1 v6 x4)))))))
def f_da_workdayBefore (st : CS) (p0 : Int32) (p1 : Int32) : Option (Int32) := jc (f_ca_workdaysTo (p0 - 1)) (fun q7 => jn ((q7 - p1) + 1) (fun v8 => jn ((st.1 5 2) - 1) (fun v9 => da_workdayBefore_19 FU st p0 v8 v9)))
set_option maxHeartbeats 4000000 in
set_option maxRecDepth 100000 in
theorem c_da_workdayBefore (l : Launch) (ρ : RH) (ad : Nat → Nat) (H : Heap) (P : Nat → Prop) (st : CS) (p0 : Int32) (p1 : Int32) (res : Int32) (hW : CW ρ P ad st H) (h : f_da_workdayBefore st p0 p1 = some res) : Met l y80 (wsOf y80 b80 5 (some .int)) ({ frames := 2, cells := 0, slots := 0, locals := 43 } : Room) (va_Pc [.ref (ad 5), .int p0, .int p1] (KP ρ H)) (mQ (fun v H1 => v = some (.int res) ∧ H1 = H) (fun _ => False)) 0 0 (fun _ => False) := by
  refine m_ofW (own := "WordFunctions$Dates") (plainFor_of_name rfl) rfl (Nat.le_of_ble_eq_true rfl) fun p e s m args below meth c ls hx hb hr hlk _ X hs hl => ?_
  subst hs
  have hS : va_S (fun _ => False) s.heap s.heap [] := va_S.rf
  have hSz := hS.1
  have hPp : ∀ i, i < 46 → P (ad i) := hW.1
  have hl : lv_has ls 5 [(0, .ref (ad 5)), (1, .int p0), (2, .int p1)] := hl
  have kc52 : ∀ (K19 : CS → Int32 → Int32 → Int32 → Option (Int32)) (hK19 : ∀ (x1 : Int32) (x3 : Int32) (x4 : Int32) (locs : List Loc) (ls : Array Slot), va_S (fun _ => False) s.heap s.heap locs → lv_has ls 5 [(0, .ref (ad 5)), (1, .int x1), (3, .int x3), (4, .int x4)] → K19 st x1 x3 x4 = some res → W p l e ({ frames := 2, cells := 0, slots := 0, locals := 43 } : Room) s m args below meth c s.heap locs 0 0 (MQ below (mQ (fun v H1 => v = some (.int res) ∧ H1 = s.heap) (fun _ => False)) args s 0 0 (fun _ => False)) (F0 m 19 ls [])), ∀ (x1 : Int32) (x3 : Int32) (x4 : Int32) (locs : List Loc) (ls : Array Slot), va_S (fun _ => False) s.heap s.heap locs → lv_has ls 5 [(0, .ref (ad 5)), (1, .int x1), (3, .int x3), (4, .int x4)] → da_workdayBefore_52 K19 st x1 x3 x4 = some res → W p l e ({ frames := 2, cells := 0, slots := 0, locals := 43 } : Room) s m args below meth c s.heap locs 0 0 (MQ below (mQ (fun v H1 => v = some (.int res) ∧ H1 = s.heap) (fun _ => False)) args s 0 0 (fun _ => False)) (F0 m 52 ls []) := by
    intro K19 hK19
    intro x1 x3 x4 locs ls hS hl h
    have hSz := hS.1
    unfold da_workdayBefore_52 at h
    obtain ⟨v1, ev1, h⟩ := jn_ex h
    refine lv_iinc (pc := 52) (v := v1) (lv' := [(4, .int v1), (0, .ref (ad 5)), (1, .int x1), (3, .int x3)]) hx hb d80_52 hl (k := 3) rfl (by rw [ev1]; rfl) (by decide) rfl (fun ls hl => ?_)
    refine lv_goto (pc := 55) (tgt := 19) hx hb d80_55 (by decide) ?_
    exact hK19 x1 x3 v1 _ _ hS (lv_sub hl [1, 2, 3, 0] rfl) h
  have kc19 : ∀ (fu : Nat), ∀ (x1 : Int32) (x3 : Int32) (x4 : Int32) (locs : List Loc) (ls : Array Slot), va_S (fun _ => False) s.heap s.heap locs → lv_has ls 5 [(0, .ref (ad 5)), (1, .int x1), (3, .int x3), (4, .int x4)] → da_workdayBefore_19 fu st x1 x3 x4 = some res → W p l e ({ frames := 2, cells := 0, slots := 0, locals := 43 } : Room) s m args below meth c s.heap locs 0 0 (MQ below (mQ (fun v H1 => v = some (.int res) ∧ H1 = s.heap) (fun _ => False)) args s 0 0 (fun _ => False)) (F0 m 19 ls []) := by
    intro  fu
    induction fu with
    | zero => intro x1 x3 x4 locs ls hS hl h; cases h
    | succ fu hK19 =>
      intro x1 x3 x4 locs ls hS hl h
      have hSz := hS.1
      unfold da_workdayBefore_19 at h
      refine lv_iload (pc := 19) hx hb d80_19 (lv_at hl 3 rfl) ?_
      refine lv_if_lt (pc := 21) (tgt := 58) hx hb d80_21 (by decide) (fun c21 => ?_) (fun c21 => ?_)
      · have h := jb_t c21 h
        refine lv_iload_n (pc := 58) hx hb d80_58 rfl (lv_at hl 2 rfl) ?_
        obtain ⟨q2, hq2, h⟩ := jc_some h
        refine k_callS (pc := 59) (n := 1) X hS (c_ca_workday l ρ _ P x3 q2 hW.2.2.1 hW.2.1  hq2) wd1328 wd1326 wd1327 wd29 (by decide) ⟨rfl, rfl, Nat.le_of_ble_eq_true rfl, Nat.le_of_ble_eq_true rfl⟩ (As := [.int x3]) (rest := []) rfl rfl hl.1 (Nat.le_of_ble_eq_true rfl) d80_59 ⟨Nat.le_refl _, Nat.le_refl _⟩ (fun q hq => False.elim hq) (fun v H1 locs1 hv _ _ hSq2 => ?_)
        obtain ⟨rfl, rfl⟩ := hv
        have hS := hSq2
        have hSz := hS.1
        obtain rfl := Option.some.inj h
        exact m_iret (pc := 62) hx hb hr hlk hS ⟨rfl, rfl⟩ (Nat.le_refl _) (Nat.le_refl _) d80_62
      · have h := jb_f c21 h
        refine lv_aload_n (pc := 24) hx hb d80_24 rfl (lv_at hl 0 rfl) ?_
        refine c_getK (pc := 25) X hW 5 1 7 45 (C := "WordFunctions$Dates") (T := T7) (N := 3) (by decide) rfl rfl rfl rfl tin7 rfl wd223 rfl rfl d80_25 ?_
        refine lv_iload (pc := 28) hx hb d80_28 (lv_at hl 3 rfl) ?_
        obtain ⟨g3, h⟩ := jg_some h
        refine c_iald (pc := 30) X hW 45 (by decide) rfl g3 d80_30 ?_
        refine lv_iload_n (pc := 31) hx hb d80_31 rfl (lv_at hl 1 rfl) ?_
        refine lv_icmp_ge (pc := 32) (tgt := 52) hx hb d80_32 (by decide) (fun c32 => ?_) (fun c32 => ?_)
        · have h := jb_t c32 h
          exact kc52 _ hK19  x1 x3 x4 _ _ hS (lv_sub hl [0, 1, 2, 3] rfl) h
        · have h := jb_f c32 h
          refine lv_aload_n (pc := 35) hx hb d80_35 rfl (lv_at hl 0 rfl) ?_
          refine c_getK (pc := 36) X hW 5 1 7 45 (C := "WordFunctions$Dates") (T := T7) (N := 3) (by decide) rfl rfl rfl rfl tin7 rfl wd223 rfl rfl d80_36 ?_
          refine lv_iload (pc := 39) hx hb d80_39 (lv_at hl 3 rfl) ?_
          obtain ⟨g4, h⟩ := jg_some h
          refine c_iald (pc := 41) X hW 45 (by decide) rfl g4 d80_41 ?_
          refine lv_iload_n (pc := 42) hx hb d80_42 rfl (lv_at hl 2 rfl) ?_
          obtain ⟨q5, hq5, h⟩ := jc_some h
          refine k_callS (pc := 43) (n := 1) X hS (c_ca_workday l ρ _ P x3 q5 hW.2.2.1 hW.2.1  hq5) wd1328 wd1326 wd1327 wd29 (by decide) ⟨rfl, rfl, Nat.le_of_ble_eq_true rfl, Nat.le_of_ble_eq_true rfl⟩ (As := [.int x3]) (rest := [.int (st.1 45 x4.toNatClampNeg)]) rfl rfl hl.1 (Nat.le_of_ble_eq_true rfl) d80_43 ⟨Nat.le_refl _, Nat.le_refl _⟩ (fun q hq => False.elim hq) (fun v H1 locs1 hv _ _ hSq5 => ?_)
          obtain ⟨rfl, rfl⟩ := hv
          have hS := hSq5
          have hSz := hS.1
          refine lv_icmp_lt (pc := 46) (tgt := 52) hx hb d80_46 (by decide) (fun c46 => ?_) (fun c46 => ?_)
          · have h := jb_t c46 h
            exact kc52 _ hK19  x1 x3 x4 _ _ hS (lv_sub hl [0, 1, 2, 3] rfl) h
          · have h := jb_f c46 h
            obtain ⟨v6, ev6, h⟩ := jn_ex h
            refine lv_iinc (pc := 49) (v := v6) (lv' := [(3, .int v6), (0, .ref (ad 5)), (1, .int x1), (4, .int x4)]) hx hb d80_49 hl (k := 2) rfl (by rw [ev6]; rfl) (by decide) rfl (fun ls hl => ?_)
            exact kc52 _ hK19  x1 v6 x4 _ _ hS (lv_sub hl [1, 2, 0, 3] rfl) h
  unfold f_da_workdayBefore at h
  refine lv_iload_n (pc := 0) hx hb d80_0 rfl (lv_at hl 1 rfl) ?_
  refine lv_iconst (pc := 1) (v := 1) hx hb d80_1 (by decide) ?_
  refine lv_isub (pc := 2) hx hb d80_2 ?_
  obtain ⟨q7, hq7, h⟩ := jc_some h
  refine k_callS (pc := 3) (n := 1) X hS (c_ca_workdaysTo l ρ _ P (p0 - 1) q7 hW.2.2.1 hW.2.1  hq7) wd1316 wd1314 wd1315 wd29 (by decide) ⟨rfl, rfl, Nat.le_of_ble_eq_true rfl, Nat.le_of_ble_eq_true rfl⟩ (As := [.int (p0 - 1)]) (rest := []) rfl rfl hl.1 (Nat.le_of_ble_eq_true rfl) d80_3 ⟨Nat.le_refl _, Nat.le_refl _⟩ (fun q hq => False.elim hq) (fun v H1 locs1 hv _ _ hSq7 => ?_)
  obtain ⟨rfl, rfl⟩ := hv
  have hS := hSq7
  have hSz := hS.1
  refine lv_iload_n (pc := 6) hx hb d80_6 rfl (lv_at hl 2 rfl) ?_
  refine lv_isub (pc := 7) hx hb d80_7 ?_
  refine lv_iconst (pc := 8) (v := 1) hx hb d80_8 (by decide) ?_
  refine lv_iadd (pc := 9) hx hb d80_9 ?_
  obtain ⟨v8, ev8, h⟩ := jn_ex h
  refine nm_i ev8 ?_
  refine lv_istore_n (pc := 10) (lv' := [(3, .int v8), (0, .ref (ad 5)), (1, .int p0), (2, .int p1)]) hx hb d80_10 rfl hl (by decide) rfl (fun ls hl => ?_)
  refine lv_aload_n (pc := 11) hx hb d80_11 rfl (lv_at hl 1 rfl) ?_
  refine c_getI (pc := 12) X hW 5 2 7 (C := "WordFunctions$Dates") (T := T7) (N := 3) (by decide) rfl rfl rfl rfl tin7 rfl wd224 rfl d80_12 ?_
  refine lv_iconst (pc := 15) (v := 1) hx hb d80_15 (by decide) ?_
  refine lv_isub (pc := 16) hx hb d80_16 ?_
  obtain ⟨v9, ev9, h⟩ := jn_ex h
  refine nm_i ev9 ?_
  refine lv_istore (pc := 17) (lv' := [(4, .int v9), (3, .int v8), (0, .ref (ad 5)), (1, .int p0), (2, .int p1)]) hx hb d80_17 hl (by decide) rfl (fun ls hl => ?_)
  exact kc19  FU p0 v8 v9 _ _ hS (lv_sub hl [2, 3, 1, 0] rfl) h
def da_workday_66  (st : CS) (z0 : Int32) : Option ((VV × CS) × Nat × Nat) := jd (f_da_dateOrError z0) (fun q1 => some ((q1, st), 0, 0))
def f_da_workday (st : CS) : Option ((VV × CS) × Nat × Nat) := jc (f_ar_day st 0) (fun q3 => jc (f_ar_whole q3.2 1) (fun q4 => jc (f_da_readFree q4.2 2) (fun q5 => jc (f_da_isFar q4.1) (fun q6 => jb (q6 = 0) (jb (q4.1 = 0) (jd (f_vl_ofNumber (FP.i2d q3.1)) (fun q9 => some ((q9, q5), 0, 0))) (jb (q4.1 ≤ 0) (jc (f_da_workdayBefore q5 q3.1 (-q4.1)) (fun q7 => da_workday_66 q5 q7)) (jc (f_da_workdayBehind q5 q3.1 q4.1) (fun q8 => da_workday_66 q5 q8)))) (jd (f_vl_ofError 6) (fun q11 => some ((q11, q5), 0, 0)))))))
set_option maxHeartbeats 4000000 in
set_option maxRecDepth 100000 in
theorem c_da_workday (l : Launch) (ρ : RH) (ad : Nat → Nat) (H : Heap) (P : Nat → Prop) (st : CS) (res : (VV × CS) × Nat × Nat) (hW : CW ρ P ad st H) (h : f_da_workday st = some res) : Met l y79 (wsOf y79 b79 3 (some (.object "WordFunctions$Value"))) ({ frames := 16, cells := res.2.1, slots := res.2.2, locals := 698 } : Room) (va_Pc [.ref (ad 5)] (KP ρ H)) (mQ (fun v H1 => ∃ x : Nat, v = some (.ref x) ∧ isV ρ P H1 x res.1.1 ∧ CW ρ P ad res.1.2 H1) (MA wC ad H.size)) res.2.1 res.2.2 (MA wC ad H.size) := by
  refine m_ofW (own := "WordFunctions$Dates") (plainFor_of_name rfl) rfl (Nat.le_of_ble_eq_true rfl) fun p e s m args below meth c ls hx hb hr hlk _ X hs hl => ?_
  subst hs
  have hS : va_S (MA wC ad s.heap.size) s.heap s.heap [] := va_S.rf
  have hSz := hS.1
  have hAz : ∀ q, s.heap.size ≤ q → (MA wC ad s.heap.size) q := fun q hq => Or.inr hq
  have hAp : ∀ i, i < 46 → (MA wC ad s.heap.size) (ad i) := fun i hi => MA.in hi
  have hPp : ∀ i, i < 46 → P (ad i) := hW.1
  have hl : lv_has ls 3 [(0, .ref (ad 5))] := hl
  have kc66 : ∀ (st : CS) (z0 : Int32) (H : Heap) (locs : List Loc) (ls : Array Slot) (cells slots : Nat) (r : (VV × CS) × Nat × Nat), CW ρ P ad st H → va_S (MA wC ad s.heap.size) s.heap H locs → lv_has ls 3 [] → res.1 = r.1 → cells + r.2.1 ≤ res.2.1 → slots + r.2.2 ≤ res.2.2 → da_workday_66 st z0 = some r → W p l e ({ frames := 16, cells := res.2.1, slots := res.2.2, locals := 698 } : Room) s m args below meth c H locs cells slots (MQ below (mQ (fun v H1 => ∃ x : Nat, v = some (.ref x) ∧ isV ρ P H1 x res.1.1 ∧ CW ρ P ad res.1.2 H1) (MA wC ad s.heap.size)) args s res.2.1 res.2.2 (MA wC ad s.heap.size)) (F0 m 66 ls [.int z0]) := by
    intro st z0 H locs ls cells slots r hW hS hl her hc1 hs1 h
    have hSz := hS.1
    unfold da_workday_66 at h
    obtain ⟨q1, rq1, hq1, h, herq1, hccq1, hssq1⟩ := jd_some h
    refine k_callS (pc := 66) (n := 1) X hS (c_da_dateOrError l ρ _ P z0 q1 hW.2.2.1 hW.2.1  hq1) wd1214 wd1212 wd1213 wd9 (by decide) ⟨rfl, rfl, Nat.le_of_ble_eq_true rfl, Nat.le_of_ble_eq_true rfl⟩ (As := [.int z0]) (rest := []) rfl rfl hl.1 (Nat.le_of_ble_eq_true rfl) d79_66 ⟨room_le hccq1 hc1, room_le hssq1 hs1⟩ (fun q hq => hAz q (Nat.le_trans hS.1 hq)) (fun v H1 locs1 hv hz1 hz2 hSq1 => ?_)
    obtain ⟨u2, rfl, fu2⟩ := hv
    have hk : kp no _ H1 := kp_call hz1 hz2 (fun q hq z => absurd hq (Nat.not_lt.mpr z))
    have hW := hW.keep hk no_hz (fun _ _ z => z)
    have hS := hSq1
    have hSz := hS.1
    have her := her.trans herq1
    have hc1 := room_st hccq1 hc1
    have hs1 := room_st hssq1 hs1
    have her : res.1 = (q1.1, st) := her.trans (congrArg Prod.fst (Option.some.inj h)).symm
    exact m_aret (pc := 69) hx hb hr (Or.inl ⟨_, rfl⟩) hlk hS ⟨u2, rfl, by rw [her]; exact fu2, by rw [her]; exact hW⟩ (Nat.le_trans (Nat.le_add_right _ _) hc1) (Nat.le_trans (Nat.le_add_right _ _) hs1) d79_69
  have her : res.1 = res.1 := rfl
  have hc1 : 0 + res.2.1 ≤ res.2.1 := Nat.le_of_eq (Nat.zero_add _)
  have hs1 : 0 + res.2.2 ≤ res.2.2 := Nat.le_of_eq (Nat.zero_add _)
  unfold f_da_workday at h
  refine lv_aload_n (pc := 0) hx hb d79_0 rfl (lv_at hl 0 rfl) ?_
  refine c_getK (pc := 1) X hW 5 0 7 1 (C := "WordFunctions$Dates") (T := T7) (N := 3) (by decide) rfl rfl rfl rfl tin7 rfl wd222 rfl rfl d79_1 ?_
  refine lv_iconst (pc := 4) (v := 0) hx hb d79_4 (by decide) ?_
  obtain ⟨q3, hq3, h⟩ := jc_some h
  refine k_callV (pc := 5) (n := 1) X hS (c_ar_day l ρ ad _ P st 0 q3 hW  hq3) wd1232 wd1229 wd1230 wd1231 wd3 (by decide) ⟨rfl, rfl, Nat.le_of_ble_eq_true rfl, Nat.le_of_ble_eq_true rfl⟩ (c_recv X hW 1 3 (by decide) rfl rfl) (As := [.int 0]) (rest := []) rfl rfl hl.1 (Nat.le_of_ble_eq_true rfl) d79_5 ⟨room_l0 hc1, room_l0 hs1⟩ (fun q hq => MA.mono hS.1 hq) (fun v H1 locs1 hv hz1 hz2 hSq3 => ?_)
  have hPq := hW.1
  obtain ⟨rfl, hW⟩ := hv
  have hS := hSq3
  have hSz := hS.1
  refine lv_istore_n (pc := 8) (lv' := [(1, .int q3.1), (0, .ref (ad 5))]) hx hb d79_8 rfl hl (by decide) rfl (fun ls hl => ?_)
  refine lv_aload_n (pc := 9) hx hb d79_9 rfl (lv_at hl 1 rfl) ?_
  refine c_getK (pc := 10) X hW 5 0 7 1 (C := "WordFunctions$Dates") (T := T7) (N := 3) (by decide) rfl rfl rfl rfl tin7 rfl wd222 rfl rfl d79_10 ?_
  refine lv_iconst (pc := 13) (v := 1) hx hb d79_13 (by decide) ?_
  obtain ⟨q4, hq4, h⟩ := jc_some h
  refine k_callV (pc := 14) (n := 1) X hS (c_ar_whole l ρ ad _ P q3.2 1 q4 hW  hq4) wd762 wd1190 wd760 wd761 wd3 (by decide) ⟨rfl, rfl, Nat.le_of_ble_eq_true rfl, Nat.le_of_ble_eq_true rfl⟩ (c_recv X hW 1 3 (by decide) rfl rfl) (As := [.int 1]) (rest := []) rfl rfl hl.1 (Nat.le_of_ble_eq_true rfl) d79_14 ⟨room_l0 hc1, room_l0 hs1⟩ (fun q hq => MA.mono hS.1 hq) (fun v H1 locs1 hv hz1 hz2 hSq4 => ?_)
  have hPq := hW.1
  obtain ⟨rfl, hW⟩ := hv
  have hS := hSq4
  have hSz := hS.1
  refine lv_istore_n (pc := 17) (lv' := [(2, .int q4.1), (1, .int q3.1), (0, .ref (ad 5))]) hx hb d79_17 rfl hl (by decide) rfl (fun ls hl => ?_)
  refine lv_aload_n (pc := 18) hx hb d79_18 rfl (lv_at hl 2 rfl) ?_
  refine lv_iconst (pc := 19) (v := 2) hx hb d79_19 (by decide) ?_
  obtain ⟨q5, hq5, h⟩ := jc_some h
  refine k_callV (pc := 20) (n := 1) X hS (c_da_readFree l ρ ad _ P q4.2 2 q5 hW  hq5) wd1302 wd1299 wd1301 sl74 wd9 (by decide) ⟨rfl, rfl, Nat.le_of_ble_eq_true rfl, Nat.le_of_ble_eq_true rfl⟩ (c_recv X hW 5 7 (by decide) rfl rfl) (As := [.int 2]) (rest := []) rfl rfl hl.1 (Nat.le_of_ble_eq_true rfl) d79_20 ⟨room_l0 hc1, room_l0 hs1⟩ (fun q hq => MA.mono hS.1 hq) (fun v H1 locs1 hv hz1 hz2 hSq5 => ?_)
  have hPq := hW.1
  obtain ⟨rfl, hW⟩ := hv
  have hS := hSq5
  have hSz := hS.1
  refine lv_iload_n (pc := 23) hx hb d79_23 rfl (lv_at hl 0 rfl) ?_
  obtain ⟨q6, hq6, h⟩ := jc_some h
  refine k_callS (pc := 24) (n := 1) X hS (c_da_isFar l ρ _ P q4.1 q6 hW.2.2.1 hW.2.1  hq6) wd1193 wd1191 wd1192 wd9 (by decide) ⟨rfl, rfl, Nat.le_of_ble_eq_true rfl, Nat.le_of_ble_eq_true rfl⟩ (As := [.int q4.1]) (rest := []) rfl rfl hl.1 (Nat.le_of_ble_eq_true rfl) d79_24 ⟨room_l0 hc1, room_l0 hs1⟩ (fun q hq => False.elim hq) (fun v H1 locs1 hv _ _ hSq6 => ?_)
  obtain ⟨rfl, rfl⟩ := hv
  have hS := hSq6
  have hSz := hS.1
  refine lv_if_eq (pc := 27) (tgt := 36) hx hb d79_27 (by decide) (fun c27 => ?_) (fun c27 => ?_)
  · have h := jb_t c27 h
    refine lv_iload_n (pc := 36) hx hb d79_36 rfl (lv_at hl 0 rfl) ?_
    refine lv_if_ne (pc := 37) (tgt := 46) hx hb d79_37 (by decide) (fun c37 => ?_) (fun c37 => ?_)
    · have h := jb_f c37 h
      refine lv_iload_n (pc := 46) hx hb d79_46 rfl (lv_at hl 0 rfl) ?_
      refine lv_if_le (pc := 47) (tgt := 59) hx hb d79_47 (by decide) (fun c47 => ?_) (fun c47 => ?_)
      · have h := jb_t c47 h
        refine lv_aload_n (pc := 59) hx hb d79_59 rfl (lv_at hl 2 rfl) ?_
        refine lv_iload_n (pc := 60) hx hb d79_60 rfl (lv_at hl 1 rfl) ?_
        refine lv_iload_n (pc := 61) hx hb d79_61 rfl (lv_at hl 0 rfl) ?_
        refine lv_ineg (pc := 62) hx hb d79_62 ?_
        obtain ⟨q7, hq7, h⟩ := jc_some h
        refine k_callV (pc := 63) (n := 2) X hS (c_da_workdayBefore l ρ ad _ P q5 q3.1 (-q4.1) q7 hW  hq7) wd1332 wd1329 wd1331 sl80 wd9 (by decide) ⟨rfl, rfl, Nat.le_of_ble_eq_true rfl, Nat.le_of_ble_eq_true rfl⟩ (c_recv X hW 5 7 (by decide) rfl rfl) (As := [.int q3.1, .int (-q4.1)]) (rest := []) rfl rfl hl.1 (Nat.le_of_ble_eq_true rfl) d79_63 ⟨room_l0 hc1, room_l0 hs1⟩ (fun q hq => False.elim hq) (fun v H1 locs1 hv _ _ hSq7 => ?_)
        obtain ⟨rfl, rfl⟩ := hv
        have hS := hSq7
        have hSz := hS.1
        exact kc66   q5 q7 _ _ _ _ _ _ hW hS (lv_sub hl [] rfl) her hc1 hs1 h
      · have h := jb_f c47 h
        refine lv_aload_n (pc := 50) hx hb d79_50 rfl (lv_at hl 2 rfl) ?_
        refine lv_iload_n (pc := 51) hx hb d79_51 rfl (lv_at hl 1 rfl) ?_
        refine lv_iload_n (pc := 52) hx hb d79_52 rfl (lv_at hl 0 rfl) ?_
        obtain ⟨q8, hq8, h⟩ := jc_some h
        refine k_callV (pc := 53) (n := 2) X hS (c_da_workdayBehind l ρ ad _ P q5 q3.1 q4.1 q8 hW  hq8) wd1325 wd1322 wd1324 sl81 wd9 (by decide) ⟨rfl, rfl, Nat.le_of_ble_eq_true rfl, Nat.le_of_ble_eq_true rfl⟩ (c_recv X hW 5 7 (by decide) rfl rfl) (As := [.int q3.1, .int q4.1]) (rest := []) rfl rfl hl.1 (Nat.le_of_ble_eq_true rfl) d79_53 ⟨room_l0 hc1, room_l0 hs1⟩ (fun q hq => False.elim hq) (fun v H1 locs1 hv _ _ hSq8 => ?_)
        obtain ⟨rfl, rfl⟩ := hv
        have hS := hSq8
        have hSz := hS.1
        refine lv_goto (pc := 56) (tgt := 66) hx hb d79_56 (by decide) ?_
        exact kc66   q5 q8 _ _ _ _ _ _ hW hS (lv_sub hl [] rfl) her hc1 hs1 h
    · have h := jb_t c37 h
      refine lv_iload_n (pc := 40) hx hb d79_40 rfl (lv_at hl 1 rfl) ?_
      refine lv_i2d (pc := 41) hx hb d79_41 ?_
      obtain ⟨q9, rq9, hq9, h, herq9, hccq9, hssq9⟩ := jd_some h
      refine k_callS (pc := 42) (n := 1) X hS (c_vl_ofNumber l ρ _ P (FP.i2d q3.1) q9 hW.2.2.1 hW.2.1  hq9) wd642 wd1219 wd641 wd4 (by decide) ⟨rfl, rfl, Nat.le_of_ble_eq_true rfl, Nat.le_of_ble_eq_true rfl⟩ (As := [.double (FP.i2d q3.1)]) (rest := []) rfl rfl hl.1 (Nat.le_of_ble_eq_true rfl) d79_42 ⟨room_le hccq9 hc1, room_le hssq9 hs1⟩ (fun q hq => hAz q (Nat.le_trans hS.1 hq)) (fun v H1 locs1 hv hz1 hz2 hSq9 => ?_)
      obtain ⟨u10, rfl, fu10⟩ := hv
      have hk : kp no _ H1 := kp_call hz1 hz2 (fun q hq z => absurd hq (Nat.not_lt.mpr z))
      have hW := hW.keep hk no_hz (fun _ _ z => z)
      have hS := hSq9
      have hSz := hS.1
      have her := her.trans herq9
      have hc1 := room_st hccq9 hc1
      have hs1 := room_st hssq9 hs1
      have her : res.1 = (q9.1, q5) := her.trans (congrArg Prod.fst (Option.some.inj h)).symm
      exact m_aret (pc := 45) hx hb hr (Or.inl ⟨_, rfl⟩) hlk hS ⟨u10, rfl, by rw [her]; exact fu10, by rw [her]; exact hW⟩ (Nat.le_trans (Nat.le_add_right _ _) hc1) (Nat.le_trans (Nat.le_add_right _ _) hs1) d79_45
  · have h := jb_f c27 h
    refine lv_bipush (pc := 30) (v := 6) hx hb d79_30 (by decide) ?_
    obtain ⟨q11, rq11, hq11, h, herq11, hccq11, hssq11⟩ := jd_some h
    refine k_callS (pc := 32) (n := 1) X hS (c_vl_ofError l ρ _ P 6 q11 hW.2.2.1 hW.2.1  hq11) wd651 wd1196 wd650 wd4 (by decide) ⟨rfl, rfl, Nat.le_of_ble_eq_true rfl, Nat.le_of_ble_eq_true rfl⟩ (As := [.int 6]) (rest := []) rfl rfl hl.1 (Nat.le_of_ble_eq_true rfl) d79_32 ⟨room_le hccq11 hc1, room_le hssq11 hs1⟩ (fun q hq => hAz q (Nat.le_trans hS.1 hq)) (fun v H1 locs1 hv hz1 hz2 hSq11 => ?_)
    obtain ⟨u12, rfl, fu12⟩ := hv
    have hk : kp no _ H1 := kp_call hz1 hz2 (fun q hq z => absurd hq (Nat.not_lt.mpr z))
    have hW := hW.keep hk no_hz (fun _ _ z => z)
    have hS := hSq11
    have hSz := hS.1
    have her := her.trans herq11
    have hc1 := room_st hccq11 hc1
    have hs1 := room_st hssq11 hs1
    have her : res.1 = (q11.1, q5) := her.trans (congrArg Prod.fst (Option.some.inj h)).symm
    exact m_aret (pc := 35) hx hb hr (Or.inl ⟨_, rfl⟩) hlk hS ⟨u12, rfl, by rw [her]; exact fu12, by rw [her]; exact hW⟩ (Nat.le_trans (Nat.le_add_right _ _) hc1) (Nat.le_trans (Nat.le_add_right _ _) hs1) d79_35
def f_da_of (st : CS) (p0 : Int32) : Option ((VV × CS) × Nat × Nat) := jb (p0 = 101) (jd (f_da_date st) (fun q1 => some ((q1.1, q1.2), 0, 0))) (jb (p0 = 102) (jd (f_da_time st) (fun q3 => some ((q3.1, q3.2), 0, 0))) (jb (p0 = 103) (jc (f_ar_day st 0) (fun q5 => jc (f_ca_monthOf q5.1) (fun q6 => jd (f_vl_ofNumber (FP.i2d (q6 / 12))) (fun q7 => some ((q7, q5.2), 0, 0))))) (jb (p0 = 104) (jc (f_ar_day st 0) (fun q9 => jc (f_ca_monthOf q9.1) (fun q10 => jd (f_vl_ofNumber (FP.i2d ((q10 - q10 / 12 * 12) + 1))) (fun q11 => some ((q11, q9.2), 0, 0))))) (jb (p0 = 105) (jc (f_ar_day st 0) (fun q13 => jc (f_ca_dayInMonth q13.1) (fun q14 => jd (f_vl_ofNumber (FP.i2d q14)) (fun q15 => some ((q15, q13.2), 0, 0))))) (jb (p0 = 106) (jc (f_da_secondsOfDay st) (fun q17 => jd (f_vl_ofNumber (FP.i2d (q17.1 / 3600))) (fun q18 => some ((q18, q17.2), 0, 0)))) (jb (p0 = 107) (jc (f_da_secondsOfDay st) (fun q20 => jd (f_vl_ofNumber (FP.i2d ((q20.1 / 60) - (q20.1 / 60) / 60 * 60))) (fun q21 => some ((q21, q20.2), 0, 0)))) (jb (p0 = 108) (jc (f_da_secondsOfDay st) (fun q23 => jd (f_vl_ofNumber (FP.i2d (q23.1 - q23.1 / 60 * 60))) (fun q24 => some ((q24, q23.2), 0, 0)))) (jb (p0 = 109) (jd (f_da_weekday st) (fun q26 => some ((q26.1, q26.2), 0, 0))) (jb (p0 = 110) (jd (f_da_weekNumber st) (fun q28 => some ((q28.1, q28.2), 0, 0))) (jb (p0 = 111) (jd (f_da_monthsLater st 0) (fun q30 => some ((q30.1, q30.2), 0, 0))) (jb (p0 = 112) (jd (f_da_monthsLater st 1) (fun q32 => some ((q32.1, q32.2), 0, 0))) (jb (p0 = 113) (jd (f_da_days st) (fun q34 => some ((q34.1, q34.2), 0, 0))) (jb (p0 = 114) (jd (f_da_difference st) (fun q36 => some ((q36.1, q36.2), 0, 0))) (jb (p0 = 115) (jd (f_da_workdays st) (fun q38 => some ((q38.1, q38.2), 0, 0))) (jd (f_da_workday st) (fun q40 => some ((q40.1, q40.2), 0, 0)))))))))))))))))
set_option maxHeartbeats 4000000 in
set_option maxRecDepth 100000 in
theorem c_da_of (l : Launch) (ρ : RH) (ad : Nat → Nat) (H : Heap) (P : Nat → Prop) (st : CS) (p0 : Int32) (res : (VV × CS) × Nat × Nat) (hW : CW ρ P ad st H) (h : f_da_of st p0 = some res) : Met l y72 (wsOf y72 b72 2 (some (.object "WordFunctions$Value"))) ({ frames := 18, cells := res.2.1, slots := res.2.2, locals := 746 } : Room) (va_Pc [.ref (ad 5), .int p0] (KP ρ H)) (mQ (fun v H1 => ∃ x : Nat, v = some (.ref x) ∧ isV ρ P H1 x res.1.1 ∧ CW ρ P ad res.1.2 H1) (MA wC ad H.size)) res.2.1 res.2.2 (MA wC ad H.size) := by
  refine m_ofW (own := "WordFunctions$Dates") (plainFor_of_name rfl) rfl (Nat.le_of_ble_eq_true rfl) fun p e s m args below meth c ls hx hb hr hlk _ X hs hl => ?_
  subst hs
  have hS : va_S (MA wC ad s.heap.size) s.heap s.heap [] := va_S.rf
  have hSz := hS.1
  have hAz : ∀ q, s.heap.size ≤ q → (MA wC ad s.heap.size) q := fun q hq => Or.inr hq
  have hAp : ∀ i, i < 46 → (MA wC ad s.heap.size) (ad i) := fun i hi => MA.in hi
  have hPp : ∀ i, i < 46 → P (ad i) := hW.1
  have hl : lv_has ls 2 [(0, .ref (ad 5)), (1, .int p0)] := hl
  have her : res.1 = res.1 := rfl
  have hc1 : 0 + res.2.1 ≤ res.2.1 := Nat.le_of_eq (Nat.zero_add _)
  have hs1 : 0 + res.2.2 ≤ res.2.2 := Nat.le_of_eq (Nat.zero_add _)
  unfold f_da_of at h
  refine lv_iload_n (pc := 0) hx hb d72_0 rfl (lv_at hl 1 rfl) ?_
  by_cases c1_101 : p0 = 101
  · have h := jb_t c1_101 h
    refine lv_tableIn (pc := 1) (off := 75) (tgt := 76) hx hb d72_1 (by rw [c1_101]; decide) (by rw [c1_101]; decide) (by rw [c1_101]; rfl) (by decide) ?_
    refine lv_aload_n (pc := 76) hx hb d72_76 rfl (lv_at hl 0 rfl) ?_
    obtain ⟨q1, rq1, hq1, h, herq1, hccq1, hssq1⟩ := jd_some h
    refine k_callV (pc := 77) (n := 0) X hS (c_da_date l ρ ad _ P st  q1 hW  hq1) wd1189 wd1186 wd1188 sl64 wd9 (by decide) ⟨rfl, rfl, Nat.le_of_ble_eq_true rfl, Nat.le_of_ble_eq_true rfl⟩ (c_recv X hW 5 7 (by decide) rfl rfl) (As := []) (rest := []) rfl rfl hl.1 (Nat.le_of_ble_eq_true rfl) d72_77 ⟨room_le hccq1 hc1, room_le hssq1 hs1⟩ (fun q hq => MA.mono hS.1 hq) (fun v H1 locs1 hv hz1 hz2 hSq1 => ?_)
    have hPq := hW.1
    obtain ⟨u2, rfl, fu2, hW⟩ := hv
    have hS := hSq1
    have hSz := hS.1
    have her := her.trans herq1
    have hc1 := room_st hccq1 hc1
    have hs1 := room_st hssq1 hs1
    have her : res.1 = (q1.1.1, q1.1.2) := her.trans (congrArg Prod.fst (Option.some.inj h)).symm
    exact m_aret (pc := 80) hx hb hr (Or.inl ⟨_, rfl⟩) hlk hS ⟨u2, rfl, by rw [her]; exact fu2, by rw [her]; exact hW⟩ (Nat.le_trans (Nat.le_add_right _ _) hc1) (Nat.le_trans (Nat.le_add_right _ _) hs1) d72_80
  have h := jb_f c1_101 h
  by_cases c1_102 : p0 = 102
  · have h := jb_t c1_102 h
    refine lv_tableIn (pc := 1) (off := 80) (tgt := 81) hx hb d72_1 (by rw [c1_102]; decide) (by rw [c1_102]; decide) (by rw [c1_102]; rfl) (by decide) ?_
    refine lv_aload_n (pc := 81) hx hb d72_81 rfl (lv_at hl 0 rfl) ?_
    obtain ⟨q3, rq3, hq3, h, herq3, hccq3, hssq3⟩ := jd_some h
    refine k_callV (pc := 82) (n := 0) X hS (c_da_time l ρ ad _ P st  q3 hW  hq3) wd1223 wd1220 wd1222 sl76 wd9 (by decide) ⟨rfl, rfl, Nat.le_of_ble_eq_true rfl, Nat.le_of_ble_eq_true rfl⟩ (c_recv X hW 5 7 (by decide) rfl rfl) (As := []) (rest := []) rfl rfl hl.1 (Nat.le_of_ble_eq_true rfl) d72_82 ⟨room_le hccq3 hc1, room_le hssq3 hs1⟩ (fun q hq => MA.mono hS.1 hq) (fun v H1 locs1 hv hz1 hz2 hSq3 => ?_)
    have hPq := hW.1
    obtain ⟨u4, rfl, fu4, hW⟩ := hv
    have hS := hSq3
    have hSz := hS.1
    have her := her.trans herq3
    have hc1 := room_st hccq3 hc1
    have hs1 := room_st hssq3 hs1
    have her : res.1 = (q3.1.1, q3.1.2) := her.trans (congrArg Prod.fst (Option.some.inj h)).symm
    exact m_aret (pc := 85) hx hb hr (Or.inl ⟨_, rfl⟩) hlk hS ⟨u4, rfl, by rw [her]; exact fu4, by rw [her]; exact hW⟩ (Nat.le_trans (Nat.le_add_right _ _) hc1) (Nat.le_trans (Nat.le_add_right _ _) hs1) d72_85
  have h := jb_f c1_102 h
  by_cases c1_103 : p0 = 103
  · have h := jb_t c1_103 h
    refine lv_tableIn (pc := 1) (off := 85) (tgt := 86) hx hb d72_1 (by rw [c1_103]; decide) (by rw [c1_103]; decide) (by rw [c1_103]; rfl) (by decide) ?_
    refine lv_aload_n (pc := 86) hx hb d72_86 rfl (lv_at hl 0 rfl) ?_
    refine c_getK (pc := 87) X hW 5 0 7 1 (C := "WordFunctions$Dates") (T := T7) (N := 3) (by decide) rfl rfl rfl rfl tin7 rfl wd222 rfl rfl d72_87 ?_
    refine lv_iconst (pc := 90) (v := 0) hx hb d72_90 (by decide) ?_
    obtain ⟨q5, hq5, h⟩ := jc_some h
    refine k_callV (pc := 91) (n := 1) X hS (c_ar_day l ρ ad _ P st 0 q5 hW  hq5) wd1232 wd1229 wd1230 wd1231 wd3 (by decide) ⟨rfl, rfl, Nat.le_of_ble_eq_true rfl, Nat.le_of_ble_eq_true rfl⟩ (c_recv X hW 1 3 (by decide) rfl rfl) (As := [.int 0]) (rest := []) rfl rfl hl.1 (Nat.le_of_ble_eq_true rfl) d72_91 ⟨room_l0 hc1, room_l0 hs1⟩ (fun q hq => MA.mono hS.1 hq) (fun v H1 locs1 hv hz1 hz2 hSq5 => ?_)
    have hPq := hW.1
    obtain ⟨rfl, hW⟩ := hv
    have hS := hSq5
    have hSz := hS.1
    obtain ⟨q6, hq6, h⟩ := jc_some h
    refine k_callS (pc := 94) (n := 1) X hS (c_ca_monthOf l ρ _ P q5.1 q6 hW.2.2.1 hW.2.1  hq6) wd1239 wd1237 wd1238 wd29 (by decide) ⟨rfl, rfl, Nat.le_of_ble_eq_true rfl, Nat.le_of_ble_eq_true rfl⟩ (As := [.int q5.1]) (rest := []) rfl rfl hl.1 (Nat.le_of_ble_eq_true rfl) d72_94 ⟨room_l0 hc1, room_l0 hs1⟩ (fun q hq => False.elim hq) (fun v H1 locs1 hv _ _ hSq6 => ?_)
    obtain ⟨rfl, rfl⟩ := hv
    have hS := hSq6
    have hSz := hS.1
    refine lv_bipush (pc := 97) (v := 12) hx hb d72_97 (by decide) ?_
    refine lv_idiv (pc := 99) hx hb d72_99 (by decide) ?_
    refine lv_i2d (pc := 100) hx hb d72_100 ?_
    obtain ⟨q7, rq7, hq7, h, herq7, hccq7, hssq7⟩ := jd_some h
    refine k_callS (pc := 101) (n := 1) X hS (c_vl_ofNumber l ρ _ P (FP.i2d (q6 / 12)) q7 hW.2.2.1 hW.2.1  hq7) wd642 wd1219 wd641 wd4 (by decide) ⟨rfl, rfl, Nat.le_of_ble_eq_true rfl, Nat.le_of_ble_eq_true rfl⟩ (As := [.double (FP.i2d (q6 / 12))]) (rest := []) rfl rfl hl.1 (Nat.le_of_ble_eq_true rfl) d72_101 ⟨room_le hccq7 hc1, room_le hssq7 hs1⟩ (fun q hq => hAz q (Nat.le_trans hS.1 hq)) (fun v H1 locs1 hv hz1 hz2 hSq7 => ?_)
    obtain ⟨u8, rfl, fu8⟩ := hv
    have hk : kp no _ H1 := kp_call hz1 hz2 (fun q hq z => absurd hq (Nat.not_lt.mpr z))
    have hW := hW.keep hk no_hz (fun _ _ z => z)
    have hS := hSq7
    have hSz := hS.1
    have her := her.trans herq7
    have hc1 := room_st hccq7 hc1
    have hs1 := room_st hssq7 hs1
    have her : res.1 = (q7.1, q5.2) := her.trans (congrArg Prod.fst (Option.some.inj h)).symm
    exact m_aret (pc := 104) hx hb hr (Or.inl ⟨_, rfl⟩) hlk hS ⟨u8, rfl, by rw [her]; exact fu8, by rw [her]; exact hW⟩ (Nat.le_trans (Nat.le_add_right _ _) hc1) (Nat.le_trans (Nat.le_add_right _ _) hs1) d72_104
  have h := jb_f c1_103 h
  by_cases c1_104 : p0 = 104
  · have h := jb_t c1_104 h
    refine lv_tableIn (pc := 1) (off := 104) (tgt := 105) hx hb d72_1 (by rw [c1_104]; decide) (by rw [c1_104]; decide) (by rw [c1_104]; rfl) (by decide) ?_
    refine lv_aload_n (pc := 105) hx hb d72_105 rfl (lv_at hl 0 rfl) ?_
    refine c_getK (pc := 106) X hW 5 0 7 1 (C := "WordFunctions$Dates") (T := T7) (N := 3) (by decide) rfl rfl rfl rfl tin7 rfl wd222 rfl rfl d72_106 ?_
    refine lv_iconst (pc := 109) (v := 0) hx hb d72_109 (by decide) ?_
    obtain ⟨q9, hq9, h⟩ := jc_some h
    refine k_callV (pc := 110) (n := 1) X hS (c_ar_day l ρ ad _ P st 0 q9 hW  hq9) wd1232 wd1229 wd1230 wd1231 wd3 (by decide) ⟨rfl, rfl, Nat.le_of_ble_eq_true rfl, Nat.le_of_ble_eq_true rfl⟩ (c_recv X hW 1 3 (by decide) rfl rfl) (As := [.int 0]) (rest := []) rfl rfl hl.1 (Nat.le_of_ble_eq_true rfl) d72_110 ⟨room_l0 hc1, room_l0 hs1⟩ (fun q hq => MA.mono hS.1 hq) (fun v H1 locs1 hv hz1 hz2 hSq9 => ?_)
    have hPq := hW.1
    obtain ⟨rfl, hW⟩ := hv
    have hS := hSq9
    have hSz := hS.1
    obtain ⟨q10, hq10, h⟩ := jc_some h
    refine k_callS (pc := 113) (n := 1) X hS (c_ca_monthOf l ρ _ P q9.1 q10 hW.2.2.1 hW.2.1  hq10) wd1239 wd1237 wd1238 wd29 (by decide) ⟨rfl, rfl, Nat.le_of_ble_eq_true rfl, Nat.le_of_ble_eq_true rfl⟩ (As := [.int q9.1]) (rest := []) rfl rfl hl.1 (Nat.le_of_ble_eq_true rfl) d72_113 ⟨room_l0 hc1, room_l0 hs1⟩ (fun q hq => False.elim hq) (fun v H1 locs1 hv _ _ hSq10 => ?_)
    obtain ⟨rfl, rfl⟩ := hv
    have hS := hSq10
    have hSz := hS.1
    refine lv_bipush (pc := 116) (v := 12) hx hb d72_116 (by decide) ?_
    refine lv_irem (pc := 118) hx hb d72_118 (by decide) ?_
    refine lv_iconst (pc := 119) (v := 1) hx hb d72_119 (by decide) ?_
    refine lv_iadd (pc := 120) hx hb d72_120 ?_
    refine lv_i2d (pc := 121) hx hb d72_121 ?_
    obtain ⟨q11, rq11, hq11, h, herq11, hccq11, hssq11⟩ := jd_some h
    refine k_callS (pc := 122) (n := 1) X hS (c_vl_ofNumber l ρ _ P (FP.i2d ((q10 - q10 / 12 * 12) + 1)) q11 hW.2.2.1 hW.2.1  hq11) wd642 wd1219 wd641 wd4 (by decide) ⟨rfl, rfl, Nat.le_of_ble_eq_true rfl, Nat.le_of_ble_eq_true rfl⟩ (As := [.double (FP.i2d ((q10 - q10 / 12 * 12) + 1))]) (rest := []) rfl rfl hl.1 (Nat.le_of_ble_eq_true rfl) d72_122 ⟨room_le hccq11 hc1, room_le hssq11 hs1⟩ (fun q hq => hAz q (Nat.le_trans hS.1 hq)) (fun v H1 locs1 hv hz1 hz2 hSq11 => ?_)
    obtain ⟨u12, rfl, fu12⟩ := hv
    have hk : kp no _ H1 := kp_call hz1 hz2 (fun q hq z => absurd hq (Nat.not_lt.mpr z))
    have hW := hW.keep hk no_hz (fun _ _ z => z)
    have hS := hSq11
    have hSz := hS.1
    have her := her.trans herq11
    have hc1 := room_st hccq11 hc1
    have hs1 := room_st hssq11 hs1
    have her : res.1 = (q11.1, q9.2) := her.trans (congrArg Prod.fst (Option.some.inj h)).symm
    exact m_aret (pc := 125) hx hb hr (Or.inl ⟨_, rfl⟩) hlk hS ⟨u12, rfl, by rw [her]; exact fu12, by rw [her]; exact hW⟩ (Nat.le_trans (Nat.le_add_right _ _) hc1) (Nat.le_trans (Nat.le_add_right _ _) hs1) d72_125
  have h := jb_f c1_104 h
  by_cases c1_105 : p0 = 105
  · have h := jb_t c1_105 h
    refine lv_tableIn (pc := 1) (off := 125) (tgt := 126) hx hb d72_1 (by rw [c1_105]; decide) (by rw [c1_105]; decide) (by rw [c1_105]; rfl) (by decide) ?_
    refine lv_aload_n (pc := 126) hx hb d72_126 rfl (lv_at hl 0 rfl) ?_
    refine c_getK (pc := 127) X hW 5 0 7 1 (C := "WordFunctions$Dates") (T := T7) (N := 3) (by decide) rfl rfl rfl rfl tin7 rfl wd222 rfl rfl d72_127 ?_
    refine lv_iconst (pc := 130) (v := 0) hx hb d72_130 (by decide) ?_
    obtain ⟨q13, hq13, h⟩ := jc_some h
    refine k_callV (pc := 131) (n := 1) X hS (c_ar_day l ρ ad _ P st 0 q13 hW  hq13) wd1232 wd1229 wd1230 wd1231 wd3 (by decide) ⟨rfl, rfl, Nat.le_of_ble_eq_true rfl, Nat.le_of_ble_eq_true rfl⟩ (c_recv X hW 1 3 (by decide) rfl rfl) (As := [.int 0]) (rest := []) rfl rfl hl.1 (Nat.le_of_ble_eq_true rfl) d72_131 ⟨room_l0 hc1, room_l0 hs1⟩ (fun q hq => MA.mono hS.1 hq) (fun v H1 locs1 hv hz1 hz2 hSq13 => ?_)
    have hPq := hW.1
    obtain ⟨rfl, hW⟩ := hv
    have hS := hSq13
    have hSz := hS.1
    obtain ⟨q14, hq14, h⟩ := jc_some h
    refine k_callS (pc := 134) (n := 1) X hS (c_ca_dayInMonth l ρ _ P q13.1 q14 hW.2.2.1 hW.2.1  hq14) wd1245 wd1243 wd1244 wd29 (by decide) ⟨rfl, rfl, Nat.le_of_ble_eq_true rfl, Nat.le_of_ble_eq_true rfl⟩ (As := [.int q13.1]) (rest := []) rfl rfl hl.1 (Nat.le_of_ble_eq_true rfl) d72_134 ⟨room_l0 hc1, room_l0 hs1⟩ (fun q hq => False.elim hq) (fun v H1 locs1 hv _ _ hSq14 => ?_)
    obtain ⟨rfl, rfl⟩ := hv
    have hS := hSq14
    have hSz := hS.1
    refine lv_i2d (pc := 137) hx hb d72_137 ?_
    obtain ⟨q15, rq15, hq15, h, herq15, hccq15, hssq15⟩ := jd_some h
    refine k_callS (pc := 138) (n := 1) X hS (c_vl_ofNumber l ρ _ P (FP.i2d q14) q15 hW.2.2.1 hW.2.1  hq15) wd642 wd1219 wd641 wd4 (by decide) ⟨rfl, rfl, Nat.le_of_ble_eq_true rfl, Nat.le_of_ble_eq_true rfl⟩ (As := [.double (FP.i2d q14)]) (rest := []) rfl rfl hl.1 (Nat.le_of_ble_eq_true rfl) d72_138 ⟨room_le hccq15 hc1, room_le hssq15 hs1⟩ (fun q hq => hAz q (Nat.le_trans hS.1 hq)) (fun v H1 locs1 hv hz1 hz2 hSq15 => ?_)
    obtain ⟨u16, rfl, fu16⟩ := hv
    have hk : kp no _ H1 := kp_call hz1 hz2 (fun q hq z => absurd hq (Nat.not_lt.mpr z))
    have hW := hW.keep hk no_hz (fun _ _ z => z)
    have hS := hSq15
    have hSz := hS.1
    have her := her.trans herq15
    have hc1 := room_st hccq15 hc1
    have hs1 := room_st hssq15 hs1
    have her : res.1 = (q15.1, q13.2) := her.trans (congrArg Prod.fst (Option.some.inj h)).symm
    exact m_aret (pc := 141) hx hb hr (Or.inl ⟨_, rfl⟩) hlk hS ⟨u16, rfl, by rw [her]; exact fu16, by rw [her]; exact hW⟩ (Nat.le_trans (Nat.le_add_right _ _) hc1) (Nat.le_trans (Nat.le_add_right _ _) hs1) d72_141
  have h := jb_f c1_105 h
  by_cases c1_106 : p0 = 106
  · have h := jb_t c1_106 h
    refine lv_tableIn (pc := 1) (off := 141) (tgt := 142) hx hb d72_1 (by rw [c1_106]; decide) (by rw [c1_106]; decide) (by rw [c1_106]; rfl) (by decide) ?_
    refine lv_aload_n (pc := 142) hx hb d72_142 rfl (lv_at hl 0 rfl) ?_
    obtain ⟨q17, hq17, h⟩ := jc_some h
    refine k_callV (pc := 143) (n := 0) X hS (c_da_secondsOfDay l ρ ad _ P st  q17 hW  hq17) wd1250 wd1247 wd1249 sl75 wd9 (by decide) ⟨rfl, rfl, Nat.le_of_ble_eq_true rfl, Nat.le_of_ble_eq_true rfl⟩ (c_recv X hW 5 7 (by decide) rfl rfl) (As := []) (rest := []) rfl rfl hl.1 (Nat.le_of_ble_eq_true rfl) d72_143 ⟨room_l0 hc1, room_l0 hs1⟩ (fun q hq => MA.mono hS.1 hq) (fun v H1 locs1 hv hz1 hz2 hSq17 => ?_)
    have hPq := hW.1
    obtain ⟨rfl, hW⟩ := hv
    have hS := hSq17
    have hSz := hS.1
    refine lv_sipush (pc := 146) (v := 3600) hx hb d72_146 (by decide) ?_
    refine lv_idiv (pc := 149) hx hb d72_149 (by decide) ?_
    refine lv_i2d (pc := 150) hx hb d72_150 ?_
    obtain ⟨q18, rq18, hq18, h, herq18, hccq18, hssq18⟩ := jd_some h
    refine k_callS (pc := 151) (n := 1) X hS (c_vl_ofNumber l ρ _ P (FP.i2d (q17.1 / 3600)) q18 hW.2.2.1 hW.2.1  hq18) wd642 wd1219 wd641 wd4 (by decide) ⟨rfl, rfl, Nat.le_of_ble_eq_true rfl, Nat.le_of_ble_eq_true rfl⟩ (As := [.double (FP.i2d (q17.1 / 3600))]) (rest := []) rfl rfl hl.1 (Nat.le_of_ble_eq_true rfl) d72_151 ⟨room_le hccq18 hc1, room_le hssq18 hs1⟩ (fun q hq => hAz q (Nat.le_trans hS.1 hq)) (fun v H1 locs1 hv hz1 hz2 hSq18 => ?_)
    obtain ⟨u19, rfl, fu19⟩ := hv
    have hk : kp no _ H1 := kp_call hz1 hz2 (fun q hq z => absurd hq (Nat.not_lt.mpr z))
    have hW := hW.keep hk no_hz (fun _ _ z => z)
    have hS := hSq18
    have hSz := hS.1
    have her := her.trans herq18
    have hc1 := room_st hccq18 hc1
    have hs1 := room_st hssq18 hs1
    have her : res.1 = (q18.1, q17.2) := her.trans (congrArg Prod.fst (Option.some.inj h)).symm
    exact m_aret (pc := 154) hx hb hr (Or.inl ⟨_, rfl⟩) hlk hS ⟨u19, rfl, by rw [her]; exact fu19, by rw [her]; exact hW⟩ (Nat.le_trans (Nat.le_add_right _ _) hc1) (Nat.le_trans (Nat.le_add_right _ _) hs1) d72_154
  have h := jb_f c1_106 h
  by_cases c1_107 : p0 = 107
  · have h := jb_t c1_107 h
    refine lv_tableIn (pc := 1) (off := 154) (tgt := 155) hx hb d72_1 (by rw [c1_107]; decide) (by rw [c1_107]; decide) (by rw [c1_107]; rfl) (by decide) ?_
    refine lv_aload_n (pc := 155) hx hb d72_155 rfl (lv_at hl 0 rfl) ?_
    obtain ⟨q20, hq20, h⟩ := jc_some h
    refine k_callV (pc := 156) (n := 0) X hS (c_da_secondsOfDay l ρ ad _ P st  q20 hW  hq20) wd1250 wd1247 wd1249 sl75 wd9 (by decide) ⟨rfl, rfl, Nat.le_of_ble_eq_true rfl, Nat.le_of_ble_eq_true rfl⟩ (c_recv X hW 5 7 (by decide) rfl rfl) (As := []) (rest := []) rfl rfl hl.1 (Nat.le_of_ble_eq_true rfl) d72_156 ⟨room_l0 hc1, room_l0 hs1⟩ (fun q hq => MA.mono hS.1 hq) (fun v H1 locs1 hv hz1 hz2 hSq20 => ?_)
    have hPq := hW.1
    obtain ⟨rfl, hW⟩ := hv
    have hS := hSq20
    have hSz := hS.1
    refine lv_bipush (pc := 159) (v := 60) hx hb d72_159 (by decide) ?_
    refine lv_idiv (pc := 161) hx hb d72_161 (by decide) ?_
    refine lv_bipush (pc := 162) (v := 60) hx hb d72_162 (by decide) ?_
    refine lv_irem (pc := 164) hx hb d72_164 (by decide) ?_
    refine lv_i2d (pc := 165) hx hb d72_165 ?_
    obtain ⟨q21, rq21, hq21, h, herq21, hccq21, hssq21⟩ := jd_some h
    refine k_callS (pc := 166) (n := 1) X hS (c_vl_ofNumber l ρ _ P (FP.i2d ((q20.1 / 60) - (q20.1 / 60) / 60 * 60)) q21 hW.2.2.1 hW.2.1  hq21) wd642 wd1219 wd641 wd4 (by decide) ⟨rfl, rfl, Nat.le_of_ble_eq_true rfl, Nat.le_of_ble_eq_true rfl⟩ (As := [.double (FP.i2d ((q20.1 / 60) - (q20.1 / 60) / 60 * 60))]) (rest := []) rfl rfl hl.1 (Nat.le_of_ble_eq_true rfl) d72_166 ⟨room_le hccq21 hc1, room_le hssq21 hs1⟩ (fun q hq => hAz q (Nat.le_trans hS.1 hq)) (fun v H1 locs1 hv hz1 hz2 hSq21 => ?_)
    obtain ⟨u22, rfl, fu22⟩ := hv
    have hk : kp no _ H1 := kp_call hz1 hz2 (fun q hq z => absurd hq (Nat.not_lt.mpr z))
    have hW := hW.keep hk no_hz (fun _ _ z => z)
    have hS := hSq21
    have hSz := hS.1
    have her := her.trans herq21
    have hc1 := room_st hccq21 hc1
    have hs1 := room_st hssq21 hs1
    have her : res.1 = (q21.1, q20.2) := her.trans (congrArg Prod.fst (Option.some.inj h)).symm
    exact m_aret (pc := 169) hx hb hr (Or.inl ⟨_, rfl⟩) hlk hS ⟨u22, rfl, by rw [her]; exact fu22, by rw [her]; exact hW⟩ (Nat.le_trans (Nat.le_add_right _ _) hc1) (Nat.le_trans (Nat.le_add_right _ _) hs1) d72_169
  have h := jb_f c1_107 h
  by_cases c1_108 : p0 = 108
  · have h := jb_t c1_108 h
    refine lv_tableIn (pc := 1) (off := 169) (tgt := 170) hx hb d72_1 (by rw [c1_108]; decide) (by rw [c1_108]; decide) (by rw [c1_108]; rfl) (by decide) ?_
    refine lv_aload_n (pc := 170) hx hb d72_170 rfl (lv_at hl 0 rfl) ?_
    obtain ⟨q23, hq23, h⟩ := jc_some h
    refine k_callV (pc := 171) (n := 0) X hS (c_da_secondsOfDay l ρ ad _ P st  q23 hW  hq23) wd1250 wd1247 wd1249 sl75 wd9 (by decide) ⟨rfl, rfl, Nat.le_of_ble_eq_true rfl, Nat.le_of_ble_eq_true rfl⟩ (c_recv X hW 5 7 (by decide) rfl rfl) (As := []) (rest := []) rfl rfl hl.1 (Nat.le_of_ble_eq_true rfl) d72_171 ⟨room_l0 hc1, room_l0 hs1⟩ (fun q hq => MA.mono hS.1 hq) (fun v H1 locs1 hv hz1 hz2 hSq23 => ?_)
    have hPq := hW.1
    obtain ⟨rfl, hW⟩ := hv
    have hS := hSq23
    have hSz := hS.1
    refine lv_bipush (pc := 174) (v := 60) hx hb d72_174 (by decide) ?_
    refine lv_irem (pc := 176) hx hb d72_176 (by decide) ?_
    refine lv_i2d (pc := 177) hx hb d72_177 ?_
    obtain ⟨q24, rq24, hq24, h, herq24, hccq24, hssq24⟩ := jd_some h
    refine k_callS (pc := 178) (n := 1) X hS (c_vl_ofNumber l ρ _ P (FP.i2d (q23.1 - q23.1 / 60 * 60)) q24 hW.2.2.1 hW.2.1  hq24) wd642 wd1219 wd641 wd4 (by decide) ⟨rfl, rfl, Nat.le_of_ble_eq_true rfl, Nat.le_of_ble_eq_true rfl⟩ (As := [.double (FP.i2d (q23.1 - q23.1 / 60 * 60))]) (rest := []) rfl rfl hl.1 (Nat.le_of_ble_eq_true rfl) d72_178 ⟨room_le hccq24 hc1, room_le hssq24 hs1⟩ (fun q hq => hAz q (Nat.le_trans hS.1 hq)) (fun v H1 locs1 hv hz1 hz2 hSq24 => ?_)
    obtain ⟨u25, rfl, fu25⟩ := hv
    have hk : kp no _ H1 := kp_call hz1 hz2 (fun q hq z => absurd hq (Nat.not_lt.mpr z))
    have hW := hW.keep hk no_hz (fun _ _ z => z)
    have hS := hSq24
    have hSz := hS.1
    have her := her.trans herq24
    have hc1 := room_st hccq24 hc1
    have hs1 := room_st hssq24 hs1
    have her : res.1 = (q24.1, q23.2) := her.trans (congrArg Prod.fst (Option.some.inj h)).symm
    exact m_aret (pc := 181) hx hb hr (Or.inl ⟨_, rfl⟩) hlk hS ⟨u25, rfl, by rw [her]; exact fu25, by rw [her]; exact hW⟩ (Nat.le_trans (Nat.le_add_right _ _) hc1) (Nat.le_trans (Nat.le_add_right _ _) hs1) d72_181
  have h := jb_f c1_108 h
  by_cases c1_109 : p0 = 109
  · have h := jb_t c1_109 h
    refine lv_tableIn (pc := 1) (off := 181) (tgt := 182) hx hb d72_1 (by rw [c1_109]; decide) (by rw [c1_109]; decide) (by rw [c1_109]; rfl) (by decide) ?_
    refine lv_aload_n (pc := 182) hx hb d72_182 rfl (lv_at hl 0 rfl) ?_
    obtain ⟨q26, rq26, hq26, h, herq26, hccq26, hssq26⟩ := jd_some h
    refine k_callV (pc := 183) (n := 0) X hS (c_da_weekday l ρ ad _ P st  q26 hW  hq26) wd1256 wd1253 wd1255 sl78 wd9 (by decide) ⟨rfl, rfl, Nat.le_of_ble_eq_true rfl, Nat.le_of_ble_eq_true rfl⟩ (c_recv X hW 5 7 (by decide) rfl rfl) (As := []) (rest := []) rfl rfl hl.1 (Nat.le_of_ble_eq_true rfl) d72_183 ⟨room_le hccq26 hc1, room_le hssq26 hs1⟩ (fun q hq => MA.mono hS.1 hq) (fun v H1 locs1 hv hz1 hz2 hSq26 => ?_)
    have hPq := hW.1
    obtain ⟨u27, rfl, fu27, hW⟩ := hv
    have hS := hSq26
    have hSz := hS.1
    have her := her.trans herq26
    have hc1 := room_st hccq26 hc1
    have hs1 := room_st hssq26 hs1
    have her : res.1 = (q26.1.1, q26.1.2) := her.trans (congrArg Prod.fst (Option.some.inj h)).symm
    exact m_aret (pc := 186) hx hb hr (Or.inl ⟨_, rfl⟩) hlk hS ⟨u27, rfl, by rw [her]; exact fu27, by rw [her]; exact hW⟩ (Nat.le_trans (Nat.le_add_right _ _) hc1) (Nat.le_trans (Nat.le_add_right _ _) hs1) d72_186
  have h := jb_f c1_109 h
  by_cases c1_110 : p0 = 110
  · have h := jb_t c1_110 h
    refine lv_tableIn (pc := 1) (off := 186) (tgt := 187) hx hb d72_1 (by rw [c1_110]; decide) (by rw [c1_110]; decide) (by rw [c1_110]; rfl) (by decide) ?_
    refine lv_aload_n (pc := 187) hx hb d72_187 rfl (lv_at hl 0 rfl) ?_
    obtain ⟨q28, rq28, hq28, h, herq28, hccq28, hssq28⟩ := jd_some h
    refine k_callV (pc := 188) (n := 0) X hS (c_da_weekNumber l ρ ad _ P st  q28 hW  hq28) wd1262 wd1259 wd1261 sl77 wd9 (by decide) ⟨rfl, rfl, Nat.le_of_ble_eq_true rfl, Nat.le_of_ble_eq_true rfl⟩ (c_recv X hW 5 7 (by decide) rfl rfl) (As := []) (rest := []) rfl rfl hl.1 (Nat.le_of_ble_eq_true rfl) d72_188 ⟨room_le hccq28 hc1, room_le hssq28 hs1⟩ (fun q hq => MA.mono hS.1 hq) (fun v H1 locs1 hv hz1 hz2 hSq28 => ?_)
    have hPq := hW.1
    obtain ⟨u29, rfl, fu29, hW⟩ := hv
    have hS := hSq28
    have hSz := hS.1
    have her := her.trans herq28
    have hc1 := room_st hccq28 hc1
    have hs1 := room_st hssq28 hs1
    have her : res.1 = (q28.1.1, q28.1.2) := her.trans (congrArg Prod.fst (Option.some.inj h)).symm
    exact m_aret (pc := 191) hx hb hr (Or.inl ⟨_, rfl⟩) hlk hS ⟨u29, rfl, by rw [her]; exact fu29, by rw [her]; exact hW⟩ (Nat.le_trans (Nat.le_add_right _ _) hc1) (Nat.le_trans (Nat.le_add_right _ _) hs1) d72_191
  have h := jb_f c1_110 h
  by_cases c1_111 : p0 = 111
  · have h := jb_t c1_111 h
    refine lv_tableIn (pc := 1) (off := 191) (tgt := 192) hx hb d72_1 (by rw [c1_111]; decide) (by rw [c1_111]; decide) (by rw [c1_111]; rfl) (by decide) ?_
    refine lv_aload_n (pc := 192) hx hb d72_192 rfl (lv_at hl 0 rfl) ?_
    refine lv_iconst (pc := 193) (v := 0) hx hb d72_193 (by decide) ?_
    obtain ⟨q30, rq30, hq30, h, herq30, hccq30, hssq30⟩ := jd_some h
    refine k_callV (pc := 194) (n := 1) X hS (c_da_monthsLater l ρ ad _ P st 0 q30 hW  hq30) wd1266 wd1263 wd1265 sl71 wd9 (by decide) ⟨rfl, rfl, Nat.le_of_ble_eq_true rfl, Nat.le_of_ble_eq_true rfl⟩ (c_recv X hW 5 7 (by decide) rfl rfl) (As := [.int 0]) (rest := []) rfl rfl hl.1 (Nat.le_of_ble_eq_true rfl) d72_194 ⟨room_le hccq30 hc1, room_le hssq30 hs1⟩ (fun q hq => MA.mono hS.1 hq) (fun v H1 locs1 hv hz1 hz2 hSq30 => ?_)
    have hPq := hW.1
    obtain ⟨u31, rfl, fu31, hW⟩ := hv
    have hS := hSq30
    have hSz := hS.1
    have her := her.trans herq30
    have hc1 := room_st hccq30 hc1
    have hs1 := room_st hssq30 hs1
    have her : res.1 = (q30.1.1, q30.1.2) := her.trans (congrArg Prod.fst (Option.some.inj h)).symm
    exact m_aret (pc := 197) hx hb hr (Or.inl ⟨_, rfl⟩) hlk hS ⟨u31, rfl, by rw [her]; exact fu31, by rw [her]; exact hW⟩ (Nat.le_trans (Nat.le_add_right _ _) hc1) (Nat.le_trans (Nat.le_add_right _ _) hs1) d72_197
  have h := jb_f c1_111 h
  by_cases c1_112 : p0 = 112
  · have h := jb_t c1_112 h
    refine lv_tableIn (pc := 1) (off := 197) (tgt := 198) hx hb d72_1 (by rw [c1_112]; decide) (by rw [c1_112]; decide) (by rw [c1_112]; rfl) (by decide) ?_
    refine lv_aload_n (pc := 198) hx hb d72_198 rfl (lv_at hl 0 rfl) ?_
    refine lv_iconst (pc := 199) (v := 1) hx hb d72_199 (by decide) ?_
    obtain ⟨q32, rq32, hq32, h, herq32, hccq32, hssq32⟩ := jd_some h
    refine k_callV (pc := 200) (n := 1) X hS (c_da_monthsLater l ρ ad _ P st 1 q32 hW  hq32) wd1266 wd1263 wd1265 sl71 wd9 (by decide) ⟨rfl, rfl, Nat.le_of_ble_eq_true rfl, Nat.le_of_ble_eq_true rfl⟩ (c_recv X hW 5 7 (by decide) rfl rfl) (As := [.int 1]) (rest := []) rfl rfl hl.1 (Nat.le_of_ble_eq_true rfl) d72_200 ⟨room_le hccq32 hc1, room_le hssq32 hs1⟩ (fun q hq => MA.mono hS.1 hq) (fun v H1 locs1 hv hz1 hz2 hSq32 => ?_)
    have hPq := hW.1
    obtain ⟨u33, rfl, fu33, hW⟩ := hv
    have hS := hSq32
    have hSz := hS.1
    have her := her.trans herq32
    have hc1 := room_st hccq32 hc1
    have hs1 := room_st hssq32 hs1
    have her : res.1 = (q32.1.1, q32.1.2) := her.trans (congrArg Prod.fst (Option.some.inj h)).symm
    exact m_aret (pc := 203) hx hb hr (Or.inl ⟨_, rfl⟩) hlk hS ⟨u33, rfl, by rw [her]; exact fu33, by rw [her]; exact hW⟩ (Nat.le_trans (Nat.le_add_right _ _) hc1) (Nat.le_trans (Nat.le_add_right _ _) hs1) d72_203
  have h := jb_f c1_112 h
  by_cases c1_113 : p0 = 113
  · have h := jb_t c1_113 h
    refine lv_tableIn (pc := 1) (off := 203) (tgt := 204) hx hb d72_1 (by rw [c1_113]; decide) (by rw [c1_113]; decide) (by rw [c1_113]; rfl) (by decide) ?_
    refine lv_aload_n (pc := 204) hx hb d72_204 rfl (lv_at hl 0 rfl) ?_
    obtain ⟨q34, rq34, hq34, h, herq34, hccq34, hssq34⟩ := jd_some h
    refine k_callV (pc := 205) (n := 0) X hS (c_da_days l ρ ad _ P st  q34 hW  hq34) wd1274 wd1271 wd1273 sl66 wd9 (by decide) ⟨rfl, rfl, Nat.le_of_ble_eq_true rfl, Nat.le_of_ble_eq_true rfl⟩ (c_recv X hW 5 7 (by decide) rfl rfl) (As := []) (rest := []) rfl rfl hl.1 (Nat.le_of_ble_eq_true rfl) d72_205 ⟨room_le hccq34 hc1, room_le hssq34 hs1⟩ (fun q hq => MA.mono hS.1 hq) (fun v H1 locs1 hv hz1 hz2 hSq34 => ?_)
    have hPq := hW.1
    obtain ⟨u35, rfl, fu35, hW⟩ := hv
    have hS := hSq34
    have hSz := hS.1
    have her := her.trans herq34
    have hc1 := room_st hccq34 hc1
    have hs1 := room_st hssq34 hs1
    have her : res.1 = (q34.1.1, q34.1.2) := her.trans (congrArg Prod.fst (Option.some.inj h)).symm
    exact m_aret (pc := 208) hx hb hr (Or.inl ⟨_, rfl⟩) hlk hS ⟨u35, rfl, by rw [her]; exact fu35, by rw [her]; exact hW⟩ (Nat.le_trans (Nat.le_add_right _ _) hc1) (Nat.le_trans (Nat.le_add_right _ _) hs1) d72_208
  have h := jb_f c1_113 h
  by_cases c1_114 : p0 = 114
  · have h := jb_t c1_114 h
    refine lv_tableIn (pc := 1) (off := 208) (tgt := 209) hx hb d72_1 (by rw [c1_114]; decide) (by rw [c1_114]; decide) (by rw [c1_114]; rfl) (by decide) ?_
    refine lv_aload_n (pc := 209) hx hb d72_209 rfl (lv_at hl 0 rfl) ?_
    obtain ⟨q36, rq36, hq36, h, herq36, hccq36, hssq36⟩ := jd_some h
    refine k_callV (pc := 210) (n := 0) X hS (c_da_difference l ρ ad _ P st  q36 hW  hq36) wd1278 wd1275 wd1277 sl67 wd9 (by decide) ⟨rfl, rfl, Nat.le_of_ble_eq_true rfl, Nat.le_of_ble_eq_true rfl⟩ (c_recv X hW 5 7 (by decide) rfl rfl) (As := []) (rest := []) rfl rfl hl.1 (Nat.le_of_ble_eq_true rfl) d72_210 ⟨room_le hccq36 hc1, room_le hssq36 hs1⟩ (fun q hq => MA.mono hS.1 hq) (fun v H1 locs1 hv hz1 hz2 hSq36 => ?_)
    have hPq := hW.1
    obtain ⟨u37, rfl, fu37, hW⟩ := hv
    have hS := hSq36
    have hSz := hS.1
    have her := her.trans herq36
    have hc1 := room_st hccq36 hc1
    have hs1 := room_st hssq36 hs1
    have her : res.1 = (q36.1.1, q36.1.2) := her.trans (congrArg Prod.fst (Option.some.inj h)).symm
    exact m_aret (pc := 213) hx hb hr (Or.inl ⟨_, rfl⟩) hlk hS ⟨u37, rfl, by rw [her]; exact fu37, by rw [her]; exact hW⟩ (Nat.le_trans (Nat.le_add_right _ _) hc1) (Nat.le_trans (Nat.le_add_right _ _) hs1) d72_213
  have h := jb_f c1_114 h
  by_cases c1_115 : p0 = 115
  · have h := jb_t c1_115 h
    refine lv_tableIn (pc := 1) (off := 213) (tgt := 214) hx hb d72_1 (by rw [c1_115]; decide) (by rw [c1_115]; decide) (by rw [c1_115]; rfl) (by decide) ?_
    refine lv_aload_n (pc := 214) hx hb d72_214 rfl (lv_at hl 0 rfl) ?_
    obtain ⟨q38, rq38, hq38, h, herq38, hccq38, hssq38⟩ := jd_some h
    refine k_callV (pc := 215) (n := 0) X hS (c_da_workdays l ρ ad _ P st  q38 hW  hq38) wd1298 wd1295 wd1297 sl82 wd9 (by decide) ⟨rfl, rfl, Nat.le_of_ble_eq_true rfl, Nat.le_of_ble_eq_true rfl⟩ (c_recv X hW 5 7 (by decide) rfl rfl) (As := []) (rest := []) rfl rfl hl.1 (Nat.le_of_ble_eq_true rfl) d72_215 ⟨room_le hccq38 hc1, room_le hssq38 hs1⟩ (fun q hq => MA.mono hS.1 hq) (fun v H1 locs1 hv hz1 hz2 hSq38 => ?_)
    have hPq := hW.1
    obtain ⟨u39, rfl, fu39, hW⟩ := hv
    have hS := hSq38
    have hSz := hS.1
    have her := her.trans herq38
    have hc1 := room_st hccq38 hc1
    have hs1 := room_st hssq38 hs1
    have her : res.1 = (q38.1.1, q38.1.2) := her.trans (congrArg Prod.fst (Option.some.inj h)).symm
    exact m_aret (pc := 218) hx hb hr (Or.inl ⟨_, rfl⟩) hlk hS ⟨u39, rfl, by rw [her]; exact fu39, by rw [her]; exact hW⟩ (Nat.le_trans (Nat.le_add_right _ _) hc1) (Nat.le_trans (Nat.le_add_right _ _) hs1) d72_218
  have h := jb_f c1_115 h
  refine lv_tableOut (pc := 1) (tgt := 219) hx hb d72_1 (sw_out 15 (by decide) (by
    intro i hi
    match i, hi with
    | 0, _ => exact fun z => c1_101 (Int32.toInt_inj.mp (by rw [z]; decide))
    | 1, _ => exact fun z => c1_102 (Int32.toInt_inj.mp (by rw [z]; decide))
    | 2, _ => exact fun z => c1_103 (Int32.toInt_inj.mp (by rw [z]; decide))
    | 3, _ => exact fun z => c1_104 (Int32.toInt_inj.mp (by rw [z]; decide))
    | 4, _ => exact fun z => c1_105 (Int32.toInt_inj.mp (by rw [z]; decide))
    | 5, _ => exact fun z => c1_106 (Int32.toInt_inj.mp (by rw [z]; decide))
    | 6, _ => exact fun z => c1_107 (Int32.toInt_inj.mp (by rw [z]; decide))
    | 7, _ => exact fun z => c1_108 (Int32.toInt_inj.mp (by rw [z]; decide))
    | 8, _ => exact fun z => c1_109 (Int32.toInt_inj.mp (by rw [z]; decide))
    | 9, _ => exact fun z => c1_110 (Int32.toInt_inj.mp (by rw [z]; decide))
    | 10, _ => exact fun z => c1_111 (Int32.toInt_inj.mp (by rw [z]; decide))
    | 11, _ => exact fun z => c1_112 (Int32.toInt_inj.mp (by rw [z]; decide))
    | 12, _ => exact fun z => c1_113 (Int32.toInt_inj.mp (by rw [z]; decide))
    | 13, _ => exact fun z => c1_114 (Int32.toInt_inj.mp (by rw [z]; decide))
    | 14, _ => exact fun z => c1_115 (Int32.toInt_inj.mp (by rw [z]; decide))
    | i + 15, q => exact absurd q (by omega))) (by decide) ?_
  refine lv_aload_n (pc := 219) hx hb d72_219 rfl (lv_at hl 0 rfl) ?_
  obtain ⟨q40, rq40, hq40, h, herq40, hccq40, hssq40⟩ := jd_some h
  refine k_callV (pc := 220) (n := 0) X hS (c_da_workday l ρ ad _ P st  q40 hW  hq40) wd1321 wd1318 wd1320 sl79 wd9 (by decide) ⟨rfl, rfl, Nat.le_of_ble_eq_true rfl, Nat.le_of_ble_eq_true rfl⟩ (c_recv X hW 5 7 (by decide) rfl rfl) (As := []) (rest := []) rfl rfl hl.1 (Nat.le_of_ble_eq_true rfl) d72_220 ⟨room_le hccq40 hc1, room_le hssq40 hs1⟩ (fun q hq => MA.mono hS.1 hq) (fun v H1 locs1 hv hz1 hz2 hSq40 => ?_)
  have hPq := hW.1
  obtain ⟨u41, rfl, fu41, hW⟩ := hv
  have hS := hSq40
  have hSz := hS.1
  have her := her.trans herq40
  have hc1 := room_st hccq40 hc1
  have hs1 := room_st hssq40 hs1
  have her : res.1 = (q40.1.1, q40.1.2) := her.trans (congrArg Prod.fst (Option.some.inj h)).symm
  exact m_aret (pc := 223) hx hb hr (Or.inl ⟨_, rfl⟩) hlk hS ⟨u41, rfl, by rw [her]; exact fu41, by rw [her]; exact hW⟩ (Nat.le_trans (Nat.le_add_right _ _) hc1) (Nat.le_trans (Nat.le_add_right _ _) hs1) d72_223
def f_ki_typeOf (st : CS) (p0 : VV) : Option (Int32) := jc (f_ar_many st 0) (fun q1 => jb (q1 ≤ 1) (jb (p0.1 = 2) (some 2) (jb (p0.1 = 3) (some 4) (jb (p0.1 = 4) (some 16) (some 1)))) (some 64))
set_option maxHeartbeats 4000000 in
set_option maxRecDepth 100000 in
theorem c_ki_typeOf (l : Launch) (ρ : RH) (ad : Nat → Nat) (H : Heap) (P : Nat → Prop) (st : CS) (ap0 : Nat) (p0 : VV) (res : Int32) (hW : CW ρ P ad st H) (fap0 : isV ρ P H ap0 p0) (h : f_ki_typeOf st p0 = some res) : Met l y86 (wsOf y86 b86 2 (some .int)) ({ frames := 3, cells := 0, slots := 0, locals := 63 } : Room) (va_Pc [.ref (ad 6), .ref ap0] (KP ρ H)) (mQ (fun v H1 => v = some (.int res) ∧ H1 = H) (fun _ => False)) 0 0 (fun _ => False) := by
  refine m_ofW (own := "WordFunctions$Kinds") (plainFor_of_name rfl) rfl (Nat.le_of_ble_eq_true rfl) fun p e s m args below meth c ls hx hb hr hlk _ X hs hl => ?_
  subst hs
  have hS : va_S (fun _ => False) s.heap s.heap [] := va_S.rf
  have hSz := hS.1
  have hPp : ∀ i, i < 46 → P (ad i) := hW.1
  have hl : lv_has ls 2 [(0, .ref (ad 6)), (1, .ref ap0)] := hl
  unfold f_ki_typeOf at h
  refine lv_aload_n (pc := 0) hx hb d86_0 rfl (lv_at hl 0 rfl) ?_
  refine c_getK (pc := 1) X hW 6 0 8 1 (C := "WordFunctions$Kinds") (T := T8) (N := 1) (by decide) rfl rfl rfl rfl tin8 rfl wd238 rfl rfl d86_1 ?_
  refine lv_iconst (pc := 4) (v := 0) hx hb d86_4 (by decide) ?_
  obtain ⟨q1, hq1, h⟩ := jc_some h
  refine k_callV (pc := 5) (n := 1) X hS (c_ar_many l ρ ad _ P st 0 q1 hW  hq1) wd1056 wd1346 wd1054 wd1055 wd3 (by decide) ⟨rfl, rfl, Nat.le_of_ble_eq_true rfl, Nat.le_of_ble_eq_true rfl⟩ (c_recv X hW 1 3 (by decide) rfl rfl) (As := [.int 0]) (rest := []) rfl rfl hl.1 (Nat.le_of_ble_eq_true rfl) d86_5 ⟨Nat.le_refl _, Nat.le_refl _⟩ (fun q hq => False.elim hq) (fun v H1 locs1 hv _ _ hSq1 => ?_)
  obtain ⟨rfl, rfl⟩ := hv
  have hS := hSq1
  have hSz := hS.1
  refine lv_iconst (pc := 8) (v := 1) hx hb d86_8 (by decide) ?_
  refine lv_icmp_le (pc := 9) (tgt := 15) hx hb d86_9 (by decide) (fun c9 => ?_) (fun c9 => ?_)
  · have h := jb_t c9 h
    refine lv_aload_n (pc := 15) hx hb d86_15 rfl (lv_at hl 1 rfl) ?_
    refine v_kind (pc := 16) X fap0 wd76 d86_16 ?_
    by_cases c19_2 : p0.1 = 2
    · have h := jb_t c19_2 h
      refine lv_tableIn (pc := 19) (off := 25) (tgt := 44) hx hb d86_19 (by rw [c19_2]; decide) (by rw [c19_2]; decide) (by rw [c19_2]; rfl) (by decide) ?_
      refine lv_iconst (pc := 44) (v := 2) hx hb d86_44 (by decide) ?_
      obtain rfl := Option.some.inj h
      exact m_iret (pc := 45) hx hb hr hlk hS ⟨rfl, rfl⟩ (Nat.le_refl _) (Nat.le_refl _) d86_45
    have h := jb_f c19_2 h
    by_cases c19_3 : p0.1 = 3
    · have h := jb_t c19_3 h
      refine lv_tableIn (pc := 19) (off := 27) (tgt := 46) hx hb d86_19 (by rw [c19_3]; decide) (by rw [c19_3]; decide) (by rw [c19_3]; rfl) (by decide) ?_
      refine lv_iconst (pc := 46) (v := 4) hx hb d86_46 (by decide) ?_
      obtain rfl := Option.some.inj h
      exact m_iret (pc := 47) hx hb hr hlk hS ⟨rfl, rfl⟩ (Nat.le_refl _) (Nat.le_refl _) d86_47
    have h := jb_f c19_3 h
    by_cases c19_4 : p0.1 = 4
    · have h := jb_t c19_4 h
      refine lv_tableIn (pc := 19) (off := 29) (tgt := 48) hx hb d86_19 (by rw [c19_4]; decide) (by rw [c19_4]; decide) (by rw [c19_4]; rfl) (by decide) ?_
      refine lv_bipush (pc := 48) (v := 16) hx hb d86_48 (by decide) ?_
      obtain rfl := Option.some.inj h
      exact m_iret (pc := 50) hx hb hr hlk hS ⟨rfl, rfl⟩ (Nat.le_refl _) (Nat.le_refl _) d86_50
    have h := jb_f c19_4 h
    refine lv_tableOut (pc := 19) (tgt := 51) hx hb d86_19 (sw_out 3 (by decide) (by
      intro i hi
      match i, hi with
      | 0, _ => exact fun z => c19_2 (Int32.toInt_inj.mp (by rw [z]; decide))
      | 1, _ => exact fun z => c19_3 (Int32.toInt_inj.mp (by rw [z]; decide))
      | 2, _ => exact fun z => c19_4 (Int32.toInt_inj.mp (by rw [z]; decide))
      | i + 3, q => exact absurd q (by omega))) (by decide) ?_
    refine lv_iconst (pc := 51) (v := 1) hx hb d86_51 (by decide) ?_
    obtain rfl := Option.some.inj h
    exact m_iret (pc := 52) hx hb hr hlk hS ⟨rfl, rfl⟩ (Nat.le_refl _) (Nat.le_refl _) d86_52
  · have h := jb_f c9 h
    refine lv_bipush (pc := 12) (v := 64) hx hb d86_12 (by decide) ?_
    obtain rfl := Option.some.inj h
    exact m_iret (pc := 14) hx hb hr hlk hS ⟨rfl, rfl⟩ (Nat.le_refl _) (Nat.le_refl _) d86_14
def ki_of_271  (st : CS) (z0 : Int32) : Option ((VV × CS) × Nat × Nat) := jd (f_vl_ofTruth z0) (fun q1 => some ((q1, st), 0, 0))
def ki_of_249  (st : CS) (z0 : Int32) : Option ((VV × CS) × Nat × Nat) := jd (f_vl_ofTruth z0) (fun q3 => some ((q3, st), 0, 0))
def ki_of_222  (st : CS) (z0 : Int32) : Option ((VV × CS) × Nat × Nat) := jd (f_vl_ofTruth z0) (fun q5 => some ((q5, st), 0, 0))
def ki_of_221  (st : CS) : Option ((VV × CS) × Nat × Nat) := ki_of_222 st 0
def ki_of_201  (st : CS) (z0 : Int32) : Option ((VV × CS) × Nat × Nat) := jd (f_vl_ofTruth z0) (fun q7 => some ((q7, st), 0, 0))
def ki_of_184  (st : CS) (z0 : Int32) : Option ((VV × CS) × Nat × Nat) := jd (f_vl_ofTruth z0) (fun q9 => some ((q9, st), 0, 0))
def ki_of_167  (st : CS) (z0 : Int32) : Option ((VV × CS) × Nat × Nat) := jd (f_vl_ofTruth z0) (fun q11 => some ((q11, st), 0, 0))
def ki_of_150  (st : CS) (z0 : Int32) : Option ((VV × CS) × Nat × Nat) := jd (f_vl_ofTruth z0) (fun q13 => some ((q13, st), 0, 0))
def ki_of_133  (st : CS) (z0 : Int32) : Option ((VV × CS) × Nat × Nat) := jd (f_vl_ofTruth z0) (fun q15 => some ((q15, st), 0, 0))
def ki_of_116  (st : CS) (z0 : Int32) : Option ((VV × CS) × Nat × Nat) := jd (f_vl_ofTruth z0) (fun q17 => some ((q17, st), 0, 0))
def ki_of_34  (st : CS) (x1 : Int32) (x2 : VV) (z0 : Int32) : Option ((VV × CS) × Nat × Nat) := jb (x1 = 119) (jb (x2.1 = 0) (ki_of_116 st 1) (ki_of_116 st 0)) (jb (x1 = 120) (jb (x2.1 = 1) (ki_of_133 st 1) (ki_of_133 st 0)) (jb (x1 = 121) (jb (x2.1 = 2) (ki_of_150 st 1) (ki_of_150 st 0)) (jb (x1 = 122) (jb (x2.1 = 2) (ki_of_167 st 0) (ki_of_167 st 1)) (jb (x1 = 123) (jb (x2.1 = 3) (ki_of_184 st 1) (ki_of_184 st 0)) (jb (x1 = 124) (jb (x2.1 = 4) (ki_of_201 st 1) (ki_of_201 st 0)) (jb (x1 = 125) (jb (x2.1 = 4) (jb (z0 = 0) (ki_of_222 st 1) (ki_of_221 st)) (ki_of_221 st)) (jb (x1 = 126) (jd (f_vl_ofTruth z0) (fun q19 => some ((q19, st), 0, 0))) (jb (x1 = 127) (jc (f_ar_whole st 0) (fun q21 => jb ((q21.1 - q21.1 / 2 * 2) = 0) (ki_of_249 q21.2 1) (ki_of_249 q21.2 0))) (jb (x1 = 128) (jc (f_ar_whole st 0) (fun q22 => jb ((q22.1 - q22.1 / 2 * 2) = 0) (ki_of_271 q22.2 0) (ki_of_271 q22.2 1))) (jb (x1 = 129) (jd (f_vl_ofError 7) (fun q23 => some ((q23, st), 0, 0))) (jb (x1 = 130) (jc (f_ki_typeOf st x2) (fun q25 => jd (f_vl_ofNumber (FP.i2d q25)) (fun q26 => some ((q26, st), 0, 0)))) (jb (x1 = 131) (jb (x2.1 = 4) (jd (f_vl_ofNumber x2.2.1) (fun q30 => some ((q30, st), 0, 0))) (jd (f_vl_ofError 7) (fun q28 => some ((q28, st), 0, 0)))) (jd (f_vl_ofNumber (4614256656552045848 : UInt64)) (fun q32 => some ((q32, st), 0, 0)))))))))))))))
def ki_of_33  (st : CS) (x1 : Int32) (x2 : VV) : Option ((VV × CS) × Nat × Nat) := ki_of_34 st x1 x2 0
def f_ki_of (st : CS) (p0 : Int32) : Option ((VV × CS) × Nat × Nat) := jc (f_ar_nth st 0 0) (fun q34 => jb (q34.1 = 4) (jb ((Op.cmpValue (FP.dcmp q34.2.1 (4619567317775286272 : UInt64)) .l) = 0) (ki_of_34 st p0 q34 1) (ki_of_33 st p0 q34)) (ki_of_33 st p0 q34))
set_option maxHeartbeats 4000000 in
set_option maxRecDepth 100000 in
theorem c_ki_of (l : Launch) (ρ : RH) (ad : Nat → Nat) (H : Heap) (P : Nat → Prop) (st : CS) (p0 : Int32) (res : (VV × CS) × Nat × Nat) (hW : CW ρ P ad st H) (h : f_ki_of st p0 = some res) : Met l y85 (wsOf y85 b85 4 (some (.object "WordFunctions$Value"))) ({ frames := 16, cells := res.2.1, slots := res.2.2, locals := 698 } : Room) (va_Pc [.ref (ad 6), .int p0] (KP ρ H)) (mQ (fun v H1 => ∃ x : Nat, v = some (.ref x) ∧ isV ρ P H1 x res.1.1 ∧ CW ρ P ad res.1.2 H1) (MA wC ad H.size)) res.2.1 res.2.2 (MA wC ad H.size) := by
  refine m_ofW (own := "WordFunctions$Kinds") (plainFor_of_name rfl) rfl (Nat.le_of_ble_eq_true rfl) fun p e s m args below meth c ls hx hb hr hlk _ X hs hl => ?_
  subst hs
  have hS : va_S (MA wC ad s.heap.size) s.heap s.heap [] := va_S.rf
  have hSz := hS.1
  have hAz : ∀ q, s.heap.size ≤ q → (MA wC ad s.heap.size) q := fun q hq => Or.inr hq
  have hAp : ∀ i, i < 46 → (MA wC ad s.heap.size) (ad i) := fun i hi => MA.in hi
  have hPp : ∀ i, i < 46 → P (ad i) := hW.1
  have hl : lv_has ls 4 [(0, .ref (ad 6)), (1, .int p0)] := hl
  have kc271 : ∀ (st : CS) (z0 : Int32) (H : Heap) (locs : List Loc) (ls : Array Slot) (cells slots : Nat) (r : (VV × CS) × Nat × Nat), CW ρ P ad st H → va_S (MA wC ad s.heap.size) s.heap H locs → lv_has ls 4 [] → res.1 = r.1 → cells + r.2.1 ≤ res.2.1 → slots + r.2.2 ≤ res.2.2 → ki_of_271 st z0 = some r → W p l e ({ frames := 16, cells := res.2.1, slots := res.2.2, locals := 698 } : Room) s m args below meth c H locs cells slots (MQ below (mQ (fun v H1 => ∃ x : Nat, v = some (.ref x) ∧ isV ρ P H1 x res.1.1 ∧ CW ρ P ad res.1.2 H1) (MA wC ad s.heap.size)) args s res.2.1 res.2.2 (MA wC ad s.heap.size)) (F0 m 271 ls [.int z0]) := by
    intro st z0 H locs ls cells slots r hW hS hl her hc1 hs1 h
    have hSz := hS.1
    unfold ki_of_271 at h
    obtain ⟨q1, rq1, hq1, h, herq1, hccq1, hssq1⟩ := jd_some h
    refine k_callS (pc := 271) (n := 1) X hS (c_vl_ofTruth l ρ _ P z0 q1 hW.2.2.1 hW.2.1  hq1) wd645 wd1339 wd644 wd4 (by decide) ⟨rfl, rfl, Nat.le_of_ble_eq_true rfl, Nat.le_of_ble_eq_true rfl⟩ (As := [.int z0]) (rest := []) rfl rfl hl.1 (Nat.le_of_ble_eq_true rfl) d85_271 ⟨room_le hccq1 hc1, room_le hssq1 hs1⟩ (fun q hq => hAz q (Nat.le_trans hS.1 hq)) (fun v H1 locs1 hv hz1 hz2 hSq1 => ?_)
    obtain ⟨u2, rfl, fu2⟩ := hv
    have hk : kp no _ H1 := kp_call hz1 hz2 (fun q hq z => absurd hq (Nat.not_lt.mpr z))
    have hW := hW.keep hk no_hz (fun _ _ z => z)
    have hS := hSq1
    have hSz := hS.1
    have her := her.trans herq1
    have hc1 := room_st hccq1 hc1
    have hs1 := room_st hssq1 hs1
    have her : res.1 = (q1.1, st) := her.trans (congrArg Prod.fst (Option.some.inj h)).symm
    exact m_aret (pc := 274) hx hb hr (Or.inl ⟨_, rfl⟩) hlk hS ⟨u2, rfl, by rw [her]; exact fu2, by rw [her]; exact hW⟩ (Nat.le_trans (Nat.le_add_right _ _) hc1) (Nat.le_trans (Nat.le_add_right _ _) hs1) d85_274
  have kc249 : ∀ (st : CS) (z0 : Int32) (H : Heap) (locs : List Loc) (ls : Array Slot) (cells slots : Nat) (r : (VV × CS) × Nat × Nat), CW ρ P ad st H → va_S (MA wC ad s.heap.size) s.heap H locs → lv_has ls 4 [] → res.1 = r.1 → cells + r.2.1 ≤ res.2.1 → slots + r.2.2 ≤ res.2.2 → ki_of_249 st z0 = some r → W p l e ({ frames := 16, cells := res.2.1, slots := res.2.2, locals := 698 } : Room) s m args below meth c H locs cells slots (MQ below (mQ (fun v H1 => ∃ x : Nat, v = some (.ref x) ∧ isV ρ P H1 x res.1.1 ∧ CW ρ P ad res.1.2 H1) (MA wC ad s.heap.size)) args s res.2.1 res.2.2 (MA wC ad s.heap.size)) (F0 m 249 ls [.int z0]) := by
    intro st z0 H locs ls cells slots r hW hS hl her hc1 hs1 h
    have hSz := hS.1
    unfold ki_of_249 at h
    obtain ⟨q3, rq3, hq3, h, herq3, hccq3, hssq3⟩ := jd_some h
    refine k_callS (pc := 249) (n := 1) X hS (c_vl_ofTruth l ρ _ P z0 q3 hW.2.2.1 hW.2.1  hq3) wd645 wd1339 wd644 wd4 (by decide) ⟨rfl, rfl, Nat.le_of_ble_eq_true rfl, Nat.le_of_ble_eq_true rfl⟩ (As := [.int z0]) (rest := []) rfl rfl hl.1 (Nat.le_of_ble_eq_true rfl) d85_249 ⟨room_le hccq3 hc1, room_le hssq3 hs1⟩ (fun q hq => hAz q (Nat.le_trans hS.1 hq)) (fun v H1 locs1 hv hz1 hz2 hSq3 => ?_)
    obtain ⟨u4, rfl, fu4⟩ := hv
    have hk : kp no _ H1 := kp_call hz1 hz2 (fun q hq z => absurd hq (Nat.not_lt.mpr z))
    have hW := hW.keep hk no_hz (fun _ _ z => z)
    have hS := hSq3
    have hSz := hS.1
    have her := her.trans herq3
    have hc1 := room_st hccq3 hc1
    have hs1 := room_st hssq3 hs1
    have her : res.1 = (q3.1, st) := her.trans (congrArg Prod.fst (Option.some.inj h)).symm
    exact m_aret (pc := 252) hx hb hr (Or.inl ⟨_, rfl⟩) hlk hS ⟨u4, rfl, by rw [her]; exact fu4, by rw [her]; exact hW⟩ (Nat.le_trans (Nat.le_add_right _ _) hc1) (Nat.le_trans (Nat.le_add_right _ _) hs1) d85_252
  have kc222 : ∀ (st : CS) (z0 : Int32) (H : Heap) (locs : List Loc) (ls : Array Slot) (cells slots : Nat) (r : (VV × CS) × Nat × Nat), CW ρ P ad st H → va_S (MA wC ad s.heap.size) s.heap H locs → lv_has ls 4 [] → res.1 = r.1 → cells + r.2.1 ≤ res.2.1 → slots + r.2.2 ≤ res.2.2 → ki_of_222 st z0 = some r → W p l e ({ frames := 16, cells := res.2.1, slots := res.2.2, locals := 698 } : Room) s m args below meth c H locs cells slots (MQ below (mQ (fun v H1 => ∃ x : Nat, v = some (.ref x) ∧ isV ρ P H1 x res.1.1 ∧ CW ρ P ad res.1.2 H1) (MA wC ad s.heap.size)) args s res.2.1 res.2.2 (MA wC ad s.heap.size)) (F0 m 222 ls [.int z0]) := by
    intro st z0 H locs ls cells slots r hW hS hl her hc1 hs1 h
    have hSz := hS.1
    unfold ki_of_222 at h
    obtain ⟨q5, rq5, hq5, h, herq5, hccq5, hssq5⟩ := jd_some h
    refine k_callS (pc := 222) (n := 1) X hS (c_vl_ofTruth l ρ _ P z0 q5 hW.2.2.1 hW.2.1  hq5) wd645 wd1339 wd644 wd4 (by decide) ⟨rfl, rfl, Nat.le_of_ble_eq_true rfl, Nat.le_of_ble_eq_true rfl⟩ (As := [.int z0]) (rest := []) rfl rfl hl.1 (Nat.le_of_ble_eq_true rfl) d85_222 ⟨room_le hccq5 hc1, room_le hssq5 hs1⟩ (fun q hq => hAz q (Nat.le_trans hS.1 hq)) (fun v H1 locs1 hv hz1 hz2 hSq5 => ?_)
    obtain ⟨u6, rfl, fu6⟩ := hv
    have hk : kp no _ H1 := kp_call hz1 hz2 (fun q hq z => absurd hq (Nat.not_lt.mpr z))
    have hW := hW.keep hk no_hz (fun _ _ z => z)
    have hS := hSq5
    have hSz := hS.1
    have her := her.trans herq5
    have hc1 := room_st hccq5 hc1
    have hs1 := room_st hssq5 hs1
    have her : res.1 = (q5.1, st) := her.trans (congrArg Prod.fst (Option.some.inj h)).symm
    exact m_aret (pc := 225) hx hb hr (Or.inl ⟨_, rfl⟩) hlk hS ⟨u6, rfl, by rw [her]; exact fu6, by rw [her]; exact hW⟩ (Nat.le_trans (Nat.le_add_right _ _) hc1) (Nat.le_trans (Nat.le_add_right _ _) hs1) d85_225
  have kc221 : ∀ (st : CS) (H : Heap) (locs : List Loc) (ls : Array Slot) (cells slots : Nat) (r : (VV × CS) × Nat × Nat), CW ρ P ad st H → va_S (MA wC ad s.heap.size) s.heap H locs → lv_has ls 4 [] → res.1 = r.1 → cells + r.2.1 ≤ res.2.1 → slots + r.2.2 ≤ res.2.2 → ki_of_221 st = some r → W p l e ({ frames := 16, cells := res.2.1, slots := res.2.2, locals := 698 } : Room) s m args below meth c H locs cells slots (MQ below (mQ (fun v H1 => ∃ x : Nat, v = some (.ref x) ∧ isV ρ P H1 x res.1.1 ∧ CW ρ P ad res.1.2 H1) (MA wC ad s.heap.size)) args s res.2.1 res.2.2 (MA wC ad s.heap.size)) (F0 m 221 ls []) := by
    intro st H locs ls cells slots r hW hS hl her hc1 hs1 h
    have hSz := hS.1
    unfold ki_of_221 at h
    refine lv_iconst (pc := 221) (v := 0) hx hb d85_221 (by decide) ?_
    exact kc222   st 0 _ _ _ _ _ _ hW hS (lv_sub hl [] rfl) her hc1 hs1 h
  have kc201 : ∀ (st : CS) (z0 : Int32) (H : Heap) (locs : List Loc) (ls : Array Slot) (cells slots : Nat) (r : (VV × CS) × Nat × Nat), CW ρ P ad st H → va_S (MA wC ad s.heap.size) s.heap H locs → lv_has ls 4 [] → res.1 = r.1 → cells + r.2.1 ≤ res.2.1 → slots + r.2.2 ≤ res.2.2 → ki_of_201 st z0 = some r → W p l e ({ frames := 16, cells := res.2.1, slots := res.2.2, locals := 698 } : Room) s m args below meth c H locs cells slots (MQ below (mQ (fun v H1 => ∃ x : Nat, v = some (.ref x) ∧ isV ρ P H1 x res.1.1 ∧ CW ρ P ad res.1.2 H1) (MA wC ad s.heap.size)) args s res.2.1 res.2.2 (MA wC ad s.heap.size)) (F0 m 201 ls [.int z0]) := by
    intro st z0 H locs ls cells slots r hW hS hl her hc1 hs1 h
    have hSz := hS.1
    unfold ki_of_201 at h
    obtain ⟨q7, rq7, hq7, h, herq7, hccq7, hssq7⟩ := jd_some h
    refine k_callS (pc := 201) (n := 1) X hS (c_vl_ofTruth l ρ _ P z0 q7 hW.2.2.1 hW.2.1  hq7) wd645 wd1339 wd644 wd4 (by decide) ⟨rfl, rfl, Nat.le_of_ble_eq_true rfl, Nat.le_of_ble_eq_true rfl⟩ (As := [.int z0]) (rest := []) rfl rfl hl.1 (Nat.le_of_ble_eq_true rfl) d85_201 ⟨room_le hccq7 hc1, room_le hssq7 hs1⟩ (fun q hq => hAz q (Nat.le_trans hS.1 hq)) (fun v H1 locs1 hv hz1 hz2 hSq7 => ?_)
    obtain ⟨u8, rfl, fu8⟩ := hv
    have hk : kp no _ H1 := kp_call hz1 hz2 (fun q hq z => absurd hq (Nat.not_lt.mpr z))
    have hW := hW.keep hk no_hz (fun _ _ z => z)
    have hS := hSq7
    have hSz := hS.1
    have her := her.trans herq7
    have hc1 := room_st hccq7 hc1
    have hs1 := room_st hssq7 hs1
    have her : res.1 = (q7.1, st) := her.trans (congrArg Prod.fst (Option.some.inj h)).symm
    exact m_aret (pc := 204) hx hb hr (Or.inl ⟨_, rfl⟩) hlk hS ⟨u8, rfl, by rw [her]; exact fu8, by rw [her]; exact hW⟩ (Nat.le_trans (Nat.le_add_right _ _) hc1) (Nat.le_trans (Nat.le_add_right _ _) hs1) d85_204
  have kc184 : ∀ (st : CS) (z0 : Int32) (H : Heap) (locs : List Loc) (ls : Array Slot) (cells slots : Nat) (r : (VV × CS) × Nat × Nat), CW ρ P ad st H → va_S (MA wC ad s.heap.size) s.heap H locs → lv_has ls 4 [] → res.1 = r.1 → cells + r.2.1 ≤ res.2.1 → slots + r.2.2 ≤ res.2.2 → ki_of_184 st z0 = some r → W p l e ({ frames := 16, cells := res.2.1, slots := res.2.2, locals := 698 } : Room) s m args below meth c H locs cells slots (MQ below (mQ (fun v H1 => ∃ x : Nat, v = some (.ref x) ∧ isV ρ P H1 x res.1.1 ∧ CW ρ P ad res.1.2 H1) (MA wC ad s.heap.size)) args s res.2.1 res.2.2 (MA wC ad s.heap.size)) (F0 m 184 ls [.int z0]) := by
    intro st z0 H locs ls cells slots r hW hS hl her hc1 hs1 h
    have hSz := hS.1
    unfold ki_of_184 at h
    obtain ⟨q9, rq9, hq9, h, herq9, hccq9, hssq9⟩ := jd_some h
    refine k_callS (pc := 184) (n := 1) X hS (c_vl_ofTruth l ρ _ P z0 q9 hW.2.2.1 hW.2.1  hq9) wd645 wd1339 wd644 wd4 (by decide) ⟨rfl, rfl, Nat.le_of_ble_eq_true rfl, Nat.le_of_ble_eq_true rfl⟩ (As := [.int z0]) (rest := []) rfl rfl hl.1 (Nat.le_of_ble_eq_true rfl) d85_184 ⟨room_le hccq9 hc1, room_le hssq9 hs1⟩ (fun q hq => hAz q (Nat.le_trans hS.1 hq)) (fun v H1 locs1 hv hz1 hz2 hSq9 => ?_)
    obtain ⟨u10, rfl, fu10⟩ := hv
    have hk : kp no _ H1 := kp_call hz1 hz2 (fun q hq z => absurd hq (Nat.not_lt.mpr z))
    have hW := hW.keep hk no_hz (fun _ _ z => z)
    have hS := hSq9
    have hSz := hS.1
    have her := her.trans herq9
    have hc1 := room_st hccq9 hc1
    have hs1 := room_st hssq9 hs1
    have her : res.1 = (q9.1, st) := her.trans (congrArg Prod.fst (Option.some.inj h)).symm
    exact m_aret (pc := 187) hx hb hr (Or.inl ⟨_, rfl⟩) hlk hS ⟨u10, rfl, by rw [her]; exact fu10, by rw [her]; exact hW⟩ (Nat.le_trans (Nat.le_add_right _ _) hc1) (Nat.le_trans (Nat.le_add_right _ _) hs1) d85_187
  have kc167 : ∀ (st : CS) (z0 : Int32) (H : Heap) (locs : List Loc) (ls : Array Slot) (cells slots : Nat) (r : (VV × CS) × Nat × Nat), CW ρ P ad st H → va_S (MA wC ad s.heap.size) s.heap H locs → lv_has ls 4 [] → res.1 = r.1 → cells + r.2.1 ≤ res.2.1 → slots + r.2.2 ≤ res.2.2 → ki_of_167 st z0 = some r → W p l e ({ frames := 16, cells := res.2.1, slots := res.2.2, locals := 698 } : Room) s m args below meth c H locs cells slots (MQ below (mQ (fun v H1 => ∃ x : Nat, v = some (.ref x) ∧ isV ρ P H1 x res.1.1 ∧ CW ρ P ad res.1.2 H1) (MA wC ad s.heap.size)) args s res.2.1 res.2.2 (MA wC ad s.heap.size)) (F0 m 167 ls [.int z0]) := by
    intro st z0 H locs ls cells slots r hW hS hl her hc1 hs1 h
    have hSz := hS.1
    unfold ki_of_167 at h
    obtain ⟨q11, rq11, hq11, h, herq11, hccq11, hssq11⟩ := jd_some h
    refine k_callS (pc := 167) (n := 1) X hS (c_vl_ofTruth l ρ _ P z0 q11 hW.2.2.1 hW.2.1  hq11) wd645 wd1339 wd644 wd4 (by decide) ⟨rfl, rfl, Nat.le_of_ble_eq_true rfl, Nat.le_of_ble_eq_true rfl⟩ (As := [.int z0]) (rest := []) rfl rfl hl.1 (Nat.le_of_ble_eq_true rfl) d85_167 ⟨room_le hccq11 hc1, room_le hssq11 hs1⟩ (fun q hq => hAz q (Nat.le_trans hS.1 hq)) (fun v H1 locs1 hv hz1 hz2 hSq11 => ?_)
    obtain ⟨u12, rfl, fu12⟩ := hv
    have hk : kp no _ H1 := kp_call hz1 hz2 (fun q hq z => absurd hq (Nat.not_lt.mpr z))
    have hW := hW.keep hk no_hz (fun _ _ z => z)
    have hS := hSq11
    have hSz := hS.1
    have her := her.trans herq11
    have hc1 := room_st hccq11 hc1
    have hs1 := room_st hssq11 hs1
    have her : res.1 = (q11.1, st) := her.trans (congrArg Prod.fst (Option.some.inj h)).symm
    exact m_aret (pc := 170) hx hb hr (Or.inl ⟨_, rfl⟩) hlk hS ⟨u12, rfl, by rw [her]; exact fu12, by rw [her]; exact hW⟩ (Nat.le_trans (Nat.le_add_right _ _) hc1) (Nat.le_trans (Nat.le_add_right _ _) hs1) d85_170
  have kc150 : ∀ (st : CS) (z0 : Int32) (H : Heap) (locs : List Loc) (ls : Array Slot) (cells slots : Nat) (r : (VV × CS) × Nat × Nat), CW ρ P ad st H → va_S (MA wC ad s.heap.size) s.heap H locs → lv_has ls 4 [] → res.1 = r.1 → cells + r.2.1 ≤ res.2.1 → slots + r.2.2 ≤ res.2.2 → ki_of_150 st z0 = some r → W p l e ({ frames := 16, cells := res.2.1, slots := res.2.2, locals := 698 } : Room) s m args below meth c H locs cells slots (MQ below (mQ (fun v H1 => ∃ x : Nat, v = some (.ref x) ∧ isV ρ P H1 x res.1.1 ∧ CW ρ P ad res.1.2 H1) (MA wC ad s.heap.size)) args s res.2.1 res.2.2 (MA wC ad s.heap.size)) (F0 m 150 ls [.int z0]) := by
    intro st z0 H locs ls cells slots r hW hS hl her hc1 hs1 h
    have hSz := hS.1
    unfold ki_of_150 at h
    obtain ⟨q13, rq13, hq13, h, herq13, hccq13, hssq13⟩ := jd_some h
    refine k_callS (pc := 150) (n := 1) X hS (c_vl_ofTruth l ρ _ P z0 q13 hW.2.2.1 hW.2.1  hq13) wd645 wd1339 wd644 wd4 (by decide) ⟨rfl, rfl, Nat.le_of_ble_eq_true rfl, Nat.le_of_ble_eq_true rfl⟩ (As := [.int z0]) (rest := []) rfl rfl hl.1 (Nat.le_of_ble_eq_true rfl) d85_150 ⟨room_le hccq13 hc1, room_le hssq13 hs1⟩ (fun q hq => hAz q (Nat.le_trans hS.1 hq)) (fun v H1 locs1 hv hz1 hz2 hSq13 => ?_)
    obtain ⟨u14, rfl, fu14⟩ := hv
    have hk : kp no _ H1 := kp_call hz1 hz2 (fun q hq z => absurd hq (Nat.not_lt.mpr z))
    have hW := hW.keep hk no_hz (fun _ _ z => z)
    have hS := hSq13
    have hSz := hS.1
    have her := her.trans herq13
    have hc1 := room_st hccq13 hc1
    have hs1 := room_st hssq13 hs1
    have her : res.1 = (q13.1, st) := her.trans (congrArg Prod.fst (Option.some.inj h)).symm
    exact m_aret (pc := 153) hx hb hr (Or.inl ⟨_, rfl⟩) hlk hS ⟨u14, rfl, by rw [her]; exact fu14, by rw [her]; exact hW⟩ (Nat.le_trans (Nat.le_add_right _ _) hc1) (Nat.le_trans (Nat.le_add_right _ _) hs1) d85_153
  have kc133 : ∀ (st : CS) (z0 : Int32) (H : Heap) (locs : List Loc) (ls : Array Slot) (cells slots : Nat) (r : (VV × CS) × Nat × Nat), CW ρ P ad st H → va_S (MA wC ad s.heap.size) s.heap H locs → lv_has ls 4 [] → res.1 = r.1 → cells + r.2.1 ≤ res.2.1 → slots + r.2.2 ≤ res.2.2 → ki_of_133 st z0 = some r → W p l e ({ frames := 16, cells := res.2.1, slots := res.2.2, locals := 698 } : Room) s m args below meth c H locs cells slots (MQ below (mQ (fun v H1 => ∃ x : Nat, v = some (.ref x) ∧ isV ρ P H1 x res.1.1 ∧ CW ρ P ad res.1.2 H1) (MA wC ad s.heap.size)) args s res.2.1 res.2.2 (MA wC ad s.heap.size)) (F0 m 133 ls [.int z0]) := by
    intro st z0 H locs ls cells slots r hW hS hl her hc1 hs1 h
    have hSz := hS.1
    unfold ki_of_133 at h
    obtain ⟨q15, rq15, hq15, h, herq15, hccq15, hssq15⟩ := jd_some h
    refine k_callS (pc := 133) (n := 1) X hS (c_vl_ofTruth l ρ _ P z0 q15 hW.2.2.1 hW.2.1  hq15) wd645 wd1339 wd644 wd4 (by decide) ⟨rfl, rfl, Nat.le_of_ble_eq_true rfl, Nat.le_of_ble_eq_true rfl⟩ (As := [.int z0]) (rest := []) rfl rfl hl.1 (Nat.le_of_ble_eq_true rfl) d85_133 ⟨room_le hccq15 hc1, room_le hssq15 hs1⟩ (fun q hq => hAz q (Nat.le_trans hS.1 hq)) (fun v H1 locs1 hv hz1 hz2 hSq15 => ?_)
    obtain ⟨u16, rfl, fu16⟩ := hv
    have hk : kp no _ H1 := kp_call hz1 hz2 (fun q hq z => absurd hq (Nat.not_lt.mpr z))
    have hW := hW.keep hk no_hz (fun _ _ z => z)
    have hS := hSq15
    have hSz := hS.1
    have her := her.trans herq15
    have hc1 := room_st hccq15 hc1
    have hs1 := room_st hssq15 hs1
    have her : res.1 = (q15.1, st) := her.trans (congrArg Prod.fst (Option.some.inj h)).symm
    exact m_aret (pc := 136) hx hb hr (Or.inl ⟨_, rfl⟩) hlk hS ⟨u16, rfl, by rw [her]; exact fu16, by rw [her]; exact hW⟩ (Nat.le_trans (Nat.le_add_right _ _) hc1) (Nat.le_trans (Nat.le_add_right _ _) hs1) d85_136
  have kc116 : ∀ (st : CS) (z0 : Int32) (H : Heap) (locs : List Loc) (ls : Array Slot) (cells slots : Nat) (r : (VV × CS) × Nat × Nat), CW ρ P ad st H → va_S (MA wC ad s.heap.size) s.heap H locs → lv_has ls 4 [] → res.1 = r.1 → cells + r.2.1 ≤ res.2.1 → slots + r.2.2 ≤ res.2.2 → ki_of_116 st z0 = some r → W p l e ({ frames := 16, cells := res.2.1, slots := res.2.2, locals := 698 } : Room) s m args below meth c H locs cells slots (MQ below (mQ (fun v H1 => ∃ x : Nat, v = some (.ref x) ∧ isV ρ P H1 x res.1.1 ∧ CW ρ P ad res.1.2 H1) (MA wC ad s.heap.size)) args s res.2.1 res.2.2 (MA wC ad s.heap.size)) (F0 m 116 ls [.int z0]) := by
    intro st z0 H locs ls cells slots r hW hS hl her hc1 hs1 h
    have hSz := hS.1
    unfold ki_of_116 at h
    obtain ⟨q17, rq17, hq17, h, herq17, hccq17, hssq17⟩ := jd_some h
    refine k_callS (pc := 116) (n := 1) X hS (c_vl_ofTruth l ρ _ P z0 q17 hW.2.2.1 hW.2.1  hq17) wd645 wd1339 wd644 wd4 (by decide) ⟨rfl, rfl, Nat.le_of_ble_eq_true rfl, Nat.le_of_ble_eq_true rfl⟩ (As := [.int z0]) (rest := []) rfl rfl hl.1 (Nat.le_of_ble_eq_true rfl) d85_116 ⟨room_le hccq17 hc1, room_le hssq17 hs1⟩ (fun q hq => hAz q (Nat.le_trans hS.1 hq)) (fun v H1 locs1 hv hz1 hz2 hSq17 => ?_)
    obtain ⟨u18, rfl, fu18⟩ := hv
    have hk : kp no _ H1 := kp_call hz1 hz2 (fun q hq z => absurd hq (Nat.not_lt.mpr z))
    have hW := hW.keep hk no_hz (fun _ _ z => z)
    have hS := hSq17
    have hSz := hS.1
    have her := her.trans herq17
    have hc1 := room_st hccq17 hc1
    have hs1 := room_st hssq17 hs1
    have her : res.1 = (q17.1, st) := her.trans (congrArg Prod.fst (Option.some.inj h)).symm
    exact m_aret (pc := 119) hx hb hr (Or.inl ⟨_, rfl⟩) hlk hS ⟨u18, rfl, by rw [her]; exact fu18, by rw [her]; exact hW⟩ (Nat.le_trans (Nat.le_add_right _ _) hc1) (Nat.le_trans (Nat.le_add_right _ _) hs1) d85_119
  have kc34 : ∀ (st : CS) (x1 : Int32) (x2 : VV) (z0 : Int32) (ax2 : Nat) (H : Heap) (locs : List Loc) (ls : Array Slot) (cells slots : Nat) (r : (VV × CS) × Nat × Nat), CW ρ P ad st H → va_S (MA wC ad s.heap.size) s.heap H locs → isV ρ P H ax2 x2 → lv_has ls 4 [(0, .ref (ad 6)), (1, .int x1), (2, .ref ax2)] → res.1 = r.1 → cells + r.2.1 ≤ res.2.1 → slots + r.2.2 ≤ res.2.2 → ki_of_34 st x1 x2 z0 = some r → W p l e ({ frames := 16, cells := res.2.1, slots := res.2.2, locals := 698 } : Room) s m args below meth c H locs cells slots (MQ below (mQ (fun v H1 => ∃ x : Nat, v = some (.ref x) ∧ isV ρ P H1 x res.1.1 ∧ CW ρ P ad res.1.2 H1) (MA wC ad s.heap.size)) args s res.2.1 res.2.2 (MA wC ad s.heap.size)) (F0 m 34 ls [.int z0]) := by
    intro st x1 x2 z0 ax2 H locs ls cells slots r hW hS fax2 hl her hc1 hs1 h
    have hSz := hS.1
    unfold ki_of_34 at h
    refine lv_istore_n (pc := 34) (lv' := [(3, .int z0), (0, .ref (ad 6)), (1, .int x1), (2, .ref ax2)]) hx hb d85_34 rfl hl (by decide) rfl (fun ls hl => ?_)
    refine lv_iload_n (pc := 35) hx hb d85_35 rfl (lv_at hl 2 rfl) ?_
    by_cases c36_119 : x1 = 119
    · have h := jb_t c36_119 h
      refine lv_tableIn (pc := 36) (off := 68) (tgt := 104) hx hb d85_36 (by rw [c36_119]; decide) (by rw [c36_119]; decide) (by rw [c36_119]; rfl) (by decide) ?_
      refine lv_aload_n (pc := 104) hx hb d85_104 rfl (lv_at hl 3 rfl) ?_
      refine v_kind (pc := 105) X fax2 wd76 d85_105 ?_
      refine lv_if_ne (pc := 108) (tgt := 115) hx hb d85_108 (by decide) (fun c108 => ?_) (fun c108 => ?_)
      · have h := jb_f c108 h
        refine lv_iconst (pc := 115) (v := 0) hx hb d85_115 (by decide) ?_
        exact kc116   st 0 _ _ _ _ _ _ hW hS (lv_sub hl [] rfl) her hc1 hs1 h
      · have h := jb_t c108 h
        refine lv_iconst (pc := 111) (v := 1) hx hb d85_111 (by decide) ?_
        refine lv_goto (pc := 112) (tgt := 116) hx hb d85_112 (by decide) ?_
        exact kc116   st 1 _ _ _ _ _ _ hW hS (lv_sub hl [] rfl) her hc1 hs1 h
    have h := jb_f c36_119 h
    by_cases c36_120 : x1 = 120
    · have h := jb_t c36_120 h
      refine lv_tableIn (pc := 36) (off := 84) (tgt := 120) hx hb d85_36 (by rw [c36_120]; decide) (by rw [c36_120]; decide) (by rw [c36_120]; rfl) (by decide) ?_
      refine lv_aload_n (pc := 120) hx hb d85_120 rfl (lv_at hl 3 rfl) ?_
      refine v_kind (pc := 121) X fax2 wd76 d85_121 ?_
      refine lv_iconst (pc := 124) (v := 1) hx hb d85_124 (by decide) ?_
      refine lv_icmp_ne (pc := 125) (tgt := 132) hx hb d85_125 (by decide) (fun c125 => ?_) (fun c125 => ?_)
      · have h := jb_f c125 h
        refine lv_iconst (pc := 132) (v := 0) hx hb d85_132 (by decide) ?_
        exact kc133   st 0 _ _ _ _ _ _ hW hS (lv_sub hl [] rfl) her hc1 hs1 h
      · have h := jb_t c125 h
        refine lv_iconst (pc := 128) (v := 1) hx hb d85_128 (by decide) ?_
        refine lv_goto (pc := 129) (tgt := 133) hx hb d85_129 (by decide) ?_
        exact kc133   st 1 _ _ _ _ _ _ hW hS (lv_sub hl [] rfl) her hc1 hs1 h
    have h := jb_f c36_120 h
    by_cases c36_121 : x1 = 121
    · have h := jb_t c36_121 h
      refine lv_tableIn (pc := 36) (off := 101) (tgt := 137) hx hb d85_36 (by rw [c36_121]; decide) (by rw [c36_121]; decide) (by rw [c36_121]; rfl) (by decide) ?_
      refine lv_aload_n (pc := 137) hx hb d85_137 rfl (lv_at hl 3 rfl) ?_
      refine v_kind (pc := 138) X fax2 wd76 d85_138 ?_
      refine lv_iconst (pc := 141) (v := 2) hx hb d85_141 (by decide) ?_
      refine lv_icmp_ne (pc := 142) (tgt := 149) hx hb d85_142 (by decide) (fun c142 => ?_) (fun c142 => ?_)
      · have h := jb_f c142 h
        refine lv_iconst (pc := 149) (v := 0) hx hb d85_149 (by decide) ?_
        exact kc150   st 0 _ _ _ _ _ _ hW hS (lv_sub hl [] rfl) her hc1 hs1 h
      · have h := jb_t c142 h
        refine lv_iconst (pc := 145) (v := 1) hx hb d85_145 (by decide) ?_
        refine lv_goto (pc := 146) (tgt := 150) hx hb d85_146 (by decide) ?_
        exact kc150   st 1 _ _ _ _ _ _ hW hS (lv_sub hl [] rfl) her hc1 hs1 h
    have h := jb_f c36_121 h
    by_cases c36_122 : x1 = 122
    · have h := jb_t c36_122 h
      refine lv_tableIn (pc := 36) (off := 118) (tgt := 154) hx hb d85_36 (by rw [c36_122]; decide) (by rw [c36_122]; decide) (by rw [c36_122]; rfl) (by decide) ?_
      refine lv_aload_n (pc := 154) hx hb d85_154 rfl (lv_at hl 3 rfl) ?_
      refine v_kind (pc := 155) X fax2 wd76 d85_155 ?_
      refine lv_iconst (pc := 158) (v := 2) hx hb d85_158 (by decide) ?_
      refine lv_icmp_eq (pc := 159) (tgt := 166) hx hb d85_159 (by decide) (fun c159 => ?_) (fun c159 => ?_)
      · have h := jb_t c159 h
        refine lv_iconst (pc := 166) (v := 0) hx hb d85_166 (by decide) ?_
        exact kc167   st 0 _ _ _ _ _ _ hW hS (lv_sub hl [] rfl) her hc1 hs1 h
      · have h := jb_f c159 h
        refine lv_iconst (pc := 162) (v := 1) hx hb d85_162 (by decide) ?_
        refine lv_goto (pc := 163) (tgt := 167) hx hb d85_163 (by decide) ?_
        exact kc167   st 1 _ _ _ _ _ _ hW hS (lv_sub hl [] rfl) her hc1 hs1 h
    have h := jb_f c36_122 h
    by_cases c36_123 : x1 = 123
    · have h := jb_t c36_123 h
      refine lv_tableIn (pc := 36) (off := 135) (tgt := 171) hx hb d85_36 (by rw [c36_123]; decide) (by rw [c36_123]; decide) (by rw [c36_123]; rfl) (by decide) ?_
      refine lv_aload_n (pc := 171) hx hb d85_171 rfl (lv_at hl 3 rfl) ?_
      refine v_kind (pc := 172) X fax2 wd76 d85_172 ?_
      refine lv_iconst (pc := 175) (v := 3) hx hb d85_175 (by decide) ?_
      refine lv_icmp_ne (pc := 176) (tgt := 183) hx hb d85_176 (by decide) (fun c176 => ?_) (fun c176 => ?_)
      · have h := jb_f c176 h
        refine lv_iconst (pc := 183) (v := 0) hx hb d85_183 (by decide) ?_
        exact kc184   st 0 _ _ _ _ _ _ hW hS (lv_sub hl [] rfl) her hc1 hs1 h
      · have h := jb_t c176 h
        refine lv_iconst (pc := 179) (v := 1) hx hb d85_179 (by decide) ?_
        refine lv_goto (pc := 180) (tgt := 184) hx hb d85_180 (by decide) ?_
        exact kc184   st 1 _ _ _ _ _ _ hW hS (lv_sub hl [] rfl) her hc1 hs1 h
    have h := jb_f c36_123 h
    by_cases c36_124 : x1 = 124
    · have h := jb_t c36_124 h
      refine lv_tableIn (pc := 36) (off := 152) (tgt := 188) hx hb d85_36 (by rw [c36_124]; decide) (by rw [c36_124]; decide) (by rw [c36_124]; rfl) (by decide) ?_
      refine lv_aload_n (pc := 188) hx hb d85_188 rfl (lv_at hl 3 rfl) ?_
      refine v_kind (pc := 189) X fax2 wd76 d85_189 ?_
      refine lv_iconst (pc := 192) (v := 4) hx hb d85_192 (by decide) ?_
      refine lv_icmp_ne (pc := 193) (tgt := 200) hx hb d85_193 (by decide) (fun c193 => ?_) (fun c193 => ?_)
      · have h := jb_f c193 h
        refine lv_iconst (pc := 200) (v := 0) hx hb d85_200 (by decide) ?_
        exact kc201   st 0 _ _ _ _ _ _ hW hS (lv_sub hl [] rfl) her hc1 hs1 h
      · have h := jb_t c193 h
        refine lv_iconst (pc := 196) (v := 1) hx hb d85_196 (by decide) ?_
        refine lv_goto (pc := 197) (tgt := 201) hx hb d85_197 (by decide) ?_
        exact kc201   st 1 _ _ _ _ _ _ hW hS (lv_sub hl [] rfl) her hc1 hs1 h
    have h := jb_f c36_124 h
    by_cases c36_125 : x1 = 125
    · have h := jb_t c36_125 h
      refine lv_tableIn (pc := 36) (off := 169) (tgt := 205) hx hb d85_36 (by rw [c36_125]; decide) (by rw [c36_125]; decide) (by rw [c36_125]; rfl) (by decide) ?_
      refine lv_aload_n (pc := 205) hx hb d85_205 rfl (lv_at hl 3 rfl) ?_
      refine v_kind (pc := 206) X fax2 wd76 d85_206 ?_
      refine lv_iconst (pc := 209) (v := 4) hx hb d85_209 (by decide) ?_
      refine lv_icmp_ne (pc := 210) (tgt := 221) hx hb d85_210 (by decide) (fun c210 => ?_) (fun c210 => ?_)
      · have h := jb_f c210 h
        exact kc221   st _ _ _ _ _ _ hW hS (lv_sub hl [] rfl) her hc1 hs1 h
      · have h := jb_t c210 h
        refine lv_iload_n (pc := 213) hx hb d85_213 rfl (lv_at hl 0 rfl) ?_
        refine lv_if_ne (pc := 214) (tgt := 221) hx hb d85_214 (by decide) (fun c214 => ?_) (fun c214 => ?_)
        · have h := jb_f c214 h
          exact kc221   st _ _ _ _ _ _ hW hS (lv_sub hl [] rfl) her hc1 hs1 h
        · have h := jb_t c214 h
          refine lv_iconst (pc := 217) (v := 1) hx hb d85_217 (by decide) ?_
          refine lv_goto (pc := 218) (tgt := 222) hx hb d85_218 (by decide) ?_
          exact kc222   st 1 _ _ _ _ _ _ hW hS (lv_sub hl [] rfl) her hc1 hs1 h
    have h := jb_f c36_125 h
    by_cases c36_126 : x1 = 126
    · have h := jb_t c36_126 h
      refine lv_tableIn (pc := 36) (off := 190) (tgt := 226) hx hb d85_36 (by rw [c36_126]; decide) (by rw [c36_126]; decide) (by rw [c36_126]; rfl) (by decide) ?_
      refine lv_iload_n (pc := 226) hx hb d85_226 rfl (lv_at hl 0 rfl) ?_
      obtain ⟨q19, rq19, hq19, h, herq19, hccq19, hssq19⟩ := jd_some h
      refine k_callS (pc := 227) (n := 1) X hS (c_vl_ofTruth l ρ _ P z0 q19 hW.2.2.1 hW.2.1  hq19) wd645 wd1339 wd644 wd4 (by decide) ⟨rfl, rfl, Nat.le_of_ble_eq_true rfl, Nat.le_of_ble_eq_true rfl⟩ (As := [.int z0]) (rest := []) rfl rfl hl.1 (Nat.le_of_ble_eq_true rfl) d85_227 ⟨room_le hccq19 hc1, room_le hssq19 hs1⟩ (fun q hq => hAz q (Nat.le_trans hS.1 hq)) (fun v H1 locs1 hv hz1 hz2 hSq19 => ?_)
      obtain ⟨u20, rfl, fu20⟩ := hv
      have hk : kp no _ H1 := kp_call hz1 hz2 (fun q hq z => absurd hq (Nat.not_lt.mpr z))
      have hW := hW.keep hk no_hz (fun _ _ z => z)
      have hS := hSq19
      have hSz := hS.1
      have her := her.trans herq19
      have hc1 := room_st hccq19 hc1
      have hs1 := room_st hssq19 hs1
      have her : res.1 = (q19.1, st) := her.trans (congrArg Prod.fst (Option.some.inj h)).symm
      exact m_aret (pc := 230) hx hb hr (Or.inl ⟨_, rfl⟩) hlk hS ⟨u20, rfl, by rw [her]; exact fu20, by rw [her]; exact hW⟩ (Nat.le_trans (Nat.le_add_right _ _) hc1) (Nat.le_trans (Nat.le_add_right _ _) hs1) d85_230
    have h := jb_f c36_126 h
    by_cases c36_127 : x1 = 127
    · have h := jb_t c36_127 h
      refine lv_tableIn (pc := 36) (off := 195) (tgt := 231) hx hb d85_36 (by rw [c36_127]; decide) (by rw [c36_127]; decide) (by rw [c36_127]; rfl) (by decide) ?_
      refine lv_aload_n (pc := 231) hx hb d85_231 rfl (lv_at hl 1 rfl) ?_
      refine c_getK (pc := 232) X hW 6 0 8 1 (C := "WordFunctions$Kinds") (T := T8) (N := 1) (by decide) rfl rfl rfl rfl tin8 rfl wd238 rfl rfl d85_232 ?_
      refine lv_iconst (pc := 235) (v := 0) hx hb d85_235 (by decide) ?_
      obtain ⟨q21, hq21, h⟩ := jc_some h
      refine k_callV (pc := 236) (n := 1) X hS (c_ar_whole l ρ ad _ P st 0 q21 hW  hq21) wd762 wd1340 wd760 wd761 wd3 (by decide) ⟨rfl, rfl, Nat.le_of_ble_eq_true rfl, Nat.le_of_ble_eq_true rfl⟩ (c_recv X hW 1 3 (by decide) rfl rfl) (As := [.int 0]) (rest := []) rfl rfl hl.1 (Nat.le_of_ble_eq_true rfl) d85_236 ⟨room_l0 hc1, room_l0 hs1⟩ (fun q hq => MA.mono hS.1 hq) (fun v H1 locs1 hv hz1 hz2 hSq21 => ?_)
      have hPq := hW.1
      obtain ⟨rfl, hW⟩ := hv
      have hS := hSq21
      have hSz := hS.1
      refine lv_iconst (pc := 239) (v := 2) hx hb d85_239 (by decide) ?_
      refine lv_irem (pc := 240) hx hb d85_240 (by decide) ?_
      refine lv_if_ne (pc := 241) (tgt := 248) hx hb d85_241 (by decide) (fun c241 => ?_) (fun c241 => ?_)
      · have h := jb_f c241 h
        refine lv_iconst (pc := 248) (v := 0) hx hb d85_248 (by decide) ?_
        exact kc249   q21.2 0 _ _ _ _ _ _ hW hS (lv_sub hl [] rfl) her hc1 hs1 h
      · have h := jb_t c241 h
        refine lv_iconst (pc := 244) (v := 1) hx hb d85_244 (by decide) ?_
        refine lv_goto (pc := 245) (tgt := 249) hx hb d85_245 (by decide) ?_
        exact kc249   q21.2 1 _ _ _ _ _ _ hW hS (lv_sub hl [] rfl) her hc1 hs1 h
    have h := jb_f c36_127 h
    by_cases c36_128 : x1 = 128
    · have h := jb_t c36_128 h
      refine lv_tableIn (pc := 36) (off := 217) (tgt := 253) hx hb d85_36 (by rw [c36_128]; decide) (by rw [c36_128]; decide) (by rw [c36_128]; rfl) (by decide) ?_
      refine lv_aload_n (pc := 253) hx hb d85_253 rfl (lv_at hl 1 rfl) ?_
      refine c_getK (pc := 254) X hW 6 0 8 1 (C := "WordFunctions$Kinds") (T := T8) (N := 1) (by decide) rfl rfl rfl rfl tin8 rfl wd238 rfl rfl d85_254 ?_
      refine lv_iconst (pc := 257) (v := 0) hx hb d85_257 (by decide) ?_
      obtain ⟨q22, hq22, h⟩ := jc_some h
      refine k_callV (pc := 258) (n := 1) X hS (c_ar_whole l ρ ad _ P st 0 q22 hW  hq22) wd762 wd1340 wd760 wd761 wd3 (by decide) ⟨rfl, rfl, Nat.le_of_ble_eq_true rfl, Nat.le_of_ble_eq_true rfl⟩ (c_recv X hW 1 3 (by decide) rfl rfl) (As := [.int 0]) (rest := []) rfl rfl hl.1 (Nat.le_of_ble_eq_true rfl) d85_258 ⟨room_l0 hc1, room_l0 hs1⟩ (fun q hq => MA.mono hS.1 hq) (fun v H1 locs1 hv hz1 hz2 hSq22 => ?_)
      have hPq := hW.1
      obtain ⟨rfl, hW⟩ := hv
      have hS := hSq22
      have hSz := hS.1
      refine lv_iconst (pc := 261) (v := 2) hx hb d85_261 (by decide) ?_
      refine lv_irem (pc := 262) hx hb d85_262 (by decide) ?_
      refine lv_if_eq (pc := 263) (tgt := 270) hx hb d85_263 (by decide) (fun c263 => ?_) (fun c263 => ?_)
      · have h := jb_t c263 h
        refine lv_iconst (pc := 270) (v := 0) hx hb d85_270 (by decide) ?_
        exact kc271   q22.2 0 _ _ _ _ _ _ hW hS (lv_sub hl [] rfl) her hc1 hs1 h
      · have h := jb_f c263 h
        refine lv_iconst (pc := 266) (v := 1) hx hb d85_266 (by decide) ?_
        refine lv_goto (pc := 267) (tgt := 271) hx hb d85_267 (by decide) ?_
        exact kc271   q22.2 1 _ _ _ _ _ _ hW hS (lv_sub hl [] rfl) her hc1 hs1 h
    have h := jb_f c36_128 h
    by_cases c36_129 : x1 = 129
    · have h := jb_t c36_129 h
      refine lv_tableIn (pc := 36) (off := 239) (tgt := 275) hx hb d85_36 (by rw [c36_129]; decide) (by rw [c36_129]; decide) (by rw [c36_129]; rfl) (by decide) ?_
      refine lv_bipush (pc := 275) (v := 7) hx hb d85_275 (by decide) ?_
      obtain ⟨q23, rq23, hq23, h, herq23, hccq23, hssq23⟩ := jd_some h
      refine k_callS (pc := 277) (n := 1) X hS (c_vl_ofError l ρ _ P 7 q23 hW.2.2.1 hW.2.1  hq23) wd651 wd1341 wd650 wd4 (by decide) ⟨rfl, rfl, Nat.le_of_ble_eq_true rfl, Nat.le_of_ble_eq_true rfl⟩ (As := [.int 7]) (rest := []) rfl rfl hl.1 (Nat.le_of_ble_eq_true rfl) d85_277 ⟨room_le hccq23 hc1, room_le hssq23 hs1⟩ (fun q hq => hAz q (Nat.le_trans hS.1 hq)) (fun v H1 locs1 hv hz1 hz2 hSq23 => ?_)
      obtain ⟨u24, rfl, fu24⟩ := hv
      have hk : kp no _ H1 := kp_call hz1 hz2 (fun q hq z => absurd hq (Nat.not_lt.mpr z))
      have hW := hW.keep hk no_hz (fun _ _ z => z)
      have hS := hSq23
      have hSz := hS.1
      have her := her.trans herq23
      have hc1 := room_st hccq23 hc1
      have hs1 := room_st hssq23 hs1
      have her : res.1 = (q23.1, st) := her.trans (congrArg Prod.fst (Option.some.inj h)).symm
      exact m_aret (pc := 280) hx hb hr (Or.inl ⟨_, rfl⟩) hlk hS ⟨u24, rfl, by rw [her]; exact fu24, by rw [her]; exact hW⟩ (Nat.le_trans (Nat.le_add_right _ _) hc1) (Nat.le_trans (Nat.le_add_right _ _) hs1) d85_280
    have h := jb_f c36_129 h
    by_cases c36_130 : x1 = 130
    · have h := jb_t c36_130 h
      refine lv_tableIn (pc := 36) (off := 245) (tgt := 281) hx hb d85_36 (by rw [c36_130]; decide) (by rw [c36_130]; decide) (by rw [c36_130]; rfl) (by decide) ?_
      refine lv_aload_n (pc := 281) hx hb d85_281 rfl (lv_at hl 1 rfl) ?_
      refine lv_aload_n (pc := 282) hx hb d85_282 rfl (lv_at hl 3 rfl) ?_
      obtain ⟨q25, hq25, h⟩ := jc_some h
      refine k_callV (pc := 283) (n := 1) X hS (c_ki_typeOf l ρ ad _ P st ax2 x2 q25 hW fax2 hq25) wd1345 wd1342 wd1344 sl86 wd10 (by decide) ⟨rfl, rfl, Nat.le_of_ble_eq_true rfl, Nat.le_of_ble_eq_true rfl⟩ (c_recv X hW 6 8 (by decide) rfl rfl) (As := [.ref ax2]) (rest := []) rfl rfl hl.1 (Nat.le_of_ble_eq_true rfl) d85_283 ⟨room_l0 hc1, room_l0 hs1⟩ (fun q hq => False.elim hq) (fun v H1 locs1 hv _ _ hSq25 => ?_)
      obtain ⟨rfl, rfl⟩ := hv
      have hS := hSq25
      have hSz := hS.1
      refine lv_i2d (pc := 286) hx hb d85_286 ?_
      obtain ⟨q26, rq26, hq26, h, herq26, hccq26, hssq26⟩ := jd_some h
      refine k_callS (pc := 287) (n := 1) X hS (c_vl_ofNumber l ρ _ P (FP.i2d q25) q26 hW.2.2.1 hW.2.1  hq26) wd642 wd1347 wd641 wd4 (by decide) ⟨rfl, rfl, Nat.le_of_ble_eq_true rfl, Nat.le_of_ble_eq_true rfl⟩ (As := [.double (FP.i2d q25)]) (rest := []) rfl rfl hl.1 (Nat.le_of_ble_eq_true rfl) d85_287 ⟨room_le hccq26 hc1, room_le hssq26 hs1⟩ (fun q hq => hAz q (Nat.le_trans hS.1 hq)) (fun v H1 locs1 hv hz1 hz2 hSq26 => ?_)
      obtain ⟨u27, rfl, fu27⟩ := hv
      have hk : kp no _ H1 := kp_call hz1 hz2 (fun q hq z => absurd hq (Nat.not_lt.mpr z))
      have hW := hW.keep hk no_hz (fun _ _ z => z)
      have hS := hSq26
      have hSz := hS.1
      have her := her.trans herq26
      have hc1 := room_st hccq26 hc1
      have hs1 := room_st hssq26 hs1
      have her : res.1 = (q26.1, st) := her.trans (congrArg Prod.fst (Option.some.inj h)).symm
      exact m_aret (pc := 290) hx hb hr (Or.inl ⟨_, rfl⟩) hlk hS ⟨u27, rfl, by rw [her]; exact fu27, by rw [her]; exact hW⟩ (Nat.le_trans (Nat.le_add_right _ _) hc1) (Nat.le_trans (Nat.le_add_right _ _) hs1) d85_290
    have h := jb_f c36_130 h
    by_cases c36_131 : x1 = 131
    · have h := jb_t c36_131 h
      refine lv_tableIn (pc := 36) (off := 255) (tgt := 291) hx hb d85_36 (by rw [c36_131]; decide) (by rw [c36_131]; decide) (by rw [c36_131]; rfl) (by decide) ?_
      refine lv_aload_n (pc := 291) hx hb d85_291 rfl (lv_at hl 3 rfl) ?_
      refine v_kind (pc := 292) X fax2 wd76 d85_292 ?_
      refine lv_iconst (pc := 295) (v := 4) hx hb d85_295 (by decide) ?_
      refine lv_icmp_ne (pc := 296) (tgt := 309) hx hb d85_296 (by decide) (fun c296 => ?_) (fun c296 => ?_)
      · have h := jb_f c296 h
        refine lv_bipush (pc := 309) (v := 7) hx hb d85_309 (by decide) ?_
        obtain ⟨q28, rq28, hq28, h, herq28, hccq28, hssq28⟩ := jd_some h
        refine k_callS (pc := 311) (n := 1) X hS (c_vl_ofError l ρ _ P 7 q28 hW.2.2.1 hW.2.1  hq28) wd651 wd1341 wd650 wd4 (by decide) ⟨rfl, rfl, Nat.le_of_ble_eq_true rfl, Nat.le_of_ble_eq_true rfl⟩ (As := [.int 7]) (rest := []) rfl rfl hl.1 (Nat.le_of_ble_eq_true rfl) d85_311 ⟨room_le hccq28 hc1, room_le hssq28 hs1⟩ (fun q hq => hAz q (Nat.le_trans hS.1 hq)) (fun v H1 locs1 hv hz1 hz2 hSq28 => ?_)
        obtain ⟨u29, rfl, fu29⟩ := hv
        have hk : kp no _ H1 := kp_call hz1 hz2 (fun q hq z => absurd hq (Nat.not_lt.mpr z))
        have hW := hW.keep hk no_hz (fun _ _ z => z)
        have hS := hSq28
        have hSz := hS.1
        have her := her.trans herq28
        have hc1 := room_st hccq28 hc1
        have hs1 := room_st hssq28 hs1
        have her : res.1 = (q28.1, st) := her.trans (congrArg Prod.fst (Option.some.inj h)).symm
        exact m_aret (pc := 314) hx hb hr (Or.inl ⟨_, rfl⟩) hlk hS ⟨u29, rfl, by rw [her]; exact fu29, by rw [her]; exact hW⟩ (Nat.le_trans (Nat.le_add_right _ _) hc1) (Nat.le_trans (Nat.le_add_right _ _) hs1) d85_314
      · have h := jb_t c296 h
        refine lv_aload_n (pc := 299) hx hb d85_299 rfl (lv_at hl 3 rfl) ?_
        refine v_number (pc := 300) X fax2 wd82 d85_300 ?_
        obtain ⟨q30, rq30, hq30, h, herq30, hccq30, hssq30⟩ := jd_some h
        refine k_callS (pc := 303) (n := 1) X hS (c_vl_ofNumber l ρ _ P x2.2.1 q30 hW.2.2.1 hW.2.1  hq30) wd642 wd1347 wd641 wd4 (by decide) ⟨rfl, rfl, Nat.le_of_ble_eq_true rfl, Nat.le_of_ble_eq_true rfl⟩ (As := [.double x2.2.1]) (rest := []) rfl rfl hl.1 (Nat.le_of_ble_eq_true rfl) d85_303 ⟨room_le hccq30 hc1, room_le hssq30 hs1⟩ (fun q hq => hAz q (Nat.le_trans hS.1 hq)) (fun v H1 locs1 hv hz1 hz2 hSq30 => ?_)
        obtain ⟨u31, rfl, fu31⟩ := hv
        have hk : kp no _ H1 := kp_call hz1 hz2 (fun q hq z => absurd hq (Nat.not_lt.mpr z))
        have hW := hW.keep hk no_hz (fun _ _ z => z)
        have hS := hSq30
        have hSz := hS.1
        have her := her.trans herq30
        have hc1 := room_st hccq30 hc1
        have hs1 := room_st hssq30 hs1
        refine lv_goto (pc := 306) (tgt := 314) hx hb d85_306 (by decide) ?_
        have her : res.1 = (q30.1, st) := her.trans (congrArg Prod.fst (Option.some.inj h)).symm
        exact m_aret (pc := 314) hx hb hr (Or.inl ⟨_, rfl⟩) hlk hS ⟨u31, rfl, by rw [her]; exact fu31, by rw [her]; exact hW⟩ (Nat.le_trans (Nat.le_add_right _ _) hc1) (Nat.le_trans (Nat.le_add_right _ _) hs1) d85_314
    have h := jb_f c36_131 h
    refine lv_tableOut (pc := 36) (tgt := 315) hx hb d85_36 (sw_out 13 (by decide) (by
      intro i hi
      match i, hi with
      | 0, _ => exact fun z => c36_119 (Int32.toInt_inj.mp (by rw [z]; decide))
      | 1, _ => exact fun z => c36_120 (Int32.toInt_inj.mp (by rw [z]; decide))
      | 2, _ => exact fun z => c36_121 (Int32.toInt_inj.mp (by rw [z]; decide))
      | 3, _ => exact fun z => c36_122 (Int32.toInt_inj.mp (by rw [z]; decide))
      | 4, _ => exact fun z => c36_123 (Int32.toInt_inj.mp (by rw [z]; decide))
      | 5, _ => exact fun z => c36_124 (Int32.toInt_inj.mp (by rw [z]; decide))
      | 6, _ => exact fun z => c36_125 (Int32.toInt_inj.mp (by rw [z]; decide))
      | 7, _ => exact fun z => c36_126 (Int32.toInt_inj.mp (by rw [z]; decide))
      | 8, _ => exact fun z => c36_127 (Int32.toInt_inj.mp (by rw [z]; decide))
      | 9, _ => exact fun z => c36_128 (Int32.toInt_inj.mp (by rw [z]; decide))
      | 10, _ => exact fun z => c36_129 (Int32.toInt_inj.mp (by rw [z]; decide))
      | 11, _ => exact fun z => c36_130 (Int32.toInt_inj.mp (by rw [z]; decide))
      | 12, _ => exact fun z => c36_131 (Int32.toInt_inj.mp (by rw [z]; decide))
      | i + 13, q => exact absurd q (by omega))) (by decide) ?_
    refine lv_ldc2d (pc := 315) hx hb X.1.2.2.2.1 (X.ts wd1348) d85_315 ?_
    obtain ⟨q32, rq32, hq32, h, herq32, hccq32, hssq32⟩ := jd_some h
    refine k_callS (pc := 318) (n := 1) X hS (c_vl_ofNumber l ρ _ P (4614256656552045848 : UInt64) q32 hW.2.2.1 hW.2.1  hq32) wd642 wd1347 wd641 wd4 (by decide) ⟨rfl, rfl, Nat.le_of_ble_eq_true rfl, Nat.le_of_ble_eq_true rfl⟩ (As := [.double (4614256656552045848 : UInt64)]) (rest := []) rfl rfl hl.1 (Nat.le_of_ble_eq_true rfl) d85_318 ⟨room_le hccq32 hc1, room_le hssq32 hs1⟩ (fun q hq => hAz q (Nat.le_trans hS.1 hq)) (fun v H1 locs1 hv hz1 hz2 hSq32 => ?_)
    obtain ⟨u33, rfl, fu33⟩ := hv
    have hk : kp no _ H1 := kp_call hz1 hz2 (fun q hq z => absurd hq (Nat.not_lt.mpr z))
    have hW := hW.keep hk no_hz (fun _ _ z => z)
    have hS := hSq32
    have hSz := hS.1
    have her := her.trans herq32
    have hc1 := room_st hccq32 hc1
    have hs1 := room_st hssq32 hs1
    have her : res.1 = (q32.1, st) := her.trans (congrArg Prod.fst (Option.some.inj h)).symm
    exact m_aret (pc := 321) hx hb hr (Or.inl ⟨_, rfl⟩) hlk hS ⟨u33, rfl, by rw [her]; exact fu33, by rw [her]; exact hW⟩ (Nat.le_trans (Nat.le_add_right _ _) hc1) (Nat.le_trans (Nat.le_add_right _ _) hs1) d85_321
  have kc33 : ∀ (st : CS) (x1 : Int32) (x2 : VV) (ax2 : Nat) (H : Heap) (locs : List Loc) (ls : Array Slot) (cells slots : Nat) (r : (VV × CS) × Nat × Nat), CW ρ P ad st H → va_S (MA wC ad s.heap.size) s.heap H locs → isV ρ P H ax2 x2 → lv_has ls 4 [(0, .ref (ad 6)), (1, .int x1), (2, .ref ax2)] → res.1 = r.1 → cells + r.2.1 ≤ res.2.1 → slots + r.2.2 ≤ res.2.2 → ki_of_33 st x1 x2 = some r → W p l e ({ frames := 16, cells := res.2.1, slots := res.2.2, locals := 698 } : Room) s m args below meth c H locs cells slots (MQ below (mQ (fun v H1 => ∃ x : Nat, v = some (.ref x) ∧ isV ρ P H1 x res.1.1 ∧ CW ρ P ad res.1.2 H1) (MA wC ad s.heap.size)) args s res.2.1 res.2.2 (MA wC ad s.heap.size)) (F0 m 33 ls []) := by
    intro st x1 x2 ax2 H locs ls cells slots r hW hS fax2 hl her hc1 hs1 h
    have hSz := hS.1
    unfold ki_of_33 at h
    refine lv_iconst (pc := 33) (v := 0) hx hb d85_33 (by decide) ?_
    exact kc34   st x1 x2 0 ax2 _ _ _ _ _ _ hW hS fax2 (lv_sub hl [0, 1, 2] rfl) her hc1 hs1 h
  have her : res.1 = res.1 := rfl
  have hc1 : 0 + res.2.1 ≤ res.2.1 := Nat.le_of_eq (Nat.zero_add _)
  have hs1 : 0 + res.2.2 ≤ res.2.2 := Nat.le_of_eq (Nat.zero_add _)
  unfold f_ki_of at h
  refine lv_aload_n (pc := 0) hx hb d85_0 rfl (lv_at hl 0 rfl) ?_
  refine c_getK (pc := 1) X hW 6 0 8 1 (C := "WordFunctions$Kinds") (T := T8) (N := 1) (by decide) rfl rfl rfl rfl tin8 rfl wd238 rfl rfl d85_1 ?_
  refine lv_iconst (pc := 4) (v := 0) hx hb d85_4 (by decide) ?_
  refine lv_iconst (pc := 5) (v := 0) hx hb d85_5 (by decide) ?_
  obtain ⟨q34, hq34, h⟩ := jc_some h
  refine k_callV (pc := 6) (n := 2) X hS (c_ar_nth l ρ ad _ P st 0 0 q34 hW  hq34) wd770 wd1337 wd768 wd769 wd3 (by decide) ⟨rfl, rfl, Nat.le_of_ble_eq_true rfl, Nat.le_of_ble_eq_true rfl⟩ (c_recv X hW 1 3 (by decide) rfl rfl) (As := [.int 0, .int 0]) (rest := []) rfl rfl hl.1 (Nat.le_of_ble_eq_true rfl) d85_6 ⟨room_l0 hc1, room_l0 hs1⟩ (fun q hq => False.elim hq) (fun v H1 locs1 hv _ _ hSq34 => ?_)
  obtain ⟨u35, rfl, fu35, rfl⟩ := hv
  have hS := hSq34
  have hSz := hS.1
  refine lv_astore_n (pc := 9) (lv' := [(2, .ref u35), (0, .ref (ad 6)), (1, .int p0)]) hx hb d85_9 rfl hl (by decide) rfl (fun ls hl => ?_)
  refine lv_aload_n (pc := 10) hx hb d85_10 rfl (lv_at hl 0 rfl) ?_
  refine v_kind (pc := 11) X fu35 wd76 d85_11 ?_
  refine lv_iconst (pc := 14) (v := 4) hx hb d85_14 (by decide) ?_
  refine lv_icmp_ne (pc := 15) (tgt := 33) hx hb d85_15 (by decide) (fun c15 => ?_) (fun c15 => ?_)
  · have h := jb_f c15 h
    exact kc33   st p0 q34 u35 _ _ _ _ _ _ hW hS fu35 (lv_sub hl [1, 2, 0] rfl) her hc1 hs1 h
  · have h := jb_t c15 h
    refine lv_aload_n (pc := 18) hx hb d85_18 rfl (lv_at hl 0 rfl) ?_
    refine v_number (pc := 19) X fu35 wd82 d85_19 ?_
    refine lv_ldc2d (pc := 22) hx hb X.1.2.2.2.1 (X.ts wd1338) d85_22 ?_
    refine lv_dcmp (pc := 25) hx hb d85_25 ?_
    refine lv_if_ne (pc := 26) (tgt := 33) hx hb d85_26 (by decide) (fun c26 => ?_) (fun c26 => ?_)
    · have h := jb_f c26 h
      exact kc33   st p0 q34 u35 _ _ _ _ _ _ hW hS fu35 (lv_sub hl [1, 2, 0] rfl) her hc1 hs1 h
    · have h := jb_t c26 h
      refine lv_iconst (pc := 29) (v := 1) hx hb d85_29 (by decide) ?_
      refine lv_goto (pc := 30) (tgt := 34) hx hb d85_30 (by decide) ?_
      exact kc34   st p0 q34 1 u35 _ _ _ _ _ _ hW hS fu35 (lv_sub hl [1, 2, 0] rfl) her hc1 hs1 h
def lu_appendColumn_50  (x1 : Int32) (xb : BT) : Option ((BT) × Nat × Nat) := jd (f_sb_appC xb (((65 + ((x1 - 1) - (x1 - 1) / 26 * 26)).toUInt32 % 65536).toInt32)) (fun q1 => some (q1, 0, 0))
def lu_appendColumn_25  (x1 : Int32) (xb : BT) : Option ((BT) × Nat × Nat) := jb (x1 < 27) (lu_appendColumn_50 x1 xb) (jd (f_sb_appC xb (((65 + (((x1 - 27) / 26) - ((x1 - 27) / 26) / 26 * 26)).toUInt32 % 65536).toInt32)) (fun q3 => lu_appendColumn_50 x1 q3))
def f_lu_appendColumn  (p0 : BT) (p1 : Int32) : Option ((BT) × Nat × Nat) := jb (p1 < 703) (lu_appendColumn_25 p1 p0) (jd (f_sb_appC p0 (((65 + ((p1 - 703) / 676)).toUInt32 % 65536).toInt32)) (fun q5 => lu_appendColumn_25 p1 q5))
set_option maxHeartbeats 4000000 in
set_option maxRecDepth 100000 in
theorem c_lu_appendColumn (l : Launch) (ρ : RH) (H : Heap) (P : Nat → Prop) (ba0 bb0 : Nat) (p0 : BT) (p1 : Int32) (res : (BT) × Nat × Nat) (hC : CC ρ P H) (hPb : ∀ q, P q → q < H.size) (hB : SB ρ H ba0 bb0 p0 ∧ P ba0 ∧ P bb0) (h : f_lu_appendColumn p0 p1 = some res) : Met l y89 (wsOf y89 b89 2 none) ({ frames := 13, cells := res.2.1, slots := res.2.2, locals := 621 } : Room) (va_Pc [.ref ba0, .int p1] (KP ρ H)) (mQ (fun v H1 => v = none ∧ ∃ b1, (b1 = bb0 ∨ H.size ≤ b1) ∧ b1 < H1.size ∧ SB ρ H1 ba0 b1 res.1) (fun q => q = ba0 ∨ q = bb0 ∨ H.size ≤ q)) res.2.1 res.2.2 (fun q => q = ba0 ∨ q = bb0 ∨ H.size ≤ q) := by
  refine m_ofW (own := "WordFunctions$LookUps") (plainFor_of_name rfl) rfl (Nat.le_of_ble_eq_true rfl) fun p e s m args below meth c ls hx hb hr hlk _ X hs hl => ?_
  subst hs
  have hS : va_S (fun q => q = ba0 ∨ q = bb0 ∨ s.heap.size ≤ q) s.heap s.heap [] := va_S.rf
  have hSz := hS.1
  have hAz : ∀ q, s.heap.size ≤ q → (fun q => q = ba0 ∨ q = bb0 ∨ s.heap.size ≤ q) q := fun q hq => Or.inr (Or.inr hq)
  obtain ⟨hSB, hBa, hBb⟩ := hB
  have hAa : (fun q => q = ba0 ∨ q = bb0 ∨ s.heap.size ≤ q) ba0 := Or.inl rfl
  have hAb : (fun q => q = ba0 ∨ q = bb0 ∨ s.heap.size ≤ q) bb0 := Or.inr (Or.inl rfl)
  have hPb := pe_in hPb hBa hBb
  have hC := CC_pe hC hBa hBb
  have hl : lv_has ls 2 [(0, .ref ba0), (1, .int p1)] := hl
  have kc50 : ∀ (x1 : Int32) (xb : BT) (bb : Nat) (H : Heap) (locs : List Loc) (ls : Array Slot) (cells slots : Nat) (r : (BT) × Nat × Nat), CC ρ (pe P ba0 bb) H → (∀ q, (pe P ba0 bb) q → q < H.size) → va_S (fun q => q = ba0 ∨ q = bb0 ∨ s.heap.size ≤ q) s.heap H locs → SB ρ H ba0 bb xb → (fun q => q = ba0 ∨ q = bb0 ∨ s.heap.size ≤ q) ba0 → (fun q => q = ba0 ∨ q = bb0 ∨ s.heap.size ≤ q) bb → lv_has ls 2 [(0, .ref ba0), (1, .int x1)] → res.1 = r.1 → cells + r.2.1 ≤ res.2.1 → slots + r.2.2 ≤ res.2.2 → lu_appendColumn_50 x1 xb = some r → W p l e ({ frames := 13, cells := res.2.1, slots := res.2.2, locals := 621 } : Room) s m args below meth c H locs cells slots (MQ below (mQ (fun v H1 => v = none ∧ ∃ b1, (b1 = bb0 ∨ s.heap.size ≤ b1) ∧ b1 < H1.size ∧ SB ρ H1 ba0 b1 res.1) (fun q => q = ba0 ∨ q = bb0 ∨ s.heap.size ≤ q)) args s res.2.1 res.2.2 (fun q => q = ba0 ∨ q = bb0 ∨ s.heap.size ≤ q)) (F0 m 50 ls []) := by
    intro x1 xb bb H locs ls cells slots r hC hPb hS hSB hAa hAb hl her hc1 hs1 h
    have hSz := hS.1
    unfold lu_appendColumn_50 at h
    refine lv_aload_n (pc := 50) hx hb d89_50 rfl (lv_at hl 0 rfl) ?_
    refine lv_bipush (pc := 51) (v := 65) hx hb d89_51 (by decide) ?_
    refine lv_iload_n (pc := 53) hx hb d89_53 rfl (lv_at hl 1 rfl) ?_
    refine lv_iconst (pc := 54) (v := 1) hx hb d89_54 (by decide) ?_
    refine lv_isub (pc := 55) hx hb d89_55 ?_
    refine lv_bipush (pc := 56) (v := 26) hx hb d89_56 (by decide) ?_
    refine lv_irem (pc := 58) hx hb d89_58 (by decide) ?_
    refine lv_iadd (pc := 59) hx hb d89_59 ?_
    refine lv_i2c (pc := 60) hx hb d89_60 rfl ?_
    obtain ⟨q1, rq1, hq1, h, herq1, hccq1, hssq1⟩ := jd_some h
    refine k_callV (pc := 61) (n := 1) X hS (c_sb_appC l ρ _ (pe P ba0 bb) ba0 bb xb (((65 + ((x1 - 1) - (x1 - 1) / 26 * 26)).toUInt32 % 65536).toInt32) q1 hC hPb ⟨hSB, Or.inr (Or.inl rfl), Or.inr (Or.inr rfl)⟩ hq1) wd316 wd1169 wd314 wd315 wd13 (by decide) ⟨rfl, rfl, Nat.le_of_ble_eq_true rfl, Nat.le_of_ble_eq_true rfl⟩ (sb_recv X hSB) (As := [.int (((65 + ((x1 - 1) - (x1 - 1) / 26 * 26)).toUInt32 % 65536).toInt32)]) (rest := []) rfl rfl hl.1 (Nat.le_of_ble_eq_true rfl) d89_61 ⟨room_le hccq1 hc1, room_le hssq1 hs1⟩ (fun q hq => hq.elim (fun e => e ▸ hAa) (fun z => z.elim (fun e => e ▸ hAb) (fun g => hAz q (Nat.le_trans hS.1 g)))) (fun v H1 locs1 hv hz1 hz2 hSq1 => ?_)
    obtain ⟨rfl, bb2, hb1, hb2, hSB⟩ := hv
    have hk : kp (ab ba0 bb) _ H1 := kp_call hz1 hz2 (fun q hq z => z.elim Or.inl (fun z => z.elim Or.inr (fun g => absurd hq (Nat.not_lt.mpr g))))
    have hAb : (fun q => q = ba0 ∨ q = bb0 ∨ s.heap.size ≤ q) bb2 := hb1.elim (fun e => e ▸ hAb) (fun g => hAz _ (Nat.le_trans hS.1 g))
    have hC := hC.sb hk hb1
    have hPb := pe_lt hPb hk hb2
    have hS := hSq1
    have hSz := hS.1
    have her := her.trans herq1
    have hc1 := room_st hccq1 hc1
    have hs1 := room_st hssq1 hs1
    refine lv_pop (pc := 64) hx hb d89_64 rfl ?_
    have her : res.1 = q1.1 := her.trans (congrArg Prod.fst (Option.some.inj h)).symm
    exact m_vret (pc := 65) hx hb hr hlk hS ⟨rfl, bb2, sb_or hAb hSB, hSB.lt.2, by rw [her]; exact hSB⟩ (Nat.le_trans (Nat.le_add_right _ _) hc1) (Nat.le_trans (Nat.le_add_right _ _) hs1) d89_65
  have kc25 : ∀ (x1 : Int32) (xb : BT) (bb : Nat) (H : Heap) (locs : List Loc) (ls : Array Slot) (cells slots : Nat) (r : (BT) × Nat × Nat), CC ρ (pe P ba0 bb) H → (∀ q, (pe P ba0 bb) q → q < H.size) → va_S (fun q => q = ba0 ∨ q = bb0 ∨ s.heap.size ≤ q) s.heap H locs → SB ρ H ba0 bb xb → (fun q => q = ba0 ∨ q = bb0 ∨ s.heap.size ≤ q) ba0 → (fun q => q = ba0 ∨ q = bb0 ∨ s.heap.size ≤ q) bb → lv_has ls 2 [(0, .ref ba0), (1, .int x1)] → res.1 = r.1 → cells + r.2.1 ≤ res.2.1 → slots + r.2.2 ≤ res.2.2 → lu_appendColumn_25 x1 xb = some r → W p l e ({ frames := 13, cells := res.2.1, slots := res.2.2, locals := 621 } : Room) s m args below meth c H locs cells slots (MQ below (mQ (fun v H1 => v = none ∧ ∃ b1, (b1 = bb0 ∨ s.heap.size ≤ b1) ∧ b1 < H1.size ∧ SB ρ H1 ba0 b1 res.1) (fun q => q = ba0 ∨ q = bb0 ∨ s.heap.size ≤ q)) args s res.2.1 res.2.2 (fun q => q = ba0 ∨ q = bb0 ∨ s.heap.size ≤ q)) (F0 m 25 ls []) := by
    intro x1 xb bb H locs ls cells slots r hC hPb hS hSB hAa hAb hl her hc1 hs1 h
    have hSz := hS.1
    unfold lu_appendColumn_25 at h
    refine lv_iload_n (pc := 25) hx hb d89_25 rfl (lv_at hl 1 rfl) ?_
    refine lv_bipush (pc := 26) (v := 27) hx hb d89_26 (by decide) ?_
    refine lv_icmp_lt (pc := 28) (tgt := 50) hx hb d89_28 (by decide) (fun c28 => ?_) (fun c28 => ?_)
    · have h := jb_t c28 h
      exact kc50   x1 xb bb _ _ _ _ _ _ hC hPb hS hSB hAa hAb (lv_sub hl [0, 1] rfl) her hc1 hs1 h
    · have h := jb_f c28 h
      refine lv_aload_n (pc := 31) hx hb d89_31 rfl (lv_at hl 0 rfl) ?_
      refine lv_bipush (pc := 32) (v := 65) hx hb d89_32 (by decide) ?_
      refine lv_iload_n (pc := 34) hx hb d89_34 rfl (lv_at hl 1 rfl) ?_
      refine lv_bipush (pc := 35) (v := 27) hx hb d89_35 (by decide) ?_
      refine lv_isub (pc := 37) hx hb d89_37 ?_
      refine lv_bipush (pc := 38) (v := 26) hx hb d89_38 (by decide) ?_
      refine lv_idiv (pc := 40) hx hb d89_40 (by decide) ?_
      refine lv_bipush (pc := 41) (v := 26) hx hb d89_41 (by decide) ?_
      refine lv_irem (pc := 43) hx hb d89_43 (by decide) ?_
      refine lv_iadd (pc := 44) hx hb d89_44 ?_
      refine lv_i2c (pc := 45) hx hb d89_45 rfl ?_
      obtain ⟨q3, rq3, hq3, h, herq3, hccq3, hssq3⟩ := jd_some h
      refine k_callV (pc := 46) (n := 1) X hS (c_sb_appC l ρ _ (pe P ba0 bb) ba0 bb xb (((65 + (((x1 - 27) / 26) - ((x1 - 27) / 26) / 26 * 26)).toUInt32 % 65536).toInt32) q3 hC hPb ⟨hSB, Or.inr (Or.inl rfl), Or.inr (Or.inr rfl)⟩ hq3) wd316 wd1169 wd314 wd315 wd13 (by decide) ⟨rfl, rfl, Nat.le_of_ble_eq_true rfl, Nat.le_of_ble_eq_true rfl⟩ (sb_recv X hSB) (As := [.int (((65 + (((x1 - 27) / 26) - ((x1 - 27) / 26) / 26 * 26)).toUInt32 % 65536).toInt32)]) (rest := []) rfl rfl hl.1 (Nat.le_of_ble_eq_true rfl) d89_46 ⟨room_le hccq3 hc1, room_le hssq3 hs1⟩ (fun q hq => hq.elim (fun e => e ▸ hAa) (fun z => z.elim (fun e => e ▸ hAb) (fun g => hAz q (Nat.le_trans hS.1 g)))) (fun v H1 locs1 hv hz1 hz2 hSq3 => ?_)
      obtain ⟨rfl, bb4, hb1, hb2, hSB⟩ := hv
      have hk : kp (ab ba0 bb) _ H1 := kp_call hz1 hz2 (fun q hq z => z.elim Or.inl (fun z => z.elim Or.inr (fun g => absurd hq (Nat.not_lt.mpr g))))
      have hAb : (fun q => q = ba0 ∨ q = bb0 ∨ s.heap.size ≤ q) bb4 := hb1.elim (fun e => e ▸ hAb) (fun g => hAz _ (Nat.le_trans hS.1 g))
      have hC := hC.sb hk hb1
      have hPb := pe_lt hPb hk hb2
      have hS := hSq3
      have hSz := hS.1
      have her := her.trans herq3
      have hc1 := room_st hccq3 hc1
      have hs1 := room_st hssq3 hs1
      refine lv_pop (pc := 49) hx hb d89_49 rfl ?_
      exact kc50   x1 q3.1 bb4 _ _ _ _ _ _ hC hPb hS hSB hAa hAb (lv_sub hl [0, 1] rfl) her hc1 hs1 h
  have her : res.1 = res.1 := rfl
  have hc1 : 0 + res.2.1 ≤ res.2.1 := Nat.le_of_eq (Nat.zero_add _)
  have hs1 : 0 + res.2.2 ≤ res.2.2 := Nat.le_of_eq (Nat.zero_add _)
  unfold f_lu_appendColumn at h
  refine lv_iload_n (pc := 0) hx hb d89_0 rfl (lv_at hl 1 rfl) ?_
  refine lv_sipush (pc := 1) (v := 703) hx hb d89_1 (by decide) ?_
  refine lv_icmp_lt (pc := 4) (tgt := 25) hx hb d89_4 (by decide) (fun c4 => ?_) (fun c4 => ?_)
  · have h := jb_t c4 h
    exact kc25   p1 p0 bb0 _ _ _ _ _ _ hC hPb hS hSB hAa hAb (lv_sub hl [0, 1] rfl) her hc1 hs1 h
  · have h := jb_f c4 h
    refine lv_aload_n (pc := 7) hx hb d89_7 rfl (lv_at hl 0 rfl) ?_
    refine lv_bipush (pc := 8) (v := 65) hx hb d89_8 (by decide) ?_
    refine lv_iload_n (pc := 10) hx hb d89_10 rfl (lv_at hl 1 rfl) ?_
    refine lv_sipush (pc := 11) (v := 703) hx hb d89_11 (by decide) ?_
    refine lv_isub (pc := 14) hx hb d89_14 ?_
    refine lv_sipush (pc := 15) (v := 676) hx hb d89_15 (by decide) ?_
    refine lv_idiv (pc := 18) hx hb d89_18 (by decide) ?_
    refine lv_iadd (pc := 19) hx hb d89_19 ?_
    refine lv_i2c (pc := 20) hx hb d89_20 rfl ?_
    obtain ⟨q5, rq5, hq5, h, herq5, hccq5, hssq5⟩ := jd_some h
    refine k_callV (pc := 21) (n := 1) X hS (c_sb_appC l ρ _ (pe P ba0 bb0) ba0 bb0 p0 (((65 + ((p1 - 703) / 676)).toUInt32 % 65536).toInt32) q5 hC hPb ⟨hSB, Or.inr (Or.inl rfl), Or.inr (Or.inr rfl)⟩ hq5) wd316 wd1169 wd314 wd315 wd13 (by decide) ⟨rfl, rfl, Nat.le_of_ble_eq_true rfl, Nat.le_of_ble_eq_true rfl⟩ (sb_recv X hSB) (As := [.int (((65 + ((p1 - 703) / 676)).toUInt32 % 65536).toInt32)]) (rest := []) rfl rfl hl.1 (Nat.le_of_ble_eq_true rfl) d89_21 ⟨room_le hccq5 hc1, room_le hssq5 hs1⟩ (fun q hq => hq.elim (fun e => e ▸ hAa) (fun z => z.elim (fun e => e ▸ hAb) (fun g => hAz q (Nat.le_trans hS.1 g)))) (fun v H1 locs1 hv hz1 hz2 hSq5 => ?_)
    obtain ⟨rfl, bb6, hb1, hb2, hSB⟩ := hv
    have hk : kp (ab ba0 bb0) _ H1 := kp_call hz1 hz2 (fun q hq z => z.elim Or.inl (fun z => z.elim Or.inr (fun g => absurd hq (Nat.not_lt.mpr g))))
    have hAb : (fun q => q = ba0 ∨ q = bb0 ∨ s.heap.size ≤ q) bb6 := hb1.elim (fun e => e ▸ hAb) (fun g => hAz _ (Nat.le_trans hS.1 g))
    have hC := hC.sb hk hb1
    have hPb := pe_lt hPb hk hb2
    have hS := hSq5
    have hSz := hS.1
    have her := her.trans herq5
    have hc1 := room_st hccq5 hc1
    have hs1 := room_st hssq5 hs1
    refine lv_pop (pc := 24) hx hb d89_24 rfl ?_
    exact kc25   p1 q5.1 bb6 _ _ _ _ _ _ hC hPb hS hSB hAa hAb (lv_sub hl [0, 1] rfl) her hc1 hs1 h
def lu_appendNumbered_40  (z1 : TT) (xb : BT) : Option ((BT) × Nat × Nat) := jd (f_sb_appS xb z1) (fun q1 => some (q1, 0, 0))
def lu_appendNumbered_18  (x2 : Int32) (x3 : Int32) (z1 : TT) (xb : BT) : Option ((BT) × Nat × Nat) := jd (f_sb_appS xb z1) (fun q3 => jd (f_sb_appI q3 x2) (fun q5 => jb (x3 = 0) (lu_appendNumbered_40 TX16 q5) (lu_appendNumbered_40 TX14 q5)))
def f_lu_appendNumbered  (p0 : BT) (p1 : Int32) (p2 : Int32) (p3 : Int32) : Option ((BT) × Nat × Nat) := jd (f_sb_appC p0 p1) (fun q7 => jb (p3 = 0) (lu_appendNumbered_18 p2 p3 TX15 q7) (lu_appendNumbered_18 p2 p3 TX14 q7))
set_option maxHeartbeats 4000000 in
set_option maxRecDepth 100000 in
theorem c_lu_appendNumbered (l : Launch) (ρ : RH) (H : Heap) (P : Nat → Prop) (ba0 bb0 : Nat) (p0 : BT) (p1 : Int32) (p2 : Int32) (p3 : Int32) (res : (BT) × Nat × Nat) (hC : CC ρ P H) (hPb : ∀ q, P q → q < H.size) (hB : SB ρ H ba0 bb0 p0 ∧ P ba0 ∧ P bb0) (h : f_lu_appendNumbered p0 p1 p2 p3 = some res) : Met l y90 (wsOf y90 b90 4 none) ({ frames := 13, cells := res.2.1, slots := res.2.2, locals := 621 } : Room) (va_Pc [.ref ba0, .int p1, .int p2, .int p3] (KP ρ H)) (mQ (fun v H1 => v = none ∧ ∃ b1, (b1 = bb0 ∨ H.size ≤ b1) ∧ b1 < H1.size ∧ SB ρ H1 ba0 b1 res.1) (fun q => q = ba0 ∨ q = bb0 ∨ H.size ≤ q)) res.2.1 res.2.2 (fun q => q = ba0 ∨ q = bb0 ∨ H.size ≤ q) := by
  refine m_ofW (own := "WordFunctions$LookUps") (plainFor_of_name rfl) rfl (Nat.le_of_ble_eq_true rfl) fun p e s m args below meth c ls hx hb hr hlk _ X hs hl => ?_
  subst hs
  have hS : va_S (fun q => q = ba0 ∨ q = bb0 ∨ s.heap.size ≤ q) s.heap s.heap [] := va_S.rf
  have hSz := hS.1
  have hAz : ∀ q, s.heap.size ≤ q → (fun q => q = ba0 ∨ q = bb0 ∨ s.heap.size ≤ q) q := fun q hq => Or.inr (Or.inr hq)
  obtain ⟨hSB, hBa, hBb⟩ := hB
  have hAa : (fun q => q = ba0 ∨ q = bb0 ∨ s.heap.size ≤ q) ba0 := Or.inl rfl
  have hAb : (fun q => q = ba0 ∨ q = bb0 ∨ s.heap.size ≤ q) bb0 := Or.inr (Or.inl rfl)
  have hPb := pe_in hPb hBa hBb
  have hC := CC_pe hC hBa hBb
  have hl : lv_has ls 4 [(0, .ref ba0), (1, .int p1), (2, .int p2), (3, .int p3)] := hl
  have kc40 : ∀ (z1 : TT) (az1 : Nat) (xb : BT) (bb : Nat) (H : Heap) (locs : List Loc) (ls : Array Slot) (cells slots : Nat) (r : (BT) × Nat × Nat), CC ρ (pe P ba0 bb) H → (∀ q, (pe P ba0 bb) q → q < H.size) → va_S (fun q => q = ba0 ∨ q = bb0 ∨ s.heap.size ≤ q) s.heap H locs → isS ρ (pe P ba0 bb) H az1 z1 → SB ρ H ba0 bb xb → (fun q => q = ba0 ∨ q = bb0 ∨ s.heap.size ≤ q) ba0 → (fun q => q = ba0 ∨ q = bb0 ∨ s.heap.size ≤ q) bb → lv_has ls 4 [] → res.1 = r.1 → cells + r.2.1 ≤ res.2.1 → slots + r.2.2 ≤ res.2.2 → lu_appendNumbered_40 z1 xb = some r → W p l e ({ frames := 13, cells := res.2.1, slots := res.2.2, locals := 621 } : Room) s m args below meth c H locs cells slots (MQ below (mQ (fun v H1 => v = none ∧ ∃ b1, (b1 = bb0 ∨ s.heap.size ≤ b1) ∧ b1 < H1.size ∧ SB ρ H1 ba0 b1 res.1) (fun q => q = ba0 ∨ q = bb0 ∨ s.heap.size ≤ q)) args s res.2.1 res.2.2 (fun q => q = ba0 ∨ q = bb0 ∨ s.heap.size ≤ q)) (F0 m 40 ls [.ref az1, .ref ba0]) := by
    intro z1 az1 xb bb H locs ls cells slots r hC hPb hS faz1 hSB hAa hAb hl her hc1 hs1 h
    have hSz := hS.1
    unfold lu_appendNumbered_40 at h
    obtain ⟨q1, rq1, hq1, h, herq1, hccq1, hssq1⟩ := jd_some h
    refine k_callV (pc := 40) (n := 1) X hS (c_sb_appS l ρ _ (pe P ba0 bb) ba0 bb xb az1 z1 q1 hC hPb ⟨hSB, Or.inr (Or.inl rfl), Or.inr (Or.inr rfl)⟩ (isS_ab faz1) hq1) wd524 wd1168 wd522 wd523 wd13 (by decide) ⟨rfl, rfl, Nat.le_of_ble_eq_true rfl, Nat.le_of_ble_eq_true rfl⟩ (sb_recv X hSB) (As := [.ref az1]) (rest := []) rfl rfl hl.1 (Nat.le_of_ble_eq_true rfl) d90_40 ⟨room_le hccq1 hc1, room_le hssq1 hs1⟩ (fun q hq => hq.elim (fun e => e ▸ hAa) (fun z => z.elim (fun e => e ▸ hAb) (fun g => hAz q (Nat.le_trans hS.1 g)))) (fun v H1 locs1 hv hz1 hz2 hSq1 => ?_)
    obtain ⟨rfl, bb2, hb1, hb2, hSB⟩ := hv
    have hk : kp (ab ba0 bb) _ H1 := kp_call hz1 hz2 (fun q hq z => z.elim Or.inl (fun z => z.elim Or.inr (fun g => absurd hq (Nat.not_lt.mpr g))))
    have hAb : (fun q => q = ba0 ∨ q = bb0 ∨ s.heap.size ≤ q) bb2 := hb1.elim (fun e => e ▸ hAb) (fun g => hAz _ (Nat.le_trans hS.1 g))
    have hC := hC.sb hk hb1
    have hPb := pe_lt hPb hk hb2
    have hS := hSq1
    have hSz := hS.1
    have her := her.trans herq1
    have hc1 := room_st hccq1 hc1
    have hs1 := room_st hssq1 hs1
    refine lv_pop (pc := 43) hx hb d90_43 rfl ?_
    have her : res.1 = q1.1 := her.trans (congrArg Prod.fst (Option.some.inj h)).symm
    exact m_vret (pc := 44) hx hb hr hlk hS ⟨rfl, bb2, sb_or hAb hSB, hSB.lt.2, by rw [her]; exact hSB⟩ (Nat.le_trans (Nat.le_add_right _ _) hc1) (Nat.le_trans (Nat.le_add_right _ _) hs1) d90_44
  have kc18 : ∀ (x2 : Int32) (x3 : Int32) (z1 : TT) (az1 : Nat) (xb : BT) (bb : Nat) (H : Heap) (locs : List Loc) (ls : Array Slot) (cells slots : Nat) (r : (BT) × Nat × Nat), CC ρ (pe P ba0 bb) H → (∀ q, (pe P ba0 bb) q → q < H.size) → va_S (fun q => q = ba0 ∨ q = bb0 ∨ s.heap.size ≤ q) s.heap H locs → isS ρ (pe P ba0 bb) H az1 z1 → SB ρ H ba0 bb xb → (fun q => q = ba0 ∨ q = bb0 ∨ s.heap.size ≤ q) ba0 → (fun q => q = ba0 ∨ q = bb0 ∨ s.heap.size ≤ q) bb → lv_has ls 4 [(0, .ref ba0), (2, .int x2), (3, .int x3)] → res.1 = r.1 → cells + r.2.1 ≤ res.2.1 → slots + r.2.2 ≤ res.2.2 → lu_appendNumbered_18 x2 x3 z1 xb = some r → W p l e ({ frames := 13, cells := res.2.1, slots := res.2.2, locals := 621 } : Room) s m args below meth c H locs cells slots (MQ below (mQ (fun v H1 => v = none ∧ ∃ b1, (b1 = bb0 ∨ s.heap.size ≤ b1) ∧ b1 < H1.size ∧ SB ρ H1 ba0 b1 res.1) (fun q => q = ba0 ∨ q = bb0 ∨ s.heap.size ≤ q)) args s res.2.1 res.2.2 (fun q => q = ba0 ∨ q = bb0 ∨ s.heap.size ≤ q)) (F0 m 18 ls [.ref az1, .ref ba0]) := by
    intro x2 x3 z1 az1 xb bb H locs ls cells slots r hC hPb hS faz1 hSB hAa hAb hl her hc1 hs1 h
    have hSz := hS.1
    unfold lu_appendNumbered_18 at h
    obtain ⟨q3, rq3, hq3, h, herq3, hccq3, hssq3⟩ := jd_some h
    refine k_callV (pc := 18) (n := 1) X hS (c_sb_appS l ρ _ (pe P ba0 bb) ba0 bb xb az1 z1 q3 hC hPb ⟨hSB, Or.inr (Or.inl rfl), Or.inr (Or.inr rfl)⟩ (isS_ab faz1) hq3) wd524 wd1168 wd522 wd523 wd13 (by decide) ⟨rfl, rfl, Nat.le_of_ble_eq_true rfl, Nat.le_of_ble_eq_true rfl⟩ (sb_recv X hSB) (As := [.ref az1]) (rest := []) rfl rfl hl.1 (Nat.le_of_ble_eq_true rfl) d90_18 ⟨room_le hccq3 hc1, room_le hssq3 hs1⟩ (fun q hq => hq.elim (fun e => e ▸ hAa) (fun z => z.elim (fun e => e ▸ hAb) (fun g => hAz q (Nat.le_trans hS.1 g)))) (fun v H1 locs1 hv hz1 hz2 hSq3 => ?_)
    obtain ⟨rfl, bb4, hb1, hb2, hSB⟩ := hv
    have hk : kp (ab ba0 bb) _ H1 := kp_call hz1 hz2 (fun q hq z => z.elim Or.inl (fun z => z.elim Or.inr (fun g => absurd hq (Nat.not_lt.mpr g))))
    have hAb : (fun q => q = ba0 ∨ q = bb0 ∨ s.heap.size ≤ q) bb4 := hb1.elim (fun e => e ▸ hAb) (fun g => hAz _ (Nat.le_trans hS.1 g))
    have hC := hC.sb hk hb1
    have hPb := pe_lt hPb hk hb2
    have hS := hSq3
    have hSz := hS.1
    have her := her.trans herq3
    have hc1 := room_st hccq3 hc1
    have hs1 := room_st hssq3 hs1
    refine lv_pop (pc := 21) hx hb d90_21 rfl ?_
    refine lv_aload_n (pc := 22) hx hb d90_22 rfl (lv_at hl 0 rfl) ?_
    refine lv_iload_n (pc := 23) hx hb d90_23 rfl (lv_at hl 1 rfl) ?_
    obtain ⟨q5, rq5, hq5, h, herq5, hccq5, hssq5⟩ := jd_some h
    refine k_callV (pc := 24) (n := 1) X hS (c_sb_appI l ρ _ (pe P ba0 bb4) ba0 bb4 q3.1 x2 q5 hC hPb ⟨hSB, Or.inr (Or.inl rfl), Or.inr (Or.inr rfl)⟩ hq5) wd489 wd1175 wd487 wd488 wd13 (by decide) ⟨rfl, rfl, Nat.le_of_ble_eq_true rfl, Nat.le_of_ble_eq_true rfl⟩ (sb_recv X hSB) (As := [.int x2]) (rest := []) rfl rfl hl.1 (Nat.le_of_ble_eq_true rfl) d90_24 ⟨room_le hccq5 hc1, room_le hssq5 hs1⟩ (fun q hq => hq.elim (fun e => e ▸ hAa) (fun z => z.elim (fun e => e ▸ hAb) (fun g => hAz q (Nat.le_trans hS.1 g)))) (fun v H1 locs1 hv hz1 hz2 hSq5 => ?_)
    obtain ⟨rfl, bb6, hb1, hb2, hSB⟩ := hv
    have hk : kp (ab ba0 bb4) _ H1 := kp_call hz1 hz2 (fun q hq z => z.elim Or.inl (fun z => z.elim Or.inr (fun g => absurd hq (Nat.not_lt.mpr g))))
    have hAb : (fun q => q = ba0 ∨ q = bb0 ∨ s.heap.size ≤ q) bb6 := hb1.elim (fun e => e ▸ hAb) (fun g => hAz _ (Nat.le_trans hS.1 g))
    have hC := hC.sb hk hb1
    have hPb := pe_lt hPb hk hb2
    have hS := hSq5
    have hSz := hS.1
    have her := her.trans herq5
    have hc1 := room_st hccq5 hc1
    have hs1 := room_st hssq5 hs1
    refine lv_pop (pc := 27) hx hb d90_27 rfl ?_
    refine lv_aload_n (pc := 28) hx hb d90_28 rfl (lv_at hl 0 rfl) ?_
    refine lv_iload_n (pc := 29) hx hb d90_29 rfl (lv_at hl 2 rfl) ?_
    refine lv_if_eq (pc := 30) (tgt := 38) hx hb d90_30 (by decide) (fun c30 => ?_) (fun c30 => ?_)
    · have h := jb_t c30 h
      refine c_ldcS (pc := 38) (t := TX16) X hC 16 rfl rfl d90_38 (fun f_rS_ρ_16_ => ?_)
      exact kc40   TX16 (rS ρ 16) q5.1 bb6 _ _ _ _ _ _ hC hPb hS f_rS_ρ_16_ hSB hAa hAb (lv_sub hl [] rfl) her hc1 hs1 h
    · have h := jb_f c30 h
      refine c_ldcS (pc := 33) (t := TX14) X hC 14 rfl rfl d90_33 (fun f_rS_ρ_14_ => ?_)
      refine lv_goto (pc := 35) (tgt := 40) hx hb d90_35 (by decide) ?_
      exact kc40   TX14 (rS ρ 14) q5.1 bb6 _ _ _ _ _ _ hC hPb hS f_rS_ρ_14_ hSB hAa hAb (lv_sub hl [] rfl) her hc1 hs1 h
  have her : res.1 = res.1 := rfl
  have hc1 : 0 + res.2.1 ≤ res.2.1 := Nat.le_of_eq (Nat.zero_add _)
  have hs1 : 0 + res.2.2 ≤ res.2.2 := Nat.le_of_eq (Nat.zero_add _)
  unfold f_lu_appendNumbered at h
  refine lv_aload_n (pc := 0) hx hb d90_0 rfl (lv_at hl 0 rfl) ?_
  refine lv_iload_n (pc := 1) hx hb d90_1 rfl (lv_at hl 1 rfl) ?_
  obtain ⟨q7, rq7, hq7, h, herq7, hccq7, hssq7⟩ := jd_some h
  refine k_callV (pc := 2) (n := 1) X hS (c_sb_appC l ρ _ (pe P ba0 bb0) ba0 bb0 p0 p1 q7 hC hPb ⟨hSB, Or.inr (Or.inl rfl), Or.inr (Or.inr rfl)⟩ hq7) wd316 wd1169 wd314 wd315 wd13 (by decide) ⟨rfl, rfl, Nat.le_of_ble_eq_true rfl, Nat.le_of_ble_eq_true rfl⟩ (sb_recv X hSB) (As := [.int p1]) (rest := []) rfl rfl hl.1 (Nat.le_of_ble_eq_true rfl) d90_2 ⟨room_le hccq7 hc1, room_le hssq7 hs1⟩ (fun q hq => hq.elim (fun e => e ▸ hAa) (fun z => z.elim (fun e => e ▸ hAb) (fun g => hAz q (Nat.le_trans hS.1 g)))) (fun v H1 locs1 hv hz1 hz2 hSq7 => ?_)
  obtain ⟨rfl, bb8, hb1, hb2, hSB⟩ := hv
  have hk : kp (ab ba0 bb0) _ H1 := kp_call hz1 hz2 (fun q hq z => z.elim Or.inl (fun z => z.elim Or.inr (fun g => absurd hq (Nat.not_lt.mpr g))))
  have hAb : (fun q => q = ba0 ∨ q = bb0 ∨ s.heap.size ≤ q) bb8 := hb1.elim (fun e => e ▸ hAb) (fun g => hAz _ (Nat.le_trans hS.1 g))
  have hC := hC.sb hk hb1
  have hPb := pe_lt hPb hk hb2
  have hS := hSq7
  have hSz := hS.1
  have her := her.trans herq7
  have hc1 := room_st hccq7 hc1
  have hs1 := room_st hssq7 hs1
  refine lv_pop (pc := 5) hx hb d90_5 rfl ?_
  refine lv_aload_n (pc := 6) hx hb d90_6 rfl (lv_at hl 0 rfl) ?_
  refine lv_iload_n (pc := 7) hx hb d90_7 rfl (lv_at hl 3 rfl) ?_
  refine lv_if_eq (pc := 8) (tgt := 16) hx hb d90_8 (by decide) (fun c8 => ?_) (fun c8 => ?_)
  · have h := jb_t c8 h
    refine c_ldcS (pc := 16) (t := TX15) X hC 15 rfl rfl d90_16 (fun f_rS_ρ_15_ => ?_)
    exact kc18   p2 p3 TX15 (rS ρ 15) q7.1 bb8 _ _ _ _ _ _ hC hPb hS f_rS_ρ_15_ hSB hAa hAb (lv_sub hl [0, 2, 3] rfl) her hc1 hs1 h
  · have h := jb_f c8 h
    refine c_ldcS (pc := 11) (t := TX14) X hC 14 rfl rfl d90_11 (fun f_rS_ρ_14_ => ?_)
    refine lv_goto (pc := 13) (tgt := 18) hx hb d90_13 (by decide) ?_
    exact kc18   p2 p3 TX14 (rS ρ 14) q7.1 bb8 _ _ _ _ _ _ hC hPb hS f_rS_ρ_14_ hSB hAa hAb (lv_sub hl [0, 2, 3] rfl) her hc1 hs1 h
def lu_address_226  (st : CS) (xb : BT) : Option ((VV × CS) × Nat × Nat) := jd (f_wf_textOrTooLong xb) (fun q1 => some ((q1, st), 0, 0))
def lu_address_192  (st : CS) (x1 : Int32) (z1 : TT) (xb : BT) : Option ((VV × CS) × Nat × Nat) := jd (f_sb_appS xb z1) (fun q3 => jd (f_sb_appI q3 x1) (fun q5 => lu_address_226 st q5))
def lu_address_168  (st : CS) (x1 : Int32) (x2 : Int32) (x7 : Int32) (z1 : TT) (xb : BT) : Option ((VV × CS) × Nat × Nat) := jd (f_sb_appS xb z1) (fun q7 => jd (f_lu_appendColumn q7 x2) (fun q9 => jb (x7 = 0) (lu_address_192 st x1 TX14 q9) (lu_address_192 st x1 TX13 q9)))
def lu_address_149  (st : CS) (x1 : Int32) (x2 : Int32) (x4 : Int32) (x7 : Int32) (x8 : Int32) (xb : BT) : Option ((VV × CS) × Nat × Nat) := jb (x4 = 0) (jd (f_lu_appendNumbered xb 82 x1 x7) (fun q11 => jd (f_lu_appendNumbered q11 67 x2 x8) (fun q13 => lu_address_226 st q13))) (jb (x8 = 0) (lu_address_168 st x1 x2 x7 TX14 xb) (lu_address_168 st x1 x2 x7 TX13 xb))
def lu_address_117  (st : CS) (x1 : Int32) (x2 : Int32) (x4 : Int32) (x5 : Int32) (x6 : TT) (x7 : Int32) (z0 : Int32) : Option ((VV × CS) × Nat × Nat) := ja 2 20 (jb (x5 = 0) (lu_address_149 st x1 x2 x4 x7 z0 (([] : TT), 16)) (jd (f_sb_appS (([] : TT), 16) x6) (fun q16 => jd (f_sb_appC q16 33) (fun q18 => lu_address_149 st x1 x2 x4 x7 z0 q18))))
def lu_address_112  (st : CS) (x1 : Int32) (x2 : Int32) (x4 : Int32) (x5 : Int32) (x6 : TT) (x7 : Int32) : Option ((VV × CS) × Nat × Nat) := lu_address_117 st x1 x2 x4 x5 x6 x7 1
def lu_address_100  (st : CS) (x1 : Int32) (x2 : Int32) (x3 : Int32) (x4 : Int32) (x5 : Int32) (x6 : TT) (z0 : Int32) : Option ((VV × CS) × Nat × Nat) := jb (x3 = 1) (lu_address_112 st x1 x2 x4 x5 x6 z0) (jb (x3 = 3) (lu_address_112 st x1 x2 x4 x5 x6 z0) (lu_address_117 st x1 x2 x4 x5 x6 z0 0))
def lu_address_85  (st : CS) : Option ((VV × CS) × Nat × Nat) := jd (f_vl_ofError 3) (fun q20 => some ((q20, st), 0, 0))
def lu_address_55  (st : CS) (x1 : Int32) (x2 : Int32) (x3 : Int32) (x4 : Int32) (z0 : Int32) : Option ((VV × CS) × Nat × Nat) := jd (f_ar_text st 4) (fun q22 => jc (f_wf_isCell x1 x2) (fun q24 => jb (q24 = 0) (lu_address_85 q22.2) (jb (x3 < 1) (lu_address_85 q22.2) (jb (x3 ≤ 4) (jb (2 < x3) (lu_address_100 q22.2 x1 x2 x3 x4 z0 q22.1 0) (lu_address_100 q22.2 x1 x2 x3 x4 z0 q22.1 1)) (lu_address_85 q22.2)))))
def f_lu_address (st : CS) : Option ((VV × CS) × Nat × Nat) := jc (f_ar_whole st 0) (fun q25 => jc (f_ar_whole q25.2 1) (fun q26 => jc (f_ar_wholeOr q26.2 2 1) (fun q27 => jc (f_ar_truthOr q27.2 3 1) (fun q28 => jc (f_ar_isLeftOut q28.2 4) (fun q29 => jb (q29 = 0) (lu_address_55 q28.2 q25.1 q26.1 q27.1 q28.1 1) (lu_address_55 q28.2 q25.1 q26.1 q27.1 q28.1 0))))))
set_option maxHeartbeats 4000000 in
set_option maxRecDepth 100000 in
theorem c_lu_address (l : Launch) (ρ : RH) (ad : Nat → Nat) (H : Heap) (P : Nat → Prop) (st : CS) (res : (VV × CS) × Nat × Nat) (hW : CW ρ P ad st H) (h : f_lu_address st = some res) : Met l y88 (wsOf y88 b88 10 (some (.object "WordFunctions$Value"))) ({ frames := 17, cells := res.2.1, slots := res.2.2, locals := 720 } : Room) (va_Pc [.ref (ad 4)] (KP ρ H)) (mQ (fun v H1 => ∃ x : Nat, v = some (.ref x) ∧ isV ρ P H1 x res.1.1 ∧ CW ρ P ad res.1.2 H1) (MA wC ad H.size)) res.2.1 res.2.2 (MA wC ad H.size) := by
  refine m_ofW (own := "WordFunctions$LookUps") (plainFor_of_name rfl) rfl (Nat.le_of_ble_eq_true rfl) fun p e s m args below meth c ls hx hb hr hlk _ X hs hl => ?_
  subst hs
  have hS : va_S (MA wC ad s.heap.size) s.heap s.heap [] := va_S.rf
  have hSz := hS.1
  have hAz : ∀ q, s.heap.size ≤ q → (MA wC ad s.heap.size) q := fun q hq => Or.inr hq
  have hAp : ∀ i, i < 46 → (MA wC ad s.heap.size) (ad i) := fun i hi => MA.in hi
  have hPp : ∀ i, i < 46 → P (ad i) := hW.1
  have hl : lv_has ls 10 [(0, .ref (ad 4))] := hl
  have kc226 : ∀ (st : CS) (xb : BT) (ba bb : Nat) (H : Heap) (locs : List Loc) (ls : Array Slot) (cells slots : Nat) (r : (VV × CS) × Nat × Nat), CW ρ (pe P ba bb) ad st H → va_S (MA wC ad s.heap.size) s.heap H locs → SB ρ H ba bb xb → (MA wC ad s.heap.size) ba → (MA wC ad s.heap.size) bb → (∀ i, i < 46 → ¬ ab ba bb (ad i)) → lv_has ls 10 [(9, .ref ba)] → res.1 = r.1 → cells + r.2.1 ≤ res.2.1 → slots + r.2.2 ≤ res.2.2 → lu_address_226 st xb = some r → W p l e ({ frames := 17, cells := res.2.1, slots := res.2.2, locals := 720 } : Room) s m args below meth c H locs cells slots (MQ below (mQ (fun v H1 => ∃ x : Nat, v = some (.ref x) ∧ isV ρ P H1 x res.1.1 ∧ CW ρ P ad res.1.2 H1) (MA wC ad s.heap.size)) args s res.2.1 res.2.2 (MA wC ad s.heap.size)) (F0 m 226 ls []) := by
    intro st xb ba bb H locs ls cells slots r hW hS hSB hAa hAb hnn hl her hc1 hs1 h
    have hSz := hS.1
    unfold lu_address_226 at h
    refine lv_aload (pc := 226) hx hb d88_226 (lv_at hl 0 rfl) ?_
    obtain ⟨q1, rq1, hq1, h, herq1, hccq1, hssq1⟩ := jd_some h
    refine k_callSN (pc := 228) (n := 1) X hS (c_wf_textOrTooLong l ρ _ (pe P ba bb) ba bb xb q1 hW.2.2.1 hW.2.1 ⟨hSB, Or.inr (Or.inl rfl), Or.inr (Or.inr rfl)⟩ hq1) wd1004 10 rfl wd1003 wd1 (by decide) ⟨rfl, rfl, Nat.le_of_ble_eq_true rfl, Nat.le_of_ble_eq_true rfl⟩ (As := [.ref ba]) (rest := []) rfl rfl hl.1 (Nat.le_of_ble_eq_true rfl) d88_228 ⟨room_le hccq1 hc1, room_le hssq1 hs1⟩ (fun q hq => hAz q (Nat.le_trans hS.1 hq)) (fun v H1 locs1 hv hz1 hz2 hSq1 => ?_)
    obtain ⟨u2, rfl, fu2⟩ := hv
    have hk : kp no _ H1 := kp_call hz1 hz2 (fun q hq z => absurd hq (Nat.not_lt.mpr z))
    have hSB := hSB.keep hk (fun z => z) (fun z => z)
    have hW := hW.keep hk no_hz (fun _ _ z => z)
    have hS := hSq1
    have hSz := hS.1
    have her := her.trans herq1
    have hc1 := room_st hccq1 hc1
    have hs1 := room_st hssq1 hs1
    have fu2 := fu2.un
    have hW := hW.un hPp
    have her : res.1 = (q1.1, st) := her.trans (congrArg Prod.fst (Option.some.inj h)).symm
    exact m_aret (pc := 231) hx hb hr (Or.inl ⟨_, rfl⟩) hlk hS ⟨u2, rfl, by rw [her]; exact fu2, by rw [her]; exact hW⟩ (Nat.le_trans (Nat.le_add_right _ _) hc1) (Nat.le_trans (Nat.le_add_right _ _) hs1) d88_231
  have kc192 : ∀ (st : CS) (x1 : Int32) (z1 : TT) (az1 : Nat) (xb : BT) (ba bb : Nat) (H : Heap) (locs : List Loc) (ls : Array Slot) (cells slots : Nat) (r : (VV × CS) × Nat × Nat), CW ρ (pe P ba bb) ad st H → va_S (MA wC ad s.heap.size) s.heap H locs → isS ρ (pe P ba bb) H az1 z1 → SB ρ H ba bb xb → (MA wC ad s.heap.size) ba → (MA wC ad s.heap.size) bb → (∀ i, i < 46 → ¬ ab ba bb (ad i)) → lv_has ls 10 [(1, .int x1), (9, .ref ba)] → res.1 = r.1 → cells + r.2.1 ≤ res.2.1 → slots + r.2.2 ≤ res.2.2 → lu_address_192 st x1 z1 xb = some r → W p l e ({ frames := 17, cells := res.2.1, slots := res.2.2, locals := 720 } : Room) s m args below meth c H locs cells slots (MQ below (mQ (fun v H1 => ∃ x : Nat, v = some (.ref x) ∧ isV ρ P H1 x res.1.1 ∧ CW ρ P ad res.1.2 H1) (MA wC ad s.heap.size)) args s res.2.1 res.2.2 (MA wC ad s.heap.size)) (F0 m 192 ls [.ref az1, .ref ba]) := by
    intro st x1 z1 az1 xb ba bb H locs ls cells slots r hW hS faz1 hSB hAa hAb hnn hl her hc1 hs1 h
    have hSz := hS.1
    unfold lu_address_192 at h
    obtain ⟨q3, rq3, hq3, h, herq3, hccq3, hssq3⟩ := jd_some h
    refine k_callV (pc := 192) (n := 1) X hS (c_sb_appS l ρ _ (pe P ba bb) ba bb xb az1 z1 q3 hW.2.2.1 hW.2.1 ⟨hSB, Or.inr (Or.inl rfl), Or.inr (Or.inr rfl)⟩ (isS_ab faz1) hq3) wd524 wd1168 wd522 wd523 wd13 (by decide) ⟨rfl, rfl, Nat.le_of_ble_eq_true rfl, Nat.le_of_ble_eq_true rfl⟩ (sb_recv X hSB) (As := [.ref az1]) (rest := []) rfl rfl hl.1 (Nat.le_of_ble_eq_true rfl) d88_192 ⟨room_le hccq3 hc1, room_le hssq3 hs1⟩ (fun q hq => hq.elim (fun e => e ▸ hAa) (fun z => z.elim (fun e => e ▸ hAb) (fun g => hAz q (Nat.le_trans hS.1 g)))) (fun v H1 locs1 hv hz1 hz2 hSq3 => ?_)
    obtain ⟨rfl, bb4, hb1, hb2, hSB⟩ := hv
    have hk : kp (ab ba bb) _ H1 := kp_call hz1 hz2 (fun q hq z => z.elim Or.inl (fun z => z.elim Or.inr (fun g => absurd hq (Nat.not_lt.mpr g))))
    have hAb : (MA wC ad s.heap.size) bb4 := hb1.elim (fun e => e ▸ hAb) (fun g => hAz _ (Nat.le_trans hS.1 g))
    have hnn0 := hnn
    have hnn : ∀ i, i < 46 → ¬ ab ba bb4 (ad i) := nn_step hnn hb1 hW
    have hW := hW.sb hk hb1 hb2 hnn0 hPp
    have hS := hSq3
    have hSz := hS.1
    have her := her.trans herq3
    have hc1 := room_st hccq3 hc1
    have hs1 := room_st hssq3 hs1
    refine lv_pop (pc := 195) hx hb d88_195 rfl ?_
    refine lv_aload (pc := 196) hx hb d88_196 (lv_at hl 1 rfl) ?_
    refine lv_iload_n (pc := 198) hx hb d88_198 rfl (lv_at hl 0 rfl) ?_
    obtain ⟨q5, rq5, hq5, h, herq5, hccq5, hssq5⟩ := jd_some h
    refine k_callV (pc := 199) (n := 1) X hS (c_sb_appI l ρ _ (pe P ba bb4) ba bb4 q3.1 x1 q5 hW.2.2.1 hW.2.1 ⟨hSB, Or.inr (Or.inl rfl), Or.inr (Or.inr rfl)⟩ hq5) wd489 wd1175 wd487 wd488 wd13 (by decide) ⟨rfl, rfl, Nat.le_of_ble_eq_true rfl, Nat.le_of_ble_eq_true rfl⟩ (sb_recv X hSB) (As := [.int x1]) (rest := []) rfl rfl hl.1 (Nat.le_of_ble_eq_true rfl) d88_199 ⟨room_le hccq5 hc1, room_le hssq5 hs1⟩ (fun q hq => hq.elim (fun e => e ▸ hAa) (fun z => z.elim (fun e => e ▸ hAb) (fun g => hAz q (Nat.le_trans hS.1 g)))) (fun v H1 locs1 hv hz1 hz2 hSq5 => ?_)
    obtain ⟨rfl, bb6, hb1, hb2, hSB⟩ := hv
    have hk : kp (ab ba bb4) _ H1 := kp_call hz1 hz2 (fun q hq z => z.elim Or.inl (fun z => z.elim Or.inr (fun g => absurd hq (Nat.not_lt.mpr g))))
    have hAb : (MA wC ad s.heap.size) bb6 := hb1.elim (fun e => e ▸ hAb) (fun g => hAz _ (Nat.le_trans hS.1 g))
    have hnn0 := hnn
    have hnn : ∀ i, i < 46 → ¬ ab ba bb6 (ad i) := nn_step hnn hb1 hW
    have hW := hW.sb hk hb1 hb2 hnn0 hPp
    have hS := hSq5
    have hSz := hS.1
    have her := her.trans herq5
    have hc1 := room_st hccq5 hc1
    have hs1 := room_st hssq5 hs1
    refine lv_pop (pc := 202) hx hb d88_202 rfl ?_
    refine lv_goto (pc := 203) (tgt := 226) hx hb d88_203 (by decide) ?_
    exact kc226   st q5.1 ba bb6 _ _ _ _ _ _ hW hS hSB hAa hAb hnn (lv_sub hl [1] rfl) her hc1 hs1 h
  have kc168 : ∀ (st : CS) (x1 : Int32) (x2 : Int32) (x7 : Int32) (z1 : TT) (az1 : Nat) (xb : BT) (ba bb : Nat) (H : Heap) (locs : List Loc) (ls : Array Slot) (cells slots : Nat) (r : (VV × CS) × Nat × Nat), CW ρ (pe P ba bb) ad st H → va_S (MA wC ad s.heap.size) s.heap H locs → isS ρ (pe P ba bb) H az1 z1 → SB ρ H ba bb xb → (MA wC ad s.heap.size) ba → (MA wC ad s.heap.size) bb → (∀ i, i < 46 → ¬ ab ba bb (ad i)) → lv_has ls 10 [(1, .int x1), (2, .int x2), (7, .int x7), (9, .ref ba)] → res.1 = r.1 → cells + r.2.1 ≤ res.2.1 → slots + r.2.2 ≤ res.2.2 → lu_address_168 st x1 x2 x7 z1 xb = some r → W p l e ({ frames := 17, cells := res.2.1, slots := res.2.2, locals := 720 } : Room) s m args below meth c H locs cells slots (MQ below (mQ (fun v H1 => ∃ x : Nat, v = some (.ref x) ∧ isV ρ P H1 x res.1.1 ∧ CW ρ P ad res.1.2 H1) (MA wC ad s.heap.size)) args s res.2.1 res.2.2 (MA wC ad s.heap.size)) (F0 m 168 ls [.ref az1, .ref ba]) := by
    intro st x1 x2 x7 z1 az1 xb ba bb H locs ls cells slots r hW hS faz1 hSB hAa hAb hnn hl her hc1 hs1 h
    have hSz := hS.1
    unfold lu_address_168 at h
    obtain ⟨q7, rq7, hq7, h, herq7, hccq7, hssq7⟩ := jd_some h
    refine k_callV (pc := 168) (n := 1) X hS (c_sb_appS l ρ _ (pe P ba bb) ba bb xb az1 z1 q7 hW.2.2.1 hW.2.1 ⟨hSB, Or.inr (Or.inl rfl), Or.inr (Or.inr rfl)⟩ (isS_ab faz1) hq7) wd524 wd1168 wd522 wd523 wd13 (by decide) ⟨rfl, rfl, Nat.le_of_ble_eq_true rfl, Nat.le_of_ble_eq_true rfl⟩ (sb_recv X hSB) (As := [.ref az1]) (rest := []) rfl rfl hl.1 (Nat.le_of_ble_eq_true rfl) d88_168 ⟨room_le hccq7 hc1, room_le hssq7 hs1⟩ (fun q hq => hq.elim (fun e => e ▸ hAa) (fun z => z.elim (fun e => e ▸ hAb) (fun g => hAz q (Nat.le_trans hS.1 g)))) (fun v H1 locs1 hv hz1 hz2 hSq7 => ?_)
    obtain ⟨rfl, bb8, hb1, hb2, hSB⟩ := hv
    have hk : kp (ab ba bb) _ H1 := kp_call hz1 hz2 (fun q hq z => z.elim Or.inl (fun z => z.elim Or.inr (fun g => absurd hq (Nat.not_lt.mpr g))))
    have hAb : (MA wC ad s.heap.size) bb8 := hb1.elim (fun e => e ▸ hAb) (fun g => hAz _ (Nat.le_trans hS.1 g))
    have hnn0 := hnn
    have hnn : ∀ i, i < 46 → ¬ ab ba bb8 (ad i) := nn_step hnn hb1 hW
    have hW := hW.sb hk hb1 hb2 hnn0 hPp
    have hS := hSq7
    have hSz := hS.1
    have her := her.trans herq7
    have hc1 := room_st hccq7 hc1
    have hs1 := room_st hssq7 hs1
    refine lv_pop (pc := 171) hx hb d88_171 rfl ?_
    refine lv_aload (pc := 172) hx hb d88_172 (lv_at hl 3 rfl) ?_
    refine lv_iload_n (pc := 174) hx hb d88_174 rfl (lv_at hl 1 rfl) ?_
    obtain ⟨q9, rq9, hq9, h, herq9, hccq9, hssq9⟩ := jd_some h
    refine k_callS (pc := 175) (n := 2) X hS (c_lu_appendColumn l ρ _ (pe P ba bb8) ba bb8 q7.1 x2 q9 hW.2.2.1 hW.2.1 ⟨hSB, Or.inr (Or.inl rfl), Or.inr (Or.inr rfl)⟩ hq9) wd1174 wd1172 wd1173 wd8 (by decide) ⟨rfl, rfl, Nat.le_of_ble_eq_true rfl, Nat.le_of_ble_eq_true rfl⟩ (As := [.ref ba, .int x2]) (rest := []) rfl rfl hl.1 (Nat.le_of_ble_eq_true rfl) d88_175 ⟨room_le hccq9 hc1, room_le hssq9 hs1⟩ (fun q hq => hq.elim (fun e => e ▸ hAa) (fun z => z.elim (fun e => e ▸ hAb) (fun g => hAz q (Nat.le_trans hS.1 g)))) (fun v H1 locs1 hv hz1 hz2 hSq9 => ?_)
    obtain ⟨rfl, bb10, hb1, hb2, hSB⟩ := hv
    have hk : kp (ab ba bb8) _ H1 := kp_call hz1 hz2 (fun q hq z => z.elim Or.inl (fun z => z.elim Or.inr (fun g => absurd hq (Nat.not_lt.mpr g))))
    have hAb : (MA wC ad s.heap.size) bb10 := hb1.elim (fun e => e ▸ hAb) (fun g => hAz _ (Nat.le_trans hS.1 g))
    have hnn0 := hnn
    have hnn : ∀ i, i < 46 → ¬ ab ba bb10 (ad i) := nn_step hnn hb1 hW
    have hW := hW.sb hk hb1 hb2 hnn0 hPp
    have hS := hSq9
    have hSz := hS.1
    have her := her.trans herq9
    have hc1 := room_st hccq9 hc1
    have hs1 := room_st hssq9 hs1
    refine lv_aload (pc := 178) hx hb d88_178 (lv_at hl 3 rfl) ?_
    refine lv_iload (pc := 180) hx hb d88_180 (lv_at hl 2 rfl) ?_
    refine lv_if_eq (pc := 182) (tgt := 190) hx hb d88_182 (by decide) (fun c182 => ?_) (fun c182 => ?_)
    · have h := jb_t c182 h
      refine c_ldcS (pc := 190) (t := TX14) X hW.2.2.1 14 rfl rfl d88_190 (fun f_rS_ρ_14_ => ?_)
      exact kc192   st x1 TX14 (rS ρ 14) q9.1 ba bb10 _ _ _ _ _ _ hW hS f_rS_ρ_14_ hSB hAa hAb hnn (lv_sub hl [0, 3] rfl) her hc1 hs1 h
    · have h := jb_f c182 h
      refine c_ldcS (pc := 185) (t := TX13) X hW.2.2.1 13 rfl rfl d88_185 (fun f_rS_ρ_13_ => ?_)
      refine lv_goto (pc := 187) (tgt := 192) hx hb d88_187 (by decide) ?_
      exact kc192   st x1 TX13 (rS ρ 13) q9.1 ba bb10 _ _ _ _ _ _ hW hS f_rS_ρ_13_ hSB hAa hAb hnn (lv_sub hl [0, 3] rfl) her hc1 hs1 h
  have kc149 : ∀ (st : CS) (x1 : Int32) (x2 : Int32) (x4 : Int32) (x7 : Int32) (x8 : Int32) (xb : BT) (ba bb : Nat) (H : Heap) (locs : List Loc) (ls : Array Slot) (cells slots : Nat) (r : (VV × CS) × Nat × Nat), CW ρ (pe P ba bb) ad st H → va_S (MA wC ad s.heap.size) s.heap H locs → SB ρ H ba bb xb → (MA wC ad s.heap.size) ba → (MA wC ad s.heap.size) bb → (∀ i, i < 46 → ¬ ab ba bb (ad i)) → lv_has ls 10 [(1, .int x1), (2, .int x2), (4, .int x4), (7, .int x7), (8, .int x8), (9, .ref ba)] → res.1 = r.1 → cells + r.2.1 ≤ res.2.1 → slots + r.2.2 ≤ res.2.2 → lu_address_149 st x1 x2 x4 x7 x8 xb = some r → W p l e ({ frames := 17, cells := res.2.1, slots := res.2.2, locals := 720 } : Room) s m args below meth c H locs cells slots (MQ below (mQ (fun v H1 => ∃ x : Nat, v = some (.ref x) ∧ isV ρ P H1 x res.1.1 ∧ CW ρ P ad res.1.2 H1) (MA wC ad s.heap.size)) args s res.2.1 res.2.2 (MA wC ad s.heap.size)) (F0 m 149 ls []) := by
    intro st x1 x2 x4 x7 x8 xb ba bb H locs ls cells slots r hW hS hSB hAa hAb hnn hl her hc1 hs1 h
    have hSz := hS.1
    unfold lu_address_149 at h
    refine lv_iload (pc := 149) hx hb d88_149 (lv_at hl 2 rfl) ?_
    refine lv_if_eq (pc := 151) (tgt := 206) hx hb d88_151 (by decide) (fun c151 => ?_) (fun c151 => ?_)
    · have h := jb_t c151 h
      refine lv_aload (pc := 206) hx hb d88_206 (lv_at hl 5 rfl) ?_
      refine lv_bipush (pc := 208) (v := 82) hx hb d88_208 (by decide) ?_
      refine lv_iload_n (pc := 210) hx hb d88_210 rfl (lv_at hl 0 rfl) ?_
      refine lv_iload (pc := 211) hx hb d88_211 (lv_at hl 3 rfl) ?_
      obtain ⟨q11, rq11, hq11, h, herq11, hccq11, hssq11⟩ := jd_some h
      refine k_callS (pc := 213) (n := 4) X hS (c_lu_appendNumbered l ρ _ (pe P ba bb) ba bb xb 82 x1 x7 q11 hW.2.2.1 hW.2.1 ⟨hSB, Or.inr (Or.inl rfl), Or.inr (Or.inr rfl)⟩ hq11) wd1178 wd1176 wd1177 wd8 (by decide) ⟨rfl, rfl, Nat.le_of_ble_eq_true rfl, Nat.le_of_ble_eq_true rfl⟩ (As := [.ref ba, .int 82, .int x1, .int x7]) (rest := []) rfl rfl hl.1 (Nat.le_of_ble_eq_true rfl) d88_213 ⟨room_le hccq11 hc1, room_le hssq11 hs1⟩ (fun q hq => hq.elim (fun e => e ▸ hAa) (fun z => z.elim (fun e => e ▸ hAb) (fun g => hAz q (Nat.le_trans hS.1 g)))) (fun v H1 locs1 hv hz1 hz2 hSq11 => ?_)
      obtain ⟨rfl, bb12, hb1, hb2, hSB⟩ := hv
      have hk : kp (ab ba bb) _ H1 := kp_call hz1 hz2 (fun q hq z => z.elim Or.inl (fun z => z.elim Or.inr (fun g => absurd hq (Nat.not_lt.mpr g))))
      have hAb : (MA wC ad s.heap.size) bb12 := hb1.elim (fun e => e ▸ hAb) (fun g => hAz _ (Nat.le_trans hS.1 g))
      have hnn0 := hnn
      have hnn : ∀ i, i < 46 → ¬ ab ba bb12 (ad i) := nn_step hnn hb1 hW
      have hW := hW.sb hk hb1 hb2 hnn0 hPp
      have hS := hSq11
      have hSz := hS.1
      have her := her.trans herq11
      have hc1 := room_st hccq11 hc1
      have hs1 := room_st hssq11 hs1
      refine lv_aload (pc := 216) hx hb d88_216 (lv_at hl 5 rfl) ?_
      refine lv_bipush (pc := 218) (v := 67) hx hb d88_218 (by decide) ?_
      refine lv_iload_n (pc := 220) hx hb d88_220 rfl (lv_at hl 1 rfl) ?_
      refine lv_iload (pc := 221) hx hb d88_221 (lv_at hl 4 rfl) ?_
      obtain ⟨q13, rq13, hq13, h, herq13, hccq13, hssq13⟩ := jd_some h
      refine k_callS (pc := 223) (n := 4) X hS (c_lu_appendNumbered l ρ _ (pe P ba bb12) ba bb12 q11.1 67 x2 x8 q13 hW.2.2.1 hW.2.1 ⟨hSB, Or.inr (Or.inl rfl), Or.inr (Or.inr rfl)⟩ hq13) wd1178 wd1176 wd1177 wd8 (by decide) ⟨rfl, rfl, Nat.le_of_ble_eq_true rfl, Nat.le_of_ble_eq_true rfl⟩ (As := [.ref ba, .int 67, .int x2, .int x8]) (rest := []) rfl rfl hl.1 (Nat.le_of_ble_eq_true rfl) d88_223 ⟨room_le hccq13 hc1, room_le hssq13 hs1⟩ (fun q hq => hq.elim (fun e => e ▸ hAa) (fun z => z.elim (fun e => e ▸ hAb) (fun g => hAz q (Nat.le_trans hS.1 g)))) (fun v H1 locs1 hv hz1 hz2 hSq13 => ?_)
      obtain ⟨rfl, bb14, hb1, hb2, hSB⟩ := hv
      have hk : kp (ab ba bb12) _ H1 := kp_call hz1 hz2 (fun q hq z => z.elim Or.inl (fun z => z.elim Or.inr (fun g => absurd hq (Nat.not_lt.mpr g))))
      have hAb : (MA wC ad s.heap.size) bb14 := hb1.elim (fun e => e ▸ hAb) (fun g => hAz _ (Nat.le_trans hS.1 g))
      have hnn0 := hnn
      have hnn : ∀ i, i < 46 → ¬ ab ba bb14 (ad i) := nn_step hnn hb1 hW
      have hW := hW.sb hk hb1 hb2 hnn0 hPp
      have hS := hSq13
      have hSz := hS.1
      have her := her.trans herq13
      have hc1 := room_st hccq13 hc1
      have hs1 := room_st hssq13 hs1
      exact kc226   st q13.1 ba bb14 _ _ _ _ _ _ hW hS hSB hAa hAb hnn (lv_sub hl [5] rfl) her hc1 hs1 h
    · have h := jb_f c151 h
      refine lv_aload (pc := 154) hx hb d88_154 (lv_at hl 5 rfl) ?_
      refine lv_iload (pc := 156) hx hb d88_156 (lv_at hl 4 rfl) ?_
      refine lv_if_eq (pc := 158) (tgt := 166) hx hb d88_158 (by decide) (fun c158 => ?_) (fun c158 => ?_)
      · have h := jb_t c158 h
        refine c_ldcS (pc := 166) (t := TX14) X hW.2.2.1 14 rfl rfl d88_166 (fun f_rS_ρ_14_ => ?_)
        exact kc168   st x1 x2 x7 TX14 (rS ρ 14) xb ba bb _ _ _ _ _ _ hW hS f_rS_ρ_14_ hSB hAa hAb hnn (lv_sub hl [0, 1, 3, 5] rfl) her hc1 hs1 h
      · have h := jb_f c158 h
        refine c_ldcS (pc := 161) (t := TX13) X hW.2.2.1 13 rfl rfl d88_161 (fun f_rS_ρ_13_ => ?_)
        refine lv_goto (pc := 163) (tgt := 168) hx hb d88_163 (by decide) ?_
        exact kc168   st x1 x2 x7 TX13 (rS ρ 13) xb ba bb _ _ _ _ _ _ hW hS f_rS_ρ_13_ hSB hAa hAb hnn (lv_sub hl [0, 1, 3, 5] rfl) her hc1 hs1 h
  have kc117 : ∀ (st : CS) (x1 : Int32) (x2 : Int32) (x4 : Int32) (x5 : Int32) (x6 : TT) (x7 : Int32) (z0 : Int32) (ax6 : Nat) (H : Heap) (locs : List Loc) (ls : Array Slot) (cells slots : Nat) (r : (VV × CS) × Nat × Nat), CW ρ P ad st H → va_S (MA wC ad s.heap.size) s.heap H locs → isS ρ P H ax6 x6 → lv_has ls 10 [(1, .int x1), (2, .int x2), (4, .int x4), (5, .int x5), (6, .ref ax6), (7, .int x7)] → res.1 = r.1 → cells + r.2.1 ≤ res.2.1 → slots + r.2.2 ≤ res.2.2 → lu_address_117 st x1 x2 x4 x5 x6 x7 z0 = some r → W p l e ({ frames := 17, cells := res.2.1, slots := res.2.2, locals := 720 } : Room) s m args below meth c H locs cells slots (MQ below (mQ (fun v H1 => ∃ x : Nat, v = some (.ref x) ∧ isV ρ P H1 x res.1.1 ∧ CW ρ P ad res.1.2 H1) (MA wC ad s.heap.size)) args s res.2.1 res.2.2 (MA wC ad s.heap.size)) (F0 m 117 ls [.int z0]) := by
    intro st x1 x2 x4 x5 x6 x7 z0 ax6 H locs ls cells slots r hW hS fax6 hl her hc1 hs1 h
    have hSz := hS.1
    unfold lu_address_117 at h
    refine lv_istore (pc := 117) (lv' := [(8, .int z0), (1, .int x1), (2, .int x2), (4, .int x4), (5, .int x5), (6, .ref ax6), (7, .int x7)]) hx hb d88_117 hl (by decide) rfl (fun ls hl => ?_)
    obtain ⟨r15, h, her15, hcc15, hss15⟩ := ja_some h
    refine k_newSB (pc := 119) X hS hW.2.2.1 hW.2.1 hAz wd1166 wd1167 (rest := []) hl.1 (Nat.le_of_ble_eq_true rfl) rfl rfl (room_le hcc15 hc1) (room_le hss15 hs1) d88_119 d88_122 d88_123 (fun ba bb H1 locs hka hba hbb hba1 hbb1 hSB hS => ?_)
    have fax6 := fax6.new hka hba hbb
    have hnn : ∀ i, i < 46 → ¬ ab ba bb (ad i) := nn_new hW hba hbb
    have hW := hW.new hka hba hbb hba1 hbb1
    have hAa : (MA wC ad s.heap.size) ba := hAz _ (Nat.le_trans hSz hba)
    have hAb : (MA wC ad s.heap.size) bb := hAz _ (Nat.le_trans hSz hbb)
    have hSz := hS.1
    have her := her.trans her15
    have hc1 := room_st hcc15 hc1
    have hs1 := room_st hss15 hs1
    refine lv_astore (pc := 126) (lv' := [(9, .ref ba), (8, .int z0), (1, .int x1), (2, .int x2), (4, .int x4), (5, .int x5), (6, .ref ax6), (7, .int x7)]) hx hb d88_126 hl (by decide) rfl (fun ls hl => ?_)
    refine lv_iload (pc := 128) hx hb d88_128 (lv_at hl 5 rfl) ?_
    refine lv_if_eq (pc := 130) (tgt := 149) hx hb d88_130 (by decide) (fun c130 => ?_) (fun c130 => ?_)
    · have h := jb_t c130 h
      exact kc149   st x1 x2 x4 x7 z0 (([] : TT), 16) ba bb _ _ _ _ _ _ hW hS hSB hAa hAb hnn (lv_sub hl [2, 3, 4, 7, 1, 0] rfl) her hc1 hs1 h
    · have h := jb_f c130 h
      refine lv_aload (pc := 133) hx hb d88_133 (lv_at hl 0 rfl) ?_
      refine lv_aload (pc := 135) hx hb d88_135 (lv_at hl 6 rfl) ?_
      obtain ⟨q16, rq16, hq16, h, herq16, hccq16, hssq16⟩ := jd_some h
      refine k_callV (pc := 137) (n := 1) X hS (c_sb_appS l ρ _ (pe P ba bb) ba bb (([] : TT), 16) ax6 x6 q16 hW.2.2.1 hW.2.1 ⟨hSB, Or.inr (Or.inl rfl), Or.inr (Or.inr rfl)⟩ (isS_ab fax6) hq16) wd524 wd1168 wd522 wd523 wd13 (by decide) ⟨rfl, rfl, Nat.le_of_ble_eq_true rfl, Nat.le_of_ble_eq_true rfl⟩ (sb_recv X hSB) (As := [.ref ax6]) (rest := []) rfl rfl hl.1 (Nat.le_of_ble_eq_true rfl) d88_137 ⟨room_le hccq16 hc1, room_le hssq16 hs1⟩ (fun q hq => hq.elim (fun e => e ▸ hAa) (fun z => z.elim (fun e => e ▸ hAb) (fun g => hAz q (Nat.le_trans hS.1 g)))) (fun v H1 locs1 hv hz1 hz2 hSq16 => ?_)
      obtain ⟨rfl, bb17, hb1, hb2, hSB⟩ := hv
      have hk : kp (ab ba bb) _ H1 := kp_call hz1 hz2 (fun q hq z => z.elim Or.inl (fun z => z.elim Or.inr (fun g => absurd hq (Nat.not_lt.mpr g))))
      have hAb : (MA wC ad s.heap.size) bb17 := hb1.elim (fun e => e ▸ hAb) (fun g => hAz _ (Nat.le_trans hS.1 g))
      have hnn0 := hnn
      have hnn : ∀ i, i < 46 → ¬ ab ba bb17 (ad i) := nn_step hnn hb1 hW
      have hW := hW.sb hk hb1 hb2 hnn0 hPp
      have hS := hSq16
      have hSz := hS.1
      have her := her.trans herq16
      have hc1 := room_st hccq16 hc1
      have hs1 := room_st hssq16 hs1
      refine lv_pop (pc := 140) hx hb d88_140 rfl ?_
      refine lv_aload (pc := 141) hx hb d88_141 (lv_at hl 0 rfl) ?_
      refine lv_bipush (pc := 143) (v := 33) hx hb d88_143 (by decide) ?_
      obtain ⟨q18, rq18, hq18, h, herq18, hccq18, hssq18⟩ := jd_some h
      refine k_callV (pc := 145) (n := 1) X hS (c_sb_appC l ρ _ (pe P ba bb17) ba bb17 q16.1 33 q18 hW.2.2.1 hW.2.1 ⟨hSB, Or.inr (Or.inl rfl), Or.inr (Or.inr rfl)⟩ hq18) wd316 wd1169 wd314 wd315 wd13 (by decide) ⟨rfl, rfl, Nat.le_of_ble_eq_true rfl, Nat.le_of_ble_eq_true rfl⟩ (sb_recv X hSB) (As := [.int 33]) (rest := []) rfl rfl hl.1 (Nat.le_of_ble_eq_true rfl) d88_145 ⟨room_le hccq18 hc1, room_le hssq18 hs1⟩ (fun q hq => hq.elim (fun e => e ▸ hAa) (fun z => z.elim (fun e => e ▸ hAb) (fun g => hAz q (Nat.le_trans hS.1 g)))) (fun v H1 locs1 hv hz1 hz2 hSq18 => ?_)
      obtain ⟨rfl, bb19, hb1, hb2, hSB⟩ := hv
      have hk : kp (ab ba bb17) _ H1 := kp_call hz1 hz2 (fun q hq z => z.elim Or.inl (fun z => z.elim Or.inr (fun g => absurd hq (Nat.not_lt.mpr g))))
      have hAb : (MA wC ad s.heap.size) bb19 := hb1.elim (fun e => e ▸ hAb) (fun g => hAz _ (Nat.le_trans hS.1 g))
      have hnn0 := hnn
      have hnn : ∀ i, i < 46 → ¬ ab ba bb19 (ad i) := nn_step hnn hb1 hW
      have hW := hW.sb hk hb1 hb2 hnn0 hPp
      have hS := hSq18
      have hSz := hS.1
      have her := her.trans herq18
      have hc1 := room_st hccq18 hc1
      have hs1 := room_st hssq18 hs1
      refine lv_pop (pc := 148) hx hb d88_148 rfl ?_
      exact kc149   st x1 x2 x4 x7 z0 q18.1 ba bb19 _ _ _ _ _ _ hW hS hSB hAa hAb hnn (lv_sub hl [2, 3, 4, 7, 1, 0] rfl) her hc1 hs1 h
  have kc112 : ∀ (st : CS) (x1 : Int32) (x2 : Int32) (x4 : Int32) (x5 : Int32) (x6 : TT) (x7 : Int32) (ax6 : Nat) (H : Heap) (locs : List Loc) (ls : Array Slot) (cells slots : Nat) (r : (VV × CS) × Nat × Nat), CW ρ P ad st H → va_S (MA wC ad s.heap.size) s.heap H locs → isS ρ P H ax6 x6 → lv_has ls 10 [(1, .int x1), (2, .int x2), (4, .int x4), (5, .int x5), (6, .ref ax6), (7, .int x7)] → res.1 = r.1 → cells + r.2.1 ≤ res.2.1 → slots + r.2.2 ≤ res.2.2 → lu_address_112 st x1 x2 x4 x5 x6 x7 = some r → W p l e ({ frames := 17, cells := res.2.1, slots := res.2.2, locals := 720 } : Room) s m args below meth c H locs cells slots (MQ below (mQ (fun v H1 => ∃ x : Nat, v = some (.ref x) ∧ isV ρ P H1 x res.1.1 ∧ CW ρ P ad res.1.2 H1) (MA wC ad s.heap.size)) args s res.2.1 res.2.2 (MA wC ad s.heap.size)) (F0 m 112 ls []) := by
    intro st x1 x2 x4 x5 x6 x7 ax6 H locs ls cells slots r hW hS fax6 hl her hc1 hs1 h
    have hSz := hS.1
    unfold lu_address_112 at h
    refine lv_iconst (pc := 112) (v := 1) hx hb d88_112 (by decide) ?_
    refine lv_goto (pc := 113) (tgt := 117) hx hb d88_113 (by decide) ?_
    exact kc117   st x1 x2 x4 x5 x6 x7 1 ax6 _ _ _ _ _ _ hW hS fax6 (lv_sub hl [0, 1, 2, 3, 4, 5] rfl) her hc1 hs1 h
  have kc100 : ∀ (st : CS) (x1 : Int32) (x2 : Int32) (x3 : Int32) (x4 : Int32) (x5 : Int32) (x6 : TT) (z0 : Int32) (ax6 : Nat) (H : Heap) (locs : List Loc) (ls : Array Slot) (cells slots : Nat) (r : (VV × CS) × Nat × Nat), CW ρ P ad st H → va_S (MA wC ad s.heap.size) s.heap H locs → isS ρ P H ax6 x6 → lv_has ls 10 [(1, .int x1), (2, .int x2), (3, .int x3), (4, .int x4), (5, .int x5), (6, .ref ax6)] → res.1 = r.1 → cells + r.2.1 ≤ res.2.1 → slots + r.2.2 ≤ res.2.2 → lu_address_100 st x1 x2 x3 x4 x5 x6 z0 = some r → W p l e ({ frames := 17, cells := res.2.1, slots := res.2.2, locals := 720 } : Room) s m args below meth c H locs cells slots (MQ below (mQ (fun v H1 => ∃ x : Nat, v = some (.ref x) ∧ isV ρ P H1 x res.1.1 ∧ CW ρ P ad res.1.2 H1) (MA wC ad s.heap.size)) args s res.2.1 res.2.2 (MA wC ad s.heap.size)) (F0 m 100 ls [.int z0]) := by
    intro st x1 x2 x3 x4 x5 x6 z0 ax6 H locs ls cells slots r hW hS fax6 hl her hc1 hs1 h
    have hSz := hS.1
    unfold lu_address_100 at h
    refine lv_istore (pc := 100) (lv' := [(7, .int z0), (1, .int x1), (2, .int x2), (3, .int x3), (4, .int x4), (5, .int x5), (6, .ref ax6)]) hx hb d88_100 hl (by decide) rfl (fun ls hl => ?_)
    refine lv_iload_n (pc := 102) hx hb d88_102 rfl (lv_at hl 3 rfl) ?_
    refine lv_iconst (pc := 103) (v := 1) hx hb d88_103 (by decide) ?_
    refine lv_icmp_eq (pc := 104) (tgt := 112) hx hb d88_104 (by decide) (fun c104 => ?_) (fun c104 => ?_)
    · have h := jb_t c104 h
      exact kc112   st x1 x2 x4 x5 x6 z0 ax6 _ _ _ _ _ _ hW hS fax6 (lv_sub hl [1, 2, 4, 5, 6, 0] rfl) her hc1 hs1 h
    · have h := jb_f c104 h
      refine lv_iload_n (pc := 107) hx hb d88_107 rfl (lv_at hl 3 rfl) ?_
      refine lv_iconst (pc := 108) (v := 3) hx hb d88_108 (by decide) ?_
      refine lv_icmp_ne (pc := 109) (tgt := 116) hx hb d88_109 (by decide) (fun c109 => ?_) (fun c109 => ?_)
      · have h := jb_f c109 h
        refine lv_iconst (pc := 116) (v := 0) hx hb d88_116 (by decide) ?_
        exact kc117   st x1 x2 x4 x5 x6 z0 0 ax6 _ _ _ _ _ _ hW hS fax6 (lv_sub hl [1, 2, 4, 5, 6, 0] rfl) her hc1 hs1 h
      · have h := jb_t c109 h
        exact kc112   st x1 x2 x4 x5 x6 z0 ax6 _ _ _ _ _ _ hW hS fax6 (lv_sub hl [1, 2, 4, 5, 6, 0] rfl) her hc1 hs1 h
  have kc85 : ∀ (st : CS) (H : Heap) (locs : List Loc) (ls : Array Slot) (cells slots : Nat) (r : (VV × CS) × Nat × Nat), CW ρ P ad st H → va_S (MA wC ad s.heap.size) s.heap H locs → lv_has ls 10 [] → res.1 = r.1 → cells + r.2.1 ≤ res.2.1 → slots + r.2.2 ≤ res.2.2 → lu_address_85 st = some r → W p l e ({ frames := 17, cells := res.2.1, slots := res.2.2, locals := 720 } : Room) s m args below meth c H locs cells slots (MQ below (mQ (fun v H1 => ∃ x : Nat, v = some (.ref x) ∧ isV ρ P H1 x res.1.1 ∧ CW ρ P ad res.1.2 H1) (MA wC ad s.heap.size)) args s res.2.1 res.2.2 (MA wC ad s.heap.size)) (F0 m 85 ls []) := by
    intro st H locs ls cells slots r hW hS hl her hc1 hs1 h
    have hSz := hS.1
    unfold lu_address_85 at h
    refine lv_iconst (pc := 85) (v := 3) hx hb d88_85 (by decide) ?_
    obtain ⟨q20, rq20, hq20, h, herq20, hccq20, hssq20⟩ := jd_some h
    refine k_callS (pc := 86) (n := 1) X hS (c_vl_ofError l ρ _ P 3 q20 hW.2.2.1 hW.2.1  hq20) wd651 wd836 wd650 wd4 (by decide) ⟨rfl, rfl, Nat.le_of_ble_eq_true rfl, Nat.le_of_ble_eq_true rfl⟩ (As := [.int 3]) (rest := []) rfl rfl hl.1 (Nat.le_of_ble_eq_true rfl) d88_86 ⟨room_le hccq20 hc1, room_le hssq20 hs1⟩ (fun q hq => hAz q (Nat.le_trans hS.1 hq)) (fun v H1 locs1 hv hz1 hz2 hSq20 => ?_)
    obtain ⟨u21, rfl, fu21⟩ := hv
    have hk : kp no _ H1 := kp_call hz1 hz2 (fun q hq z => absurd hq (Nat.not_lt.mpr z))
    have hW := hW.keep hk no_hz (fun _ _ z => z)
    have hS := hSq20
    have hSz := hS.1
    have her := her.trans herq20
    have hc1 := room_st hccq20 hc1
    have hs1 := room_st hssq20 hs1
    have her : res.1 = (q20.1, st) := her.trans (congrArg Prod.fst (Option.some.inj h)).symm
    exact m_aret (pc := 89) hx hb hr (Or.inl ⟨_, rfl⟩) hlk hS ⟨u21, rfl, by rw [her]; exact fu21, by rw [her]; exact hW⟩ (Nat.le_trans (Nat.le_add_right _ _) hc1) (Nat.le_trans (Nat.le_add_right _ _) hs1) d88_89
  have kc55 : ∀ (st : CS) (x1 : Int32) (x2 : Int32) (x3 : Int32) (x4 : Int32) (z0 : Int32) (H : Heap) (locs : List Loc) (ls : Array Slot) (cells slots : Nat) (r : (VV × CS) × Nat × Nat), CW ρ P ad st H → va_S (MA wC ad s.heap.size) s.heap H locs → lv_has ls 10 [(0, .ref (ad 4)), (1, .int x1), (2, .int x2), (3, .int x3), (4, .int x4)] → res.1 = r.1 → cells + r.2.1 ≤ res.2.1 → slots + r.2.2 ≤ res.2.2 → lu_address_55 st x1 x2 x3 x4 z0 = some r → W p l e ({ frames := 17, cells := res.2.1, slots := res.2.2, locals := 720 } : Room) s m args below meth c H locs cells slots (MQ below (mQ (fun v H1 => ∃ x : Nat, v = some (.ref x) ∧ isV ρ P H1 x res.1.1 ∧ CW ρ P ad res.1.2 H1) (MA wC ad s.heap.size)) args s res.2.1 res.2.2 (MA wC ad s.heap.size)) (F0 m 55 ls [.int z0]) := by
    intro st x1 x2 x3 x4 z0 H locs ls cells slots r hW hS hl her hc1 hs1 h
    have hSz := hS.1
    unfold lu_address_55 at h
    refine lv_istore (pc := 55) (lv' := [(5, .int z0), (0, .ref (ad 4)), (1, .int x1), (2, .int x2), (3, .int x3), (4, .int x4)]) hx hb d88_55 hl (by decide) rfl (fun ls hl => ?_)
    refine lv_aload_n (pc := 57) hx hb d88_57 rfl (lv_at hl 1 rfl) ?_
    refine c_getK (pc := 58) X hW 4 0 6 1 (C := "WordFunctions$LookUps") (T := T6) (N := 2) (by decide) rfl rfl rfl rfl tin6 rfl wd209 rfl rfl d88_58 ?_
    refine lv_iconst (pc := 61) (v := 4) hx hb d88_61 (by decide) ?_
    obtain ⟨q22, rq22, hq22, h, herq22, hccq22, hssq22⟩ := jd_some h
    refine k_callV (pc := 62) (n := 1) X hS (c_ar_text l ρ ad _ P st 4 q22 hW  hq22) wd868 wd1164 wd866 wd867 wd3 (by decide) ⟨rfl, rfl, Nat.le_of_ble_eq_true rfl, Nat.le_of_ble_eq_true rfl⟩ (c_recv X hW 1 3 (by decide) rfl rfl) (As := [.int 4]) (rest := []) rfl rfl hl.1 (Nat.le_of_ble_eq_true rfl) d88_62 ⟨room_le hccq22 hc1, room_le hssq22 hs1⟩ (fun q hq => MA.mono hS.1 hq) (fun v H1 locs1 hv hz1 hz2 hSq22 => ?_)
    have hPq := hW.1
    obtain ⟨u23, rfl, fu23, hW⟩ := hv
    have hS := hSq22
    have hSz := hS.1
    have her := her.trans herq22
    have hc1 := room_st hccq22 hc1
    have hs1 := room_st hssq22 hs1
    refine lv_astore (pc := 65) (lv' := [(6, .ref u23), (5, .int z0), (0, .ref (ad 4)), (1, .int x1), (2, .int x2), (3, .int x3), (4, .int x4)]) hx hb d88_65 hl (by decide) rfl (fun ls hl => ?_)
    refine lv_iload_n (pc := 67) hx hb d88_67 rfl (lv_at hl 3 rfl) ?_
    refine lv_iload_n (pc := 68) hx hb d88_68 rfl (lv_at hl 4 rfl) ?_
    obtain ⟨q24, hq24, h⟩ := jc_some h
    refine k_callSN (pc := 69) (n := 2) X hS (c_wf_isCell l ρ _ P x1 x2 q24 hW.2.2.1 hW.2.1  hq24) wd615 9 rfl wd614 wd1 (by decide) ⟨rfl, rfl, Nat.le_of_ble_eq_true rfl, Nat.le_of_ble_eq_true rfl⟩ (As := [.int x1, .int x2]) (rest := []) rfl rfl hl.1 (Nat.le_of_ble_eq_true rfl) d88_69 ⟨room_l0 hc1, room_l0 hs1⟩ (fun q hq => False.elim hq) (fun v H1 locs1 hv _ _ hSq24 => ?_)
    obtain ⟨rfl, rfl⟩ := hv
    have hS := hSq24
    have hSz := hS.1
    refine lv_if_eq (pc := 72) (tgt := 85) hx hb d88_72 (by decide) (fun c72 => ?_) (fun c72 => ?_)
    · have h := jb_t c72 h
      exact kc85   q22.1.2 _ _ _ _ _ _ hW hS (lv_sub hl [] rfl) her hc1 hs1 h
    · have h := jb_f c72 h
      refine lv_iload_n (pc := 75) hx hb d88_75 rfl (lv_at hl 5 rfl) ?_
      refine lv_iconst (pc := 76) (v := 1) hx hb d88_76 (by decide) ?_
      refine lv_icmp_lt (pc := 77) (tgt := 85) hx hb d88_77 (by decide) (fun c77 => ?_) (fun c77 => ?_)
      · have h := jb_t c77 h
        exact kc85   q22.1.2 _ _ _ _ _ _ hW hS (lv_sub hl [] rfl) her hc1 hs1 h
      · have h := jb_f c77 h
        refine lv_iload_n (pc := 80) hx hb d88_80 rfl (lv_at hl 5 rfl) ?_
        refine lv_iconst (pc := 81) (v := 4) hx hb d88_81 (by decide) ?_
        refine lv_icmp_le (pc := 82) (tgt := 90) hx hb d88_82 (by decide) (fun c82 => ?_) (fun c82 => ?_)
        · have h := jb_t c82 h
          refine lv_iload_n (pc := 90) hx hb d88_90 rfl (lv_at hl 5 rfl) ?_
          refine lv_iconst (pc := 91) (v := 2) hx hb d88_91 (by decide) ?_
          refine lv_icmp_gt (pc := 92) (tgt := 99) hx hb d88_92 (by decide) (fun c92 => ?_) (fun c92 => ?_)
          · have h := jb_t c92 h
            refine lv_iconst (pc := 99) (v := 0) hx hb d88_99 (by decide) ?_
            exact kc100   q22.1.2 x1 x2 x3 x4 z0 q22.1.1 0 u23 _ _ _ _ _ _ hW hS fu23 (lv_sub hl [3, 4, 5, 6, 1, 0] rfl) her hc1 hs1 h
          · have h := jb_f c92 h
            refine lv_iconst (pc := 95) (v := 1) hx hb d88_95 (by decide) ?_
            refine lv_goto (pc := 96) (tgt := 100) hx hb d88_96 (by decide) ?_
            exact kc100   q22.1.2 x1 x2 x3 x4 z0 q22.1.1 1 u23 _ _ _ _ _ _ hW hS fu23 (lv_sub hl [3, 4, 5, 6, 1, 0] rfl) her hc1 hs1 h
        · have h := jb_f c82 h
          exact kc85   q22.1.2 _ _ _ _ _ _ hW hS (lv_sub hl [] rfl) her hc1 hs1 h
  have her : res.1 = res.1 := rfl
  have hc1 : 0 + res.2.1 ≤ res.2.1 := Nat.le_of_eq (Nat.zero_add _)
  have hs1 : 0 + res.2.2 ≤ res.2.2 := Nat.le_of_eq (Nat.zero_add _)
  unfold f_lu_address at h
  refine lv_aload_n (pc := 0) hx hb d88_0 rfl (lv_at hl 0 rfl) ?_
  refine c_getK (pc := 1) X hW 4 0 6 1 (C := "WordFunctions$LookUps") (T := T6) (N := 2) (by decide) rfl rfl rfl rfl tin6 rfl wd209 rfl rfl d88_1 ?_
  refine lv_iconst (pc := 4) (v := 0) hx hb d88_4 (by decide) ?_
  obtain ⟨q25, hq25, h⟩ := jc_some h
  refine k_callV (pc := 5) (n := 1) X hS (c_ar_whole l ρ ad _ P st 0 q25 hW  hq25) wd762 wd759 wd760 wd761 wd3 (by decide) ⟨rfl, rfl, Nat.le_of_ble_eq_true rfl, Nat.le_of_ble_eq_true rfl⟩ (c_recv X hW 1 3 (by decide) rfl rfl) (As := [.int 0]) (rest := []) rfl rfl hl.1 (Nat.le_of_ble_eq_true rfl) d88_5 ⟨room_l0 hc1, room_l0 hs1⟩ (fun q hq => MA.mono hS.1 hq) (fun v H1 locs1 hv hz1 hz2 hSq25 => ?_)
  have hPq := hW.1
  obtain ⟨rfl, hW⟩ := hv
  have hS := hSq25
  have hSz := hS.1
  refine lv_istore_n (pc := 8) (lv' := [(1, .int q25.1), (0, .ref (ad 4))]) hx hb d88_8 rfl hl (by decide) rfl (fun ls hl => ?_)
  refine lv_aload_n (pc := 9) hx hb d88_9 rfl (lv_at hl 1 rfl) ?_
  refine c_getK (pc := 10) X hW 4 0 6 1 (C := "WordFunctions$LookUps") (T := T6) (N := 2) (by decide) rfl rfl rfl rfl tin6 rfl wd209 rfl rfl d88_10 ?_
  refine lv_iconst (pc := 13) (v := 1) hx hb d88_13 (by decide) ?_
  obtain ⟨q26, hq26, h⟩ := jc_some h
  refine k_callV (pc := 14) (n := 1) X hS (c_ar_whole l ρ ad _ P q25.2 1 q26 hW  hq26) wd762 wd759 wd760 wd761 wd3 (by decide) ⟨rfl, rfl, Nat.le_of_ble_eq_true rfl, Nat.le_of_ble_eq_true rfl⟩ (c_recv X hW 1 3 (by decide) rfl rfl) (As := [.int 1]) (rest := []) rfl rfl hl.1 (Nat.le_of_ble_eq_true rfl) d88_14 ⟨room_l0 hc1, room_l0 hs1⟩ (fun q hq => MA.mono hS.1 hq) (fun v H1 locs1 hv hz1 hz2 hSq26 => ?_)
  have hPq := hW.1
  obtain ⟨rfl, hW⟩ := hv
  have hS := hSq26
  have hSz := hS.1
  refine lv_istore_n (pc := 17) (lv' := [(2, .int q26.1), (1, .int q25.1), (0, .ref (ad 4))]) hx hb d88_17 rfl hl (by decide) rfl (fun ls hl => ?_)
  refine lv_aload_n (pc := 18) hx hb d88_18 rfl (lv_at hl 2 rfl) ?_
  refine c_getK (pc := 19) X hW 4 0 6 1 (C := "WordFunctions$LookUps") (T := T6) (N := 2) (by decide) rfl rfl rfl rfl tin6 rfl wd209 rfl rfl d88_19 ?_
  refine lv_iconst (pc := 22) (v := 2) hx hb d88_22 (by decide) ?_
  refine lv_iconst (pc := 23) (v := 1) hx hb d88_23 (by decide) ?_
  obtain ⟨q27, hq27, h⟩ := jc_some h
  refine k_callV (pc := 24) (n := 2) X hS (c_ar_wholeOr l ρ ad _ P q26.2 2 1 q27 hW  hq27) wd925 wd1154 wd923 wd924 wd3 (by decide) ⟨rfl, rfl, Nat.le_of_ble_eq_true rfl, Nat.le_of_ble_eq_true rfl⟩ (c_recv X hW 1 3 (by decide) rfl rfl) (As := [.int 2, .int 1]) (rest := []) rfl rfl hl.1 (Nat.le_of_ble_eq_true rfl) d88_24 ⟨room_l0 hc1, room_l0 hs1⟩ (fun q hq => MA.mono hS.1 hq) (fun v H1 locs1 hv hz1 hz2 hSq27 => ?_)
  have hPq := hW.1
  obtain ⟨rfl, hW⟩ := hv
  have hS := hSq27
  have hSz := hS.1
  refine lv_istore_n (pc := 27) (lv' := [(3, .int q27.1), (2, .int q26.1), (1, .int q25.1), (0, .ref (ad 4))]) hx hb d88_27 rfl hl (by decide) rfl (fun ls hl => ?_)
  refine lv_aload_n (pc := 28) hx hb d88_28 rfl (lv_at hl 3 rfl) ?_
  refine c_getK (pc := 29) X hW 4 0 6 1 (C := "WordFunctions$LookUps") (T := T6) (N := 2) (by decide) rfl rfl rfl rfl tin6 rfl wd209 rfl rfl d88_29 ?_
  refine lv_iconst (pc := 32) (v := 3) hx hb d88_32 (by decide) ?_
  refine lv_iconst (pc := 33) (v := 1) hx hb d88_33 (by decide) ?_
  obtain ⟨q28, hq28, h⟩ := jc_some h
  refine k_callV (pc := 34) (n := 2) X hS (c_ar_truthOr l ρ ad _ P q27.2 3 1 q28 hW  hq28) wd1124 wd1121 wd1122 wd1123 wd3 (by decide) ⟨rfl, rfl, Nat.le_of_ble_eq_true rfl, Nat.le_of_ble_eq_true rfl⟩ (c_recv X hW 1 3 (by decide) rfl rfl) (As := [.int 3, .int 1]) (rest := []) rfl rfl hl.1 (Nat.le_of_ble_eq_true rfl) d88_34 ⟨room_l0 hc1, room_l0 hs1⟩ (fun q hq => MA.mono hS.1 hq) (fun v H1 locs1 hv hz1 hz2 hSq28 => ?_)
  have hPq := hW.1
  obtain ⟨rfl, hW⟩ := hv
  have hS := hSq28
  have hSz := hS.1
  refine lv_istore (pc := 37) (lv' := [(4, .int q28.1), (3, .int q27.1), (2, .int q26.1), (1, .int q25.1), (0, .ref (ad 4))]) hx hb d88_37 hl (by decide) rfl (fun ls hl => ?_)
  refine lv_aload_n (pc := 39) hx hb d88_39 rfl (lv_at hl 4 rfl) ?_
  refine c_getK (pc := 40) X hW 4 0 6 1 (C := "WordFunctions$LookUps") (T := T6) (N := 2) (by decide) rfl rfl rfl rfl tin6 rfl wd209 rfl rfl d88_40 ?_
  refine lv_iconst (pc := 43) (v := 4) hx hb d88_43 (by decide) ?_
  obtain ⟨q29, hq29, h⟩ := jc_some h
  refine k_callV (pc := 44) (n := 1) X hS (c_ar_isLeftOut l ρ ad _ P q28.2 4 q29 hW  hq29) wd929 wd1148 wd927 wd928 wd3 (by decide) ⟨rfl, rfl, Nat.le_of_ble_eq_true rfl, Nat.le_of_ble_eq_true rfl⟩ (c_recv X hW 1 3 (by decide) rfl rfl) (As := [.int 4]) (rest := []) rfl rfl hl.1 (Nat.le_of_ble_eq_true rfl) d88_44 ⟨room_l0 hc1, room_l0 hs1⟩ (fun q hq => False.elim hq) (fun v H1 locs1 hv _ _ hSq29 => ?_)
  obtain ⟨rfl, rfl⟩ := hv
  have hS := hSq29
  have hSz := hS.1
  refine lv_if_ne (pc := 47) (tgt := 54) hx hb d88_47 (by decide) (fun c47 => ?_) (fun c47 => ?_)
  · have h := jb_f c47 h
    refine lv_iconst (pc := 54) (v := 0) hx hb d88_54 (by decide) ?_
    exact kc55   q28.2 q25.1 q26.1 q27.1 q28.1 0 _ _ _ _ _ _ hW hS (lv_sub hl [4, 3, 2, 1, 0] rfl) her hc1 hs1 h
  · have h := jb_t c47 h
    refine lv_iconst (pc := 50) (v := 1) hx hb d88_50 (by decide) ?_
    refine lv_goto (pc := 51) (tgt := 55) hx hb d88_51 (by decide) ?_
    exact kc55   q28.2 q25.1 q26.1 q27.1 q28.1 1 _ _ _ _ _ _ hW hS (lv_sub hl [4, 3, 2, 1, 0] rfl) her hc1 hs1 h
def lu_cell_76  (st : CS) (z0 : UInt64) : Option ((VV) × Nat × Nat) := jd (f_vl_ofNumber z0) (fun q1 => some (q1, 0, 0))
def lu_cell_34  (st : CS) (z0 : UInt64) : Option ((VV) × Nat × Nat) := jd (f_vl_ofNumber z0) (fun q3 => some (q3, 0, 0))
def f_lu_cell (st : CS) (p0 : Int32) : Option ((VV) × Nat × Nat) := jc (f_ar_isLeftOut st 0) (fun q5 => jb (q5 = 0) (jc (f_ar_grid st 0) (fun q6 => jb ((st.1 q6 3) = 0) (jd (f_vl_ofError 3) (fun q7 => some (q7, 0, 0))) (jb (p0 = 0) (lu_cell_76 st (FP.i2d (st.1 q6 4))) (lu_cell_76 st (FP.i2d (st.1 q6 5)))))) (jb (p0 = 0) (lu_cell_34 st (FP.i2d (st.1 1 7))) (lu_cell_34 st (FP.i2d (st.1 1 8)))))
set_option maxHeartbeats 4000000 in
set_option maxRecDepth 100000 in
theorem c_lu_cell (l : Launch) (ρ : RH) (ad : Nat → Nat) (H : Heap) (P : Nat → Prop) (st : CS) (p0 : Int32) (res : (VV) × Nat × Nat) (hW : CW ρ P ad st H) (h : f_lu_cell st p0 = some res) : Met l y91 (wsOf y91 b91 3 (some (.object "WordFunctions$Value"))) ({ frames := 13, cells := res.2.1, slots := res.2.2, locals := 621 } : Room) (va_Pc [.ref (ad 4), .int p0] (KP ρ H)) (mQ (fun v H1 => ∃ x : Nat, v = some (.ref x) ∧ isV ρ P H1 x res.1) (fun q => H.size ≤ q)) res.2.1 res.2.2 (fun q => H.size ≤ q) := by
  refine m_ofW (own := "WordFunctions$LookUps") (plainFor_of_name rfl) rfl (Nat.le_of_ble_eq_true rfl) fun p e s m args below meth c ls hx hb hr hlk _ X hs hl => ?_
  subst hs
  have hS : va_S (fun q => s.heap.size ≤ q) s.heap s.heap [] := va_S.rf
  have hSz := hS.1
  have hAz : ∀ q, s.heap.size ≤ q → (fun q => s.heap.size ≤ q) q := fun q hq => hq
  have hPp : ∀ i, i < 46 → P (ad i) := hW.1
  have hl : lv_has ls 3 [(0, .ref (ad 4)), (1, .int p0)] := hl
  have kc76 : ∀ (z0 : UInt64) (H : Heap) (locs : List Loc) (ls : Array Slot) (cells slots : Nat) (r : (VV) × Nat × Nat), CW ρ P ad st H → va_S (fun q => s.heap.size ≤ q) s.heap H locs → lv_has ls 3 [] → res.1 = r.1 → cells + r.2.1 ≤ res.2.1 → slots + r.2.2 ≤ res.2.2 → lu_cell_76 st z0 = some r → W p l e ({ frames := 13, cells := res.2.1, slots := res.2.2, locals := 621 } : Room) s m args below meth c H locs cells slots (MQ below (mQ (fun v H1 => ∃ x : Nat, v = some (.ref x) ∧ isV ρ P H1 x res.1) (fun q => s.heap.size ≤ q)) args s res.2.1 res.2.2 (fun q => s.heap.size ≤ q)) (F0 m 76 ls [.double z0]) := by
    intro z0 H locs ls cells slots r hW hS hl her hc1 hs1 h
    have hSz := hS.1
    unfold lu_cell_76 at h
    obtain ⟨q1, rq1, hq1, h, herq1, hccq1, hssq1⟩ := jd_some h
    refine k_callS (pc := 76) (n := 1) X hS (c_vl_ofNumber l ρ _ P z0 q1 hW.2.2.1 hW.2.1  hq1) wd642 wd1120 wd641 wd4 (by decide) ⟨rfl, rfl, Nat.le_of_ble_eq_true rfl, Nat.le_of_ble_eq_true rfl⟩ (As := [.double z0]) (rest := []) rfl rfl hl.1 (Nat.le_of_ble_eq_true rfl) d91_76 ⟨room_le hccq1 hc1, room_le hssq1 hs1⟩ (fun q hq => hAz q (Nat.le_trans hS.1 hq)) (fun v H1 locs1 hv hz1 hz2 hSq1 => ?_)
    obtain ⟨u2, rfl, fu2⟩ := hv
    have hk : kp no _ H1 := kp_call hz1 hz2 (fun q hq z => absurd hq (Nat.not_lt.mpr z))
    have hW := hW.keep hk no_hz (fun _ _ z => z)
    have hS := hSq1
    have hSz := hS.1
    have her := her.trans herq1
    have hc1 := room_st hccq1 hc1
    have hs1 := room_st hssq1 hs1
    have her : res.1 = q1.1 := her.trans (congrArg Prod.fst (Option.some.inj h)).symm
    exact m_aret (pc := 79) hx hb hr (Or.inl ⟨_, rfl⟩) hlk hS ⟨u2, rfl, by rw [her]; exact fu2⟩ (Nat.le_trans (Nat.le_add_right _ _) hc1) (Nat.le_trans (Nat.le_add_right _ _) hs1) d91_79
  have kc34 : ∀ (z0 : UInt64) (H : Heap) (locs : List Loc) (ls : Array Slot) (cells slots : Nat) (r : (VV) × Nat × Nat), CW ρ P ad st H → va_S (fun q => s.heap.size ≤ q) s.heap H locs → lv_has ls 3 [] → res.1 = r.1 → cells + r.2.1 ≤ res.2.1 → slots + r.2.2 ≤ res.2.2 → lu_cell_34 st z0 = some r → W p l e ({ frames := 13, cells := res.2.1, slots := res.2.2, locals := 621 } : Room) s m args below meth c H locs cells slots (MQ below (mQ (fun v H1 => ∃ x : Nat, v = some (.ref x) ∧ isV ρ P H1 x res.1) (fun q => s.heap.size ≤ q)) args s res.2.1 res.2.2 (fun q => s.heap.size ≤ q)) (F0 m 34 ls [.double z0]) := by
    intro z0 H locs ls cells slots r hW hS hl her hc1 hs1 h
    have hSz := hS.1
    unfold lu_cell_34 at h
    obtain ⟨q3, rq3, hq3, h, herq3, hccq3, hssq3⟩ := jd_some h
    refine k_callS (pc := 34) (n := 1) X hS (c_vl_ofNumber l ρ _ P z0 q3 hW.2.2.1 hW.2.1  hq3) wd642 wd1120 wd641 wd4 (by decide) ⟨rfl, rfl, Nat.le_of_ble_eq_true rfl, Nat.le_of_ble_eq_true rfl⟩ (As := [.double z0]) (rest := []) rfl rfl hl.1 (Nat.le_of_ble_eq_true rfl) d91_34 ⟨room_le hccq3 hc1, room_le hssq3 hs1⟩ (fun q hq => hAz q (Nat.le_trans hS.1 hq)) (fun v H1 locs1 hv hz1 hz2 hSq3 => ?_)
    obtain ⟨u4, rfl, fu4⟩ := hv
    have hk : kp no _ H1 := kp_call hz1 hz2 (fun q hq z => absurd hq (Nat.not_lt.mpr z))
    have hW := hW.keep hk no_hz (fun _ _ z => z)
    have hS := hSq3
    have hSz := hS.1
    have her := her.trans herq3
    have hc1 := room_st hccq3 hc1
    have hs1 := room_st hssq3 hs1
    have her : res.1 = q3.1 := her.trans (congrArg Prod.fst (Option.some.inj h)).symm
    exact m_aret (pc := 37) hx hb hr (Or.inl ⟨_, rfl⟩) hlk hS ⟨u4, rfl, by rw [her]; exact fu4⟩ (Nat.le_trans (Nat.le_add_right _ _) hc1) (Nat.le_trans (Nat.le_add_right _ _) hs1) d91_37
  have her : res.1 = res.1 := rfl
  have hc1 : 0 + res.2.1 ≤ res.2.1 := Nat.le_of_eq (Nat.zero_add _)
  have hs1 : 0 + res.2.2 ≤ res.2.2 := Nat.le_of_eq (Nat.zero_add _)
  unfold f_lu_cell at h
  refine lv_aload_n (pc := 0) hx hb d91_0 rfl (lv_at hl 0 rfl) ?_
  refine c_getK (pc := 1) X hW 4 0 6 1 (C := "WordFunctions$LookUps") (T := T6) (N := 2) (by decide) rfl rfl rfl rfl tin6 rfl wd209 rfl rfl d91_1 ?_
  refine lv_iconst (pc := 4) (v := 0) hx hb d91_4 (by decide) ?_
  obtain ⟨q5, hq5, h⟩ := jc_some h
  refine k_callV (pc := 5) (n := 1) X hS (c_ar_isLeftOut l ρ ad _ P st 0 q5 hW  hq5) wd929 wd1148 wd927 wd928 wd3 (by decide) ⟨rfl, rfl, Nat.le_of_ble_eq_true rfl, Nat.le_of_ble_eq_true rfl⟩ (c_recv X hW 1 3 (by decide) rfl rfl) (As := [.int 0]) (rest := []) rfl rfl hl.1 (Nat.le_of_ble_eq_true rfl) d91_5 ⟨room_l0 hc1, room_l0 hs1⟩ (fun q hq => False.elim hq) (fun v H1 locs1 hv _ _ hSq5 => ?_)
  obtain ⟨rfl, rfl⟩ := hv
  have hS := hSq5
  have hSz := hS.1
  refine lv_if_eq (pc := 8) (tgt := 38) hx hb d91_8 (by decide) (fun c8 => ?_) (fun c8 => ?_)
  · have h := jb_t c8 h
    refine lv_aload_n (pc := 38) hx hb d91_38 rfl (lv_at hl 0 rfl) ?_
    refine c_getK (pc := 39) X hW 4 0 6 1 (C := "WordFunctions$LookUps") (T := T6) (N := 2) (by decide) rfl rfl rfl rfl tin6 rfl wd209 rfl rfl d91_39 ?_
    refine lv_iconst (pc := 42) (v := 0) hx hb d91_42 (by decide) ?_
    obtain ⟨q6, hq6, h⟩ := jc_some h
    refine k_callV (pc := 43) (n := 1) X hS (c_ar_grid l ρ ad _ P st 0 q6 hW  hq6) wd628 wd1159 wd626 wd627 wd3 (by decide) ⟨rfl, rfl, Nat.le_of_ble_eq_true rfl, Nat.le_of_ble_eq_true rfl⟩ (c_recv X hW 1 3 (by decide) rfl rfl) (As := [.int 0]) (rest := []) rfl rfl hl.1 (Nat.le_of_ble_eq_true rfl) d91_43 ⟨room_l0 hc1, room_l0 hs1⟩ (fun q hq => False.elim hq) (fun v H1 locs1 hv _ _ hSq6 => ?_)
    obtain ⟨rfl, hgq6, rfl⟩ := hv
    have hS := hSq6
    have hSz := hS.1
    refine lv_astore_n (pc := 46) (lv' := [(2, .ref (ad q6)), (0, .ref (ad 4)), (1, .int p0)]) hx hb d91_46 rfl hl (by decide) rfl (fun ls hl => ?_)
    refine lv_aload_n (pc := 47) hx hb d91_47 rfl (lv_at hl 0 rfl) ?_
    refine c_getI (pc := 48) X hW q6 3 2 (C := "WordFunctions$Grid") (T := T2) (N := 6) hgq6.1 hgq6.2 rfl rfl rfl tin2 rfl wd108 rfl d91_48 ?_
    refine lv_if_ne (pc := 51) (tgt := 59) hx hb d91_51 (by decide) (fun c51 => ?_) (fun c51 => ?_)
    · have h := jb_f c51 h
      refine lv_iload_n (pc := 59) hx hb d91_59 rfl (lv_at hl 2 rfl) ?_
      refine lv_if_eq (pc := 60) (tgt := 71) hx hb d91_60 (by decide) (fun c60 => ?_) (fun c60 => ?_)
      · have h := jb_t c60 h
        refine lv_aload_n (pc := 71) hx hb d91_71 rfl (lv_at hl 0 rfl) ?_
        refine c_getI (pc := 72) X hW q6 4 2 (C := "WordFunctions$Grid") (T := T2) (N := 6) hgq6.1 hgq6.2 rfl rfl rfl tin2 rfl wd110 rfl d91_72 ?_
        refine lv_i2d (pc := 75) hx hb d91_75 ?_
        exact kc76   (FP.i2d (st.1 q6 4)) _ _ _ _ _ _ hW hS (lv_sub hl [] rfl) her hc1 hs1 h
      · have h := jb_f c60 h
        refine lv_aload_n (pc := 63) hx hb d91_63 rfl (lv_at hl 0 rfl) ?_
        refine c_getI (pc := 64) X hW q6 5 2 (C := "WordFunctions$Grid") (T := T2) (N := 6) hgq6.1 hgq6.2 rfl rfl rfl tin2 rfl wd112 rfl d91_64 ?_
        refine lv_i2d (pc := 67) hx hb d91_67 ?_
        refine lv_goto (pc := 68) (tgt := 76) hx hb d91_68 (by decide) ?_
        exact kc76   (FP.i2d (st.1 q6 5)) _ _ _ _ _ _ hW hS (lv_sub hl [] rfl) her hc1 hs1 h
    · have h := jb_t c51 h
      refine lv_iconst (pc := 54) (v := 3) hx hb d91_54 (by decide) ?_
      obtain ⟨q7, rq7, hq7, h, herq7, hccq7, hssq7⟩ := jd_some h
      refine k_callS (pc := 55) (n := 1) X hS (c_vl_ofError l ρ _ P 3 q7 hW.2.2.1 hW.2.1  hq7) wd651 wd836 wd650 wd4 (by decide) ⟨rfl, rfl, Nat.le_of_ble_eq_true rfl, Nat.le_of_ble_eq_true rfl⟩ (As := [.int 3]) (rest := []) rfl rfl hl.1 (Nat.le_of_ble_eq_true rfl) d91_55 ⟨room_le hccq7 hc1, room_le hssq7 hs1⟩ (fun q hq => hAz q (Nat.le_trans hS.1 hq)) (fun v H1 locs1 hv hz1 hz2 hSq7 => ?_)
      obtain ⟨u8, rfl, fu8⟩ := hv
      have hk : kp no _ H1 := kp_call hz1 hz2 (fun q hq z => absurd hq (Nat.not_lt.mpr z))
      have hW := hW.keep hk no_hz (fun _ _ z => z)
      have hS := hSq7
      have hSz := hS.1
      have her := her.trans herq7
      have hc1 := room_st hccq7 hc1
      have hs1 := room_st hssq7 hs1
      have her : res.1 = q7.1 := her.trans (congrArg Prod.fst (Option.some.inj h)).symm
      exact m_aret (pc := 58) hx hb hr (Or.inl ⟨_, rfl⟩) hlk hS ⟨u8, rfl, by rw [her]; exact fu8⟩ (Nat.le_trans (Nat.le_add_right _ _) hc1) (Nat.le_trans (Nat.le_add_right _ _) hs1) d91_58
  · have h := jb_f c8 h
    refine lv_iload_n (pc := 11) hx hb d91_11 rfl (lv_at hl 1 rfl) ?_
    refine lv_if_eq (pc := 12) (tgt := 26) hx hb d91_12 (by decide) (fun c12 => ?_) (fun c12 => ?_)
    · have h := jb_t c12 h
      refine lv_aload_n (pc := 26) hx hb d91_26 rfl (lv_at hl 0 rfl) ?_
      refine c_getK (pc := 27) X hW 4 0 6 1 (C := "WordFunctions$LookUps") (T := T6) (N := 2) (by decide) rfl rfl rfl rfl tin6 rfl wd209 rfl rfl d91_27 ?_
      refine c_getI (pc := 30) X hW 1 7 3 (C := "WordFunctions$Arguments") (T := T3) (N := 9) (by decide) rfl rfl rfl rfl tin3 rfl wd143 rfl d91_30 ?_
      refine lv_i2d (pc := 33) hx hb d91_33 ?_
      exact kc34   (FP.i2d (st.1 1 7)) _ _ _ _ _ _ hW hS (lv_sub hl [] rfl) her hc1 hs1 h
    · have h := jb_f c12 h
      refine lv_aload_n (pc := 15) hx hb d91_15 rfl (lv_at hl 0 rfl) ?_
      refine c_getK (pc := 16) X hW 4 0 6 1 (C := "WordFunctions$LookUps") (T := T6) (N := 2) (by decide) rfl rfl rfl rfl tin6 rfl wd209 rfl rfl d91_16 ?_
      refine c_getI (pc := 19) X hW 1 8 3 (C := "WordFunctions$Arguments") (T := T3) (N := 9) (by decide) rfl rfl rfl rfl tin3 rfl wd146 rfl d91_19 ?_
      refine lv_i2d (pc := 22) hx hb d91_22 ?_
      refine lv_goto (pc := 23) (tgt := 34) hx hb d91_23 (by decide) ?_
      exact kc34   (FP.i2d (st.1 1 8)) _ _ _ _ _ _ hW hS (lv_sub hl [] rfl) her hc1 hs1 h
def pa_isSpecial_18   : Option (Int32) := some 1
def f_pa_isSpecial  (p0 : Int32) : Option (Int32) := jb (p0 = 63) (pa_isSpecial_18) (jb (p0 = 42) (pa_isSpecial_18) (jb (p0 = 126) (pa_isSpecial_18) (some 0)))
set_option maxHeartbeats 4000000 in
set_option maxRecDepth 100000 in
theorem c_pa_isSpecial (l : Launch) (ρ : RH) (H : Heap) (P : Nat → Prop) (p0 : Int32) (res : Int32) (hC : CC ρ P H) (hPb : ∀ q, P q → q < H.size) (h : f_pa_isSpecial p0 = some res) : Met l y102 (wsOf y102 b102 1 (some .boolean)) ({ frames := 0, cells := 0, slots := 0, locals := 0 } : Room) (va_Pc [.int p0] (KP ρ H)) (mQ (fun v H1 => v = some (.int res) ∧ H1 = H) (fun _ => False)) 0 0 (fun _ => False) := by
  refine m_ofW (own := "WordFunctions$Pattern") (plainFor_of_name rfl) rfl (Nat.le_of_ble_eq_true rfl) fun p e s m args below meth c ls hx hb hr hlk _ X hs hl => ?_
  subst hs
  have hS : va_S (fun _ => False) s.heap s.heap [] := va_S.rf
  have hSz := hS.1
  have hl : lv_has ls 1 [(0, .int p0)] := hl
  have kc18 : ∀ (locs : List Loc) (ls : Array Slot), va_S (fun _ => False) s.heap s.heap locs → lv_has ls 1 [] → pa_isSpecial_18 = some res → W p l e ({ frames := 0, cells := 0, slots := 0, locals := 0 } : Room) s m args below meth c s.heap locs 0 0 (MQ below (mQ (fun v H1 => v = some (.int res) ∧ H1 = s.heap) (fun _ => False)) args s 0 0 (fun _ => False)) (F0 m 18 ls []) := by
    intro locs ls hS hl h
    have hSz := hS.1
    unfold pa_isSpecial_18 at h
    refine lv_iconst (pc := 18) (v := 1) hx hb d102_18 (by decide) ?_
    refine lv_goto (pc := 19) (tgt := 23) hx hb d102_19 (by decide) ?_
    obtain rfl := Option.some.inj h
    exact m_zret (pc := 23) hx hb hr hlk hS ⟨rfl, rfl⟩ (Nat.le_refl _) (Nat.le_refl _) d102_23 (by decide)
  unfold f_pa_isSpecial at h
  refine lv_iload_n (pc := 0) hx hb d102_0 rfl (lv_at hl 0 rfl) ?_
  refine lv_bipush (pc := 1) (v := 63) hx hb d102_1 (by decide) ?_
  refine lv_icmp_eq (pc := 3) (tgt := 18) hx hb d102_3 (by decide) (fun c3 => ?_) (fun c3 => ?_)
  · have h := jb_t c3 h
    exact kc18   _ _ hS (lv_sub hl [] rfl) h
  · have h := jb_f c3 h
    refine lv_iload_n (pc := 6) hx hb d102_6 rfl (lv_at hl 0 rfl) ?_
    refine lv_bipush (pc := 7) (v := 42) hx hb d102_7 (by decide) ?_
    refine lv_icmp_eq (pc := 9) (tgt := 18) hx hb d102_9 (by decide) (fun c9 => ?_) (fun c9 => ?_)
    · have h := jb_t c9 h
      exact kc18   _ _ hS (lv_sub hl [] rfl) h
    · have h := jb_f c9 h
      refine lv_iload_n (pc := 12) hx hb d102_12 rfl (lv_at hl 0 rfl) ?_
      refine lv_bipush (pc := 13) (v := 126) hx hb d102_13 (by decide) ?_
      refine lv_icmp_ne (pc := 15) (tgt := 22) hx hb d102_15 (by decide) (fun c15 => ?_) (fun c15 => ?_)
      · have h := jb_f c15 h
        refine lv_iconst (pc := 22) (v := 0) hx hb d102_22 (by decide) ?_
        obtain rfl := Option.some.inj h
        exact m_zret (pc := 23) hx hb hr hlk hS ⟨rfl, rfl⟩ (Nat.le_refl _) (Nat.le_refl _) d102_23 (by decide)
      · have h := jb_t c15 h
        exact kc18   _ _ hS (lv_sub hl [] rfl) h
