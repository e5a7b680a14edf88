abbrev b45 : ByteArray := prog_3_method_22_code
theorem d45_0 : decode b45 0 = .ok ((.aload_n 0), 1) := by decide +kernel
theorem d45_1 : decode b45 1 = .ok ((.aload_n 0), 1) := by decide +kernel
theorem d45_2 : decode b45 2 = .ok ((.iload_n 1), 1) := by decide +kernel
theorem d45_3 : decode b45 3 = .ok ((.iconst 0), 1) := by decide +kernel
theorem d45_4 : decode b45 4 = .ok ((.invokevirtual 87), 3) := by decide +kernel
theorem d45_7 : decode b45 7 = .ok ((.invokevirtual 159), 3) := by decide +kernel
theorem d45_10 : decode b45 10 = .ok (.areturn, 1) := by decide +kernel
abbrev b47 : ByteArray := prog_3_method_19_code
theorem d47_0 : decode b47 0 = .ok ((.aload_n 0), 1) := by decide +kernel
theorem d47_1 : decode b47 1 = .ok ((.iload_n 1), 1) := by decide +kernel
theorem d47_2 : decode b47 2 = .ok ((.invokevirtual 138), 3) := by decide +kernel
theorem d47_5 : decode b47 5 = .ok ((.dconst 0), 1) := by decide +kernel
theorem d47_6 : decode b47 6 = .ok ((.dcmp .l), 1) := by decide +kernel
theorem d47_7 : decode b47 7 = .ok ((.ifCond .eq 7), 3) := by decide +kernel
theorem d47_10 : decode b47 10 = .ok ((.iconst 1), 1) := by decide +kernel
theorem d47_11 : decode b47 11 = .ok ((.goto 4), 3) := by decide +kernel
theorem d47_14 : decode b47 14 = .ok ((.iconst 0), 1) := by decide +kernel
theorem d47_15 : decode b47 15 = .ok (.ireturn, 1) := by decide +kernel
abbrev b48 : ByteArray := prog_3_method_20_code
theorem d48_0 : decode b48 0 = .ok ((.aload_n 0), 1) := by decide +kernel
theorem d48_1 : decode b48 1 = .ok ((.iload_n 1), 1) := by decide +kernel
theorem d48_2 : decode b48 2 = .ok ((.invokevirtual 143), 3) := by decide +kernel
theorem d48_5 : decode b48 5 = .ok ((.ifCond .eq 7), 3) := by decide +kernel
theorem d48_8 : decode b48 8 = .ok ((.iload_n 2), 1) := by decide +kernel
theorem d48_9 : decode b48 9 = .ok ((.goto 8), 3) := by decide +kernel
theorem d48_12 : decode b48 12 = .ok ((.aload_n 0), 1) := by decide +kernel
theorem d48_13 : decode b48 13 = .ok ((.iload_n 1), 1) := by decide +kernel
theorem d48_14 : decode b48 14 = .ok ((.invokevirtual 150), 3) := by decide +kernel
theorem d48_17 : decode b48 17 = .ok (.ireturn, 1) := by decide +kernel
abbrev b49 : ByteArray := prog_3_method_17_code
theorem d49_0 : decode b49 0 = .ok ((.aload_n 0), 1) := by decide +kernel
theorem d49_1 : decode b49 1 = .ok ((.iload_n 1), 1) := by decide +kernel
theorem d49_2 : decode b49 2 = .ok ((.invokevirtual 138), 3) := by decide +kernel
theorem d49_5 : decode b49 5 = .ok ((.dstore_n 2), 1) := by decide +kernel
theorem d49_6 : decode b49 6 = .ok ((.dload_n 2), 1) := by decide +kernel
theorem d49_7 : decode b49 7 = .ok ((.dconst 0), 1) := by decide +kernel
theorem d49_8 : decode b49 8 = .ok ((.dcmp .g), 1) := by decide +kernel
theorem d49_9 : decode b49 9 = .ok ((.ifCond .ge 8), 3) := by decide +kernel
theorem d49_12 : decode b49 12 = .ok ((.dload_n 2), 1) := by decide +kernel
theorem d49_13 : decode b49 13 = .ok (.dneg, 1) := by decide +kernel
theorem d49_14 : decode b49 14 = .ok ((.goto 4), 3) := by decide +kernel
theorem d49_17 : decode b49 17 = .ok ((.dload_n 2), 1) := by decide +kernel
theorem d49_18 : decode b49 18 = .ok ((.dstore 4), 2) := by decide +kernel
theorem d49_20 : decode b49 20 = .ok ((.dload 4), 2) := by decide +kernel
theorem d49_22 : decode b49 22 = .ok ((.ldc2_w 141), 3) := by decide +kernel
theorem d49_25 : decode b49 25 = .ok ((.dcmp .l), 1) := by decide +kernel
theorem d49_26 : decode b49 26 = .ok ((.ifCond .lt 11), 3) := by decide +kernel
theorem d49_29 : decode b49 29 = .ok ((.aload_n 0), 1) := by decide +kernel
theorem d49_30 : decode b49 30 = .ok ((.bipush 6), 2) := by decide +kernel
theorem d49_32 : decode b49 32 = .ok ((.invokevirtual 101), 3) := by decide +kernel
theorem d49_35 : decode b49 35 = .ok ((.iconst 0), 1) := by decide +kernel
theorem d49_36 : decode b49 36 = .ok (.ireturn, 1) := by decide +kernel
theorem d49_37 : decode b49 37 = .ok ((.dload_n 2), 1) := by decide +kernel
theorem d49_38 : decode b49 38 = .ok (.d2i, 1) := by decide +kernel
theorem d49_39 : decode b49 39 = .ok (.ireturn, 1) := by decide +kernel
abbrev b50 : ByteArray := prog_3_method_18_code
theorem d50_0 : decode b50 0 = .ok ((.aload_n 0), 1) := by decide +kernel
theorem d50_1 : decode b50 1 = .ok ((.iload_n 1), 1) := by decide +kernel
theorem d50_2 : decode b50 2 = .ok ((.invokevirtual 143), 3) := by decide +kernel
theorem d50_5 : decode b50 5 = .ok ((.ifCond .eq 7), 3) := by decide +kernel
theorem d50_8 : decode b50 8 = .ok ((.iload_n 2), 1) := by decide +kernel
theorem d50_9 : decode b50 9 = .ok ((.goto 8), 3) := by decide +kernel
theorem d50_12 : decode b50 12 = .ok ((.aload_n 0), 1) := by decide +kernel
theorem d50_13 : decode b50 13 = .ok ((.iload_n 1), 1) := by decide +kernel
theorem d50_14 : decode b50 14 = .ok ((.invokevirtual 147), 3) := by decide +kernel
theorem d50_17 : decode b50 17 = .ok (.ireturn, 1) := by decide +kernel
abbrev b276 : ByteArray := prog_21_method_47_code
theorem d276_0 : decode b276 0 = .ok ((.iload_n 0), 1) := by decide +kernel
theorem d276_1 : decode b276 1 = .ok ((.iload_n 1), 1) := by decide +kernel
theorem d276_2 : decode b276 2 = .ok (.idiv, 1) := by decide +kernel
theorem d276_3 : decode b276 3 = .ok ((.istore_n 2), 1) := by decide +kernel
theorem d276_4 : decode b276 4 = .ok ((.iload_n 0), 1) := by decide +kernel
theorem d276_5 : decode b276 5 = .ok ((.iload_n 1), 1) := by decide +kernel
theorem d276_6 : decode b276 6 = .ok (.ixor, 1) := by decide +kernel
theorem d276_7 : decode b276 7 = .ok ((.ifCond .ge 14), 3) := by decide +kernel
theorem d276_10 : decode b276 10 = .ok ((.iload_n 2), 1) := by decide +kernel
theorem d276_11 : decode b276 11 = .ok ((.iload_n 1), 1) := by decide +kernel
theorem d276_12 : decode b276 12 = .ok (.imul, 1) := by decide +kernel
theorem d276_13 : decode b276 13 = .ok ((.iload_n 0), 1) := by decide +kernel
theorem d276_14 : decode b276 14 = .ok ((.if_icmp .eq 7), 3) := by decide +kernel
theorem d276_17 : decode b276 17 = .ok ((.iload_n 2), 1) := by decide +kernel
theorem d276_18 : decode b276 18 = .ok ((.iconst 1), 1) := by decide +kernel
theorem d276_19 : decode b276 19 = .ok (.isub, 1) := by decide +kernel
theorem d276_20 : decode b276 20 = .ok (.ireturn, 1) := by decide +kernel
theorem d276_21 : decode b276 21 = .ok ((.iload_n 2), 1) := by decide +kernel
theorem d276_22 : decode b276 22 = .ok (.ireturn, 1) := by decide +kernel
abbrev b277 : ByteArray := prog_21_method_50_code
theorem d277_0 : decode b277 0 = .ok ((.iload_n 0), 1) := by decide +kernel
theorem d277_1 : decode b277 1 = .ok ((.iload_n 1), 1) := by decide +kernel
theorem d277_2 : decode b277 2 = .ok (.irem, 1) := by decide +kernel
theorem d277_3 : decode b277 3 = .ok ((.istore_n 2), 1) := by decide +kernel
theorem d277_4 : decode b277 4 = .ok ((.iload_n 0), 1) := by decide +kernel
theorem d277_5 : decode b277 5 = .ok ((.iload_n 1), 1) := by decide +kernel
theorem d277_6 : decode b277 6 = .ok (.ixor, 1) := by decide +kernel
theorem d277_7 : decode b277 7 = .ok ((.ifCond .ge 11), 3) := by decide +kernel
theorem d277_10 : decode b277 10 = .ok ((.iload_n 2), 1) := by decide +kernel
theorem d277_11 : decode b277 11 = .ok ((.ifCond .eq 7), 3) := by decide +kernel
theorem d277_14 : decode b277 14 = .ok ((.iload_n 2), 1) := by decide +kernel
theorem d277_15 : decode b277 15 = .ok ((.iload_n 1), 1) := by decide +kernel
theorem d277_16 : decode b277 16 = .ok (.iadd, 1) := by decide +kernel
theorem d277_17 : decode b277 17 = .ok (.ireturn, 1) := by decide +kernel
theorem d277_18 : decode b277 18 = .ok ((.iload_n 2), 1) := by decide +kernel
theorem d277_19 : decode b277 19 = .ok (.ireturn, 1) := by decide +kernel
abbrev b56 : ByteArray := prog_4_method_4_code
theorem d56_0 : decode b56 0 = .ok ((.iload_n 0), 1) := by decide +kernel
theorem d56_1 : decode b56 1 = .ok ((.iconst 4), 1) := by decide +kernel
theorem d56_2 : decode b56 2 = .ok ((.invokestatic 12), 3) := by decide +kernel
theorem d56_5 : decode b56 5 = .ok ((.ifCond .ne 26), 3) := by decide +kernel
theorem d56_8 : decode b56 8 = .ok ((.iload_n 0), 1) := by decide +kernel
theorem d56_9 : decode b56 9 = .ok ((.bipush 100), 2) := by decide +kernel
theorem d56_11 : decode b56 11 = .ok ((.invokestatic 12), 3) := by decide +kernel
theorem d56_14 : decode b56 14 = .ok ((.ifCond .ne 13), 3) := by decide +kernel
theorem d56_17 : decode b56 17 = .ok ((.iload_n 0), 1) := by decide +kernel
theorem d56_18 : decode b56 18 = .ok ((.sipush 400), 3) := by decide +kernel
theorem d56_21 : decode b56 21 = .ok ((.invokestatic 12), 3) := by decide +kernel
theorem d56_24 : decode b56 24 = .ok ((.ifCond .ne 7), 3) := by decide +kernel
theorem d56_27 : decode b56 27 = .ok ((.iconst 1), 1) := by decide +kernel
theorem d56_28 : decode b56 28 = .ok ((.goto 4), 3) := by decide +kernel
theorem d56_31 : decode b56 31 = .ok ((.iconst 0), 1) := by decide +kernel
theorem d56_32 : decode b56 32 = .ok (.ireturn, 1) := by decide +kernel
abbrev b53 : ByteArray := prog_4_method_5_code
theorem d53_0 : decode b53 0 = .ok ((.iload_n 0), 1) := by decide +kernel
theorem d53_1 : decode b53 1 = .ok ((.bipush 12), 2) := by decide +kernel
theorem d53_3 : decode b53 3 = .ok ((.invokestatic 18), 3) := by decide +kernel
theorem d53_6 : decode b53 6 = .ok ((.istore_n 1), 1) := by decide +kernel
theorem d53_7 : decode b53 7 = .ok ((.iload_n 0), 1) := by decide +kernel
theorem d53_8 : decode b53 8 = .ok ((.bipush 12), 2) := by decide +kernel
theorem d53_10 : decode b53 10 = .ok ((.invokestatic 12), 3) := by decide +kernel
theorem d53_13 : decode b53 13 = .ok ((.istore_n 2), 1) := by decide +kernel
theorem d53_14 : decode b53 14 = .ok ((.iload_n 1), 1) := by decide +kernel
theorem d53_15 : decode b53 15 = .ok ((.iconst 1), 1) := by decide +kernel
theorem d53_16 : decode b53 16 = .ok (.isub, 1) := by decide +kernel
theorem d53_17 : decode b53 17 = .ok ((.istore_n 3), 1) := by decide +kernel
theorem d53_18 : decode b53 18 = .ok ((.iload_n 3), 1) := by decide +kernel
theorem d53_19 : decode b53 19 = .ok ((.iconst 4), 1) := by decide +kernel
theorem d53_20 : decode b53 20 = .ok ((.invokestatic 18), 3) := by decide +kernel
theorem d53_23 : decode b53 23 = .ok ((.iload_n 3), 1) := by decide +kernel
theorem d53_24 : decode b53 24 = .ok ((.bipush 100), 2) := by decide +kernel
theorem d53_26 : decode b53 26 = .ok ((.invokestatic 18), 3) := by decide +kernel
theorem d53_29 : decode b53 29 = .ok (.isub, 1) := by decide +kernel
theorem d53_30 : decode b53 30 = .ok ((.iload_n 3), 1) := by decide +kernel
theorem d53_31 : decode b53 31 = .ok ((.sipush 400), 3) := by decide +kernel
theorem d53_34 : decode b53 34 = .ok ((.invokestatic 18), 3) := by decide +kernel
theorem d53_37 : decode b53 37 = .ok (.iadd, 1) := by decide +kernel
theorem d53_38 : decode b53 38 = .ok ((.istore 4), 2) := by decide +kernel
theorem d53_40 : decode b53 40 = .ok ((.iload_n 2), 1) := by decide +kernel
theorem d53_41 : decode b53 41 = .ok ((.iconst 1), 1) := by decide +kernel
theorem d53_42 : decode b53 42 = .ok ((.if_icmp .le 14), 3) := by decide +kernel
theorem d53_45 : decode b53 45 = .ok ((.iload_n 1), 1) := by decide +kernel
theorem d53_46 : decode b53 46 = .ok ((.invokestatic 21), 3) := by decide +kernel
theorem d53_49 : decode b53 49 = .ok ((.ifCond .eq 7), 3) := by decide +kernel
theorem d53_52 : decode b53 52 = .ok ((.iconst 1), 1) := by decide +kernel
theorem d53_53 : decode b53 53 = .ok ((.goto 4), 3) := by decide +kernel
theorem d53_56 : decode b53 56 = .ok ((.iconst 0), 1) := by decide +kernel
theorem d53_57 : decode b53 57 = .ok ((.istore 5), 2) := by decide +kernel
theorem d53_59 : decode b53 59 = .ok ((.iload_n 3), 1) := by decide +kernel
theorem d53_60 : decode b53 60 = .ok ((.sipush 365), 3) := by decide +kernel
theorem d53_63 : decode b53 63 = .ok (.imul, 1) := by decide +kernel
theorem d53_64 : decode b53 64 = .ok ((.iload 4), 2) := by decide +kernel
theorem d53_66 : decode b53 66 = .ok (.iadd, 1) := by decide +kernel
theorem d53_67 : decode b53 67 = .ok ((.ldc 25), 2) := by decide +kernel
theorem d53_69 : decode b53 69 = .ok (.isub, 1) := by decide +kernel
theorem d53_70 : decode b53 70 = .ok ((.getstatic 26), 3) := by decide +kernel
theorem d53_73 : decode b53 73 = .ok ((.iload_n 2), 1) := by decide +kernel
theorem d53_74 : decode b53 74 = .ok (.iaload, 1) := by decide +kernel
theorem d53_75 : decode b53 75 = .ok (.iadd, 1) := by decide +kernel
theorem d53_76 : decode b53 76 = .ok ((.iload 5), 2) := by decide +kernel
theorem d53_78 : decode b53 78 = .ok (.iadd, 1) := by decide +kernel
theorem d53_79 : decode b53 79 = .ok (.ireturn, 1) := by decide +kernel
abbrev b59 : ByteArray := prog_4_method_7_code
theorem d59_0 : decode b59 0 = .ok ((.iload_n 0), 1) := by decide +kernel
theorem d59_1 : decode b59 1 = .ok ((.ldc 25), 2) := by decide +kernel
theorem d59_3 : decode b59 3 = .ok (.iadd, 1) := by decide +kernel
theorem d59_4 : decode b59 4 = .ok (.i2l, 1) := by decide +kernel
theorem d59_5 : decode b59 5 = .ok ((.ldc2_w 34), 3) := by decide +kernel
theorem d59_8 : decode b59 8 = .ok (.lmul, 1) := by decide +kernel
theorem d59_9 : decode b59 9 = .ok ((.ldc2_w 36), 3) := by decide +kernel
theorem d59_12 : decode b59 12 = .ok (.ldiv, 1) := by decide +kernel
theorem d59_13 : decode b59 13 = .ok (.l2i, 1) := by decide +kernel
theorem d59_14 : decode b59 14 = .ok ((.bipush 14), 2) := by decide +kernel
theorem d59_16 : decode b59 16 = .ok (.iadd, 1) := by decide +kernel
theorem d59_17 : decode b59 17 = .ok ((.istore_n 1), 1) := by decide +kernel
theorem d59_18 : decode b59 18 = .ok ((.iconst 0), 1) := by decide +kernel
theorem d59_19 : decode b59 19 = .ok ((.istore_n 2), 1) := by decide +kernel
theorem d59_20 : decode b59 20 = .ok ((.iload_n 2), 1) := by decide +kernel
theorem d59_21 : decode b59 21 = .ok ((.iconst 5), 1) := by decide +kernel
theorem d59_22 : decode b59 22 = .ok ((.if_icmp .ge 20), 3) := by decide +kernel
theorem d59_25 : decode b59 25 = .ok ((.iload_n 1), 1) := by decide +kernel
theorem d59_26 : decode b59 26 = .ok ((.invokestatic 30), 3) := by decide +kernel
theorem d59_29 : decode b59 29 = .ok ((.iload_n 0), 1) := by decide +kernel
theorem d59_30 : decode b59 30 = .ok ((.if_icmp .le 12), 3) := by decide +kernel
theorem d59_33 : decode b59 33 = .ok ((.iinc 1 (-1)), 3) := by decide +kernel
theorem d59_36 : decode b59 36 = .ok ((.iinc 2 1), 3) := by decide +kernel
theorem d59_39 : decode b59 39 = .ok ((.goto (-19)), 3) := by decide +kernel
theorem d59_42 : decode b59 42 = .ok ((.iload_n 1), 1) := by decide +kernel
theorem d59_43 : decode b59 43 = .ok (.ireturn, 1) := by decide +kernel
abbrev b52 : ByteArray := prog_4_method_8_code
theorem d52_0 : decode b52 0 = .ok ((.iload_n 0), 1) := by decide +kernel
theorem d52_1 : decode b52 1 = .ok ((.iload_n 0), 1) := by decide +kernel
theorem d52_2 : decode b52 2 = .ok ((.invokestatic 38), 3) := by decide +kernel
theorem d52_5 : decode b52 5 = .ok ((.invokestatic 30), 3) := by decide +kernel
theorem d52_8 : decode b52 8 = .ok (.isub, 1) := by decide +kernel
theorem d52_9 : decode b52 9 = .ok ((.iconst 1), 1) := by decide +kernel
theorem d52_10 : decode b52 10 = .ok (.iadd, 1) := by decide +kernel
theorem d52_11 : decode b52 11 = .ok (.ireturn, 1) := by decide +kernel
abbrev b55 : ByteArray := prog_4_method_2_code
theorem d55_0 : decode b55 0 = .ok ((.iload_n 0), 1) := by decide +kernel
theorem d55_1 : decode b55 1 = .ok ((.ifCond .lt 13), 3) := by decide +kernel
theorem d55_4 : decode b55 4 = .ok ((.iload_n 0), 1) := by decide +kernel
theorem d55_5 : decode b55 5 = .ok ((.ldc 9), 2) := by decide +kernel
theorem d55_7 : decode b55 7 = .ok ((.if_icmp .gt 7), 3) := by decide +kernel
theorem d55_10 : decode b55 10 = .ok ((.iconst 1), 1) := by decide +kernel
theorem d55_11 : decode b55 11 = .ok ((.goto 4), 3) := by decide +kernel
theorem d55_14 : decode b55 14 = .ok ((.iconst 0), 1) := by decide +kernel
theorem d55_15 : decode b55 15 = .ok (.ireturn, 1) := by decide +kernel
abbrev b57 : ByteArray := prog_4_method_9_code
theorem d57_0 : decode b57 0 = .ok ((.iload_n 0), 1) := by decide +kernel
theorem d57_1 : decode b57 1 = .ok ((.iconst 2), 1) := by decide +kernel
theorem d57_2 : decode b57 2 = .ok (.isub, 1) := by decide +kernel
theorem d57_3 : decode b57 3 = .ok ((.bipush 7), 2) := by decide +kernel
theorem d57_5 : decode b57 5 = .ok ((.invokestatic 12), 3) := by decide +kernel
theorem d57_8 : decode b57 8 = .ok ((.iconst 5), 1) := by decide +kernel
theorem d57_9 : decode b57 9 = .ok ((.if_icmp .ge 7), 3) := by decide +kernel
theorem d57_12 : decode b57 12 = .ok ((.iconst 1), 1) := by decide +kernel
theorem d57_13 : decode b57 13 = .ok ((.goto 4), 3) := by decide +kernel
theorem d57_16 : decode b57 16 = .ok ((.iconst 0), 1) := by decide +kernel
theorem d57_17 : decode b57 17 = .ok (.ireturn, 1) := by decide +kernel
abbrev b58 : ByteArray := prog_4_method_6_code
theorem d58_0 : decode b58 0 = .ok ((.iload_n 0), 1) := by decide +kernel
theorem d58_1 : decode b58 1 = .ok ((.iconst 1), 1) := by decide +kernel
theorem d58_2 : decode b58 2 = .ok (.iadd, 1) := by decide +kernel
theorem d58_3 : decode b58 3 = .ok ((.invokestatic 30), 3) := by decide +kernel
theorem d58_6 : decode b58 6 = .ok ((.iload_n 0), 1) := by decide +kernel
theorem d58_7 : decode b58 7 = .ok ((.invokestatic 30), 3) := by decide +kernel
theorem d58_10 : decode b58 10 = .ok (.isub, 1) := by decide +kernel
theorem d58_11 : decode b58 11 = .ok (.ireturn, 1) := by decide +kernel
abbrev b60 : ByteArray := prog_4_method_11_code
theorem d60_0 : decode b60 0 = .ok ((.iconst 2), 1) := by decide +kernel
theorem d60_1 : decode b60 1 = .ok ((.bipush 7), 2) := by decide +kernel
theorem d60_3 : decode b60 3 = .ok ((.iload_n 0), 1) := by decide +kernel
theorem d60_4 : decode b60 4 = .ok ((.iconst 1), 1) := by decide +kernel
theorem d60_5 : decode b60 5 = .ok (.isub, 1) := by decide +kernel
theorem d60_6 : decode b60 6 = .ok ((.iconst 5), 1) := by decide +kernel
theorem d60_7 : decode b60 7 = .ok ((.invokestatic 18), 3) := by decide +kernel
theorem d60_10 : decode b60 10 = .ok (.imul, 1) := by decide +kernel
theorem d60_11 : decode b60 11 = .ok (.iadd, 1) := by decide +kernel
theorem d60_12 : decode b60 12 = .ok ((.iload_n 0), 1) := by decide +kernel
theorem d60_13 : decode b60 13 = .ok ((.iconst 1), 1) := by decide +kernel
theorem d60_14 : decode b60 14 = .ok (.isub, 1) := by decide +kernel
theorem d60_15 : decode b60 15 = .ok ((.iconst 5), 1) := by decide +kernel
theorem d60_16 : decode b60 16 = .ok ((.invokestatic 12), 3) := by decide +kernel
theorem d60_19 : decode b60 19 = .ok (.iadd, 1) := by decide +kernel
theorem d60_20 : decode b60 20 = .ok (.ireturn, 1) := by decide +kernel
abbrev b61 : ByteArray := prog_4_method_10_code
theorem d61_0 : decode b61 0 = .ok ((.iload_n 0), 1) := by decide +kernel
theorem d61_1 : decode b61 1 = .ok ((.iconst 2), 1) := by decide +kernel
theorem d61_2 : decode b61 2 = .ok (.isub, 1) := by decide +kernel
theorem d61_3 : decode b61 3 = .ok ((.istore_n 1), 1) := by decide +kernel
theorem d61_4 : decode b61 4 = .ok ((.iconst 5), 1) := by decide +kernel
theorem d61_5 : decode b61 5 = .ok ((.iload_n 1), 1) := by decide +kernel
theorem d61_6 : decode b61 6 = .ok ((.bipush 7), 2) := by decide +kernel
theorem d61_8 : decode b61 8 = .ok ((.invokestatic 18), 3) := by decide +kernel
theorem d61_11 : decode b61 11 = .ok (.imul, 1) := by decide +kernel
theorem d61_12 : decode b61 12 = .ok ((.iload_n 1), 1) := by decide +kernel
theorem d61_13 : decode b61 13 = .ok ((.bipush 7), 2) := by decide +kernel
theorem d61_15 : decode b61 15 = .ok ((.invokestatic 12), 3) := by decide +kernel
theorem d61_18 : decode b61 18 = .ok ((.iconst 1), 1) := by decide +kernel
theorem d61_19 : decode b61 19 = .ok (.iadd, 1) := by decide +kernel
theorem d61_20 : decode b61 20 = .ok ((.iconst 5), 1) := by decide +kernel
theorem d61_21 : decode b61 21 = .ok ((.invokestatic 41), 3) := by decide +kernel
theorem d61_24 : decode b61 24 = .ok (.iadd, 1) := by decide +kernel
theorem d61_25 : decode b61 25 = .ok (.ireturn, 1) := by decide +kernel
abbrev b63 : ByteArray := prog_5_method_17_code
theorem d63_0 : decode b63 0 = .ok ((.aload_n 0), 1) := by decide +kernel
theorem d63_1 : decode b63 1 = .ok ((.getfield 161), 3) := by decide +kernel
theorem d63_4 : decode b63 4 = .ok ((.istore_n 2), 1) := by decide +kernel
theorem d63_5 : decode b63 5 = .ok ((.iload_n 2), 1) := by decide +kernel
theorem d63_6 : decode b63 6 = .ok ((.ifCond .le 21), 3) := by decide +kernel
theorem d63_9 : decode b63 9 = .ok ((.aload_n 0), 1) := by decide +kernel
theorem d63_10 : decode b63 10 = .ok ((.getfield 9), 3) := by decide +kernel
theorem d63_13 : decode b63 13 = .ok ((.iload_n 2), 1) := by decide +kernel
theorem d63_14 : decode b63 14 = .ok ((.iconst 1), 1) := by decide +kernel
theorem d63_15 : decode b63 15 = .ok (.isub, 1) := by decide +kernel
theorem d63_16 : decode b63 16 = .ok (.iaload, 1) := by decide +kernel
theorem d63_17 : decode b63 17 = .ok ((.iload_n 1), 1) := by decide +kernel
theorem d63_18 : decode b63 18 = .ok ((.if_icmp .le 9), 3) := by decide +kernel
theorem d63_21 : decode b63 21 = .ok ((.iinc 2 (-1)), 3) := by decide +kernel
theorem d63_24 : decode b63 24 = .ok ((.goto (-19)), 3) := by decide +kernel
theorem d63_27 : decode b63 27 = .ok ((.iload_n 2), 1) := by decide +kernel
theorem d63_28 : decode b63 28 = .ok ((.ifCond .le 19), 3) := by decide +kernel
theorem d63_31 : decode b63 31 = .ok ((.aload_n 0), 1) := by decide +kernel
theorem d63_32 : decode b63 32 = .ok ((.getfield 9), 3) := by decide +kernel
theorem d63_35 : decode b63 35 = .ok ((.iload_n 2), 1) := by decide +kernel
theorem d63_36 : decode b63 36 = .ok ((.iconst 1), 1) := by decide +kernel
theorem d63_37 : decode b63 37 = .ok (.isub, 1) := by decide +kernel
theorem d63_38 : decode b63 38 = .ok (.iaload, 1) := by decide +kernel
theorem d63_39 : decode b63 39 = .ok ((.iload_n 1), 1) := by decide +kernel
theorem d63_40 : decode b63 40 = .ok ((.if_icmp .ne 7), 3) := by decide +kernel
theorem d63_43 : decode b63 43 = .ok ((.iconst 1), 1) := by decide +kernel
theorem d63_44 : decode b63 44 = .ok ((.goto 4), 3) := by decide +kernel
theorem d63_47 : decode b63 47 = .ok ((.iconst 0), 1) := by decide +kernel
theorem d63_48 : decode b63 48 = .ok ((.istore_n 3), 1) := by decide +kernel
theorem d63_49 : decode b63 49 = .ok ((.iload_n 3), 1) := by decide +kernel
theorem d63_50 : decode b63 50 = .ok ((.ifCond .ne 22), 3) := by decide +kernel
theorem d63_53 : decode b63 53 = .ok ((.iload_n 1), 1) := by decide +kernel
theorem d63_54 : decode b63 54 = .ok ((.invokestatic 184), 3) := by decide +kernel
theorem d63_57 : decode b63 57 = .ok ((.ifCond .eq 15), 3) := by decide +kernel
theorem d63_60 : decode b63 60 = .ok ((.aload_n 0), 1) := by decide +kernel
theorem d63_61 : decode b63 61 = .ok ((.getfield 161), 3) := by decide +kernel
theorem d63_64 : decode b63 64 = .ok ((.aload_n 0), 1) := by decide +kernel
theorem d63_65 : decode b63 65 = .ok ((.getfield 9), 3) := by decide +kernel
theorem d63_68 : decode b63 68 = .ok (.arraylength, 1) := by decide +kernel
theorem d63_69 : decode b63 69 = .ok ((.if_icmp .lt 4), 3) := by decide +kernel
theorem d63_72 : decode b63 72 = .ok (.return_, 1) := by decide +kernel
theorem d63_73 : decode b63 73 = .ok ((.aload_n 0), 1) := by decide +kernel
theorem d63_74 : decode b63 74 = .ok ((.getfield 161), 3) := by decide +kernel
theorem d63_77 : decode b63 77 = .ok ((.istore 4), 2) := by decide +kernel
theorem d63_79 : decode b63 79 = .ok ((.iload 4), 2) := by decide +kernel
theorem d63_81 : decode b63 81 = .ok ((.iload_n 2), 1) := by decide +kernel
theorem d63_82 : decode b63 82 = .ok ((.if_icmp .le 25), 3) := by decide +kernel
theorem d63_85 : decode b63 85 = .ok ((.aload_n 0), 1) := by decide +kernel
theorem d63_86 : decode b63 86 = .ok ((.getfield 9), 3) := by decide +kernel
theorem d63_89 : decode b63 89 = .ok ((.iload 4), 2) := by decide +kernel
theorem d63_91 : decode b63 91 = .ok ((.aload_n 0), 1) := by decide +kernel
theorem d63_92 : decode b63 92 = .ok ((.getfield 9), 3) := by decide +kernel
theorem d63_95 : decode b63 95 = .ok ((.iload 4), 2) := by decide +kernel
theorem d63_97 : decode b63 97 = .ok ((.iconst 1), 1) := by decide +kernel
theorem d63_98 : decode b63 98 = .ok (.isub, 1) := by decide +kernel
theorem d63_99 : decode b63 99 = .ok (.iaload, 1) := by decide +kernel
theorem d63_100 : decode b63 100 = .ok (.iastore, 1) := by decide +kernel
theorem d63_101 : decode b63 101 = .ok ((.iinc 4 (-1)), 3) := by decide +kernel
theorem d63_104 : decode b63 104 = .ok ((.goto (-25)), 3) := by decide +kernel
theorem d63_107 : decode b63 107 = .ok ((.aload_n 0), 1) := by decide +kernel
theorem d63_108 : decode b63 108 = .ok ((.getfield 9), 3) := by decide +kernel
theorem d63_111 : decode b63 111 = .ok ((.iload_n 2), 1) := by decide +kernel
theorem d63_112 : decode b63 112 = .ok ((.iload_n 1), 1) := by decide +kernel
theorem d63_113 : decode b63 113 = .ok (.iastore, 1) := by decide +kernel
theorem d63_114 : decode b63 114 = .ok ((.aload_n 0), 1) := by decide +kernel
theorem d63_115 : decode b63 115 = .ok (.dup, 1) := by decide +kernel
theorem d63_116 : decode b63 116 = .ok ((.getfield 161), 3) := by decide +kernel
theorem d63_119 : decode b63 119 = .ok ((.iconst 1), 1) := by decide +kernel
theorem d63_120 : decode b63 120 = .ok (.iadd, 1) := by decide +kernel
theorem d63_121 : decode b63 121 = .ok ((.putfield 161), 3) := by decide +kernel
theorem d63_124 : decode b63 124 = .ok (.return_, 1) := by decide +kernel
abbrev b68 : ByteArray := prog_5_method_4_code
theorem d68_0 : decode b68 0 = .ok ((.iload_n 0), 1) := by decide +kernel
theorem d68_1 : decode b68 1 = .ok ((.ldc 80), 2) := by decide +kernel
theorem d68_3 : decode b68 3 = .ok ((.if_icmp .lt 9), 3) := by decide +kernel
theorem d68_6 : decode b68 6 = .ok ((.iload_n 0), 1) := by decide +kernel
theorem d68_7 : decode b68 7 = .ok ((.ldc 81), 2) := by decide +kernel
theorem d68_9 : decode b68 9 = .ok ((.if_icmp .le 7), 3) := by decide +kernel
theorem d68_12 : decode b68 12 = .ok ((.iconst 1), 1) := by decide +kernel
theorem d68_13 : decode b68 13 = .ok ((.goto 4), 3) := by decide +kernel
theorem d68_16 : decode b68 16 = .ok ((.iconst 0), 1) := by decide +kernel
theorem d68_17 : decode b68 17 = .ok (.ireturn, 1) := by decide +kernel
abbrev b65 : ByteArray := prog_5_method_3_code
theorem d65_0 : decode b65 0 = .ok ((.iload_n 0), 1) := by decide +kernel
theorem d65_1 : decode b65 1 = .ok ((.invokestatic 72), 3) := by decide +kernel
theorem d65_4 : decode b65 4 = .ok ((.ifCond .eq 11), 3) := by decide +kernel
theorem d65_7 : decode b65 7 = .ok ((.iload_n 0), 1) := by decide +kernel
theorem d65_8 : decode b65 8 = .ok (.i2d, 1) := by decide +kernel
theorem d65_9 : decode b65 9 = .ok ((.invokestatic 37), 3) := by decide +kernel
theorem d65_12 : decode b65 12 = .ok ((.goto 8), 3) := by decide +kernel
theorem d65_15 : decode b65 15 = .ok ((.bipush 6), 2) := by decide +kernel
theorem d65_17 : decode b65 17 = .ok ((.invokestatic 76), 3) := by decide +kernel
theorem d65_20 : decode b65 20 = .ok (.areturn, 1) := by decide +kernel
abbrev b64 : ByteArray := prog_5_method_5_code
theorem d64_0 : decode b64 0 = .ok ((.aload_n 0), 1) := by decide +kernel
theorem d64_1 : decode b64 1 = .ok ((.getfield 15), 3) := by decide +kernel
theorem d64_4 : decode b64 4 = .ok ((.iconst 0), 1) := by decide +kernel
theorem d64_5 : decode b64 5 = .ok ((.invokevirtual 82), 3) := by decide +kernel
theorem d64_8 : decode b64 8 = .ok ((.istore_n 1), 1) := by decide +kernel
theorem d64_9 : decode b64 9 = .ok ((.aload_n 0), 1) := by decide +kernel
theorem d64_10 : decode b64 10 = .ok ((.getfield 15), 3) := by decide +kernel
theorem d64_13 : decode b64 13 = .ok ((.iconst 1), 1) := by decide +kernel
theorem d64_14 : decode b64 14 = .ok ((.invokevirtual 82), 3) := by decide +kernel
theorem d64_17 : decode b64 17 = .ok ((.istore_n 2), 1) := by decide +kernel
theorem d64_18 : decode b64 18 = .ok ((.aload_n 0), 1) := by decide +kernel
theorem d64_19 : decode b64 19 = .ok ((.getfield 15), 3) := by decide +kernel
theorem d64_22 : decode b64 22 = .ok ((.iconst 2), 1) := by decide +kernel
theorem d64_23 : decode b64 23 = .ok ((.invokevirtual 82), 3) := by decide +kernel
theorem d64_26 : decode b64 26 = .ok ((.istore_n 3), 1) := by decide +kernel
theorem d64_27 : decode b64 27 = .ok ((.iload_n 1), 1) := by decide +kernel
theorem d64_28 : decode b64 28 = .ok ((.ifCond .lt 24), 3) := by decide +kernel
theorem d64_31 : decode b64 31 = .ok ((.iload_n 1), 1) := by decide +kernel
theorem d64_32 : decode b64 32 = .ok ((.sipush 9999), 3) := by decide +kernel
theorem d64_35 : decode b64 35 = .ok ((.if_icmp .gt 17), 3) := by decide +kernel
theorem d64_38 : decode b64 38 = .ok ((.iload_n 2), 1) := by decide +kernel
theorem d64_39 : decode b64 39 = .ok ((.invokestatic 85), 3) := by decide +kernel
theorem d64_42 : decode b64 42 = .ok ((.ifCond .ne 10), 3) := by decide +kernel
theorem d64_45 : decode b64 45 = .ok ((.iload_n 3), 1) := by decide +kernel
theorem d64_46 : decode b64 46 = .ok ((.invokestatic 85), 3) := by decide +kernel
theorem d64_49 : decode b64 49 = .ok ((.ifCond .eq 9), 3) := by decide +kernel
theorem d64_52 : decode b64 52 = .ok ((.bipush 6), 2) := by decide +kernel
theorem d64_54 : decode b64 54 = .ok ((.invokestatic 76), 3) := by decide +kernel
theorem d64_57 : decode b64 57 = .ok (.areturn, 1) := by decide +kernel
theorem d64_58 : decode b64 58 = .ok ((.iload_n 1), 1) := by decide +kernel
theorem d64_59 : decode b64 59 = .ok ((.sipush 1900), 3) := by decide +kernel
theorem d64_62 : decode b64 62 = .ok ((.if_icmp .ge 11), 3) := by decide +kernel
theorem d64_65 : decode b64 65 = .ok ((.iload_n 1), 1) := by decide +kernel
theorem d64_66 : decode b64 66 = .ok ((.sipush 1900), 3) := by decide +kernel
theorem d64_69 : decode b64 69 = .ok (.iadd, 1) := by decide +kernel
theorem d64_70 : decode b64 70 = .ok ((.goto 4), 3) := by decide +kernel
theorem d64_73 : decode b64 73 = .ok ((.iload_n 1), 1) := by decide +kernel
theorem d64_74 : decode b64 74 = .ok ((.istore 4), 2) := by decide +kernel
theorem d64_76 : decode b64 76 = .ok ((.iload 4), 2) := by decide +kernel
theorem d64_78 : decode b64 78 = .ok ((.bipush 12), 2) := by decide +kernel
theorem d64_80 : decode b64 80 = .ok (.imul, 1) := by decide +kernel
theorem d64_81 : decode b64 81 = .ok ((.iload_n 2), 1) := by decide +kernel
theorem d64_82 : decode b64 82 = .ok (.iadd, 1) := by decide +kernel
theorem d64_83 : decode b64 83 = .ok ((.iconst 1), 1) := by decide +kernel
theorem d64_84 : decode b64 84 = .ok (.isub, 1) := by decide +kernel
theorem d64_85 : decode b64 85 = .ok ((.invokestatic 88), 3) := by decide +kernel
theorem d64_88 : decode b64 88 = .ok ((.iload_n 3), 1) := by decide +kernel
theorem d64_89 : decode b64 89 = .ok (.iadd, 1) := by decide +kernel
theorem d64_90 : decode b64 90 = .ok ((.iconst 1), 1) := by decide +kernel
theorem d64_91 : decode b64 91 = .ok (.isub, 1) := by decide +kernel
theorem d64_92 : decode b64 92 = .ok ((.invokestatic 91), 3) := by decide +kernel
theorem d64_95 : decode b64 95 = .ok (.areturn, 1) := by decide +kernel
abbrev b66 : ByteArray := prog_5_method_12_code
theorem d66_0 : decode b66 0 = .ok ((.aload_n 0), 1) := by decide +kernel
theorem d66_1 : decode b66 1 = .ok ((.getfield 15), 3) := by decide +kernel
theorem d66_4 : decode b66 4 = .ok ((.iconst 0), 1) := by decide +kernel
theorem d66_5 : decode b66 5 = .ok ((.invokevirtual 26), 3) := by decide +kernel
theorem d66_8 : decode b66 8 = .ok ((.istore_n 1), 1) := by decide +kernel
theorem d66_9 : decode b66 9 = .ok ((.aload_n 0), 1) := by decide +kernel
theorem d66_10 : decode b66 10 = .ok ((.getfield 15), 3) := by decide +kernel
theorem d66_13 : decode b66 13 = .ok ((.iconst 1), 1) := by decide +kernel
theorem d66_14 : decode b66 14 = .ok ((.invokevirtual 26), 3) := by decide +kernel
theorem d66_17 : decode b66 17 = .ok ((.istore_n 2), 1) := by decide +kernel
theorem d66_18 : decode b66 18 = .ok ((.iload_n 1), 1) := by decide +kernel
theorem d66_19 : decode b66 19 = .ok ((.iload_n 2), 1) := by decide +kernel
theorem d66_20 : decode b66 20 = .ok (.isub, 1) := by decide +kernel
theorem d66_21 : decode b66 21 = .ok (.i2d, 1) := by decide +kernel
theorem d66_22 : decode b66 22 = .ok ((.invokestatic 37), 3) := by decide +kernel
theorem d66_25 : decode b66 25 = .ok (.areturn, 1) := by decide +kernel
def f_ar_text (st : CS) (p0 : Int32) : Option ((TT × CS) × Nat × Nat) := jc (f_ar_nth st p0 0) (fun q1 => jd (f_ar_textOf st q1) (fun q3 => some ((q3.1, q3.2), 0, 0)))
set_option maxHeartbeats 4000000 in
set_option maxRecDepth 100000 in
theorem c_ar_text (l : Launch) (ρ : RH) (ad : Nat → Nat) (H : Heap) (P : Nat → Prop) (st : CS) (p0 : Int32) (res : (TT × CS) × Nat × Nat) (hW : CW ρ P ad st H) (h : f_ar_text st p0 = some res) : Met l y45 (wsOf y45 b45 2 (some (.object "java/lang/String"))) ({ frames := 15, cells := res.2.1, slots := res.2.2, locals := 672 } : Room) (va_Pc [.ref (ad 1), .int p0] (KP ρ H)) (mQ (fun v H1 => ∃ x : Nat, v = some (.ref x) ∧ isS ρ P H1 x res.1.1 ∧ CW ρ P ad res.1.2 H1) (MA wC ad H.size)) res.2.1 res.2.2 (MA wC ad H.size) := by
  refine m_ofW (own := "WordFunctions$Arguments") (plainFor_of_name rfl) rfl (Nat.le_of_ble_eq_true rfl) fun p e s m args below meth c ls hx hb hr hlk _ X hs hl => ?_
  subst hs
  have hS : va_S (MA wC ad s.heap.size) s.heap s.heap [] := va_S.rf
  have hSz := hS.1
  have hAz : ∀ q, s.heap.size ≤ q → (MA wC ad s.heap.size) q := fun q hq => Or.inr hq
  have hAp : ∀ i, i < 46 → (MA wC ad s.heap.size) (ad i) := fun i hi => MA.in hi
  have hPp : ∀ i, i < 46 → P (ad i) := hW.1
  have hl : lv_has ls 2 [(0, .ref (ad 1)), (1, .int p0)] := hl
  have her : res.1 = res.1 := rfl
  have hc1 : 0 + res.2.1 ≤ res.2.1 := Nat.le_of_eq (Nat.zero_add _)
  have hs1 : 0 + res.2.2 ≤ res.2.2 := Nat.le_of_eq (Nat.zero_add _)
  unfold f_ar_text at h
  refine lv_aload_n (pc := 0) hx hb d45_0 rfl (lv_at hl 0 rfl) ?_
  refine lv_aload_n (pc := 1) hx hb d45_1 rfl (lv_at hl 0 rfl) ?_
  refine lv_iload_n (pc := 2) hx hb d45_2 rfl (lv_at hl 1 rfl) ?_
  refine lv_iconst (pc := 3) (v := 0) hx hb d45_3 (by decide) ?_
  obtain ⟨q1, hq1, h⟩ := jc_some h
  refine k_callV (pc := 4) (n := 2) X hS (c_ar_nth l ρ ad _ P st p0 0 q1 hW  hq1) wd770 wd767 wd768 wd769 wd3 (by decide) ⟨rfl, rfl, Nat.le_of_ble_eq_true rfl, Nat.le_of_ble_eq_true rfl⟩ (c_recv X hW 1 3 (by decide) rfl rfl) (As := [.int p0, .int 0]) (rest := [.ref (ad 1)]) rfl rfl hl.1 (Nat.le_of_ble_eq_true rfl) d45_4 ⟨room_l0 hc1, room_l0 hs1⟩ (fun q hq => False.elim hq) (fun v H1 locs1 hv _ _ hSq1 => ?_)
  obtain ⟨u2, rfl, fu2, rfl⟩ := hv
  have hS := hSq1
  have hSz := hS.1
  obtain ⟨q3, rq3, hq3, h, herq3, hccq3, hssq3⟩ := jd_some h
  refine k_callV (pc := 7) (n := 1) X hS (c_ar_textOf l ρ ad _ P st u2 q1 q3 hW fu2 hq3) wd872 wd869 wd870 wd871 wd3 (by decide) ⟨rfl, rfl, Nat.le_of_ble_eq_true rfl, Nat.le_of_ble_eq_true rfl⟩ (c_recv X hW 1 3 (by decide) rfl rfl) (As := [.ref u2]) (rest := []) rfl rfl hl.1 (Nat.le_of_ble_eq_true rfl) d45_7 ⟨room_le hccq3 hc1, room_le hssq3 hs1⟩ (fun q hq => MA.mono hS.1 hq) (fun v H1 locs1 hv hz1 hz2 hSq3 => ?_)
  have hPq := hW.1
  obtain ⟨u4, rfl, fu4, hW⟩ := hv
  have hS := hSq3
  have hSz := hS.1
  have her := her.trans herq3
  have hc1 := room_st hccq3 hc1
  have hs1 := room_st hssq3 hs1
  have her : res.1 = (q3.1.1, q3.1.2) := her.trans (congrArg Prod.fst (Option.some.inj h)).symm
  exact m_aret (pc := 10) hx hb hr (Or.inl ⟨_, rfl⟩) hlk hS ⟨u4, rfl, by rw [her]; exact fu4, by rw [her]; exact hW⟩ (Nat.le_trans (Nat.le_add_right _ _) hc1) (Nat.le_trans (Nat.le_add_right _ _) hs1) d45_10
def f_ar_truth (st : CS) (p0 : Int32) : Option (Int32 × CS) := jc (f_ar_number st p0) (fun q1 => jb ((Op.cmpValue (FP.dcmp q1.1 FP.dconst0) .l) = 0) (some (0, q1.2)) (some (1, q1.2)))
set_option maxHeartbeats 4000000 in
set_option maxRecDepth 100000 in
theorem c_ar_truth (l : Launch) (ρ : RH) (ad : Nat → Nat) (H : Heap) (P : Nat → Prop) (st : CS) (p0 : Int32) (res : Int32 × CS) (hW : CW ρ P ad st H) (h : f_ar_truth st p0 = some res) : Met l y47 (wsOf y47 b47 2 (some .boolean)) ({ frames := 15, cells := 0, slots := 0, locals := 673 } : Room) (va_Pc [.ref (ad 1), .int p0] (KP ρ H)) (mQ (fun v H1 => v = some (.int res.1) ∧ CW ρ P ad res.2 H1) (MA wC ad H.size)) 0 0 (MA wC ad H.size) := by
  refine m_ofW (own := "WordFunctions$Arguments") (plainFor_of_name rfl) rfl (Nat.le_of_ble_eq_true rfl) fun p e s m args below meth c ls hx hb hr hlk _ X hs hl => ?_
  subst hs
  have hS : va_S (MA wC ad s.heap.size) s.heap s.heap [] := va_S.rf
  have hSz := hS.1
  have hAz : ∀ q, s.heap.size ≤ q → (MA wC ad s.heap.size) q := fun q hq => Or.inr hq
  have hAp : ∀ i, i < 46 → (MA wC ad s.heap.size) (ad i) := fun i hi => MA.in hi
  have hPp : ∀ i, i < 46 → P (ad i) := hW.1
  have hl : lv_has ls 2 [(0, .ref (ad 1)), (1, .int p0)] := hl
  unfold f_ar_truth at h
  refine lv_aload_n (pc := 0) hx hb d47_0 rfl (lv_at hl 0 rfl) ?_
  refine lv_iload_n (pc := 1) hx hb d47_1 rfl (lv_at hl 1 rfl) ?_
  obtain ⟨q1, hq1, h⟩ := jc_some h
  refine k_callV (pc := 2) (n := 1) X hS (c_ar_number l ρ ad _ P st p0 q1 hW  hq1) wd766 wd763 wd764 wd765 wd3 (by decide) ⟨rfl, rfl, Nat.le_of_ble_eq_true rfl, Nat.le_of_ble_eq_true rfl⟩ (c_recv X hW 1 3 (by decide) rfl rfl) (As := [.int p0]) (rest := []) rfl rfl hl.1 (Nat.le_of_ble_eq_true rfl) d47_2 ⟨Nat.le_refl _, Nat.le_refl _⟩ (fun q hq => MA.mono hS.1 hq) (fun v H1 locs1 hv hz1 hz2 hSq1 => ?_)
  have hPq := hW.1
  obtain ⟨rfl, hW⟩ := hv
  have hS := hSq1
  have hSz := hS.1
  refine lv_dconst0 (pc := 5) hx hb d47_5 ?_
  refine lv_dcmp (pc := 6) hx hb d47_6 ?_
  refine lv_if_eq (pc := 7) (tgt := 14) hx hb d47_7 (by decide) (fun c7 => ?_) (fun c7 => ?_)
  · have h := jb_t c7 h
    refine lv_iconst (pc := 14) (v := 0) hx hb d47_14 (by decide) ?_
    obtain rfl := Option.some.inj h
    exact m_zret (pc := 15) hx hb hr hlk hS ⟨rfl, hW⟩ (Nat.le_refl _) (Nat.le_refl _) d47_15 (by decide)
  · have h := jb_f c7 h
    refine lv_iconst (pc := 10) (v := 1) hx hb d47_10 (by decide) ?_
    refine lv_goto (pc := 11) (tgt := 15) hx hb d47_11 (by decide) ?_
    obtain rfl := Option.some.inj h
    exact m_zret (pc := 15) hx hb hr hlk hS ⟨rfl, hW⟩ (Nat.le_refl _) (Nat.le_refl _) d47_15 (by decide)
def f_ar_truthOr (st : CS) (p0 : Int32) (p1 : Int32) : Option (Int32 × CS) := jc (f_ar_isLeftOut st p0) (fun q1 => jb (q1 = 0) (jc (f_ar_truth st p0) (fun q2 => jg (isB q2.1) (some (q2.1, q2.2)))) (jg (isB p1) (some (p1, st))))
set_option maxHeartbeats 4000000 in
set_option maxRecDepth 100000 in
theorem c_ar_truthOr (l : Launch) (ρ : RH) (ad : Nat → Nat) (H : Heap) (P : Nat → Prop) (st : CS) (p0 : Int32) (p1 : Int32) (res : Int32 × CS) (hW : CW ρ P ad st H) (h : f_ar_truthOr st p0 p1 = some res) : Met l y48 (wsOf y48 b48 3 (some .boolean)) ({ frames := 16, cells := 0, slots := 0, locals := 694 } : Room) (va_Pc [.ref (ad 1), .int p0, .int p1] (KP ρ H)) (mQ (fun v H1 => v = some (.int res.1) ∧ CW ρ P ad res.2 H1) (MA wC ad H.size)) 0 0 (MA wC ad H.size) := by
  refine m_ofW (own := "WordFunctions$Arguments") (plainFor_of_name rfl) rfl (Nat.le_of_ble_eq_true rfl) fun p e s m args below meth c ls hx hb hr hlk _ X hs hl => ?_
  subst hs
  have hS : va_S (MA wC ad s.heap.size) s.heap s.heap [] := va_S.rf
  have hSz := hS.1
  have hAz : ∀ q, s.heap.size ≤ q → (MA wC ad s.heap.size) q := fun q hq => Or.inr hq
  have hAp : ∀ i, i < 46 → (MA wC ad s.heap.size) (ad i) := fun i hi => MA.in hi
  have hPp : ∀ i, i < 46 → P (ad i) := hW.1
  have hl : lv_has ls 3 [(0, .ref (ad 1)), (1, .int p0), (2, .int p1)] := hl
  unfold f_ar_truthOr at h
  refine lv_aload_n (pc := 0) hx hb d48_0 rfl (lv_at hl 0 rfl) ?_
  refine lv_iload_n (pc := 1) hx hb d48_1 rfl (lv_at hl 1 rfl) ?_
  obtain ⟨q1, hq1, h⟩ := jc_some h
  refine k_callV (pc := 2) (n := 1) X hS (c_ar_isLeftOut l ρ ad _ P st p0 q1 hW  hq1) wd929 wd926 wd927 wd928 wd3 (by decide) ⟨rfl, rfl, Nat.le_of_ble_eq_true rfl, Nat.le_of_ble_eq_true rfl⟩ (c_recv X hW 1 3 (by decide) rfl rfl) (As := [.int p0]) (rest := []) rfl rfl hl.1 (Nat.le_of_ble_eq_true rfl) d48_2 ⟨Nat.le_refl _, Nat.le_refl _⟩ (fun q hq => False.elim hq) (fun v H1 locs1 hv _ _ hSq1 => ?_)
  obtain ⟨rfl, rfl⟩ := hv
  have hS := hSq1
  have hSz := hS.1
  refine lv_if_eq (pc := 5) (tgt := 12) hx hb d48_5 (by decide) (fun c5 => ?_) (fun c5 => ?_)
  · have h := jb_t c5 h
    refine lv_aload_n (pc := 12) hx hb d48_12 rfl (lv_at hl 0 rfl) ?_
    refine lv_iload_n (pc := 13) hx hb d48_13 rfl (lv_at hl 1 rfl) ?_
    obtain ⟨q2, hq2, h⟩ := jc_some h
    refine k_callV (pc := 14) (n := 1) X hS (c_ar_truth l ρ ad _ P st p0 q2 hW  hq2) wd1052 wd1125 wd1050 wd1051 wd3 (by decide) ⟨rfl, rfl, Nat.le_of_ble_eq_true rfl, Nat.le_of_ble_eq_true rfl⟩ (c_recv X hW 1 3 (by decide) rfl rfl) (As := [.int p0]) (rest := []) rfl rfl hl.1 (Nat.le_of_ble_eq_true rfl) d48_14 ⟨Nat.le_refl _, Nat.le_refl _⟩ (fun q hq => MA.mono hS.1 hq) (fun v H1 locs1 hv hz1 hz2 hSq2 => ?_)
    have hPq := hW.1
    obtain ⟨rfl, hW⟩ := hv
    have hS := hSq2
    have hSz := hS.1
    obtain ⟨g3, h⟩ := jg_some h
    obtain rfl := Option.some.inj h
    exact m_zret (pc := 17) hx hb hr hlk hS ⟨rfl, hW⟩ (Nat.le_refl _) (Nat.le_refl _) d48_17 (isB_nar g3)
  · have h := jb_f c5 h
    refine lv_iload_n (pc := 8) hx hb d48_8 rfl (lv_at hl 2 rfl) ?_
    refine lv_goto (pc := 9) (tgt := 17) hx hb d48_9 (by decide) ?_
    obtain ⟨g4, h⟩ := jg_some h
    obtain rfl := Option.some.inj h
    exact m_zret (pc := 17) hx hb hr hlk hS ⟨rfl, hW⟩ (Nat.le_refl _) (Nat.le_refl _) d48_17 (isB_nar g4)
def ar_whole_18  (st : CS) (x2 : UInt64) (z0 : UInt64) : Option (Int32 × CS) := jb ((Op.cmpValue (FP.dcmp z0 (4746794007248502784 : UInt64)) .l) < 0) (some ((FP.d2i x2), st)) (jc (f_ar_fail st 6) (fun q1 => some (0, q1)))
def f_ar_whole (st : CS) (p0 : Int32) : Option (Int32 × CS) := jc (f_ar_number st p0) (fun q2 => jb (0 ≤ (Op.cmpValue (FP.dcmp q2.1 FP.dconst0) .g)) (ar_whole_18 q2.2 q2.1 q2.1) (ar_whole_18 q2.2 q2.1 (FP.dneg q2.1)))
set_option maxHeartbeats 4000000 in
set_option maxRecDepth 100000 in
theorem c_ar_whole (l : Launch) (ρ : RH) (ad : Nat → Nat) (H : Heap) (P : Nat → Prop) (st : CS) (p0 : Int32) (res : Int32 × CS) (hW : CW ρ P ad st H) (h : f_ar_whole st p0 = some res) : Met l y49 (wsOf y49 b49 6 (some .int)) ({ frames := 15, cells := 0, slots := 0, locals := 673 } : Room) (va_Pc [.ref (ad 1), .int p0] (KP ρ H)) (mQ (fun v H1 => v = some (.int res.1) ∧ CW ρ P ad res.2 H1) (MA wC ad H.size)) 0 0 (MA wC ad H.size) := by
  refine m_ofW (own := "WordFunctions$Arguments") (plainFor_of_name rfl) rfl (Nat.le_of_ble_eq_true rfl) fun p e s m args below meth c ls hx hb hr hlk _ X hs hl => ?_
  subst hs
  have hS : va_S (MA wC ad s.heap.size) s.heap s.heap [] := va_S.rf
  have hSz := hS.1
  have hAz : ∀ q, s.heap.size ≤ q → (MA wC ad s.heap.size) q := fun q hq => Or.inr hq
  have hAp : ∀ i, i < 46 → (MA wC ad s.heap.size) (ad i) := fun i hi => MA.in hi
  have hPp : ∀ i, i < 46 → P (ad i) := hW.1
  have hl : lv_has ls 6 [(0, .ref (ad 1)), (1, .int p0)] := hl
  have kc18 : ∀ (st : CS) (x2 : UInt64) (z0 : UInt64) (H : Heap) (locs : List Loc) (ls : Array Slot), CW ρ P ad st H → va_S (MA wC ad s.heap.size) s.heap H locs → lv_has ls 6 [(0, .ref (ad 1)), (2, .double x2)] → ar_whole_18 st x2 z0 = some res → W p l e ({ frames := 15, cells := 0, slots := 0, locals := 673 } : Room) s m args below meth c H locs 0 0 (MQ below (mQ (fun v H1 => v = some (.int res.1) ∧ CW ρ P ad res.2 H1) (MA wC ad s.heap.size)) args s 0 0 (MA wC ad s.heap.size)) (F0 m 18 ls [.double z0]) := by
    intro st x2 z0 H locs ls hW hS hl h
    have hSz := hS.1
    unfold ar_whole_18 at h
    refine lv_dstore (pc := 18) (lv' := [(4, .double z0), (0, .ref (ad 1)), (2, .double x2)]) hx hb d49_18 hl (by decide) rfl (fun ls hl => ?_)
    refine lv_dload (pc := 20) hx hb d49_20 (lv_at hl 0 rfl) ?_
    refine lv_ldc2d (pc := 22) hx hb X.1.2.2.2.1 (X.ts wd835) d49_22 ?_
    refine lv_dcmp (pc := 25) hx hb d49_25 ?_
    refine lv_if_lt (pc := 26) (tgt := 37) hx hb d49_26 (by decide) (fun c26 => ?_) (fun c26 => ?_)
    · have h := jb_t c26 h
      refine lv_dload_n (pc := 37) hx hb d49_37 rfl (lv_at hl 2 rfl) ?_
      refine lv_d2i (pc := 38) hx hb d49_38 ?_
      obtain rfl := Option.some.inj h
      exact m_iret (pc := 39) hx hb hr hlk hS ⟨rfl, hW⟩ (Nat.le_refl _) (Nat.le_refl _) d49_39
    · have h := jb_f c26 h
      refine lv_aload_n (pc := 29) hx hb d49_29 rfl (lv_at hl 1 rfl) ?_
      refine lv_bipush (pc := 30) (v := 6) hx hb d49_30 (by decide) ?_
      obtain ⟨q1, hq1, h⟩ := jc_some h
      refine k_callV (pc := 32) (n := 1) X hS (c_ar_fail l ρ ad _ P st 6 q1 hW  hq1) wd774 wd771 wd772 wd773 wd3 (by decide) ⟨rfl, rfl, Nat.le_of_ble_eq_true rfl, Nat.le_of_ble_eq_true rfl⟩ (c_recv X hW 1 3 (by decide) rfl rfl) (As := [.int 6]) (rest := []) rfl rfl hl.1 (Nat.le_of_ble_eq_true rfl) d49_32 ⟨Nat.le_refl _, Nat.le_refl _⟩ (fun q hq => MA.mono hS.1 hq) (fun v H1 locs1 hv hz1 hz2 hSq1 => ?_)
      have hPq := hW.1
      obtain ⟨rfl, hW⟩ := hv
      have hS := hSq1
      have hSz := hS.1
      refine lv_iconst (pc := 35) (v := 0) hx hb d49_35 (by decide) ?_
      obtain rfl := Option.some.inj h
      exact m_iret (pc := 36) hx hb hr hlk hS ⟨rfl, hW⟩ (Nat.le_refl _) (Nat.le_refl _) d49_36
  unfold f_ar_whole at h
  refine lv_aload_n (pc := 0) hx hb d49_0 rfl (lv_at hl 0 rfl) ?_
  refine lv_iload_n (pc := 1) hx hb d49_1 rfl (lv_at hl 1 rfl) ?_
  obtain ⟨q2, hq2, h⟩ := jc_some h
  refine k_callV (pc := 2) (n := 1) X hS (c_ar_number l ρ ad _ P st p0 q2 hW  hq2) wd766 wd763 wd764 wd765 wd3 (by decide) ⟨rfl, rfl, Nat.le_of_ble_eq_true rfl, Nat.le_of_ble_eq_true rfl⟩ (c_recv X hW 1 3 (by decide) rfl rfl) (As := [.int p0]) (rest := []) rfl rfl hl.1 (Nat.le_of_ble_eq_true rfl) d49_2 ⟨Nat.le_refl _, Nat.le_refl _⟩ (fun q hq => MA.mono hS.1 hq) (fun v H1 locs1 hv hz1 hz2 hSq2 => ?_)
  have hPq := hW.1
  obtain ⟨rfl, hW⟩ := hv
  have hS := hSq2
  have hSz := hS.1
  refine lv_dstore_n (pc := 5) (lv' := [(2, .double q2.1), (0, .ref (ad 1)), (1, .int p0)]) hx hb d49_5 rfl hl (by decide) rfl (fun ls hl => ?_)
  refine lv_dload_n (pc := 6) hx hb d49_6 rfl (lv_at hl 0 rfl) ?_
  refine lv_dconst0 (pc := 7) hx hb d49_7 ?_
  refine lv_dcmp (pc := 8) hx hb d49_8 ?_
  refine lv_if_ge (pc := 9) (tgt := 17) hx hb d49_9 (by decide) (fun c9 => ?_) (fun c9 => ?_)
  · have h := jb_t c9 h
    refine lv_dload_n (pc := 17) hx hb d49_17 rfl (lv_at hl 0 rfl) ?_
    exact kc18   q2.2 q2.1 q2.1 _ _ _ hW hS (lv_sub hl [1, 0] rfl) h
  · have h := jb_f c9 h
    refine lv_dload_n (pc := 12) hx hb d49_12 rfl (lv_at hl 0 rfl) ?_
    refine lv_dneg (pc := 13) hx hb d49_13 ?_
    refine lv_goto (pc := 14) (tgt := 18) hx hb d49_14 (by decide) ?_
    exact kc18   q2.2 q2.1 (FP.dneg q2.1) _ _ _ hW hS (lv_sub hl [1, 0] rfl) h
def f_ar_wholeOr (st : CS) (p0 : Int32) (p1 : Int32) : Option (Int32 × CS) := jc (f_ar_isLeftOut st p0) (fun q1 => jb (q1 = 0) (jc (f_ar_whole st p0) (fun q2 => some (q2.1, q2.2))) (some (p1, st)))
set_option maxHeartbeats 4000000 in
set_option maxRecDepth 100000 in
theorem c_ar_wholeOr (l : Launch) (ρ : RH) (ad : Nat → Nat) (H : Heap) (P : Nat → Prop) (st : CS) (p0 : Int32) (p1 : Int32) (res : Int32 × CS) (hW : CW ρ P ad st H) (h : f_ar_wholeOr st p0 p1 = some res) : Met l y50 (wsOf y50 b50 3 (some .int)) ({ frames := 16, cells := 0, slots := 0, locals := 698 } : Room) (va_Pc [.ref (ad 1), .int p0, .int p1] (KP ρ H)) (mQ (fun v H1 => v = some (.int res.1) ∧ CW ρ P ad res.2 H1) (MA wC ad H.size)) 0 0 (MA wC ad H.size) := by
  refine m_ofW (own := "WordFunctions$Arguments") (plainFor_of_name rfl) rfl (Nat.le_of_ble_eq_true rfl) fun p e s m args below meth c ls hx hb hr hlk _ X hs hl => ?_
  subst hs
  have hS : va_S (MA wC ad s.heap.size) s.heap s.heap [] := va_S.rf
  have hSz := hS.1
  have hAz : ∀ q, s.heap.size ≤ q → (MA wC ad s.heap.size) q := fun q hq => Or.inr hq
  have hAp : ∀ i, i < 46 → (MA wC ad s.heap.size) (ad i) := fun i hi => MA.in hi
  have hPp : ∀ i, i < 46 → P (ad i) := hW.1
  have hl : lv_has ls 3 [(0, .ref (ad 1)), (1, .int p0), (2, .int p1)] := hl
  unfold f_ar_wholeOr at h
  refine lv_aload_n (pc := 0) hx hb d50_0 rfl (lv_at hl 0 rfl) ?_
  refine lv_iload_n (pc := 1) hx hb d50_1 rfl (lv_at hl 1 rfl) ?_
  obtain ⟨q1, hq1, h⟩ := jc_some h
  refine k_callV (pc := 2) (n := 1) X hS (c_ar_isLeftOut l ρ ad _ P st p0 q1 hW  hq1) wd929 wd926 wd927 wd928 wd3 (by decide) ⟨rfl, rfl, Nat.le_of_ble_eq_true rfl, Nat.le_of_ble_eq_true rfl⟩ (c_recv X hW 1 3 (by decide) rfl rfl) (As := [.int p0]) (rest := []) rfl rfl hl.1 (Nat.le_of_ble_eq_true rfl) d50_2 ⟨Nat.le_refl _, Nat.le_refl _⟩ (fun q hq => False.elim hq) (fun v H1 locs1 hv _ _ hSq1 => ?_)
  obtain ⟨rfl, rfl⟩ := hv
  have hS := hSq1
  have hSz := hS.1
  refine lv_if_eq (pc := 5) (tgt := 12) hx hb d50_5 (by decide) (fun c5 => ?_) (fun c5 => ?_)
  · have h := jb_t c5 h
    refine lv_aload_n (pc := 12) hx hb d50_12 rfl (lv_at hl 0 rfl) ?_
    refine lv_iload_n (pc := 13) hx hb d50_13 rfl (lv_at hl 1 rfl) ?_
    obtain ⟨q2, hq2, h⟩ := jc_some h
    refine k_callV (pc := 14) (n := 1) X hS (c_ar_whole l ρ ad _ P st p0 q2 hW  hq2) wd762 wd930 wd760 wd761 wd3 (by decide) ⟨rfl, rfl, Nat.le_of_ble_eq_true rfl, Nat.le_of_ble_eq_true rfl⟩ (c_recv X hW 1 3 (by decide) rfl rfl) (As := [.int p0]) (rest := []) rfl rfl hl.1 (Nat.le_of_ble_eq_true rfl) d50_14 ⟨Nat.le_refl _, Nat.le_refl _⟩ (fun q hq => MA.mono hS.1 hq) (fun v H1 locs1 hv hz1 hz2 hSq2 => ?_)
    have hPq := hW.1
    obtain ⟨rfl, hW⟩ := hv
    have hS := hSq2
    have hSz := hS.1
    obtain rfl := Option.some.inj h
    exact m_iret (pc := 17) hx hb hr hlk hS ⟨rfl, hW⟩ (Nat.le_refl _) (Nat.le_refl _) d50_17
  · have h := jb_f c5 h
    refine lv_iload_n (pc := 8) hx hb d50_8 rfl (lv_at hl 2 rfl) ?_
    refine lv_goto (pc := 9) (tgt := 17) hx hb d50_9 (by decide) ?_
    obtain rfl := Option.some.inj h
    exact m_iret (pc := 17) hx hb hr hlk hS ⟨rfl, hW⟩ (Nat.le_refl _) (Nat.le_refl _) d50_17
def f_ma_floorDiv  (p0 : Int32) (p1 : Int32) : Option (Int32) := jg (nz p1) (jn (p0 / p1) (fun v2 => jb (0 ≤ (p0 ^^^ p1)) (some v2) (jb ((v2 * p1) = p0) (some v2) (some (v2 - 1)))))
set_option maxHeartbeats 4000000 in
set_option maxRecDepth 100000 in
theorem c_ma_floorDiv (l : Launch) (ρ : RH) (H : Heap) (P : Nat → Prop) (p0 : Int32) (p1 : Int32) (res : Int32) (hC : CC ρ P H) (hPb : ∀ q, P q → q < H.size) (h : f_ma_floorDiv p0 p1 = some res) : Met l y276 (wsOf y276 b276 3 (some .int)) ({ frames := 0, cells := 0, slots := 0, locals := 0 } : Room) (va_Pc [.int p0, .int p1] (KP ρ H)) (mQ (fun v H1 => v = some (.int res) ∧ H1 = H) (fun _ => False)) 0 0 (fun _ => False) := by
  refine m_ofW (own := "java/lang/Math") (by decide +kernel) rfl (Nat.le_of_ble_eq_true rfl) fun p e s m args below meth c ls hx hb hr hlk _ X hs hl => ?_
  subst hs
  have hS : va_S (fun _ => False) s.heap s.heap [] := va_S.rf
  have hSz := hS.1
  have hl : lv_has ls 3 [(0, .int p0), (1, .int p1)] := hl
  unfold f_ma_floorDiv at h
  refine lv_iload_n (pc := 0) hx hb d276_0 rfl (lv_at hl 0 rfl) ?_
  refine lv_iload_n (pc := 1) hx hb d276_1 rfl (lv_at hl 1 rfl) ?_
  obtain ⟨g1, h⟩ := jg_some h
  refine lv_idiv (pc := 2) hx hb d276_2 (nz_ne g1) ?_
  obtain ⟨v2, ev2, h⟩ := jn_ex h
  refine nm_i ev2 ?_
  refine lv_istore_n (pc := 3) (lv' := [(2, .int v2), (0, .int p0), (1, .int p1)]) hx hb d276_3 rfl hl (by decide) rfl (fun ls hl => ?_)
  refine lv_iload_n (pc := 4) hx hb d276_4 rfl (lv_at hl 1 rfl) ?_
  refine lv_iload_n (pc := 5) hx hb d276_5 rfl (lv_at hl 2 rfl) ?_
  refine lv_ixor (pc := 6) hx hb d276_6 ?_
  refine lv_if_ge (pc := 7) (tgt := 21) hx hb d276_7 (by decide) (fun c7 => ?_) (fun c7 => ?_)
  · have h := jb_t c7 h
    refine lv_iload_n (pc := 21) hx hb d276_21 rfl (lv_at hl 0 rfl) ?_
    obtain rfl := Option.some.inj h
    exact m_iret (pc := 22) hx hb hr hlk hS ⟨rfl, rfl⟩ (Nat.le_refl _) (Nat.le_refl _) d276_22
  · have h := jb_f c7 h
    refine lv_iload_n (pc := 10) hx hb d276_10 rfl (lv_at hl 0 rfl) ?_
    refine lv_iload_n (pc := 11) hx hb d276_11 rfl (lv_at hl 2 rfl) ?_
    refine lv_imul (pc := 12) hx hb d276_12 ?_
    refine lv_iload_n (pc := 13) hx hb d276_13 rfl (lv_at hl 1 rfl) ?_
    refine lv_icmp_eq (pc := 14) (tgt := 21) hx hb d276_14 (by decide) (fun c14 => ?_) (fun c14 => ?_)
    · have h := jb_t c14 h
      refine lv_iload_n (pc := 21) hx hb d276_21 rfl (lv_at hl 0 rfl) ?_
      obtain rfl := Option.some.inj h
      exact m_iret (pc := 22) hx hb hr hlk hS ⟨rfl, rfl⟩ (Nat.le_refl _) (Nat.le_refl _) d276_22
    · have h := jb_f c14 h
      refine lv_iload_n (pc := 17) hx hb d276_17 rfl (lv_at hl 0 rfl) ?_
      refine lv_iconst (pc := 18) (v := 1) hx hb d276_18 (by decide) ?_
      refine lv_isub (pc := 19) hx hb d276_19 ?_
      obtain rfl := Option.some.inj h
      exact m_iret (pc := 20) hx hb hr hlk hS ⟨rfl, rfl⟩ (Nat.le_refl _) (Nat.le_refl _) d276_20
def f_ma_floorMod  (p0 : Int32) (p1 : Int32) : Option (Int32) := jg (nz p1) (jn (p0 - p0 / p1 * p1) (fun v2 => jb (0 ≤ (p0 ^^^ p1)) (some v2) (jb (v2 = 0) (some v2) (some (v2 + p1)))))
set_option maxHeartbeats 4000000 in
set_option maxRecDepth 100000 in
theorem c_ma_floorMod (l : Launch) (ρ : RH) (H : Heap) (P : Nat → Prop) (p0 : Int32) (p1 : Int32) (res : Int32) (hC : CC ρ P H) (hPb : ∀ q, P q → q < H.size) (h : f_ma_floorMod p0 p1 = some res) : Met l y277 (wsOf y277 b277 3 (some .int)) ({ frames := 0, cells := 0, slots := 0, locals := 0 } : Room) (va_Pc [.int p0, .int p1] (KP ρ H)) (mQ (fun v H1 => v = some (.int res) ∧ H1 = H) (fun _ => False)) 0 0 (fun _ => False) := by
  refine m_ofW (own := "java/lang/Math") (by decide +kernel) rfl (Nat.le_of_ble_eq_true rfl) fun p e s m args below meth c ls hx hb hr hlk _ X hs hl => ?_
  subst hs
  have hS : va_S (fun _ => False) s.heap s.heap [] := va_S.rf
  have hSz := hS.1
  have hl : lv_has ls 3 [(0, .int p0), (1, .int p1)] := hl
  unfold f_ma_floorMod at h
  refine lv_iload_n (pc := 0) hx hb d277_0 rfl (lv_at hl 0 rfl) ?_
  refine lv_iload_n (pc := 1) hx hb d277_1 rfl (lv_at hl 1 rfl) ?_
  obtain ⟨g1, h⟩ := jg_some h
  refine lv_irem (pc := 2) hx hb d277_2 (nz_ne g1) ?_
  obtain ⟨v2, ev2, h⟩ := jn_ex h
  refine nm_i ev2 ?_
  refine lv_istore_n (pc := 3) (lv' := [(2, .int v2), (0, .int p0), (1, .int p1)]) hx hb d277_3 rfl hl (by decide) rfl (fun ls hl => ?_)
  refine lv_iload_n (pc := 4) hx hb d277_4 rfl (lv_at hl 1 rfl) ?_
  refine lv_iload_n (pc := 5) hx hb d277_5 rfl (lv_at hl 2 rfl) ?_
  refine lv_ixor (pc := 6) hx hb d277_6 ?_
  refine lv_if_ge (pc := 7) (tgt := 18) hx hb d277_7 (by decide) (fun c7 => ?_) (fun c7 => ?_)
  · have h := jb_t c7 h
    refine lv_iload_n (pc := 18) hx hb d277_18 rfl (lv_at hl 0 rfl) ?_
    obtain rfl := Option.some.inj h
    exact m_iret (pc := 19) hx hb hr hlk hS ⟨rfl, rfl⟩ (Nat.le_refl _) (Nat.le_refl _) d277_19
  · have h := jb_f c7 h
    refine lv_iload_n (pc := 10) hx hb d277_10 rfl (lv_at hl 0 rfl) ?_
    refine lv_if_eq (pc := 11) (tgt := 18) hx hb d277_11 (by decide) (fun c11 => ?_) (fun c11 => ?_)
    · have h := jb_t c11 h
      refine lv_iload_n (pc := 18) hx hb d277_18 rfl (lv_at hl 0 rfl) ?_
      obtain rfl := Option.some.inj h
      exact m_iret (pc := 19) hx hb hr hlk hS ⟨rfl, rfl⟩ (Nat.le_refl _) (Nat.le_refl _) d277_19
    · have h := jb_f c11 h
      refine lv_iload_n (pc := 14) hx hb d277_14 rfl (lv_at hl 0 rfl) ?_
      refine lv_iload_n (pc := 15) hx hb d277_15 rfl (lv_at hl 2 rfl) ?_
      refine lv_iadd (pc := 16) hx hb d277_16 ?_
      obtain rfl := Option.some.inj h
      exact m_iret (pc := 17) hx hb hr hlk hS ⟨rfl, rfl⟩ (Nat.le_refl _) (Nat.le_refl _) d277_17
def ca_isLeap_27   : Option (Int32) := some 1
def f_ca_isLeap  (p0 : Int32) : Option (Int32) := jc (f_ma_floorMod p0 4) (fun q1 => jb (q1 = 0) (jc (f_ma_floorMod p0 100) (fun q2 => jb (q2 = 0) (jc (f_ma_floorMod p0 400) (fun q3 => jb (q3 = 0) (ca_isLeap_27) (some 0))) (ca_isLeap_27))) (some 0))
set_option maxHeartbeats 4000000 in
set_option maxRecDepth 100000 in
theorem c_ca_isLeap (l : Launch) (ρ : RH) (H : Heap) (P : Nat → Prop) (p0 : Int32) (res : Int32) (hC : CC ρ P H) (hPb : ∀ q, P q → q < H.size) (h : f_ca_isLeap p0 = some res) : Met l y56 (wsOf y56 b56 1 (some .boolean)) ({ frames := 1, cells := 0, slots := 0, locals := 22 } : Room) (va_Pc [.int p0] (KP ρ H)) (mQ (fun v H1 => v = some (.int res) ∧ H1 = H) (fun _ => False)) 0 0 (fun _ => False) := by
  refine m_ofW (own := "WordFunctions$Calendar") (plainFor_of_name rfl) rfl (Nat.le_of_ble_eq_true rfl) fun p e s m args below meth c ls hx hb hr hlk _ X hs hl => ?_
  subst hs
  have hS : va_S (fun _ => False) s.heap s.heap [] := va_S.rf
  have hSz := hS.1
  have hl : lv_has ls 1 [(0, .int p0)] := hl
  have kc27 : ∀ (locs : List Loc) (ls : Array Slot), va_S (fun _ => False) s.heap s.heap locs → lv_has ls 1 [] → ca_isLeap_27 = some res → W p l e ({ frames := 1, cells := 0, slots := 0, locals := 22 } : Room) s m args below meth c s.heap locs 0 0 (MQ below (mQ (fun v H1 => v = some (.int res) ∧ H1 = s.heap) (fun _ => False)) args s 0 0 (fun _ => False)) (F0 m 27 ls []) := by
    intro locs ls hS hl h
    have hSz := hS.1
    unfold ca_isLeap_27 at h
    refine lv_iconst (pc := 27) (v := 1) hx hb d56_27 (by decide) ?_
    refine lv_goto (pc := 28) (tgt := 32) hx hb d56_28 (by decide) ?_
    obtain rfl := Option.some.inj h
    exact m_zret (pc := 32) hx hb hr hlk hS ⟨rfl, rfl⟩ (Nat.le_refl _) (Nat.le_refl _) d56_32 (by decide)
  unfold f_ca_isLeap at h
  refine lv_iload_n (pc := 0) hx hb d56_0 rfl (lv_at hl 0 rfl) ?_
  refine lv_iconst (pc := 1) (v := 4) hx hb d56_1 (by decide) ?_
  obtain ⟨q1, hq1, h⟩ := jc_some h
  refine k_callS (pc := 2) (n := 2) X hS (c_ma_floorMod l ρ _ P p0 4 q1 hC hPb  hq1) wd1205 wd1203 wd1204 wd17 (by decide) ⟨rfl, rfl, Nat.le_of_ble_eq_true rfl, Nat.le_of_ble_eq_true rfl⟩ (As := [.int p0, .int 4]) (rest := []) rfl rfl hl.1 (Nat.le_of_ble_eq_true rfl) d56_2 ⟨Nat.le_refl _, Nat.le_refl _⟩ (fun q hq => False.elim hq) (fun v H1 locs1 hv _ _ hSq1 => ?_)
  obtain ⟨rfl, rfl⟩ := hv
  have hS := hSq1
  have hSz := hS.1
  refine lv_if_ne (pc := 5) (tgt := 31) hx hb d56_5 (by decide) (fun c5 => ?_) (fun c5 => ?_)
  · have h := jb_f c5 h
    refine lv_iconst (pc := 31) (v := 0) hx hb d56_31 (by decide) ?_
    obtain rfl := Option.some.inj h
    exact m_zret (pc := 32) hx hb hr hlk hS ⟨rfl, rfl⟩ (Nat.le_refl _) (Nat.le_refl _) d56_32 (by decide)
  · have h := jb_t c5 h
    refine lv_iload_n (pc := 8) hx hb d56_8 rfl (lv_at hl 0 rfl) ?_
    refine lv_bipush (pc := 9) (v := 100) hx hb d56_9 (by decide) ?_
    obtain ⟨q2, hq2, h⟩ := jc_some h
    refine k_callS (pc := 11) (n := 2) X hS (c_ma_floorMod l ρ _ P p0 100 q2 hC hPb  hq2) wd1205 wd1203 wd1204 wd17 (by decide) ⟨rfl, rfl, Nat.le_of_ble_eq_true rfl, Nat.le_of_ble_eq_true rfl⟩ (As := [.int p0, .int 100]) (rest := []) rfl rfl hl.1 (Nat.le_of_ble_eq_true rfl) d56_11 ⟨Nat.le_refl _, Nat.le_refl _⟩ (fun q hq => False.elim hq) (fun v H1 locs1 hv _ _ hSq2 => ?_)
    obtain ⟨rfl, rfl⟩ := hv
    have hS := hSq2
    have hSz := hS.1
    refine lv_if_ne (pc := 14) (tgt := 27) hx hb d56_14 (by decide) (fun c14 => ?_) (fun c14 => ?_)
    · have h := jb_f c14 h
      exact kc27   _ _ hS (lv_sub hl [] rfl) h
    · have h := jb_t c14 h
      refine lv_iload_n (pc := 17) hx hb d56_17 rfl (lv_at hl 0 rfl) ?_
      refine lv_sipush (pc := 18) (v := 400) hx hb d56_18 (by decide) ?_
      obtain ⟨q3, hq3, h⟩ := jc_some h
      refine k_callS (pc := 21) (n := 2) X hS (c_ma_floorMod l ρ _ P p0 400 q3 hC hPb  hq3) wd1205 wd1203 wd1204 wd17 (by decide) ⟨rfl, rfl, Nat.le_of_ble_eq_true rfl, Nat.le_of_ble_eq_true rfl⟩ (As := [.int p0, .int 400]) (rest := []) rfl rfl hl.1 (Nat.le_of_ble_eq_true rfl) d56_21 ⟨Nat.le_refl _, Nat.le_refl _⟩ (fun q hq => False.elim hq) (fun v H1 locs1 hv _ _ hSq3 => ?_)
      obtain ⟨rfl, rfl⟩ := hv
      have hS := hSq3
      have hSz := hS.1
      refine lv_if_ne (pc := 24) (tgt := 31) hx hb d56_24 (by decide) (fun c24 => ?_) (fun c24 => ?_)
      · have h := jb_f c24 h
        refine lv_iconst (pc := 31) (v := 0) hx hb d56_31 (by decide) ?_
        obtain rfl := Option.some.inj h
        exact m_zret (pc := 32) hx hb hr hlk hS ⟨rfl, rfl⟩ (Nat.le_refl _) (Nat.le_refl _) d56_32 (by decide)
      · have h := jb_t c24 h
        exact kc27   _ _ hS (lv_sub hl [] rfl) h
def ca_firstOf_57  (x2 : Int32) (x3 : Int32) (x4 : Int32) (z0 : Int32) : Option (Int32) := jg (inb x2 12) (some (((((x3 * 365) + x4) - 693593) + (ZT12.getD x2.toNatClampNeg 0)) + z0))
def ca_firstOf_56  (x2 : Int32) (x3 : Int32) (x4 : Int32) : Option (Int32) := ca_firstOf_57 x2 x3 x4 0
def f_ca_firstOf  (p0 : Int32) : Option (Int32) := jc (f_ma_floorDiv p0 12) (fun q2 => jc (f_ma_floorMod p0 12) (fun q3 => jn (q2 - 1) (fun v4 => jc (f_ma_floorDiv v4 4) (fun q5 => jc (f_ma_floorDiv v4 100) (fun q6 => jc (f_ma_floorDiv v4 400) (fun q7 => jn ((q5 - q6) + q7) (fun v8 => jb (q3 ≤ 1) (ca_firstOf_56 q3 v4 v8) (jc (f_ca_isLeap q2) (fun q9 => jb (q9 = 0) (ca_firstOf_56 q3 v4 v8) (ca_firstOf_57 q3 v4 v8 1))))))))))
set_option maxHeartbeats 4000000 in
set_option maxRecDepth 100000 in
theorem c_ca_firstOf (l : Launch) (ρ : RH) (H : Heap) (P : Nat → Prop) (p0 : Int32) (res : Int32) (hC : CC ρ P H) (hPb : ∀ q, P q → q < H.size) (h : f_ca_firstOf p0 = some res) : Met l y53 (wsOf y53 b53 6 (some .int)) ({ frames := 2, cells := 0, slots := 0, locals := 42 } : Room) (va_Pc [.int p0] (KP ρ H)) (mQ (fun v H1 => v = some (.int res) ∧ H1 = H) (fun _ => False)) 0 0 (fun _ => False) := by
  refine m_ofW (own := "WordFunctions$Calendar") (plainFor_of_name rfl) rfl (Nat.le_of_ble_eq_true rfl) fun p e s m args below meth c ls hx hb hr hlk _ X hs hl => ?_
  subst hs
  have hS : va_S (fun _ => False) s.heap s.heap [] := va_S.rf
  have hSz := hS.1
  have hl : lv_has ls 6 [(0, .int p0)] := hl
  have kc57 : ∀ (x2 : Int32) (x3 : Int32) (x4 : Int32) (z0 : Int32) (locs : List Loc) (ls : Array Slot), va_S (fun _ => False) s.heap s.heap locs → lv_has ls 6 [(2, .int x2), (3, .int x3), (4, .int x4)] → ca_firstOf_57 x2 x3 x4 z0 = some res → W p l e ({ frames := 2, cells := 0, slots := 0, locals := 42 } : Room) s m args below meth c s.heap locs 0 0 (MQ below (mQ (fun v H1 => v = some (.int res) ∧ H1 = s.heap) (fun _ => False)) args s 0 0 (fun _ => False)) (F0 m 57 ls [.int z0]) := by
    intro x2 x3 x4 z0 locs ls hS hl h
    have hSz := hS.1
    unfold ca_firstOf_57 at h
    refine lv_istore (pc := 57) (lv' := [(5, .int z0), (2, .int x2), (3, .int x3), (4, .int x4)]) hx hb d53_57 hl (by decide) rfl (fun ls hl => ?_)
    refine lv_iload_n (pc := 59) hx hb d53_59 rfl (lv_at hl 2 rfl) ?_
    refine lv_sipush (pc := 60) (v := 365) hx hb d53_60 (by decide) ?_
    refine lv_imul (pc := 63) hx hb d53_63 ?_
    refine lv_iload (pc := 64) hx hb d53_64 (lv_at hl 3 rfl) ?_
    refine lv_iadd (pc := 66) hx hb d53_66 ?_
    refine lv_ldc (pc := 67) hx hb X.1.2.2.2.1 (X.ts wd1209) d53_67 ?_
    refine lv_isub (pc := 69) hx hb d53_69 ?_
    refine c_gets (pc := 70) X 12 (hC.2.2.1 12 _ rfl).1 rfl rfl wd1210 d53_70 ?_
    refine lv_iload_n (pc := 73) hx hb d53_73 rfl (lv_at hl 1 rfl) ?_
    obtain ⟨g1, h⟩ := jg_some h
    refine c_tald (pc := 74) X 12 (hC.2.2.1 12 _ rfl) (n := 12) rfl (by decide) g1 d53_74 ?_
    refine lv_iadd (pc := 75) hx hb d53_75 ?_
    refine lv_iload (pc := 76) hx hb d53_76 (lv_at hl 0 rfl) ?_
    refine lv_iadd (pc := 78) hx hb d53_78 ?_
    obtain rfl := Option.some.inj h
    exact m_iret (pc := 79) hx hb hr hlk hS ⟨rfl, rfl⟩ (Nat.le_refl _) (Nat.le_refl _) d53_79
  have kc56 : ∀ (x2 : Int32) (x3 : Int32) (x4 : Int32) (locs : List Loc) (ls : Array Slot), va_S (fun _ => False) s.heap s.heap locs → lv_has ls 6 [(2, .int x2), (3, .int x3), (4, .int x4)] → ca_firstOf_56 x2 x3 x4 = some res → W p l e ({ frames := 2, cells := 0, slots := 0, locals := 42 } : Room) s m args below meth c s.heap locs 0 0 (MQ below (mQ (fun v H1 => v = some (.int res) ∧ H1 = s.heap) (fun _ => False)) args s 0 0 (fun _ => False)) (F0 m 56 ls []) := by
    intro x2 x3 x4 locs ls hS hl h
    have hSz := hS.1
    unfold ca_firstOf_56 at h
    refine lv_iconst (pc := 56) (v := 0) hx hb d53_56 (by decide) ?_
    exact kc57   x2 x3 x4 0 _ _ hS (lv_sub hl [0, 1, 2] rfl) h
  unfold f_ca_firstOf at h
  refine lv_iload_n (pc := 0) hx hb d53_0 rfl (lv_at hl 0 rfl) ?_
  refine lv_bipush (pc := 1) (v := 12) hx hb d53_1 (by decide) ?_
  obtain ⟨q2, hq2, h⟩ := jc_some h
  refine k_callS (pc := 3) (n := 2) X hS (c_ma_floorDiv l ρ _ P p0 12 q2 hC hPb  hq2) wd1202 wd1200 wd1201 wd17 (by decide) ⟨rfl, rfl, Nat.le_of_ble_eq_true rfl, Nat.le_of_ble_eq_true rfl⟩ (As := [.int p0, .int 12]) (rest := []) rfl rfl hl.1 (Nat.le_of_ble_eq_true rfl) d53_3 ⟨Nat.le_refl _, Nat.le_refl _⟩ (fun q hq => False.elim hq) (fun v H1 locs1 hv _ _ hSq2 => ?_)
  obtain ⟨rfl, rfl⟩ := hv
  have hS := hSq2
  have hSz := hS.1
  refine lv_istore_n (pc := 6) (lv' := [(1, .int q2), (0, .int p0)]) hx hb d53_6 rfl hl (by decide) rfl (fun ls hl => ?_)
  refine lv_iload_n (pc := 7) hx hb d53_7 rfl (lv_at hl 1 rfl) ?_
  refine lv_bipush (pc := 8) (v := 12) hx hb d53_8 (by decide) ?_
  obtain ⟨q3, hq3, h⟩ := jc_some h
  refine k_callS (pc := 10) (n := 2) X hS (c_ma_floorMod l ρ _ P p0 12 q3 hC hPb  hq3) wd1205 wd1203 wd1204 wd17 (by decide) ⟨rfl, rfl, Nat.le_of_ble_eq_true rfl, Nat.le_of_ble_eq_true rfl⟩ (As := [.int p0, .int 12]) (rest := []) rfl rfl hl.1 (Nat.le_of_ble_eq_true rfl) d53_10 ⟨Nat.le_refl _, Nat.le_refl _⟩ (fun q hq => False.elim hq) (fun v H1 locs1 hv _ _ hSq3 => ?_)
  obtain ⟨rfl, rfl⟩ := hv
  have hS := hSq3
  have hSz := hS.1
  refine lv_istore_n (pc := 13) (lv' := [(2, .int q3), (1, .int q2), (0, .int p0)]) hx hb d53_13 rfl hl (by decide) rfl (fun ls hl => ?_)
  refine lv_iload_n (pc := 14) hx hb d53_14 rfl (lv_at hl 1 rfl) ?_
  refine lv_iconst (pc := 15) (v := 1) hx hb d53_15 (by decide) ?_
  refine lv_isub (pc := 16) hx hb d53_16 ?_
  obtain ⟨v4, ev4, h⟩ := jn_ex h
  refine nm_i ev4 ?_
  refine lv_istore_n (pc := 17) (lv' := [(3, .int v4), (2, .int q3), (1, .int q2), (0, .int p0)]) hx hb d53_17 rfl hl (by decide) rfl (fun ls hl => ?_)
  refine lv_iload_n (pc := 18) hx hb d53_18 rfl (lv_at hl 0 rfl) ?_
  refine lv_iconst (pc := 19) (v := 4) hx hb d53_19 (by decide) ?_
  obtain ⟨q5, hq5, h⟩ := jc_some h
  refine k_callS (pc := 20) (n := 2) X hS (c_ma_floorDiv l ρ _ P v4 4 q5 hC hPb  hq5) wd1202 wd1200 wd1201 wd17 (by decide) ⟨rfl, rfl, Nat.le_of_ble_eq_true rfl, Nat.le_of_ble_eq_true rfl⟩ (As := [.int v4, .int 4]) (rest := []) rfl rfl hl.1 (Nat.le_of_ble_eq_true rfl) d53_20 ⟨Nat.le_refl _, Nat.le_refl _⟩ (fun q hq => False.elim hq) (fun v H1 locs1 hv _ _ hSq5 => ?_)
  obtain ⟨rfl, rfl⟩ := hv
  have hS := hSq5
  have hSz := hS.1
  refine lv_iload_n (pc := 23) hx hb d53_23 rfl (lv_at hl 0 rfl) ?_
  refine lv_bipush (pc := 24) (v := 100) hx hb d53_24 (by decide) ?_
  obtain ⟨q6, hq6, h⟩ := jc_some h
  refine k_callS (pc := 26) (n := 2) X hS (c_ma_floorDiv l ρ _ P v4 100 q6 hC hPb  hq6) wd1202 wd1200 wd1201 wd17 (by decide) ⟨rfl, rfl, Nat.le_of_ble_eq_true rfl, Nat.le_of_ble_eq_true rfl⟩ (As := [.int v4, .int 100]) (rest := [.int q5]) rfl rfl hl.1 (Nat.le_of_ble_eq_true rfl) d53_26 ⟨Nat.le_refl _, Nat.le_refl _⟩ (fun q hq => False.elim hq) (fun v H1 locs1 hv _ _ hSq6 => ?_)
  obtain ⟨rfl, rfl⟩ := hv
  have hS := hSq6
  have hSz := hS.1
  refine lv_isub (pc := 29) hx hb d53_29 ?_
  refine lv_iload_n (pc := 30) hx hb d53_30 rfl (lv_at hl 0 rfl) ?_
  refine lv_sipush (pc := 31) (v := 400) hx hb d53_31 (by decide) ?_
  obtain ⟨q7, hq7, h⟩ := jc_some h
  refine k_callS (pc := 34) (n := 2) X hS (c_ma_floorDiv l ρ _ P v4 400 q7 hC hPb  hq7) wd1202 wd1200 wd1201 wd17 (by decide) ⟨rfl, rfl, Nat.le_of_ble_eq_true rfl, Nat.le_of_ble_eq_true rfl⟩ (As := [.int v4, .int 400]) (rest := [.int (q5 - q6)]) rfl rfl hl.1 (Nat.le_of_ble_eq_true rfl) d53_34 ⟨Nat.le_refl _, Nat.le_refl _⟩ (fun q hq => False.elim hq) (fun v H1 locs1 hv _ _ hSq7 => ?_)
  obtain ⟨rfl, rfl⟩ := hv
  have hS := hSq7
  have hSz := hS.1
  refine lv_iadd (pc := 37) hx hb d53_37 ?_
  obtain ⟨v8, ev8, h⟩ := jn_ex h
  refine nm_i ev8 ?_
  refine lv_istore (pc := 38) (lv' := [(4, .int v8), (3, .int v4), (2, .int q3), (1, .int q2), (0, .int p0)]) hx hb d53_38 hl (by decide) rfl (fun ls hl => ?_)
  refine lv_iload_n (pc := 40) hx hb d53_40 rfl (lv_at hl 2 rfl) ?_
  refine lv_iconst (pc := 41) (v := 1) hx hb d53_41 (by decide) ?_
  refine lv_icmp_le (pc := 42) (tgt := 56) hx hb d53_42 (by decide) (fun c42 => ?_) (fun c42 => ?_)
  · have h := jb_t c42 h
    exact kc56   q3 v4 v8 _ _ hS (lv_sub hl [2, 1, 0] rfl) h
  · have h := jb_f c42 h
    refine lv_iload_n (pc := 45) hx hb d53_45 rfl (lv_at hl 3 rfl) ?_
    obtain ⟨q9, hq9, h⟩ := jc_some h
    refine k_callS (pc := 46) (n := 1) X hS (c_ca_isLeap l ρ _ P q2 q9 hC hPb  hq9) wd1208 wd1206 wd1207 wd29 (by decide) ⟨rfl, rfl, Nat.le_of_ble_eq_true rfl, Nat.le_of_ble_eq_true rfl⟩ (As := [.int q2]) (rest := []) rfl rfl hl.1 (Nat.le_of_ble_eq_true rfl) d53_46 ⟨Nat.le_refl _, Nat.le_refl _⟩ (fun q hq => False.elim hq) (fun v H1 locs1 hv _ _ hSq9 => ?_)
    obtain ⟨rfl, rfl⟩ := hv
    have hS := hSq9
    have hSz := hS.1
    refine lv_if_eq (pc := 49) (tgt := 56) hx hb d53_49 (by decide) (fun c49 => ?_) (fun c49 => ?_)
    · have h := jb_t c49 h
      exact kc56   q3 v4 v8 _ _ hS (lv_sub hl [2, 1, 0] rfl) h
    · have h := jb_f c49 h
      refine lv_iconst (pc := 52) (v := 1) hx hb d53_52 (by decide) ?_
      refine lv_goto (pc := 53) (tgt := 57) hx hb d53_53 (by decide) ?_
      exact kc57   q3 v4 v8 1 _ _ hS (lv_sub hl [2, 1, 0] rfl) h
def ca_monthOf_20  : Nat → Int32 → Int32 → Int32 → Option (Int32)
  | 0, _, _, _ => none
  | fu + 1, x0, x1, x2 => jb (5 ≤ x2) (some x1) (jc (f_ca_firstOf x1) (fun q1 => jb (q1 ≤ x0) (some x1) (jn (x1 + (-1)) (fun v2 => jn (x2 + 1) (fun v3 => ca_monthOf_20 fu x0 v2 v3)))))
def f_ca_monthOf  (p0 : Int32) : Option (Int32) := jn ((((p0 + 693593).toInt64 * (4800 : Int64)) / (146097 : Int64)).toInt32 + 14) (fun v4 => ca_monthOf_20 FU p0 v4 0)
set_option maxHeartbeats 4000000 in
set_option maxRecDepth 100000 in
theorem c_ca_monthOf (l : Launch) (ρ : RH) (H : Heap) (P : Nat → Prop) (p0 : Int32) (res : Int32) (hC : CC ρ P H) (hPb : ∀ q, P q → q < H.size) (h : f_ca_monthOf p0 = some res) : Met l y59 (wsOf y59 b59 3 (some .int)) ({ frames := 3, cells := 0, slots := 0, locals := 67 } : Room) (va_Pc [.int p0] (KP ρ H)) (mQ (fun v H1 => v = some (.int res) ∧ H1 = H) (fun _ => False)) 0 0 (fun _ => False) := by
  refine m_ofW (own := "WordFunctions$Calendar") (plainFor_of_name rfl) rfl (Nat.le_of_ble_eq_true rfl) fun p e s m args below meth c ls hx hb hr hlk _ X hs hl => ?_
  subst hs
  have hS : va_S (fun _ => False) s.heap s.heap [] := va_S.rf
  have hSz := hS.1
  have hl : lv_has ls 3 [(0, .int p0)] := hl
  have kc20 : ∀ (fu : Nat), ∀ (x0 : Int32) (x1 : Int32) (x2 : Int32) (locs : List Loc) (ls : Array Slot), va_S (fun _ => False) s.heap s.heap locs → lv_has ls 3 [(0, .int x0), (1, .int x1), (2, .int x2)] → ca_monthOf_20 fu x0 x1 x2 = some res → W p l e ({ frames := 3, cells := 0, slots := 0, locals := 67 } : Room) s m args below meth c s.heap locs 0 0 (MQ below (mQ (fun v H1 => v = some (.int res) ∧ H1 = s.heap) (fun _ => False)) args s 0 0 (fun _ => False)) (F0 m 20 ls []) := by
    intro  fu
    induction fu with
    | zero => intro x0 x1 x2 locs ls hS hl h; cases h
    | succ fu hK20 =>
      intro x0 x1 x2 locs ls hS hl h
      have hSz := hS.1
      unfold ca_monthOf_20 at h
      refine lv_iload_n (pc := 20) hx hb d59_20 rfl (lv_at hl 2 rfl) ?_
      refine lv_iconst (pc := 21) (v := 5) hx hb d59_21 (by decide) ?_
      refine lv_icmp_ge (pc := 22) (tgt := 42) hx hb d59_22 (by decide) (fun c22 => ?_) (fun c22 => ?_)
      · have h := jb_t c22 h
        refine lv_iload_n (pc := 42) hx hb d59_42 rfl (lv_at hl 1 rfl) ?_
        obtain rfl := Option.some.inj h
        exact m_iret (pc := 43) hx hb hr hlk hS ⟨rfl, rfl⟩ (Nat.le_refl _) (Nat.le_refl _) d59_43
      · have h := jb_f c22 h
        refine lv_iload_n (pc := 25) hx hb d59_25 rfl (lv_at hl 1 rfl) ?_
        obtain ⟨q1, hq1, h⟩ := jc_some h
        refine k_callS (pc := 26) (n := 1) X hS (c_ca_firstOf l ρ _ P x1 q1 hC hPb  hq1) wd1199 wd1242 wd1198 wd29 (by decide) ⟨rfl, rfl, Nat.le_of_ble_eq_true rfl, Nat.le_of_ble_eq_true rfl⟩ (As := [.int x1]) (rest := []) rfl rfl hl.1 (Nat.le_of_ble_eq_true rfl) d59_26 ⟨Nat.le_refl _, Nat.le_refl _⟩ (fun q hq => False.elim hq) (fun v H1 locs1 hv _ _ hSq1 => ?_)
        obtain ⟨rfl, rfl⟩ := hv
        have hS := hSq1
        have hSz := hS.1
        refine lv_iload_n (pc := 29) hx hb d59_29 rfl (lv_at hl 0 rfl) ?_
        refine lv_icmp_le (pc := 30) (tgt := 42) hx hb d59_30 (by decide) (fun c30 => ?_) (fun c30 => ?_)
        · have h := jb_t c30 h
          refine lv_iload_n (pc := 42) hx hb d59_42 rfl (lv_at hl 1 rfl) ?_
          obtain rfl := Option.some.inj h
          exact m_iret (pc := 43) hx hb hr hlk hS ⟨rfl, rfl⟩ (Nat.le_refl _) (Nat.le_refl _) d59_43
        · have h := jb_f c30 h
          obtain ⟨v2, ev2, h⟩ := jn_ex h
          refine lv_iinc (pc := 33) (v := v2) (lv' := [(1, .int v2), (0, .int x0), (2, .int x2)]) hx hb d59_33 hl (k := 1) rfl (by rw [ev2]; rfl) (by decide) rfl (fun ls hl => ?_)
          obtain ⟨v3, ev3, h⟩ := jn_ex h
          refine lv_iinc (pc := 36) (v := v3) (lv' := [(2, .int v3), (1, .int v2), (0, .int x0)]) hx hb d59_36 hl (k := 2) rfl (by rw [ev3]; rfl) (by decide) rfl (fun ls hl => ?_)
          refine lv_goto (pc := 39) (tgt := 20) hx hb d59_39 (by decide) ?_
          exact hK20 x0 v2 v3 _ _ hS (lv_sub hl [2, 1, 0] rfl) h
  unfold f_ca_monthOf at h
  refine lv_iload_n (pc := 0) hx hb d59_0 rfl (lv_at hl 0 rfl) ?_
  refine lv_ldc (pc := 1) hx hb X.1.2.2.2.1 (X.ts wd1209) d59_1 ?_
  refine lv_iadd (pc := 3) hx hb d59_3 ?_
  refine lv_i2l (pc := 4) hx hb d59_4 rfl ?_
  refine lv_ldc2 (pc := 5) hx hb X.1.2.2.2.1 (X.ts wd1240) d59_5 ?_
  refine lv_lmul (pc := 8) hx hb d59_8 ?_
  refine lv_ldc2 (pc := 9) hx hb X.1.2.2.2.1 (X.ts wd1241) d59_9 ?_
  refine lv_ldiv (pc := 12) hx hb d59_12 (by decide) ?_
  refine lv_l2i (pc := 13) hx hb d59_13 rfl ?_
  refine lv_bipush (pc := 14) (v := 14) hx hb d59_14 (by decide) ?_
  refine lv_iadd (pc := 16) hx hb d59_16 ?_
  obtain ⟨v4, ev4, h⟩ := jn_ex h
  refine nm_i ev4 ?_
  refine lv_istore_n (pc := 17) (lv' := [(1, .int v4), (0, .int p0)]) hx hb d59_17 rfl hl (by decide) rfl (fun ls hl => ?_)
  refine lv_iconst (pc := 18) (v := 0) hx hb d59_18 (by decide) ?_
  refine lv_istore_n (pc := 19) (lv' := [(2, .int 0), (1, .int v4), (0, .int p0)]) hx hb d59_19 rfl hl (by decide) rfl (fun ls hl => ?_)
  exact kc20  FU p0 v4 0 _ _ hS (lv_sub hl [2, 1, 0] rfl) h
def f_ca_dayInMonth  (p0 : Int32) : Option (Int32) := jc (f_ca_monthOf p0) (fun q1 => jc (f_ca_firstOf q1) (fun q2 => some ((p0 - q2) + 1)))
set_option maxHeartbeats 4000000 in
set_option maxRecDepth 100000 in
theorem c_ca_dayInMonth (l : Launch) (ρ : RH) (H : Heap) (P : Nat → Prop) (p0 : Int32) (res : Int32) (hC : CC ρ P H) (hPb : ∀ q, P q → q < H.size) (h : f_ca_dayInMonth p0 = some res) : Met l y52 (wsOf y52 b52 1 (some .int)) ({ frames := 4, cells := 0, slots := 0, locals := 89 } : Room) (va_Pc [.int p0] (KP ρ H)) (mQ (fun v H1 => v = some (.int res) ∧ H1 = H) (fun _ => False)) 0 0 (fun _ => False) := by
  refine m_ofW (own := "WordFunctions$Calendar") (plainFor_of_name rfl) rfl (Nat.le_of_ble_eq_true rfl) fun p e s m args below meth c ls hx hb hr hlk _ X hs hl => ?_
  subst hs
  have hS : va_S (fun _ => False) s.heap s.heap [] := va_S.rf
  have hSz := hS.1
  have hl : lv_has ls 1 [(0, .int p0)] := hl
  unfold f_ca_dayInMonth at h
  refine lv_iload_n (pc := 0) hx hb d52_0 rfl (lv_at hl 0 rfl) ?_
  refine lv_iload_n (pc := 1) hx hb d52_1 rfl (lv_at hl 0 rfl) ?_
  obtain ⟨q1, hq1, h⟩ := jc_some h
  refine k_callS (pc := 2) (n := 1) X hS (c_ca_monthOf l ρ _ P p0 q1 hC hPb  hq1) wd1239 wd1246 wd1238 wd29 (by decide) ⟨rfl, rfl, Nat.le_of_ble_eq_true rfl, Nat.le_of_ble_eq_true rfl⟩ (As := [.int p0]) (rest := [.int p0]) rfl rfl hl.1 (Nat.le_of_ble_eq_true rfl) d52_2 ⟨Nat.le_refl _, Nat.le_refl _⟩ (fun q hq => False.elim hq) (fun v H1 locs1 hv _ _ hSq1 => ?_)
  obtain ⟨rfl, rfl⟩ := hv
  have hS := hSq1
  have hSz := hS.1
  obtain ⟨q2, hq2, h⟩ := jc_some h
  refine k_callS (pc := 5) (n := 1) X hS (c_ca_firstOf l ρ _ P q1 q2 hC hPb  hq2) wd1199 wd1242 wd1198 wd29 (by decide) ⟨rfl, rfl, Nat.le_of_ble_eq_true rfl, Nat.le_of_ble_eq_true rfl⟩ (As := [.int q1]) (rest := [.int p0]) rfl rfl hl.1 (Nat.le_of_ble_eq_true rfl) d52_5 ⟨Nat.le_refl _, Nat.le_refl _⟩ (fun q hq => False.elim hq) (fun v H1 locs1 hv _ _ hSq2 => ?_)
  obtain ⟨rfl, rfl⟩ := hv
  have hS := hSq2
  have hSz := hS.1
  refine lv_isub (pc := 8) hx hb d52_8 ?_
  refine lv_iconst (pc := 9) (v := 1) hx hb d52_9 (by decide) ?_
  refine lv_iadd (pc := 10) hx hb d52_10 ?_
  obtain rfl := Option.some.inj h
  exact m_iret (pc := 11) hx hb hr hlk hS ⟨rfl, rfl⟩ (Nat.le_refl _) (Nat.le_refl _) d52_11
def f_ca_isDate  (p0 : Int32) : Option (Int32) := jb (p0 < 0) (some 0) (jb (2958465 < p0) (some 0) (some 1))
set_option maxHeartbeats 4000000 in
set_option maxRecDepth 100000 in
theorem c_ca_isDate (l : Launch) (ρ : RH) (H : Heap) (P : Nat → Prop) (p0 : Int32) (res : Int32) (hC : CC ρ P H) (hPb : ∀ q, P q → q < H.size) (h : f_ca_isDate p0 = some res) : Met l y55 (wsOf y55 b55 1 (some .boolean)) ({ frames := 0, cells := 0, slots := 0, locals := 0 } : Room) (va_Pc [.int p0] (KP ρ H)) (mQ (fun v H1 => v = some (.int res) ∧ H1 = H) (fun _ => False)) 0 0 (fun _ => False) := by
  refine m_ofW (own := "WordFunctions$Calendar") (plainFor_of_name rfl) rfl (Nat.le_of_ble_eq_true rfl) fun p e s m args below meth c ls hx hb hr hlk _ X hs hl => ?_
  subst hs
  have hS : va_S (fun _ => False) s.heap s.heap [] := va_S.rf
  have hSz := hS.1
  have hl : lv_has ls 1 [(0, .int p0)] := hl
  unfold f_ca_isDate at h
  refine lv_iload_n (pc := 0) hx hb d55_0 rfl (lv_at hl 0 rfl) ?_
  refine lv_if_lt (pc := 1) (tgt := 14) hx hb d55_1 (by decide) (fun c1 => ?_) (fun c1 => ?_)
  · have h := jb_t c1 h
    refine lv_iconst (pc := 14) (v := 0) hx hb d55_14 (by decide) ?_
    obtain rfl := Option.some.inj h
    exact m_zret (pc := 15) hx hb hr hlk hS ⟨rfl, rfl⟩ (Nat.le_refl _) (Nat.le_refl _) d55_15 (by decide)
  · have h := jb_f c1 h
    refine lv_iload_n (pc := 4) hx hb d55_4 rfl (lv_at hl 0 rfl) ?_
    refine lv_ldc (pc := 5) hx hb X.1.2.2.2.1 (X.ts wd1218) d55_5 ?_
    refine lv_icmp_gt (pc := 7) (tgt := 14) hx hb d55_7 (by decide) (fun c7 => ?_) (fun c7 => ?_)
    · have h := jb_t c7 h
      refine lv_iconst (pc := 14) (v := 0) hx hb d55_14 (by decide) ?_
      obtain rfl := Option.some.inj h
      exact m_zret (pc := 15) hx hb hr hlk hS ⟨rfl, rfl⟩ (Nat.le_refl _) (Nat.le_refl _) d55_15 (by decide)
    · have h := jb_f c7 h
      refine lv_iconst (pc := 10) (v := 1) hx hb d55_10 (by decide) ?_
      refine lv_goto (pc := 11) (tgt := 15) hx hb d55_11 (by decide) ?_
      obtain rfl := Option.some.inj h
      exact m_zret (pc := 15) hx hb hr hlk hS ⟨rfl, rfl⟩ (Nat.le_refl _) (Nat.le_refl _) d55_15 (by decide)
def f_ca_isWorkday  (p0 : Int32) : Option (Int32) := jc (f_ma_floorMod (p0 - 2) 7) (fun q1 => jb (5 ≤ q1) (some 0) (some 1))
set_option maxHeartbeats 4000000 in
set_option maxRecDepth 100000 in
theorem c_ca_isWorkday (l : Launch) (ρ : RH) (H : Heap) (P : Nat → Prop) (p0 : Int32) (res : Int32) (hC : CC ρ P H) (hPb : ∀ q, P q → q < H.size) (h : f_ca_isWorkday p0 = some res) : Met l y57 (wsOf y57 b57 1 (some .boolean)) ({ frames := 1, cells := 0, slots := 0, locals := 22 } : Room) (va_Pc [.int p0] (KP ρ H)) (mQ (fun v H1 => v = some (.int res) ∧ H1 = H) (fun _ => False)) 0 0 (fun _ => False) := by
  refine m_ofW (own := "WordFunctions$Calendar") (plainFor_of_name rfl) rfl (Nat.le_of_ble_eq_true rfl) fun p e s m args below meth c ls hx hb hr hlk _ X hs hl => ?_
  subst hs
  have hS : va_S (fun _ => False) s.heap s.heap [] := va_S.rf
  have hSz := hS.1
  have hl : lv_has ls 1 [(0, .int p0)] := hl
  unfold f_ca_isWorkday at h
  refine lv_iload_n (pc := 0) hx hb d57_0 rfl (lv_at hl 0 rfl) ?_
  refine lv_iconst (pc := 1) (v := 2) hx hb d57_1 (by decide) ?_
  refine lv_isub (pc := 2) hx hb d57_2 ?_
  refine lv_bipush (pc := 3) (v := 7) hx hb d57_3 (by decide) ?_
  obtain ⟨q1, hq1, h⟩ := jc_some h
  refine k_callS (pc := 5) (n := 2) X hS (c_ma_floorMod l ρ _ P (p0 - 2) 7 q1 hC hPb  hq1) wd1205 wd1203 wd1204 wd17 (by decide) ⟨rfl, rfl, Nat.le_of_ble_eq_true rfl, Nat.le_of_ble_eq_true rfl⟩ (As := [.int (p0 - 2), .int 7]) (rest := []) rfl rfl hl.1 (Nat.le_of_ble_eq_true rfl) d57_5 ⟨Nat.le_refl _, Nat.le_refl _⟩ (fun q hq => False.elim hq) (fun v H1 locs1 hv _ _ hSq1 => ?_)
  obtain ⟨rfl, rfl⟩ := hv
  have hS := hSq1
  have hSz := hS.1
  refine lv_iconst (pc := 8) (v := 5) hx hb d57_8 (by decide) ?_
  refine lv_icmp_ge (pc := 9) (tgt := 16) hx hb d57_9 (by decide) (fun c9 => ?_) (fun c9 => ?_)
  · have h := jb_t c9 h
    refine lv_iconst (pc := 16) (v := 0) hx hb d57_16 (by decide) ?_
    obtain rfl := Option.some.inj h
    exact m_zret (pc := 17) hx hb hr hlk hS ⟨rfl, rfl⟩ (Nat.le_refl _) (Nat.le_refl _) d57_17 (by decide)
  · have h := jb_f c9 h
    refine lv_iconst (pc := 12) (v := 1) hx hb d57_12 (by decide) ?_
    refine lv_goto (pc := 13) (tgt := 17) hx hb d57_13 (by decide) ?_
    obtain rfl := Option.some.inj h
    exact m_zret (pc := 17) hx hb hr hlk hS ⟨rfl, rfl⟩ (Nat.le_refl _) (Nat.le_refl _) d57_17 (by decide)
def f_ca_lengthOf  (p0 : Int32) : Option (Int32) := jc (f_ca_firstOf (p0 + 1)) (fun q1 => jc (f_ca_firstOf p0) (fun q2 => some (q1 - q2)))
set_option maxHeartbeats 4000000 in
set_option maxRecDepth 100000 in
theorem c_ca_lengthOf (l : Launch) (ρ : RH) (H : Heap) (P : Nat → Prop) (p0 : Int32) (res : Int32) (hC : CC ρ P H) (hPb : ∀ q, P q → q < H.size) (h : f_ca_lengthOf p0 = some res) : Met l y58 (wsOf y58 b58 1 (some .int)) ({ frames := 3, cells := 0, slots := 0, locals := 67 } : Room) (va_Pc [.int p0] (KP ρ H)) (mQ (fun v H1 => v = some (.int res) ∧ H1 = H) (fun _ => False)) 0 0 (fun _ => False) := by
  refine m_ofW (own := "WordFunctions$Calendar") (plainFor_of_name rfl) rfl (Nat.le_of_ble_eq_true rfl) fun p e s m args below meth c ls hx hb hr hlk _ X hs hl => ?_
  subst hs
  have hS : va_S (fun _ => False) s.heap s.heap [] := va_S.rf
  have hSz := hS.1
  have hl : lv_has ls 1 [(0, .int p0)] := hl
  unfold f_ca_lengthOf at h
  refine lv_iload_n (pc := 0) hx hb d58_0 rfl (lv_at hl 0 rfl) ?_
  refine lv_iconst (pc := 1) (v := 1) hx hb d58_1 (by decide) ?_
  refine lv_iadd (pc := 2) hx hb d58_2 ?_
  obtain ⟨q1, hq1, h⟩ := jc_some h
  refine k_callS (pc := 3) (n := 1) X hS (c_ca_firstOf l ρ _ P (p0 + 1) q1 hC hPb  hq1) wd1199 wd1242 wd1198 wd29 (by decide) ⟨rfl, rfl, Nat.le_of_ble_eq_true rfl, Nat.le_of_ble_eq_true rfl⟩ (As := [.int (p0 + 1)]) (rest := []) rfl rfl hl.1 (Nat.le_of_ble_eq_true rfl) d58_3 ⟨Nat.le_refl _, Nat.le_refl _⟩ (fun q hq => False.elim hq) (fun v H1 locs1 hv _ _ hSq1 => ?_)
  obtain ⟨rfl, rfl⟩ := hv
  have hS := hSq1
  have hSz := hS.1
  refine lv_iload_n (pc := 6) hx hb d58_6 rfl (lv_at hl 0 rfl) ?_
  obtain ⟨q2, hq2, h⟩ := jc_some h
  refine k_callS (pc := 7) (n := 1) X hS (c_ca_firstOf l ρ _ P p0 q2 hC hPb  hq2) wd1199 wd1242 wd1198 wd29 (by decide) ⟨rfl, rfl, Nat.le_of_ble_eq_true rfl, Nat.le_of_ble_eq_true rfl⟩ (As := [.int p0]) (rest := [.int q1]) rfl rfl hl.1 (Nat.le_of_ble_eq_true rfl) d58_7 ⟨Nat.le_refl _, Nat.le_refl _⟩ (fun q hq => False.elim hq) (fun v H1 locs1 hv _ _ hSq2 => ?_)
  obtain ⟨rfl, rfl⟩ := hv
  have hS := hSq2
  have hSz := hS.1
  refine lv_isub (pc := 10) hx hb d58_10 ?_
  obtain rfl := Option.some.inj h
  exact m_iret (pc := 11) hx hb hr hlk hS ⟨rfl, rfl⟩ (Nat.le_refl _) (Nat.le_refl _) d58_11
def f_ca_workday  (p0 : Int32) : Option (Int32) := jc (f_ma_floorDiv (p0 - 1) 5) (fun q1 => jc (f_ma_floorMod (p0 - 1) 5) (fun q2 => some ((2 + (7 * q1)) + q2)))
set_option maxHeartbeats 4000000 in
set_option maxRecDepth 100000 in
theorem c_ca_workday (l : Launch) (ρ : RH) (H : Heap) (P : Nat → Prop) (p0 : Int32) (res : Int32) (hC : CC ρ P H) (hPb : ∀ q, P q → q < H.size) (h : f_ca_workday p0 = some res) : Met l y60 (wsOf y60 b60 1 (some .int)) ({ frames := 1, cells := 0, slots := 0, locals := 22 } : Room) (va_Pc [.int p0] (KP ρ H)) (mQ (fun v H1 => v = some (.int res) ∧ H1 = H) (fun _ => False)) 0 0 (fun _ => False) := by
  refine m_ofW (own := "WordFunctions$Calendar") (plainFor_of_name rfl) rfl (Nat.le_of_ble_eq_true rfl) fun p e s m args below meth c ls hx hb hr hlk _ X hs hl => ?_
  subst hs
  have hS : va_S (fun _ => False) s.heap s.heap [] := va_S.rf
  have hSz := hS.1
  have hl : lv_has ls 1 [(0, .int p0)] := hl
  unfold f_ca_workday at h
  refine lv_iconst (pc := 0) (v := 2) hx hb d60_0 (by decide) ?_
  refine lv_bipush (pc := 1) (v := 7) hx hb d60_1 (by decide) ?_
  refine lv_iload_n (pc := 3) hx hb d60_3 rfl (lv_at hl 0 rfl) ?_
  refine lv_iconst (pc := 4) (v := 1) hx hb d60_4 (by decide) ?_
  refine lv_isub (pc := 5) hx hb d60_5 ?_
  refine lv_iconst (pc := 6) (v := 5) hx hb d60_6 (by decide) ?_
  obtain ⟨q1, hq1, h⟩ := jc_some h
  refine k_callS (pc := 7) (n := 2) X hS (c_ma_floorDiv l ρ _ P (p0 - 1) 5 q1 hC hPb  hq1) wd1202 wd1200 wd1201 wd17 (by decide) ⟨rfl, rfl, Nat.le_of_ble_eq_true rfl, Nat.le_of_ble_eq_true rfl⟩ (As := [.int (p0 - 1), .int 5]) (rest := [.int 7, .int 2]) rfl rfl hl.1 (Nat.le_of_ble_eq_true rfl) d60_7 ⟨Nat.le_refl _, Nat.le_refl _⟩ (fun q hq => False.elim hq) (fun v H1 locs1 hv _ _ hSq1 => ?_)
  obtain ⟨rfl, rfl⟩ := hv
  have hS := hSq1
  have hSz := hS.1
  refine lv_imul (pc := 10) hx hb d60_10 ?_
  refine lv_iadd (pc := 11) hx hb d60_11 ?_
  refine lv_iload_n (pc := 12) hx hb d60_12 rfl (lv_at hl 0 rfl) ?_
  refine lv_iconst (pc := 13) (v := 1) hx hb d60_13 (by decide) ?_
  refine lv_isub (pc := 14) hx hb d60_14 ?_
  refine lv_iconst (pc := 15) (v := 5) hx hb d60_15 (by decide) ?_
  obtain ⟨q2, hq2, h⟩ := jc_some h
  refine k_callS (pc := 16) (n := 2) X hS (c_ma_floorMod l ρ _ P (p0 - 1) 5 q2 hC hPb  hq2) wd1205 wd1203 wd1204 wd17 (by decide) ⟨rfl, rfl, Nat.le_of_ble_eq_true rfl, Nat.le_of_ble_eq_true rfl⟩ (As := [.int (p0 - 1), .int 5]) (rest := [.int (2 + (7 * q1))]) rfl rfl hl.1 (Nat.le_of_ble_eq_true rfl) d60_16 ⟨Nat.le_refl _, Nat.le_refl _⟩ (fun q hq => False.elim hq) (fun v H1 locs1 hv _ _ hSq2 => ?_)
  obtain ⟨rfl, rfl⟩ := hv
  have hS := hSq2
  have hSz := hS.1
  refine lv_iadd (pc := 19) hx hb d60_19 ?_
  obtain rfl := Option.some.inj h
  exact m_iret (pc := 20) hx hb hr hlk hS ⟨rfl, rfl⟩ (Nat.le_refl _) (Nat.le_refl _) d60_20
def f_ma_min  (p0 : Int32) (p1 : Int32) : Option (Int32) := jb (p1 < p0) (some p1) (some p0)
set_option maxHeartbeats 4000000 in
set_option maxRecDepth 100000 in
theorem c_ma_min (l : Launch) (ρ : RH) (H : Heap) (P : Nat → Prop) (p0 : Int32) (p1 : Int32) (res : Int32) (hC : CC ρ P H) (hPb : ∀ q, P q → q < H.size) (h : f_ma_min p0 p1 = some res) : Met l y279 (wsOf y279 b279 2 (some .int)) ({ frames := 0, cells := 0, slots := 0, locals := 0 } : Room) (va_Pc [.int p0, .int p1] (KP ρ H)) (mQ (fun v H1 => v = some (.int res) ∧ H1 = H) (fun _ => False)) 0 0 (fun _ => False) := by
  refine m_ofW (own := "java/lang/Math") (by decide +kernel) rfl (Nat.le_of_ble_eq_true rfl) fun p e s m args below meth c ls hx hb hr hlk _ X hs hl => ?_
  subst hs
  have hS : va_S (fun _ => False) s.heap s.heap [] := va_S.rf
  have hSz := hS.1
  have hl : lv_has ls 2 [(0, .int p0), (1, .int p1)] := hl
  unfold f_ma_min at h
  refine lv_iload_n (pc := 0) hx hb d279_0 rfl (lv_at hl 0 rfl) ?_
  refine lv_iload_n (pc := 1) hx hb d279_1 rfl (lv_at hl 1 rfl) ?_
  refine lv_icmp_gt (pc := 2) (tgt := 9) hx hb d279_2 (by decide) (fun c2 => ?_) (fun c2 => ?_)
  · have h := jb_t c2 h
    refine lv_iload_n (pc := 9) hx hb d279_9 rfl (lv_at hl 1 rfl) ?_
    obtain rfl := Option.some.inj h
    exact m_iret (pc := 10) hx hb hr hlk hS ⟨rfl, rfl⟩ (Nat.le_refl _) (Nat.le_refl _) d279_10
  · have h := jb_f c2 h
    refine lv_iload_n (pc := 5) hx hb d279_5 rfl (lv_at hl 0 rfl) ?_
    refine lv_goto (pc := 6) (tgt := 10) hx hb d279_6 (by decide) ?_
    obtain rfl := Option.some.inj h
    exact m_iret (pc := 10) hx hb hr hlk hS ⟨rfl, rfl⟩ (Nat.le_refl _) (Nat.le_refl _) d279_10
def f_ca_workdaysTo  (p0 : Int32) : Option (Int32) := jn (p0 - 2) (fun v1 => jc (f_ma_floorDiv v1 7) (fun q2 => jc (f_ma_floorMod v1 7) (fun q3 => jc (f_ma_min (q3 + 1) 5) (fun q4 => some ((5 * q2) + q4)))))
set_option maxHeartbeats 4000000 in
set_option maxRecDepth 100000 in
theorem c_ca_workdaysTo (l : Launch) (ρ : RH) (H : Heap) (P : Nat → Prop) (p0 : Int32) (res : Int32) (hC : CC ρ P H) (hPb : ∀ q, P q → q < H.size) (h : f_ca_workdaysTo p0 = some res) : Met l y61 (wsOf y61 b61 2 (some .int)) ({ frames := 1, cells := 0, slots := 0, locals := 22 } : Room) (va_Pc [.int p0] (KP ρ H)) (mQ (fun v H1 => v = some (.int res) ∧ H1 = H) (fun _ => False)) 0 0 (fun _ => False) := by
  refine m_ofW (own := "WordFunctions$Calendar") (plainFor_of_name rfl) rfl (Nat.le_of_ble_eq_true rfl) fun p e s m args below meth c ls hx hb hr hlk _ X hs hl => ?_
  subst hs
  have hS : va_S (fun _ => False) s.heap s.heap [] := va_S.rf
  have hSz := hS.1
  have hl : lv_has ls 2 [(0, .int p0)] := hl
  unfold f_ca_workdaysTo at h
  refine lv_iload_n (pc := 0) hx hb d61_0 rfl (lv_at hl 0 rfl) ?_
  refine lv_iconst (pc := 1) (v := 2) hx hb d61_1 (by decide) ?_
  refine lv_isub (pc := 2) hx hb d61_2 ?_
  obtain ⟨v1, ev1, h⟩ := jn_ex h
  refine nm_i ev1 ?_
  refine lv_istore_n (pc := 3) (lv' := [(1, .int v1), (0, .int p0)]) hx hb d61_3 rfl hl (by decide) rfl (fun ls hl => ?_)
  refine lv_iconst (pc := 4) (v := 5) hx hb d61_4 (by decide) ?_
  refine lv_iload_n (pc := 5) hx hb d61_5 rfl (lv_at hl 0 rfl) ?_
  refine lv_bipush (pc := 6) (v := 7) hx hb d61_6 (by decide) ?_
  obtain ⟨q2, hq2, h⟩ := jc_some h
  refine k_callS (pc := 8) (n := 2) X hS (c_ma_floorDiv l ρ _ P v1 7 q2 hC hPb  hq2) wd1202 wd1200 wd1201 wd17 (by decide) ⟨rfl, rfl, Nat.le_of_ble_eq_true rfl, Nat.le_of_ble_eq_true rfl⟩ (As := [.int v1, .int 7]) (rest := [.int 5]) rfl rfl hl.1 (Nat.le_of_ble_eq_true rfl) d61_8 ⟨Nat.le_refl _, Nat.le_refl _⟩ (fun q hq => False.elim hq) (fun v H1 locs1 hv _ _ hSq2 => ?_)
  obtain ⟨rfl, rfl⟩ := hv
  have hS := hSq2
  have hSz := hS.1
  refine lv_imul (pc := 11) hx hb d61_11 ?_
  refine lv_iload_n (pc := 12) hx hb d61_12 rfl (lv_at hl 0 rfl) ?_
  refine lv_bipush (pc := 13) (v := 7) hx hb d61_13 (by decide) ?_
  obtain ⟨q3, hq3, h⟩ := jc_some h
  refine k_callS (pc := 15) (n := 2) X hS (c_ma_floorMod l ρ _ P v1 7 q3 hC hPb  hq3) wd1205 wd1203 wd1204 wd17 (by decide) ⟨rfl, rfl, Nat.le_of_ble_eq_true rfl, Nat.le_of_ble_eq_true rfl⟩ (As := [.int v1, .int 7]) (rest := [.int (5 * q2)]) rfl rfl hl.1 (Nat.le_of_ble_eq_true rfl) d61_15 ⟨Nat.le_refl _, Nat.le_refl _⟩ (fun q hq => False.elim hq) (fun v H1 locs1 hv _ _ hSq3 => ?_)
  obtain ⟨rfl, rfl⟩ := hv
  have hS := hSq3
  have hSz := hS.1
  refine lv_iconst (pc := 18) (v := 1) hx hb d61_18 (by decide) ?_
  refine lv_iadd (pc := 19) hx hb d61_19 ?_
  refine lv_iconst (pc := 20) (v := 5) hx hb d61_20 (by decide) ?_
  obtain ⟨q4, hq4, h⟩ := jc_some h
  refine k_callS (pc := 21) (n := 2) X hS (c_ma_min l ρ _ P (q3 + 1) 5 q4 hC hPb  hq4) wd351 wd1317 wd350 wd17 (by decide) ⟨rfl, rfl, Nat.le_of_ble_eq_true rfl, Nat.le_of_ble_eq_true rfl⟩ (As := [.int (q3 + 1), .int 5]) (rest := [.int (5 * q2)]) rfl rfl hl.1 (Nat.le_of_ble_eq_true rfl) d61_21 ⟨Nat.le_refl _, Nat.le_refl _⟩ (fun q hq => False.elim hq) (fun v H1 locs1 hv _ _ hSq4 => ?_)
  obtain ⟨rfl, rfl⟩ := hv
  have hS := hSq4
  have hSz := hS.1
  refine lv_iadd (pc := 24) hx hb d61_24 ?_
  obtain rfl := Option.some.inj h
  exact m_iret (pc := 25) hx hb hr hlk hS ⟨rfl, rfl⟩ (Nat.le_refl _) (Nat.le_refl _) d61_25
def da_addFree_79  : Nat → CS → Int32 → Int32 → Int32 → Option (CS)
  | 0, _, _, _, _ => none
  | fu + 1, st, x1, x2, x4 => jb (x4 ≤ x2) (jg (inb x2 512) (jn (uC st 45 x2.toNatClampNeg x1) (fun st2 => jn (uC st2 5 2 ((st2.1 5 2) + 1)) (fun st3 => some st3)))) (jg (inb (x4 - 1) 512) (jg (inb x4 512) (jn (uC st 45 x4.toNatClampNeg (st.1 45 (x4 - 1).toNatClampNeg)) (fun st6 => jn (x4 + (-1)) (fun v7 => da_addFree_79 fu st6 x1 x2 v7)))))
def da_addFree_48  (st : CS) (x1 : Int32) (x2 : Int32) (z0 : Int32) : Option (CS) := jb (z0 = 0) (jc (f_ca_isWorkday x1) (fun q8 => jb (q8 = 0) (some st) (jb ((st.1 5 2) < 512) (jn (st.1 5 2) (fun v9 => da_addFree_79 FU st x1 x2 v9)) (some st)))) (some st)
def da_addFree_47  (st : CS) (x1 : Int32) (x2 : Int32) : Option (CS) := da_addFree_48 st x1 x2 0
def da_addFree_27  (st : CS) (x1 : Int32) (x2 : Int32) : Option (CS) := jb (x2 ≤ 0) (da_addFree_47 st x1 x2) (jg (inb (x2 - 1) 512) (jb ((st.1 45 (x2 - 1).toNatClampNeg) = x1) (da_addFree_48 st x1 x2 1) (da_addFree_47 st x1 x2)))
def da_addFree_5  : Nat → CS → Int32 → Int32 → Option (CS)
  | 0, _, _, _ => none
  | fu + 1, st, x1, x2 => jb (x2 ≤ 0) (da_addFree_27 st x1 x2) (jg (inb (x2 - 1) 512) (jb ((st.1 45 (x2 - 1).toNatClampNeg) ≤ x1) (da_addFree_27 st x1 x2) (jn (x2 + (-1)) (fun v12 => da_addFree_5 fu st x1 v12))))
def f_da_addFree (st : CS) (p0 : Int32) : Option (CS) := jn (st.1 5 2) (fun v13 => da_addFree_5 FU st p0 v13)
set_option maxHeartbeats 4000000 in
set_option maxRecDepth 100000 in
theorem c_da_addFree (l : Launch) (ρ : RH) (ad : Nat → Nat) (H : Heap) (P : Nat → Prop) (st : CS) (p0 : Int32) (res : CS) (hW : CW ρ P ad st H) (h : f_da_addFree st p0 = some res) : Met l y63 (wsOf y63 b63 5 none) ({ frames := 2, cells := 0, slots := 0, locals := 42 } : Room) (va_Pc [.ref (ad 5), .int p0] (KP ρ H)) (mQ (fun v H1 => v = none ∧ CW ρ P ad res H1) (MA wC ad H.size)) 0 0 (MA wC ad H.size) := by
  refine m_ofW (own := "WordFunctions$Dates") (plainFor_of_name rfl) rfl (Nat.le_of_ble_eq_true rfl) fun p e s m args below meth c ls hx hb hr hlk _ X hs hl => ?_
  subst hs
  have hS : va_S (MA wC ad s.heap.size) s.heap s.heap [] := va_S.rf
  have hSz := hS.1
  have hAz : ∀ q, s.heap.size ≤ q → (MA wC ad s.heap.size) q := fun q hq => Or.inr hq
  have hAp : ∀ i, i < 46 → (MA wC ad s.heap.size) (ad i) := fun i hi => MA.in hi
  have hPp : ∀ i, i < 46 → P (ad i) := hW.1
  have hl : lv_has ls 5 [(0, .ref (ad 5)), (1, .int p0)] := hl
  have kc79 : ∀ (fu : Nat), ∀ (st : CS) (x1 : Int32) (x2 : Int32) (x4 : Int32) (H : Heap) (locs : List Loc) (ls : Array Slot), CW ρ P ad st H → va_S (MA wC ad s.heap.size) s.heap H locs → lv_has ls 5 [(0, .ref (ad 5)), (1, .int x1), (2, .int x2), (4, .int x4)] → da_addFree_79 fu st x1 x2 x4 = some res → W p l e ({ frames := 2, cells := 0, slots := 0, locals := 42 } : Room) s m args below meth c H locs 0 0 (MQ below (mQ (fun v H1 => v = none ∧ CW ρ P ad res H1) (MA wC ad s.heap.size)) args s 0 0 (MA wC ad s.heap.size)) (F0 m 79 ls []) := by
    intro  fu
    induction fu with
    | zero => intro st x1 x2 x4 H locs ls hW hS hl h; cases h
    | succ fu hK79 =>
      intro st x1 x2 x4 H locs ls hW hS hl h
      have hSz := hS.1
      unfold da_addFree_79 at h
      refine lv_iload (pc := 79) hx hb d63_79 (lv_at hl 3 rfl) ?_
      refine lv_iload_n (pc := 81) hx hb d63_81 rfl (lv_at hl 2 rfl) ?_
      refine lv_icmp_le (pc := 82) (tgt := 107) hx hb d63_82 (by decide) (fun c82 => ?_) (fun c82 => ?_)
      · have h := jb_t c82 h
        refine lv_aload_n (pc := 107) hx hb d63_107 rfl (lv_at hl 0 rfl) ?_
        refine c_getK (pc := 108) X hW 5 1 7 45 (C := "WordFunctions$Dates") (T := T7) (N := 3) (by decide) rfl rfl rfl rfl tin7 rfl wd223 rfl rfl d63_108 ?_
        refine lv_iload_n (pc := 111) hx hb d63_111 rfl (lv_at hl 2 rfl) ?_
        refine lv_iload_n (pc := 112) hx hb d63_112 rfl (lv_at hl 1 rfl) ?_
        obtain ⟨g1, h⟩ := jg_some h
        obtain ⟨st2, est2, h⟩ := jn_ex h
        refine c_iast (pc := 113) X hW hS 45 (hAp 45 (by decide)) (by decide) rfl g1 est2 d63_113 (fun H locs hW hS hk => ?_)
        have hSz := hS.1
        refine lv_aload_n (pc := 114) hx hb d63_114 rfl (lv_at hl 0 rfl) ?_
        refine lv_dup (pc := 115) hx hb d63_115 rfl ?_
        refine c_getI (pc := 116) X hW 5 2 7 (C := "WordFunctions$Dates") (T := T7) (N := 3) (by decide) rfl rfl rfl rfl tin7 rfl wd224 rfl d63_116 ?_
        refine lv_iconst (pc := 119) (v := 1) hx hb d63_119 (by decide) ?_
        refine lv_iadd (pc := 120) hx hb d63_120 ?_
        obtain ⟨st3, est3, h⟩ := jn_ex h
        refine c_putI (pc := 121) X hW hS 5 2 7 (C := "WordFunctions$Dates") (T := T7) (N := 3) est3 (hAp _ (by decide)) (by decide) rfl rfl rfl rfl tin7 ty7 tyo7 tnm7 rfl wd224 rfl rfl rfl rfl d63_121 (fun H locs hW hS hk => ?_)
        have hSz := hS.1
        obtain rfl := Option.some.inj h
        exact m_vret (pc := 124) hx hb hr hlk hS ⟨rfl, hW⟩ (Nat.le_refl _) (Nat.le_refl _) d63_124
      · have h := jb_f c82 h
        refine lv_aload_n (pc := 85) hx hb d63_85 rfl (lv_at hl 0 rfl) ?_
        refine c_getK (pc := 86) X hW 5 1 7 45 (C := "WordFunctions$Dates") (T := T7) (N := 3) (by decide) rfl rfl rfl rfl tin7 rfl wd223 rfl rfl d63_86 ?_
        refine lv_iload (pc := 89) hx hb d63_89 (lv_at hl 3 rfl) ?_
        refine lv_aload_n (pc := 91) hx hb d63_91 rfl (lv_at hl 0 rfl) ?_
        refine c_getK (pc := 92) X hW 5 1 7 45 (C := "WordFunctions$Dates") (T := T7) (N := 3) (by decide) rfl rfl rfl rfl tin7 rfl wd223 rfl rfl d63_92 ?_
        refine lv_iload (pc := 95) hx hb d63_95 (lv_at hl 3 rfl) ?_
        refine lv_iconst (pc := 97) (v := 1) hx hb d63_97 (by decide) ?_
        refine lv_isub (pc := 98) hx hb d63_98 ?_
        obtain ⟨g4, h⟩ := jg_some h
        refine c_iald (pc := 99) X hW 45 (by decide) rfl g4 d63_99 ?_
        obtain ⟨g5, h⟩ := jg_some h
        obtain ⟨st6, est6, h⟩ := jn_ex h
        refine c_iast (pc := 100) X hW hS 45 (hAp 45 (by decide)) (by decide) rfl g5 est6 d63_100 (fun H locs hW hS hk => ?_)
        have hSz := hS.1
        obtain ⟨v7, ev7, h⟩ := jn_ex h
        refine lv_iinc (pc := 101) (v := v7) (lv' := [(4, .int v7), (0, .ref (ad 5)), (1, .int x1), (2, .int x2)]) hx hb d63_101 hl (k := 3) rfl (by rw [ev7]; rfl) (by decide) rfl (fun ls hl => ?_)
        refine lv_goto (pc := 104) (tgt := 79) hx hb d63_104 (by decide) ?_
        exact hK79 st6 x1 x2 v7 _ _ _ hW hS (lv_sub hl [1, 2, 3, 0] rfl) h
  have kc48 : ∀ (st : CS) (x1 : Int32) (x2 : Int32) (z0 : Int32) (H : Heap) (locs : List Loc) (ls : Array Slot), CW ρ P ad st H → va_S (MA wC ad s.heap.size) s.heap H locs → lv_has ls 5 [(0, .ref (ad 5)), (1, .int x1), (2, .int x2)] → da_addFree_48 st x1 x2 z0 = some res → W p l e ({ frames := 2, cells := 0, slots := 0, locals := 42 } : Room) s m args below meth c H locs 0 0 (MQ below (mQ (fun v H1 => v = none ∧ CW ρ P ad res H1) (MA wC ad s.heap.size)) args s 0 0 (MA wC ad s.heap.size)) (F0 m 48 ls [.int z0]) := by
    intro st x1 x2 z0 H locs ls hW hS hl h
    have hSz := hS.1
    unfold da_addFree_48 at h
    refine lv_istore_n (pc := 48) (lv' := [(3, .int z0), (0, .ref (ad 5)), (1, .int x1), (2, .int x2)]) hx hb d63_48 rfl hl (by decide) rfl (fun ls hl => ?_)
    refine lv_iload_n (pc := 49) hx hb d63_49 rfl (lv_at hl 0 rfl) ?_
    refine lv_if_ne (pc := 50) (tgt := 72) hx hb d63_50 (by decide) (fun c50 => ?_) (fun c50 => ?_)
    · have h := jb_f c50 h
      obtain rfl := Option.some.inj h
      exact m_vret (pc := 72) hx hb hr hlk hS ⟨rfl, hW⟩ (Nat.le_refl _) (Nat.le_refl _) d63_72
    · have h := jb_t c50 h
      refine lv_iload_n (pc := 53) hx hb d63_53 rfl (lv_at hl 2 rfl) ?_
      obtain ⟨q8, hq8, h⟩ := jc_some h
      refine k_callS (pc := 54) (n := 1) X hS (c_ca_isWorkday l ρ _ P x1 q8 hW.2.2.1 hW.2.1  hq8) wd1312 wd1310 wd1311 wd29 (by decide) ⟨rfl, rfl, Nat.le_of_ble_eq_true rfl, Nat.le_of_ble_eq_true rfl⟩ (As := [.int x1]) (rest := []) rfl rfl hl.1 (Nat.le_of_ble_eq_true rfl) d63_54 ⟨Nat.le_refl _, Nat.le_refl _⟩ (fun q hq => False.elim hq) (fun v H1 locs1 hv _ _ hSq8 => ?_)
      obtain ⟨rfl, rfl⟩ := hv
      have hS := hSq8
      have hSz := hS.1
      refine lv_if_eq (pc := 57) (tgt := 72) hx hb d63_57 (by decide) (fun c57 => ?_) (fun c57 => ?_)
      · have h := jb_t c57 h
        obtain rfl := Option.some.inj h
        exact m_vret (pc := 72) hx hb hr hlk hS ⟨rfl, hW⟩ (Nat.le_refl _) (Nat.le_refl _) d63_72
      · have h := jb_f c57 h
        refine lv_aload_n (pc := 60) hx hb d63_60 rfl (lv_at hl 1 rfl) ?_
        refine c_getI (pc := 61) X hW 5 2 7 (C := "WordFunctions$Dates") (T := T7) (N := 3) (by decide) rfl rfl rfl rfl tin7 rfl wd224 rfl d63_61 ?_
        refine lv_aload_n (pc := 64) hx hb d63_64 rfl (lv_at hl 1 rfl) ?_
        refine c_getK (pc := 65) X hW 5 1 7 45 (C := "WordFunctions$Dates") (T := T7) (N := 3) (by decide) rfl rfl rfl rfl tin7 rfl wd223 rfl rfl d63_65 ?_
        refine c_alen (pc := 68) (v := 512) X hW 45 (by decide) rfl (by decide) (by decide) d63_68 ?_
        refine lv_icmp_lt (pc := 69) (tgt := 73) hx hb d63_69 (by decide) (fun c69 => ?_) (fun c69 => ?_)
        · have h := jb_t c69 h
          refine lv_aload_n (pc := 73) hx hb d63_73 rfl (lv_at hl 1 rfl) ?_
          refine c_getI (pc := 74) X hW 5 2 7 (C := "WordFunctions$Dates") (T := T7) (N := 3) (by decide) rfl rfl rfl rfl tin7 rfl wd224 rfl d63_74 ?_
          obtain ⟨v9, ev9, h⟩ := jn_ex h
          refine nm_i ev9 ?_
          refine lv_istore (pc := 77) (lv' := [(4, .int v9), (3, .int z0), (0, .ref (ad 5)), (1, .int x1), (2, .int x2)]) hx hb d63_77 hl (by decide) rfl (fun ls hl => ?_)
          exact kc79  FU st x1 x2 v9 _ _ _ hW hS (lv_sub hl [2, 3, 4, 0] rfl) h
        · have h := jb_f c69 h
          obtain rfl := Option.some.inj h
          exact m_vret (pc := 72) hx hb hr hlk hS ⟨rfl, hW⟩ (Nat.le_refl _) (Nat.le_refl _) d63_72
  have kc47 : ∀ (st : CS) (x1 : Int32) (x2 : Int32) (H : Heap) (locs : List Loc) (ls : Array Slot), CW ρ P ad st H → va_S (MA wC ad s.heap.size) s.heap H locs → lv_has ls 5 [(0, .ref (ad 5)), (1, .int x1), (2, .int x2)] → da_addFree_47 st x1 x2 = some res → W p l e ({ frames := 2, cells := 0, slots := 0, locals := 42 } : Room) s m args below meth c H locs 0 0 (MQ below (mQ (fun v H1 => v = none ∧ CW ρ P ad res H1) (MA wC ad s.heap.size)) args s 0 0 (MA wC ad s.heap.size)) (F0 m 47 ls []) := by
    intro st x1 x2 H locs ls hW hS hl h
    have hSz := hS.1
    unfold da_addFree_47 at h
    refine lv_iconst (pc := 47) (v := 0) hx hb d63_47 (by decide) ?_
    exact kc48   st x1 x2 0 _ _ _ hW hS (lv_sub hl [0, 1, 2] rfl) h
  have kc27 : ∀ (st : CS) (x1 : Int32) (x2 : Int32) (H : Heap) (locs : List Loc) (ls : Array Slot), CW ρ P ad st H → va_S (MA wC ad s.heap.size) s.heap H locs → lv_has ls 5 [(0, .ref (ad 5)), (1, .int x1), (2, .int x2)] → da_addFree_27 st x1 x2 = some res → W p l e ({ frames := 2, cells := 0, slots := 0, locals := 42 } : Room) s m args below meth c H locs 0 0 (MQ below (mQ (fun v H1 => v = none ∧ CW ρ P ad res H1) (MA wC ad s.heap.size)) args s 0 0 (MA wC ad s.heap.size)) (F0 m 27 ls []) := by
    intro st x1 x2 H locs ls hW hS hl h
    have hSz := hS.1
    unfold da_addFree_27 at h
    refine lv_iload_n (pc := 27) hx hb d63_27 rfl (lv_at hl 2 rfl) ?_
    refine lv_if_le (pc := 28) (tgt := 47) hx hb d63_28 (by decide) (fun c28 => ?_) (fun c28 => ?_)
    · have h := jb_t c28 h
      exact kc47   st x1 x2 _ _ _ hW hS (lv_sub hl [0, 1, 2] rfl) h
    · have h := jb_f c28 h
      refine lv_aload_n (pc := 31) hx hb d63_31 rfl (lv_at hl 0 rfl) ?_
      refine c_getK (pc := 32) X hW 5 1 7 45 (C := "WordFunctions$Dates") (T := T7) (N := 3) (by decide) rfl rfl rfl rfl tin7 rfl wd223 rfl rfl d63_32 ?_
      refine lv_iload_n (pc := 35) hx hb d63_35 rfl (lv_at hl 2 rfl) ?_
      refine lv_iconst (pc := 36) (v := 1) hx hb d63_36 (by decide) ?_
      refine lv_isub (pc := 37) hx hb d63_37 ?_
      obtain ⟨g10, h⟩ := jg_some h
      refine c_iald (pc := 38) X hW 45 (by decide) rfl g10 d63_38 ?_
      refine lv_iload_n (pc := 39) hx hb d63_39 rfl (lv_at hl 1 rfl) ?_
      refine lv_icmp_ne (pc := 40) (tgt := 47) hx hb d63_40 (by decide) (fun c40 => ?_) (fun c40 => ?_)
      · have h := jb_f c40 h
        exact kc47   st x1 x2 _ _ _ hW hS (lv_sub hl [0, 1, 2] rfl) h
      · have h := jb_t c40 h
        refine lv_iconst (pc := 43) (v := 1) hx hb d63_43 (by decide) ?_
        refine lv_goto (pc := 44) (tgt := 48) hx hb d63_44 (by decide) ?_
        exact kc48   st x1 x2 1 _ _ _ hW hS (lv_sub hl [0, 1, 2] rfl) h
  have kc5 : ∀ (fu : Nat), ∀ (st : CS) (x1 : Int32) (x2 : Int32) (H : Heap) (locs : List Loc) (ls : Array Slot), CW ρ P ad st H → va_S (MA wC ad s.heap.size) s.heap H locs → lv_has ls 5 [(0, .ref (ad 5)), (1, .int x1), (2, .int x2)] → da_addFree_5 fu st x1 x2 = some res → W p l e ({ frames := 2, cells := 0, slots := 0, locals := 42 } : Room) s m args below meth c H locs 0 0 (MQ below (mQ (fun v H1 => v = none ∧ CW ρ P ad res H1) (MA wC ad s.heap.size)) args s 0 0 (MA wC ad s.heap.size)) (F0 m 5 ls []) := by
    intro  fu
    induction fu with
    | zero => intro st x1 x2 H locs ls hW hS hl h; cases h
    | succ fu hK5 =>
      intro st x1 x2 H locs ls hW hS hl h
      have hSz := hS.1
      unfold da_addFree_5 at h
      refine lv_iload_n (pc := 5) hx hb d63_5 rfl (lv_at hl 2 rfl) ?_
      refine lv_if_le (pc := 6) (tgt := 27) hx hb d63_6 (by decide) (fun c6 => ?_) (fun c6 => ?_)
      · have h := jb_t c6 h
        exact kc27   st x1 x2 _ _ _ hW hS (lv_sub hl [0, 1, 2] rfl) h
      · have h := jb_f c6 h
        refine lv_aload_n (pc := 9) hx hb d63_9 rfl (lv_at hl 0 rfl) ?_
        refine c_getK (pc := 10) X hW 5 1 7 45 (C := "WordFunctions$Dates") (T := T7) (N := 3) (by decide) rfl rfl rfl rfl tin7 rfl wd223 rfl rfl d63_10 ?_
        refine lv_iload_n (pc := 13) hx hb d63_13 rfl (lv_at hl 2 rfl) ?_
        refine lv_iconst (pc := 14) (v := 1) hx hb d63_14 (by decide) ?_
        refine lv_isub (pc := 15) hx hb d63_15 ?_
        obtain ⟨g11, h⟩ := jg_some h
        refine c_iald (pc := 16) X hW 45 (by decide) rfl g11 d63_16 ?_
        refine lv_iload_n (pc := 17) hx hb d63_17 rfl (lv_at hl 1 rfl) ?_
        refine lv_icmp_le (pc := 18) (tgt := 27) hx hb d63_18 (by decide) (fun c18 => ?_) (fun c18 => ?_)
        · have h := jb_t c18 h
          exact kc27   st x1 x2 _ _ _ hW hS (lv_sub hl [0, 1, 2] rfl) h
        · have h := jb_f c18 h
          obtain ⟨v12, ev12, h⟩ := jn_ex h
          refine lv_iinc (pc := 21) (v := v12) (lv' := [(2, .int v12), (0, .ref (ad 5)), (1, .int x1)]) hx hb d63_21 hl (k := 2) rfl (by rw [ev12]; rfl) (by decide) rfl (fun ls hl => ?_)
          refine lv_goto (pc := 24) (tgt := 5) hx hb d63_24 (by decide) ?_
          exact hK5 st x1 v12 _ _ _ hW hS (lv_sub hl [1, 2, 0] rfl) h
  unfold f_da_addFree at h
  refine lv_aload_n (pc := 0) hx hb d63_0 rfl (lv_at hl 0 rfl) ?_
  refine c_getI (pc := 1) X hW 5 2 7 (C := "WordFunctions$Dates") (T := T7) (N := 3) (by decide) rfl rfl rfl rfl tin7 rfl wd224 rfl d63_1 ?_
  obtain ⟨v13, ev13, h⟩ := jn_ex h
  refine nm_i ev13 ?_
  refine lv_istore_n (pc := 4) (lv' := [(2, .int v13), (0, .ref (ad 5)), (1, .int p0)]) hx hb d63_4 rfl hl (by decide) rfl (fun ls hl => ?_)
  exact kc5  FU st p0 v13 _ _ _ hW hS (lv_sub hl [1, 2, 0] rfl) h
def da_isFar_12   : Option (Int32) := some 1
def f_da_isFar  (p0 : Int32) : Option (Int32) := jb (p0 < (-100000)) (da_isFar_12) (jb (p0 ≤ 100000) (some 0) (da_isFar_12))
set_option maxHeartbeats 4000000 in
set_option maxRecDepth 100000 in
theorem c_da_isFar (l : Launch) (ρ : RH) (H : Heap) (P : Nat → Prop) (p0 : Int32) (res : Int32) (hC : CC ρ P H) (hPb : ∀ q, P q → q < H.size) (h : f_da_isFar p0 = some res) : Met l y68 (wsOf y68 b68 1 (some .boolean)) ({ frames := 0, cells := 0, slots := 0, locals := 0 } : Room) (va_Pc [.int p0] (KP ρ H)) (mQ (fun v H1 => v = some (.int res) ∧ H1 = H) (fun _ => False)) 0 0 (fun _ => False) := by
  refine m_ofW (own := "WordFunctions$Dates") (plainFor_of_name rfl) rfl (Nat.le_of_ble_eq_true rfl) fun p e s m args below meth c ls hx hb hr hlk _ X hs hl => ?_
  subst hs
  have hS : va_S (fun _ => False) s.heap s.heap [] := va_S.rf
  have hSz := hS.1
  have hl : lv_has ls 1 [(0, .int p0)] := hl
  have kc12 : ∀ (locs : List Loc) (ls : Array Slot), va_S (fun _ => False) s.heap s.heap locs → lv_has ls 1 [] → da_isFar_12 = some res → W p l e ({ frames := 0, cells := 0, slots := 0, locals := 0 } : Room) s m args below meth c s.heap locs 0 0 (MQ below (mQ (fun v H1 => v = some (.int res) ∧ H1 = s.heap) (fun _ => False)) args s 0 0 (fun _ => False)) (F0 m 12 ls []) := by
    intro locs ls hS hl h
    have hSz := hS.1
    unfold da_isFar_12 at h
    refine lv_iconst (pc := 12) (v := 1) hx hb d68_12 (by decide) ?_
    refine lv_goto (pc := 13) (tgt := 17) hx hb d68_13 (by decide) ?_
    obtain rfl := Option.some.inj h
    exact m_zret (pc := 17) hx hb hr hlk hS ⟨rfl, rfl⟩ (Nat.le_refl _) (Nat.le_refl _) d68_17 (by decide)
  unfold f_da_isFar at h
  refine lv_iload_n (pc := 0) hx hb d68_0 rfl (lv_at hl 0 rfl) ?_
  refine lv_ldc (pc := 1) hx hb X.1.2.2.2.1 (X.ts wd1194) d68_1 ?_
  refine lv_icmp_lt (pc := 3) (tgt := 12) hx hb d68_3 (by decide) (fun c3 => ?_) (fun c3 => ?_)
  · have h := jb_t c3 h
    exact kc12   _ _ hS (lv_sub hl [] rfl) h
  · have h := jb_f c3 h
    refine lv_iload_n (pc := 6) hx hb d68_6 rfl (lv_at hl 0 rfl) ?_
    refine lv_ldc (pc := 7) hx hb X.1.2.2.2.1 (X.ts wd1195) d68_7 ?_
    refine lv_icmp_le (pc := 9) (tgt := 16) hx hb d68_9 (by decide) (fun c9 => ?_) (fun c9 => ?_)
    · have h := jb_t c9 h
      refine lv_iconst (pc := 16) (v := 0) hx hb d68_16 (by decide) ?_
      obtain rfl := Option.some.inj h
      exact m_zret (pc := 17) hx hb hr hlk hS ⟨rfl, rfl⟩ (Nat.le_refl _) (Nat.le_refl _) d68_17 (by decide)
    · have h := jb_f c9 h
      exact kc12   _ _ hS (lv_sub hl [] rfl) h
def f_da_dateOrError  (p0 : Int32) : Option ((VV) × Nat × Nat) := jc (f_ca_isDate p0) (fun q1 => jb (q1 = 0) (jd (f_vl_ofError 6) (fun q2 => some (q2, 0, 0))) (jd (f_vl_ofNumber (FP.i2d p0)) (fun q4 => some (q4, 0, 0))))
set_option maxHeartbeats 4000000 in
set_option maxRecDepth 100000 in
theorem c_da_dateOrError (l : Launch) (ρ : RH) (H : Heap) (P : Nat → Prop) (p0 : Int32) (res : (VV) × Nat × Nat) (hC : CC ρ P H) (hPb : ∀ q, P q → q < H.size) (h : f_da_dateOrError p0 = some res) : Met l y65 (wsOf y65 b65 1 (some (.object "WordFunctions$Value"))) ({ frames := 13, cells := res.2.1, slots := res.2.2, locals := 621 } : Room) (va_Pc [.int p0] (KP ρ H)) (mQ (fun v H1 => ∃ x : Nat, v = some (.ref x) ∧ isV ρ P H1 x res.1) (fun q => H.size ≤ q)) res.2.1 res.2.2 (fun q => H.size ≤ q) := by
  refine m_ofW (own := "WordFunctions$Dates") (plainFor_of_name rfl) rfl (Nat.le_of_ble_eq_true rfl) fun p e s m args below meth c ls hx hb hr hlk _ X hs hl => ?_
  subst hs
  have hS : va_S (fun q => s.heap.size ≤ q) s.heap s.heap [] := va_S.rf
  have hSz := hS.1
  have hAz : ∀ q, s.heap.size ≤ q → (fun q => s.heap.size ≤ q) q := fun q hq => hq
  have hl : lv_has ls 1 [(0, .int p0)] := hl
  have her : res.1 = res.1 := rfl
  have hc1 : 0 + res.2.1 ≤ res.2.1 := Nat.le_of_eq (Nat.zero_add _)
  have hs1 : 0 + res.2.2 ≤ res.2.2 := Nat.le_of_eq (Nat.zero_add _)
  unfold f_da_dateOrError at h
  refine lv_iload_n (pc := 0) hx hb d65_0 rfl (lv_at hl 0 rfl) ?_
  obtain ⟨q1, hq1, h⟩ := jc_some h
  refine k_callS (pc := 1) (n := 1) X hS (c_ca_isDate l ρ _ P p0 q1 hC hPb  hq1) wd1217 wd1215 wd1216 wd29 (by decide) ⟨rfl, rfl, Nat.le_of_ble_eq_true rfl, Nat.le_of_ble_eq_true rfl⟩ (As := [.int p0]) (rest := []) rfl rfl hl.1 (Nat.le_of_ble_eq_true rfl) d65_1 ⟨room_l0 hc1, room_l0 hs1⟩ (fun q hq => False.elim hq) (fun v H1 locs1 hv _ _ hSq1 => ?_)
  obtain ⟨rfl, rfl⟩ := hv
  have hS := hSq1
  have hSz := hS.1
  refine lv_if_eq (pc := 4) (tgt := 15) hx hb d65_4 (by decide) (fun c4 => ?_) (fun c4 => ?_)
  · have h := jb_t c4 h
    refine lv_bipush (pc := 15) (v := 6) hx hb d65_15 (by decide) ?_
    obtain ⟨q2, rq2, hq2, h, herq2, hccq2, hssq2⟩ := jd_some h
    refine k_callS (pc := 17) (n := 1) X hS (c_vl_ofError l ρ _ P 6 q2 hC hPb  hq2) wd651 wd1196 wd650 wd4 (by decide) ⟨rfl, rfl, Nat.le_of_ble_eq_true rfl, Nat.le_of_ble_eq_true rfl⟩ (As := [.int 6]) (rest := []) rfl rfl hl.1 (Nat.le_of_ble_eq_true rfl) d65_17 ⟨room_le hccq2 hc1, room_le hssq2 hs1⟩ (fun q hq => hAz q (Nat.le_trans hS.1 hq)) (fun v H1 locs1 hv hz1 hz2 hSq2 => ?_)
    obtain ⟨u3, rfl, fu3⟩ := hv
    have hk : kp no _ H1 := kp_call hz1 hz2 (fun q hq z => absurd hq (Nat.not_lt.mpr z))
    have hC := hC.keep hk no_hz
    have hPb := fun q hq => hk.lt (hPb q hq)
    have hS := hSq2
    have hSz := hS.1
    have her := her.trans herq2
    have hc1 := room_st hccq2 hc1
    have hs1 := room_st hssq2 hs1
    have her : res.1 = q2.1 := her.trans (congrArg Prod.fst (Option.some.inj h)).symm
    exact m_aret (pc := 20) hx hb hr (Or.inl ⟨_, rfl⟩) hlk hS ⟨u3, rfl, by rw [her]; exact fu3⟩ (Nat.le_trans (Nat.le_add_right _ _) hc1) (Nat.le_trans (Nat.le_add_right _ _) hs1) d65_20
  · have h := jb_f c4 h
    refine lv_iload_n (pc := 7) hx hb d65_7 rfl (lv_at hl 0 rfl) ?_
    refine lv_i2d (pc := 8) hx hb d65_8 ?_
    obtain ⟨q4, rq4, hq4, h, herq4, hccq4, hssq4⟩ := jd_some h
    refine k_callS (pc := 9) (n := 1) X hS (c_vl_ofNumber l ρ _ P (FP.i2d p0) q4 hC hPb  hq4) wd642 wd1219 wd641 wd4 (by decide) ⟨rfl, rfl, Nat.le_of_ble_eq_true rfl, Nat.le_of_ble_eq_true rfl⟩ (As := [.double (FP.i2d p0)]) (rest := []) rfl rfl hl.1 (Nat.le_of_ble_eq_true rfl) d65_9 ⟨room_le hccq4 hc1, room_le hssq4 hs1⟩ (fun q hq => hAz q (Nat.le_trans hS.1 hq)) (fun v H1 locs1 hv hz1 hz2 hSq4 => ?_)
    obtain ⟨u5, rfl, fu5⟩ := hv
    have hk : kp no _ H1 := kp_call hz1 hz2 (fun q hq z => absurd hq (Nat.not_lt.mpr z))
    have hC := hC.keep hk no_hz
    have hPb := fun q hq => hk.lt (hPb q hq)
    have hS := hSq4
    have hSz := hS.1
    have her := her.trans herq4
    have hc1 := room_st hccq4 hc1
    have hs1 := room_st hssq4 hs1
    refine lv_goto (pc := 12) (tgt := 20) hx hb d65_12 (by decide) ?_
    have her : res.1 = q4.1 := her.trans (congrArg Prod.fst (Option.some.inj h)).symm
    exact m_aret (pc := 20) hx hb hr (Or.inl ⟨_, rfl⟩) hlk hS ⟨u5, rfl, by rw [her]; exact fu5⟩ (Nat.le_trans (Nat.le_add_right _ _) hc1) (Nat.le_trans (Nat.le_add_right _ _) hs1) d65_20
def da_date_74  (st : CS) (x2 : Int32) (x3 : Int32) (z0 : Int32) : Option ((VV × CS) × Nat × Nat) := jc (f_ca_firstOf (((z0 * 12) + x2) - 1)) (fun q1 => jd (f_da_dateOrError ((q1 + x3) - 1)) (fun q2 => some ((q2, st), 0, 0)))
def da_date_52  (st : CS) : Option ((VV × CS) × Nat × Nat) := jd (f_vl_ofError 6) (fun q4 => some ((q4, st), 0, 0))
def f_da_date (st : CS) : Option ((VV × CS) × Nat × Nat) := jc (f_ar_whole st 0) (fun q6 => jc (f_ar_whole q6.2 1) (fun q7 => jc (f_ar_whole q7.2 2) (fun q8 => jb (q6.1 < 0) (da_date_52 q8.2) (jb (9999 < q6.1) (da_date_52 q8.2) (jc (f_da_isFar q7.1) (fun q9 => jb (q9 = 0) (jc (f_da_isFar q8.1) (fun q10 => jb (q10 = 0) (jb (1900 ≤ q6.1) (da_date_74 q8.2 q7.1 q8.1 q6.1) (da_date_74 q8.2 q7.1 q8.1 (q6.1 + 1900))) (da_date_52 q8.2))) (da_date_52 q8.2)))))))
set_option maxHeartbeats 4000000 in
set_option maxRecDepth 100000 in
theorem c_da_date (l : Launch) (ρ : RH) (ad : Nat → Nat) (H : Heap) (P : Nat → Prop) (st : CS) (res : (VV × CS) × Nat × Nat) (hW : CW ρ P ad st H) (h : f_da_date st = some res) : Met l y64 (wsOf y64 b64 5 (some (.object "WordFunctions$Value"))) ({ frames := 16, cells := res.2.1, slots := res.2.2, locals := 698 } : Room) (va_Pc [.ref (ad 5)] (KP ρ H)) (mQ (fun v H1 => ∃ x : Nat, v = some (.ref x) ∧ isV ρ P H1 x res.1.1 ∧ CW ρ P ad res.1.2 H1) (MA wC ad H.size)) res.2.1 res.2.2 (MA wC ad H.size) := by
  refine m_ofW (own := "WordFunctions$Dates") (plainFor_of_name rfl) rfl (Nat.le_of_ble_eq_true rfl) fun p e s m args below meth c ls hx hb hr hlk _ X hs hl => ?_
  subst hs
  have hS : va_S (MA wC ad s.heap.size) s.heap s.heap [] := va_S.rf
  have hSz := hS.1
  have hAz : ∀ q, s.heap.size ≤ q → (MA wC ad s.heap.size) q := fun q hq => Or.inr hq
  have hAp : ∀ i, i < 46 → (MA wC ad s.heap.size) (ad i) := fun i hi => MA.in hi
  have hPp : ∀ i, i < 46 → P (ad i) := hW.1
  have hl : lv_has ls 5 [(0, .ref (ad 5))] := hl
  have kc74 : ∀ (st : CS) (x2 : Int32) (x3 : Int32) (z0 : Int32) (H : Heap) (locs : List Loc) (ls : Array Slot) (cells slots : Nat) (r : (VV × CS) × Nat × Nat), CW ρ P ad st H → va_S (MA wC ad s.heap.size) s.heap H locs → lv_has ls 5 [(2, .int x2), (3, .int x3)] → res.1 = r.1 → cells + r.2.1 ≤ res.2.1 → slots + r.2.2 ≤ res.2.2 → da_date_74 st x2 x3 z0 = some r → W p l e ({ frames := 16, cells := res.2.1, slots := res.2.2, locals := 698 } : Room) s m args below meth c H locs cells slots (MQ below (mQ (fun v H1 => ∃ x : Nat, v = some (.ref x) ∧ isV ρ P H1 x res.1.1 ∧ CW ρ P ad res.1.2 H1) (MA wC ad s.heap.size)) args s res.2.1 res.2.2 (MA wC ad s.heap.size)) (F0 m 74 ls [.int z0]) := by
    intro st x2 x3 z0 H locs ls cells slots r hW hS hl her hc1 hs1 h
    have hSz := hS.1
    unfold da_date_74 at h
    refine lv_istore (pc := 74) (lv' := [(4, .int z0), (2, .int x2), (3, .int x3)]) hx hb d64_74 hl (by decide) rfl (fun ls hl => ?_)
    refine lv_iload (pc := 76) hx hb d64_76 (lv_at hl 0 rfl) ?_
    refine lv_bipush (pc := 78) (v := 12) hx hb d64_78 (by decide) ?_
    refine lv_imul (pc := 80) hx hb d64_80 ?_
    refine lv_iload_n (pc := 81) hx hb d64_81 rfl (lv_at hl 1 rfl) ?_
    refine lv_iadd (pc := 82) hx hb d64_82 ?_
    refine lv_iconst (pc := 83) (v := 1) hx hb d64_83 (by decide) ?_
    refine lv_isub (pc := 84) hx hb d64_84 ?_
    obtain ⟨q1, hq1, h⟩ := jc_some h
    refine k_callS (pc := 85) (n := 1) X hS (c_ca_firstOf l ρ _ P (((z0 * 12) + x2) - 1) q1 hW.2.2.1 hW.2.1  hq1) wd1199 wd1197 wd1198 wd29 (by decide) ⟨rfl, rfl, Nat.le_of_ble_eq_true rfl, Nat.le_of_ble_eq_true rfl⟩ (As := [.int (((z0 * 12) + x2) - 1)]) (rest := []) rfl rfl hl.1 (Nat.le_of_ble_eq_true rfl) d64_85 ⟨room_l0 hc1, room_l0 hs1⟩ (fun q hq => False.elim hq) (fun v H1 locs1 hv _ _ hSq1 => ?_)
    obtain ⟨rfl, rfl⟩ := hv
    have hS := hSq1
    have hSz := hS.1
    refine lv_iload_n (pc := 88) hx hb d64_88 rfl (lv_at hl 2 rfl) ?_
    refine lv_iadd (pc := 89) hx hb d64_89 ?_
    refine lv_iconst (pc := 90) (v := 1) hx hb d64_90 (by decide) ?_
    refine lv_isub (pc := 91) hx hb d64_91 ?_
    obtain ⟨q2, rq2, hq2, h, herq2, hccq2, hssq2⟩ := jd_some h
    refine k_callS (pc := 92) (n := 1) X hS (c_da_dateOrError l ρ _ P ((q1 + x3) - 1) q2 hW.2.2.1 hW.2.1  hq2) wd1214 wd1212 wd1213 wd9 (by decide) ⟨rfl, rfl, Nat.le_of_ble_eq_true rfl, Nat.le_of_ble_eq_true rfl⟩ (As := [.int ((q1 + x3) - 1)]) (rest := []) rfl rfl hl.1 (Nat.le_of_ble_eq_true rfl) d64_92 ⟨room_le hccq2 hc1, room_le hssq2 hs1⟩ (fun q hq => hAz q (Nat.le_trans hS.1 hq)) (fun v H1 locs1 hv hz1 hz2 hSq2 => ?_)
    obtain ⟨u3, rfl, fu3⟩ := hv
    have hk : kp no _ H1 := kp_call hz1 hz2 (fun q hq z => absurd hq (Nat.not_lt.mpr z))
    have hW := hW.keep hk no_hz (fun _ _ z => z)
    have hS := hSq2
    have hSz := hS.1
    have her := her.trans herq2
    have hc1 := room_st hccq2 hc1
    have hs1 := room_st hssq2 hs1
    have her : res.1 = (q2.1, st) := her.trans (congrArg Prod.fst (Option.some.inj h)).symm
    exact m_aret (pc := 95) hx hb hr (Or.inl ⟨_, rfl⟩) hlk hS ⟨u3, rfl, by rw [her]; exact fu3, by rw [her]; exact hW⟩ (Nat.le_trans (Nat.le_add_right _ _) hc1) (Nat.le_trans (Nat.le_add_right _ _) hs1) d64_95
  have kc52 : ∀ (st : CS) (H : Heap) (locs : List Loc) (ls : Array Slot) (cells slots : Nat) (r : (VV × CS) × Nat × Nat), CW ρ P ad st H → va_S (MA wC ad s.heap.size) s.heap H locs → lv_has ls 5 [] → res.1 = r.1 → cells + r.2.1 ≤ res.2.1 → slots + r.2.2 ≤ res.2.2 → da_date_52 st = some r → W p l e ({ frames := 16, cells := res.2.1, slots := res.2.2, locals := 698 } : Room) s m args below meth c H locs cells slots (MQ below (mQ (fun v H1 => ∃ x : Nat, v = some (.ref x) ∧ isV ρ P H1 x res.1.1 ∧ CW ρ P ad res.1.2 H1) (MA wC ad s.heap.size)) args s res.2.1 res.2.2 (MA wC ad s.heap.size)) (F0 m 52 ls []) := by
    intro st H locs ls cells slots r hW hS hl her hc1 hs1 h
    have hSz := hS.1
    unfold da_date_52 at h
    refine lv_bipush (pc := 52) (v := 6) hx hb d64_52 (by decide) ?_
    obtain ⟨q4, rq4, hq4, h, herq4, hccq4, hssq4⟩ := jd_some h
    refine k_callS (pc := 54) (n := 1) X hS (c_vl_ofError l ρ _ P 6 q4 hW.2.2.1 hW.2.1  hq4) wd651 wd1196 wd650 wd4 (by decide) ⟨rfl, rfl, Nat.le_of_ble_eq_true rfl, Nat.le_of_ble_eq_true rfl⟩ (As := [.int 6]) (rest := []) rfl rfl hl.1 (Nat.le_of_ble_eq_true rfl) d64_54 ⟨room_le hccq4 hc1, room_le hssq4 hs1⟩ (fun q hq => hAz q (Nat.le_trans hS.1 hq)) (fun v H1 locs1 hv hz1 hz2 hSq4 => ?_)
    obtain ⟨u5, rfl, fu5⟩ := hv
    have hk : kp no _ H1 := kp_call hz1 hz2 (fun q hq z => absurd hq (Nat.not_lt.mpr z))
    have hW := hW.keep hk no_hz (fun _ _ z => z)
    have hS := hSq4
    have hSz := hS.1
    have her := her.trans herq4
    have hc1 := room_st hccq4 hc1
    have hs1 := room_st hssq4 hs1
    have her : res.1 = (q4.1, st) := her.trans (congrArg Prod.fst (Option.some.inj h)).symm
    exact m_aret (pc := 57) hx hb hr (Or.inl ⟨_, rfl⟩) hlk hS ⟨u5, rfl, by rw [her]; exact fu5, by rw [her]; exact hW⟩ (Nat.le_trans (Nat.le_add_right _ _) hc1) (Nat.le_trans (Nat.le_add_right _ _) hs1) d64_57
  have her : res.1 = res.1 := rfl
  have hc1 : 0 + res.2.1 ≤ res.2.1 := Nat.le_of_eq (Nat.zero_add _)
  have hs1 : 0 + res.2.2 ≤ res.2.2 := Nat.le_of_eq (Nat.zero_add _)
  unfold f_da_date at h
  refine lv_aload_n (pc := 0) hx hb d64_0 rfl (lv_at hl 0 rfl) ?_
  refine c_getK (pc := 1) X hW 5 0 7 1 (C := "WordFunctions$Dates") (T := T7) (N := 3) (by decide) rfl rfl rfl rfl tin7 rfl wd222 rfl rfl d64_1 ?_
  refine lv_iconst (pc := 4) (v := 0) hx hb d64_4 (by decide) ?_
  obtain ⟨q6, hq6, h⟩ := jc_some h
  refine k_callV (pc := 5) (n := 1) X hS (c_ar_whole l ρ ad _ P st 0 q6 hW  hq6) wd762 wd1190 wd760 wd761 wd3 (by decide) ⟨rfl, rfl, Nat.le_of_ble_eq_true rfl, Nat.le_of_ble_eq_true rfl⟩ (c_recv X hW 1 3 (by decide) rfl rfl) (As := [.int 0]) (rest := []) rfl rfl hl.1 (Nat.le_of_ble_eq_true rfl) d64_5 ⟨room_l0 hc1, room_l0 hs1⟩ (fun q hq => MA.mono hS.1 hq) (fun v H1 locs1 hv hz1 hz2 hSq6 => ?_)
  have hPq := hW.1
  obtain ⟨rfl, hW⟩ := hv
  have hS := hSq6
  have hSz := hS.1
  refine lv_istore_n (pc := 8) (lv' := [(1, .int q6.1), (0, .ref (ad 5))]) hx hb d64_8 rfl hl (by decide) rfl (fun ls hl => ?_)
  refine lv_aload_n (pc := 9) hx hb d64_9 rfl (lv_at hl 1 rfl) ?_
  refine c_getK (pc := 10) X hW 5 0 7 1 (C := "WordFunctions$Dates") (T := T7) (N := 3) (by decide) rfl rfl rfl rfl tin7 rfl wd222 rfl rfl d64_10 ?_
  refine lv_iconst (pc := 13) (v := 1) hx hb d64_13 (by decide) ?_
  obtain ⟨q7, hq7, h⟩ := jc_some h
  refine k_callV (pc := 14) (n := 1) X hS (c_ar_whole l ρ ad _ P q6.2 1 q7 hW  hq7) wd762 wd1190 wd760 wd761 wd3 (by decide) ⟨rfl, rfl, Nat.le_of_ble_eq_true rfl, Nat.le_of_ble_eq_true rfl⟩ (c_recv X hW 1 3 (by decide) rfl rfl) (As := [.int 1]) (rest := []) rfl rfl hl.1 (Nat.le_of_ble_eq_true rfl) d64_14 ⟨room_l0 hc1, room_l0 hs1⟩ (fun q hq => MA.mono hS.1 hq) (fun v H1 locs1 hv hz1 hz2 hSq7 => ?_)
  have hPq := hW.1
  obtain ⟨rfl, hW⟩ := hv
  have hS := hSq7
  have hSz := hS.1
  refine lv_istore_n (pc := 17) (lv' := [(2, .int q7.1), (1, .int q6.1), (0, .ref (ad 5))]) hx hb d64_17 rfl hl (by decide) rfl (fun ls hl => ?_)
  refine lv_aload_n (pc := 18) hx hb d64_18 rfl (lv_at hl 2 rfl) ?_
  refine c_getK (pc := 19) X hW 5 0 7 1 (C := "WordFunctions$Dates") (T := T7) (N := 3) (by decide) rfl rfl rfl rfl tin7 rfl wd222 rfl rfl d64_19 ?_
  refine lv_iconst (pc := 22) (v := 2) hx hb d64_22 (by decide) ?_
  obtain ⟨q8, hq8, h⟩ := jc_some h
  refine k_callV (pc := 23) (n := 1) X hS (c_ar_whole l ρ ad _ P q7.2 2 q8 hW  hq8) wd762 wd1190 wd760 wd761 wd3 (by decide) ⟨rfl, rfl, Nat.le_of_ble_eq_true rfl, Nat.le_of_ble_eq_true rfl⟩ (c_recv X hW 1 3 (by decide) rfl rfl) (As := [.int 2]) (rest := []) rfl rfl hl.1 (Nat.le_of_ble_eq_true rfl) d64_23 ⟨room_l0 hc1, room_l0 hs1⟩ (fun q hq => MA.mono hS.1 hq) (fun v H1 locs1 hv hz1 hz2 hSq8 => ?_)
  have hPq := hW.1
  obtain ⟨rfl, hW⟩ := hv
  have hS := hSq8
  have hSz := hS.1
  refine lv_istore_n (pc := 26) (lv' := [(3, .int q8.1), (2, .int q7.1), (1, .int q6.1), (0, .ref (ad 5))]) hx hb d64_26 rfl hl (by decide) rfl (fun ls hl => ?_)
  refine lv_iload_n (pc := 27) hx hb d64_27 rfl (lv_at hl 2 rfl) ?_
  refine lv_if_lt (pc := 28) (tgt := 52) hx hb d64_28 (by decide) (fun c28 => ?_) (fun c28 => ?_)
  · have h := jb_t c28 h
    exact kc52   q8.2 _ _ _ _ _ _ hW hS (lv_sub hl [] rfl) her hc1 hs1 h
  · have h := jb_f c28 h
    refine lv_iload_n (pc := 31) hx hb d64_31 rfl (lv_at hl 2 rfl) ?_
    refine lv_sipush (pc := 32) (v := 9999) hx hb d64_32 (by decide) ?_
    refine lv_icmp_gt (pc := 35) (tgt := 52) hx hb d64_35 (by decide) (fun c35 => ?_) (fun c35 => ?_)
    · have h := jb_t c35 h
      exact kc52   q8.2 _ _ _ _ _ _ hW hS (lv_sub hl [] rfl) her hc1 hs1 h
    · have h := jb_f c35 h
      refine lv_iload_n (pc := 38) hx hb d64_38 rfl (lv_at hl 1 rfl) ?_
      obtain ⟨q9, hq9, h⟩ := jc_some h
      refine k_callS (pc := 39) (n := 1) X hS (c_da_isFar l ρ _ P q7.1 q9 hW.2.2.1 hW.2.1  hq9) wd1193 wd1191 wd1192 wd9 (by decide) ⟨rfl, rfl, Nat.le_of_ble_eq_true rfl, Nat.le_of_ble_eq_true rfl⟩ (As := [.int q7.1]) (rest := []) rfl rfl hl.1 (Nat.le_of_ble_eq_true rfl) d64_39 ⟨room_l0 hc1, room_l0 hs1⟩ (fun q hq => False.elim hq) (fun v H1 locs1 hv _ _ hSq9 => ?_)
      obtain ⟨rfl, rfl⟩ := hv
      have hS := hSq9
      have hSz := hS.1
      refine lv_if_ne (pc := 42) (tgt := 52) hx hb d64_42 (by decide) (fun c42 => ?_) (fun c42 => ?_)
      · have h := jb_f c42 h
        exact kc52   q8.2 _ _ _ _ _ _ hW hS (lv_sub hl [] rfl) her hc1 hs1 h
      · have h := jb_t c42 h
        refine lv_iload_n (pc := 45) hx hb d64_45 rfl (lv_at hl 0 rfl) ?_
        obtain ⟨q10, hq10, h⟩ := jc_some h
        refine k_callS (pc := 46) (n := 1) X hS (c_da_isFar l ρ _ P q8.1 q10 hW.2.2.1 hW.2.1  hq10) wd1193 wd1191 wd1192 wd9 (by decide) ⟨rfl, rfl, Nat.le_of_ble_eq_true rfl, Nat.le_of_ble_eq_true rfl⟩ (As := [.int q8.1]) (rest := []) rfl rfl hl.1 (Nat.le_of_ble_eq_true rfl) d64_46 ⟨room_l0 hc1, room_l0 hs1⟩ (fun q hq => False.elim hq) (fun v H1 locs1 hv _ _ hSq10 => ?_)
        obtain ⟨rfl, rfl⟩ := hv
        have hS := hSq10
        have hSz := hS.1
        refine lv_if_eq (pc := 49) (tgt := 58) hx hb d64_49 (by decide) (fun c49 => ?_) (fun c49 => ?_)
        · have h := jb_t c49 h
          refine lv_iload_n (pc := 58) hx hb d64_58 rfl (lv_at hl 2 rfl) ?_
          refine lv_sipush (pc := 59) (v := 1900) hx hb d64_59 (by decide) ?_
          refine lv_icmp_ge (pc := 62) (tgt := 73) hx hb d64_62 (by decide) (fun c62 => ?_) (fun c62 => ?_)
          · have h := jb_t c62 h
            refine lv_iload_n (pc := 73) hx hb d64_73 rfl (lv_at hl 2 rfl) ?_
            exact kc74   q8.2 q7.1 q8.1 q6.1 _ _ _ _ _ _ hW hS (lv_sub hl [1, 0] rfl) her hc1 hs1 h
          · have h := jb_f c62 h
            refine lv_iload_n (pc := 65) hx hb d64_65 rfl (lv_at hl 2 rfl) ?_
            refine lv_sipush (pc := 66) (v := 1900) hx hb d64_66 (by decide) ?_
            refine lv_iadd (pc := 69) hx hb d64_69 ?_
            refine lv_goto (pc := 70) (tgt := 74) hx hb d64_70 (by decide) ?_
            exact kc74   q8.2 q7.1 q8.1 (q6.1 + 1900) _ _ _ _ _ _ hW hS (lv_sub hl [1, 0] rfl) her hc1 hs1 h
        · have h := jb_f c49 h
          exact kc52   q8.2 _ _ _ _ _ _ hW hS (lv_sub hl [] rfl) her hc1 hs1 h
def f_da_days (st : CS) : Option ((VV × CS) × Nat × Nat) := jc (f_ar_day st 0) (fun q1 => jc (f_ar_day q1.2 1) (fun q2 => jd (f_vl_ofNumber (FP.i2d (q1.1 - q2.1))) (fun q3 => some ((q3, q2.2), 0, 0))))
set_option maxHeartbeats 4000000 in
set_option maxRecDepth 100000 in
theorem c_da_days (l : Launch) (ρ : RH) (ad : Nat → Nat) (H : Heap) (P : Nat → Prop) (st : CS) (res : (VV × CS) × Nat × Nat) (hW : CW ρ P ad st H) (h : f_da_days st = some res) : Met l y66 (wsOf y66 b66 3 (some (.object "WordFunctions$Value"))) ({ frames := 16, cells := res.2.1, slots := res.2.2, locals := 696 } : Room) (va_Pc [.ref (ad 5)] (KP ρ H)) (mQ (fun v H1 => ∃ x : Nat, v = some (.ref x) ∧ isV ρ P H1 x res.1.1 ∧ CW ρ P ad res.1.2 H1) (MA wC ad H.size)) res.2.1 res.2.2 (MA wC ad H.size) := by
  refine m_ofW (own := "WordFunctions$Dates") (plainFor_of_name rfl) rfl (Nat.le_of_ble_eq_true rfl) fun p e s m args below meth c ls hx hb hr hlk _ X hs hl => ?_
  subst hs
  have hS : va_S (MA wC ad s.heap.size) s.heap s.heap [] := va_S.rf
  have hSz := hS.1
  have hAz : ∀ q, s.heap.size ≤ q → (MA wC ad s.heap.size) q := fun q hq => Or.inr hq
  have hAp : ∀ i, i < 46 → (MA wC ad s.heap.size) (ad i) := fun i hi => MA.in hi
  have hPp : ∀ i, i < 46 → P (ad i) := hW.1
  have hl : lv_has ls 3 [(0, .ref (ad 5))] := hl
  have her : res.1 = res.1 := rfl
  have hc1 : 0 + res.2.1 ≤ res.2.1 := Nat.le_of_eq (Nat.zero_add _)
  have hs1 : 0 + res.2.2 ≤ res.2.2 := Nat.le_of_eq (Nat.zero_add _)
  unfold f_da_days at h
  refine lv_aload_n (pc := 0) hx hb d66_0 rfl (lv_at hl 0 rfl) ?_
  refine c_getK (pc := 1) X hW 5 0 7 1 (C := "WordFunctions$Dates") (T := T7) (N := 3) (by decide) rfl rfl rfl rfl tin7 rfl wd222 rfl rfl d66_1 ?_
  refine lv_iconst (pc := 4) (v := 0) hx hb d66_4 (by decide) ?_
  obtain ⟨q1, hq1, h⟩ := jc_some h
  refine k_callV (pc := 5) (n := 1) X hS (c_ar_day l ρ ad _ P st 0 q1 hW  hq1) wd1232 wd1229 wd1230 wd1231 wd3 (by decide) ⟨rfl, rfl, Nat.le_of_ble_eq_true rfl, Nat.le_of_ble_eq_true rfl⟩ (c_recv X hW 1 3 (by decide) rfl rfl) (As := [.int 0]) (rest := []) rfl rfl hl.1 (Nat.le_of_ble_eq_true rfl) d66_5 ⟨room_l0 hc1, room_l0 hs1⟩ (fun q hq => MA.mono hS.1 hq) (fun v H1 locs1 hv hz1 hz2 hSq1 => ?_)
  have hPq := hW.1
  obtain ⟨rfl, hW⟩ := hv
  have hS := hSq1
  have hSz := hS.1
  refine lv_istore_n (pc := 8) (lv' := [(1, .int q1.1), (0, .ref (ad 5))]) hx hb d66_8 rfl hl (by decide) rfl (fun ls hl => ?_)
  refine lv_aload_n (pc := 9) hx hb d66_9 rfl (lv_at hl 1 rfl) ?_
  refine c_getK (pc := 10) X hW 5 0 7 1 (C := "WordFunctions$Dates") (T := T7) (N := 3) (by decide) rfl rfl rfl rfl tin7 rfl wd222 rfl rfl d66_10 ?_
  refine lv_iconst (pc := 13) (v := 1) hx hb d66_13 (by decide) ?_
  obtain ⟨q2, hq2, h⟩ := jc_some h
  refine k_callV (pc := 14) (n := 1) X hS (c_ar_day l ρ ad _ P q1.2 1 q2 hW  hq2) wd1232 wd1229 wd1230 wd1231 wd3 (by decide) ⟨rfl, rfl, Nat.le_of_ble_eq_true rfl, Nat.le_of_ble_eq_true rfl⟩ (c_recv X hW 1 3 (by decide) rfl rfl) (As := [.int 1]) (rest := []) rfl rfl hl.1 (Nat.le_of_ble_eq_true rfl) d66_14 ⟨room_l0 hc1, room_l0 hs1⟩ (fun q hq => MA.mono hS.1 hq) (fun v H1 locs1 hv hz1 hz2 hSq2 => ?_)
  have hPq := hW.1
  obtain ⟨rfl, hW⟩ := hv
  have hS := hSq2
  have hSz := hS.1
  refine lv_istore_n (pc := 17) (lv' := [(2, .int q2.1), (1, .int q1.1), (0, .ref (ad 5))]) hx hb d66_17 rfl hl (by decide) rfl (fun ls hl => ?_)
  refine lv_iload_n (pc := 18) hx hb d66_18 rfl (lv_at hl 1 rfl) ?_
  refine lv_iload_n (pc := 19) hx hb d66_19 rfl (lv_at hl 0 rfl) ?_
  refine lv_isub (pc := 20) hx hb d66_20 ?_
  refine lv_i2d (pc := 21) hx hb d66_21 ?_
  obtain ⟨q3, rq3, hq3, h, herq3, hccq3, hssq3⟩ := jd_some h
  refine k_callS (pc := 22) (n := 1) X hS (c_vl_ofNumber l ρ _ P (FP.i2d (q1.1 - q2.1)) q3 hW.2.2.1 hW.2.1  hq3) wd642 wd1219 wd641 wd4 (by decide) ⟨rfl, rfl, Nat.le_of_ble_eq_true rfl, Nat.le_of_ble_eq_true rfl⟩ (As := [.double (FP.i2d (q1.1 - q2.1))]) (rest := []) rfl rfl hl.1 (Nat.le_of_ble_eq_true rfl) d66_22 ⟨room_le hccq3 hc1, room_le hssq3 hs1⟩ (fun q hq => hAz q (Nat.le_trans hS.1 hq)) (fun v H1 locs1 hv hz1 hz2 hSq3 => ?_)
  obtain ⟨u4, rfl, fu4⟩ := hv
  have hk : kp no _ H1 := kp_call hz1 hz2 (fun q hq z => absurd hq (Nat.not_lt.mpr z))
  have hW := hW.keep hk no_hz (fun _ _ z => z)
  have hS := hSq3
  have hSz := hS.1
  have her := her.trans herq3
  have hc1 := room_st hccq3 hc1
  have hs1 := room_st hssq3 hs1
  have her : res.1 = (q3.1, q2.2) := her.trans (congrArg Prod.fst (Option.some.inj h)).symm
  exact m_aret (pc := 25) hx hb hr (Or.inl ⟨_, rfl⟩) hlk hS ⟨u4, rfl, by rw [her]; exact fu4, by rw [her]; exact hW⟩ (Nat.le_trans (Nat.le_add_right _ _) hc1) (Nat.le_trans (Nat.le_add_right _ _) hs1) d66_25
