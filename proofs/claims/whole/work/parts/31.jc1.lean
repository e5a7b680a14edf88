abbrev b22 : ByteArray := prog_2_method_3_code
theorem d22_0 : decode b22 0 = .ok ((.aload_n 0), 1) := by decide +kernel
theorem d22_1 : decode b22 1 = .ok ((.iconst 1), 1) := by decide +kernel
theorem d22_2 : decode b22 2 = .ok ((.putfield 17), 3) := by decide +kernel
theorem d22_5 : decode b22 5 = .ok ((.aload_n 0), 1) := by decide +kernel
theorem d22_6 : decode b22 6 = .ok ((.iconst 1), 1) := by decide +kernel
theorem d22_7 : decode b22 7 = .ok ((.putfield 21), 3) := by decide +kernel
theorem d22_10 : decode b22 10 = .ok ((.aload_n 0), 1) := by decide +kernel
theorem d22_11 : decode b22 11 = .ok ((.getfield 11), 3) := by decide +kernel
theorem d22_14 : decode b22 14 = .ok ((.iconst 0), 1) := by decide +kernel
theorem d22_15 : decode b22 15 = .ok ((.aload_n 1), 1) := by decide +kernel
theorem d22_16 : decode b22 16 = .ok (.aastore, 1) := by decide +kernel
theorem d22_17 : decode b22 17 = .ok ((.aload_n 0), 1) := by decide +kernel
theorem d22_18 : decode b22 18 = .ok ((.aload_n 1), 1) := by decide +kernel
theorem d22_19 : decode b22 19 = .ok ((.putfield 28), 3) := by decide +kernel
theorem d22_22 : decode b22 22 = .ok (.return_, 1) := by decide +kernel
abbrev b32 : ByteArray := prog_3_method_10_code
theorem d32_0 : decode b32 0 = .ok ((.iconst 1), 1) := by decide +kernel
theorem d32_1 : decode b32 1 = .ok ((.aload_n 0), 1) := by decide +kernel
theorem d32_2 : decode b32 2 = .ok ((.iload_n 1), 1) := by decide +kernel
theorem d32_3 : decode b32 3 = .ok ((.invokevirtual 62), 3) := by decide +kernel
theorem d32_6 : decode b32 6 = .ok ((.getfield 52), 3) := by decide +kernel
theorem d32_9 : decode b32 9 = .ok ((.invokestatic 76), 3) := by decide +kernel
theorem d32_12 : decode b32 12 = .ok (.ireturn, 1) := by decide +kernel
abbrev b39 : ByteArray := prog_3_method_12_code
theorem d39_0 : decode b39 0 = .ok ((.aload_n 0), 1) := by decide +kernel
theorem d39_1 : decode b39 1 = .ok ((.iload_n 1), 1) := by decide +kernel
theorem d39_2 : decode b39 2 = .ok ((.invokevirtual 62), 3) := by decide +kernel
theorem d39_5 : decode b39 5 = .ok ((.astore_n 3), 1) := by decide +kernel
theorem d39_6 : decode b39 6 = .ok ((.iload_n 2), 1) := by decide +kernel
theorem d39_7 : decode b39 7 = .ok ((.ifCond .lt 30), 3) := by decide +kernel
theorem d39_10 : decode b39 10 = .ok ((.iload_n 2), 1) := by decide +kernel
theorem d39_11 : decode b39 11 = .ok ((.aload_n 3), 1) := by decide +kernel
theorem d39_12 : decode b39 12 = .ok ((.getfield 49), 3) := by decide +kernel
theorem d39_15 : decode b39 15 = .ok ((.aload_n 3), 1) := by decide +kernel
theorem d39_16 : decode b39 16 = .ok ((.getfield 52), 3) := by decide +kernel
theorem d39_19 : decode b39 19 = .ok (.imul, 1) := by decide +kernel
theorem d39_20 : decode b39 20 = .ok ((.if_icmp .ge 17), 3) := by decide +kernel
theorem d39_23 : decode b39 23 = .ok ((.aload_n 3), 1) := by decide +kernel
theorem d39_24 : decode b39 24 = .ok ((.getfield 55), 3) := by decide +kernel
theorem d39_27 : decode b39 27 = .ok ((.iload_n 2), 1) := by decide +kernel
theorem d39_28 : decode b39 28 = .ok (.iadd, 1) := by decide +kernel
theorem d39_29 : decode b39 29 = .ok ((.aload_n 0), 1) := by decide +kernel
theorem d39_30 : decode b39 30 = .ok ((.getfield 28), 3) := by decide +kernel
theorem d39_33 : decode b39 33 = .ok (.arraylength, 1) := by decide +kernel
theorem d39_34 : decode b39 34 = .ok ((.if_icmp .lt 8), 3) := by decide +kernel
theorem d39_37 : decode b39 37 = .ok ((.aload_n 0), 1) := by decide +kernel
theorem d39_38 : decode b39 38 = .ok ((.getfield 15), 3) := by decide +kernel
theorem d39_41 : decode b39 41 = .ok (.areturn, 1) := by decide +kernel
theorem d39_42 : decode b39 42 = .ok ((.aload_n 0), 1) := by decide +kernel
theorem d39_43 : decode b39 43 = .ok ((.getfield 28), 3) := by decide +kernel
theorem d39_46 : decode b39 46 = .ok ((.aload_n 3), 1) := by decide +kernel
theorem d39_47 : decode b39 47 = .ok ((.getfield 55), 3) := by decide +kernel
theorem d39_50 : decode b39 50 = .ok ((.iload_n 2), 1) := by decide +kernel
theorem d39_51 : decode b39 51 = .ok (.iadd, 1) := by decide +kernel
theorem d39_52 : decode b39 52 = .ok (.aaload, 1) := by decide +kernel
theorem d39_53 : decode b39 53 = .ok (.areturn, 1) := by decide +kernel
abbrev b30 : ByteArray := prog_3_method_13_code
theorem d30_0 : decode b30 0 = .ok ((.aload_n 0), 1) := by decide +kernel
theorem d30_1 : decode b30 1 = .ok ((.iload_n 1), 1) := by decide +kernel
theorem d30_2 : decode b30 2 = .ok ((.iload_n 2), 1) := by decide +kernel
theorem d30_3 : decode b30 3 = .ok ((.aload_n 0), 1) := by decide +kernel
theorem d30_4 : decode b30 4 = .ok ((.iload_n 1), 1) := by decide +kernel
theorem d30_5 : decode b30 5 = .ok ((.invokevirtual 85), 3) := by decide +kernel
theorem d30_8 : decode b30 8 = .ok (.imul, 1) := by decide +kernel
theorem d30_9 : decode b30 9 = .ok ((.iload_n 3), 1) := by decide +kernel
theorem d30_10 : decode b30 10 = .ok (.iadd, 1) := by decide +kernel
theorem d30_11 : decode b30 11 = .ok ((.invokevirtual 87), 3) := by decide +kernel
theorem d30_14 : decode b30 14 = .ok (.areturn, 1) := by decide +kernel
abbrev b25 : ByteArray := prog_2_method_6_code
theorem d25_0 : decode b25 0 = .ok ((.iload_n 1), 1) := by decide +kernel
theorem d25_1 : decode b25 1 = .ok ((.aload_n 0), 1) := by decide +kernel
theorem d25_2 : decode b25 2 = .ok ((.getfield 21), 3) := by decide +kernel
theorem d25_5 : decode b25 5 = .ok (.imul, 1) := by decide +kernel
theorem d25_6 : decode b25 6 = .ok ((.iload_n 2), 1) := by decide +kernel
theorem d25_7 : decode b25 7 = .ok (.iadd, 1) := by decide +kernel
theorem d25_8 : decode b25 8 = .ok ((.istore 4), 2) := by decide +kernel
theorem d25_10 : decode b25 10 = .ok ((.iload 4), 2) := by decide +kernel
theorem d25_12 : decode b25 12 = .ok ((.ifCond .lt 21), 3) := by decide +kernel
theorem d25_15 : decode b25 15 = .ok ((.iload 4), 2) := by decide +kernel
theorem d25_17 : decode b25 17 = .ok ((.aload_n 0), 1) := by decide +kernel
theorem d25_18 : decode b25 18 = .ok ((.getfield 11), 3) := by decide +kernel
theorem d25_21 : decode b25 21 = .ok (.arraylength, 1) := by decide +kernel
theorem d25_22 : decode b25 22 = .ok ((.if_icmp .ge 11), 3) := by decide +kernel
theorem d25_25 : decode b25 25 = .ok ((.aload_n 0), 1) := by decide +kernel
theorem d25_26 : decode b25 26 = .ok ((.getfield 11), 3) := by decide +kernel
theorem d25_29 : decode b25 29 = .ok ((.iload 4), 2) := by decide +kernel
theorem d25_31 : decode b25 31 = .ok ((.aload_n 3), 1) := by decide +kernel
theorem d25_32 : decode b25 32 = .ok (.aastore, 1) := by decide +kernel
theorem d25_33 : decode b25 33 = .ok (.return_, 1) := by decide +kernel
abbrev b23 : ByteArray := prog_2_method_4_code
theorem d23_0 : decode b23 0 = .ok ((.aload_n 0), 1) := by decide +kernel
theorem d23_1 : decode b23 1 = .ok ((.iload 4), 2) := by decide +kernel
theorem d23_3 : decode b23 3 = .ok ((.putfield 17), 3) := by decide +kernel
theorem d23_6 : decode b23 6 = .ok ((.aload_n 0), 1) := by decide +kernel
theorem d23_7 : decode b23 7 = .ok ((.iload 5), 2) := by decide +kernel
theorem d23_9 : decode b23 9 = .ok ((.putfield 21), 3) := by decide +kernel
theorem d23_12 : decode b23 12 = .ok ((.iconst 0), 1) := by decide +kernel
theorem d23_13 : decode b23 13 = .ok ((.istore 6), 2) := by decide +kernel
theorem d23_15 : decode b23 15 = .ok ((.iload 6), 2) := by decide +kernel
theorem d23_17 : decode b23 17 = .ok ((.iload 4), 2) := by decide +kernel
theorem d23_19 : decode b23 19 = .ok ((.if_icmp .ge 46), 3) := by decide +kernel
theorem d23_22 : decode b23 22 = .ok ((.iconst 0), 1) := by decide +kernel
theorem d23_23 : decode b23 23 = .ok ((.istore 7), 2) := by decide +kernel
theorem d23_25 : decode b23 25 = .ok ((.iload 7), 2) := by decide +kernel
theorem d23_27 : decode b23 27 = .ok ((.iload 5), 2) := by decide +kernel
theorem d23_29 : decode b23 29 = .ok ((.if_icmp .ge 30), 3) := by decide +kernel
theorem d23_32 : decode b23 32 = .ok ((.aload_n 0), 1) := by decide +kernel
theorem d23_33 : decode b23 33 = .ok ((.iload 6), 2) := by decide +kernel
theorem d23_35 : decode b23 35 = .ok ((.iload 7), 2) := by decide +kernel
theorem d23_37 : decode b23 37 = .ok ((.aload_n 1), 1) := by decide +kernel
theorem d23_38 : decode b23 38 = .ok ((.iconst 0), 1) := by decide +kernel
theorem d23_39 : decode b23 39 = .ok ((.iload_n 2), 1) := by decide +kernel
theorem d23_40 : decode b23 40 = .ok ((.iload 6), 2) := by decide +kernel
theorem d23_42 : decode b23 42 = .ok (.iadd, 1) := by decide +kernel
theorem d23_43 : decode b23 43 = .ok ((.iload_n 3), 1) := by decide +kernel
theorem d23_44 : decode b23 44 = .ok ((.iload 7), 2) := by decide +kernel
theorem d23_46 : decode b23 46 = .ok (.iadd, 1) := by decide +kernel
theorem d23_47 : decode b23 47 = .ok ((.invokevirtual 32), 3) := by decide +kernel
theorem d23_50 : decode b23 50 = .ok ((.invokevirtual 38), 3) := by decide +kernel
theorem d23_53 : decode b23 53 = .ok ((.iinc 7 1), 3) := by decide +kernel
theorem d23_56 : decode b23 56 = .ok ((.goto (-31)), 3) := by decide +kernel
theorem d23_59 : decode b23 59 = .ok ((.iinc 6 1), 3) := by decide +kernel
theorem d23_62 : decode b23 62 = .ok ((.goto (-47)), 3) := by decide +kernel
theorem d23_65 : decode b23 65 = .ok ((.aload_n 0), 1) := by decide +kernel
theorem d23_66 : decode b23 66 = .ok ((.aload_n 0), 1) := by decide +kernel
theorem d23_67 : decode b23 67 = .ok ((.getfield 11), 3) := by decide +kernel
theorem d23_70 : decode b23 70 = .ok ((.iconst 0), 1) := by decide +kernel
theorem d23_71 : decode b23 71 = .ok (.aaload, 1) := by decide +kernel
theorem d23_72 : decode b23 72 = .ok ((.putfield 28), 3) := by decide +kernel
theorem d23_75 : decode b23 75 = .ok (.return_, 1) := by decide +kernel
abbrev b24 : ByteArray := prog_2_method_2_code
theorem d24_0 : decode b24 0 = .ok ((.aload_n 0), 1) := by decide +kernel
theorem d24_1 : decode b24 1 = .ok ((.getfield 17), 3) := by decide +kernel
theorem d24_4 : decode b24 4 = .ok ((.iconst 1), 1) := by decide +kernel
theorem d24_5 : decode b24 5 = .ok ((.if_icmp .ne 15), 3) := by decide +kernel
theorem d24_8 : decode b24 8 = .ok ((.aload_n 0), 1) := by decide +kernel
theorem d24_9 : decode b24 9 = .ok ((.getfield 21), 3) := by decide +kernel
theorem d24_12 : decode b24 12 = .ok ((.iconst 1), 1) := by decide +kernel
theorem d24_13 : decode b24 13 = .ok ((.if_icmp .ne 7), 3) := by decide +kernel
theorem d24_16 : decode b24 16 = .ok ((.iconst 1), 1) := by decide +kernel
theorem d24_17 : decode b24 17 = .ok ((.goto 4), 3) := by decide +kernel
theorem d24_20 : decode b24 20 = .ok ((.iconst 0), 1) := by decide +kernel
theorem d24_21 : decode b24 21 = .ok (.ireturn, 1) := by decide +kernel
abbrev b41 : ByteArray := prog_3_method_9_code
theorem d41_0 : decode b41 0 = .ok ((.iconst 1), 1) := by decide +kernel
theorem d41_1 : decode b41 1 = .ok ((.aload_n 0), 1) := by decide +kernel
theorem d41_2 : decode b41 2 = .ok ((.iload_n 1), 1) := by decide +kernel
theorem d41_3 : decode b41 3 = .ok ((.invokevirtual 62), 3) := by decide +kernel
theorem d41_6 : decode b41 6 = .ok ((.getfield 49), 3) := by decide +kernel
theorem d41_9 : decode b41 9 = .ok ((.invokestatic 76), 3) := by decide +kernel
theorem d41_12 : decode b41 12 = .ok (.ireturn, 1) := by decide +kernel
abbrev b27 : ByteArray := prog_2_method_5_code
theorem d27_0 : decode b27 0 = .ok ((.aload_n 0), 1) := by decide +kernel
theorem d27_1 : decode b27 1 = .ok ((.aload_n 1), 1) := by decide +kernel
theorem d27_2 : decode b27 2 = .ok ((.iconst 0), 1) := by decide +kernel
theorem d27_3 : decode b27 3 = .ok ((.invokevirtual 42), 3) := by decide +kernel
theorem d27_6 : decode b27 6 = .ok ((.putfield 17), 3) := by decide +kernel
theorem d27_9 : decode b27 9 = .ok ((.aload_n 0), 1) := by decide +kernel
theorem d27_10 : decode b27 10 = .ok ((.aload_n 1), 1) := by decide +kernel
theorem d27_11 : decode b27 11 = .ok ((.iconst 0), 1) := by decide +kernel
theorem d27_12 : decode b27 12 = .ok ((.invokevirtual 45), 3) := by decide +kernel
theorem d27_15 : decode b27 15 = .ok ((.putfield 21), 3) := by decide +kernel
theorem d27_18 : decode b27 18 = .ok ((.iconst 0), 1) := by decide +kernel
theorem d27_19 : decode b27 19 = .ok ((.istore_n 2), 1) := by decide +kernel
theorem d27_20 : decode b27 20 = .ok ((.iload_n 2), 1) := by decide +kernel
theorem d27_21 : decode b27 21 = .ok ((.aload_n 0), 1) := by decide +kernel
theorem d27_22 : decode b27 22 = .ok ((.getfield 17), 3) := by decide +kernel
theorem d27_25 : decode b27 25 = .ok ((.if_icmp .ge 38), 3) := by decide +kernel
theorem d27_28 : decode b27 28 = .ok ((.iconst 0), 1) := by decide +kernel
theorem d27_29 : decode b27 29 = .ok ((.istore_n 3), 1) := by decide +kernel
theorem d27_30 : decode b27 30 = .ok ((.iload_n 3), 1) := by decide +kernel
theorem d27_31 : decode b27 31 = .ok ((.aload_n 0), 1) := by decide +kernel
theorem d27_32 : decode b27 32 = .ok ((.getfield 21), 3) := by decide +kernel
theorem d27_35 : decode b27 35 = .ok ((.if_icmp .ge 22), 3) := by decide +kernel
theorem d27_38 : decode b27 38 = .ok ((.aload_n 0), 1) := by decide +kernel
theorem d27_39 : decode b27 39 = .ok ((.iload_n 2), 1) := by decide +kernel
theorem d27_40 : decode b27 40 = .ok ((.iload_n 3), 1) := by decide +kernel
theorem d27_41 : decode b27 41 = .ok ((.aload_n 1), 1) := by decide +kernel
theorem d27_42 : decode b27 42 = .ok ((.iconst 0), 1) := by decide +kernel
theorem d27_43 : decode b27 43 = .ok ((.iload_n 3), 1) := by decide +kernel
theorem d27_44 : decode b27 44 = .ok ((.iload_n 2), 1) := by decide +kernel
theorem d27_45 : decode b27 45 = .ok ((.invokevirtual 32), 3) := by decide +kernel
theorem d27_48 : decode b27 48 = .ok ((.invokevirtual 38), 3) := by decide +kernel
theorem d27_51 : decode b27 51 = .ok ((.iinc 3 1), 3) := by decide +kernel
theorem d27_54 : decode b27 54 = .ok ((.goto (-24)), 3) := by decide +kernel
theorem d27_57 : decode b27 57 = .ok ((.iinc 2 1), 3) := by decide +kernel
theorem d27_60 : decode b27 60 = .ok ((.goto (-40)), 3) := by decide +kernel
theorem d27_63 : decode b27 63 = .ok ((.aload_n 0), 1) := by decide +kernel
theorem d27_64 : decode b27 64 = .ok ((.aload_n 0), 1) := by decide +kernel
theorem d27_65 : decode b27 65 = .ok ((.getfield 11), 3) := by decide +kernel
theorem d27_68 : decode b27 68 = .ok ((.iconst 0), 1) := by decide +kernel
theorem d27_69 : decode b27 69 = .ok (.aaload, 1) := by decide +kernel
theorem d27_70 : decode b27 70 = .ok ((.putfield 28), 3) := by decide +kernel
theorem d27_73 : decode b27 73 = .ok (.return_, 1) := by decide +kernel
abbrev b29 : ByteArray := prog_3_method_2_code
theorem d29_0 : decode b29 0 = .ok ((.iload_n 1), 1) := by decide +kernel
theorem d29_1 : decode b29 1 = .ok (.i2l, 1) := by decide +kernel
theorem d29_2 : decode b29 2 = .ok ((.iload_n 2), 1) := by decide +kernel
theorem d29_3 : decode b29 3 = .ok (.i2l, 1) := by decide +kernel
theorem d29_4 : decode b29 4 = .ok (.lmul, 1) := by decide +kernel
theorem d29_5 : decode b29 5 = .ok ((.lstore_n 3), 1) := by decide +kernel
theorem d29_6 : decode b29 6 = .ok ((.aload_n 0), 1) := by decide +kernel
theorem d29_7 : decode b29 7 = .ok ((.getfield 43), 3) := by decide +kernel
theorem d29_10 : decode b29 10 = .ok ((.aload_n 0), 1) := by decide +kernel
theorem d29_11 : decode b29 11 = .ok ((.getfield 32), 3) := by decide +kernel
theorem d29_14 : decode b29 14 = .ok (.arraylength, 1) := by decide +kernel
theorem d29_15 : decode b29 15 = .ok ((.if_icmp .ge 26), 3) := by decide +kernel
theorem d29_18 : decode b29 18 = .ok ((.lload_n 3), 1) := by decide +kernel
theorem d29_19 : decode b29 19 = .ok ((.lconst 0), 1) := by decide +kernel
theorem d29_20 : decode b29 20 = .ok (.lcmp, 1) := by decide +kernel
theorem d29_21 : decode b29 21 = .ok ((.ifCond .lt 20), 3) := by decide +kernel
theorem d29_24 : decode b29 24 = .ok ((.aload_n 0), 1) := by decide +kernel
theorem d29_25 : decode b29 25 = .ok ((.getfield 46), 3) := by decide +kernel
theorem d29_28 : decode b29 28 = .ok (.i2l, 1) := by decide +kernel
theorem d29_29 : decode b29 29 = .ok ((.lload_n 3), 1) := by decide +kernel
theorem d29_30 : decode b29 30 = .ok (.ladd, 1) := by decide +kernel
theorem d29_31 : decode b29 31 = .ok ((.aload_n 0), 1) := by decide +kernel
theorem d29_32 : decode b29 32 = .ok ((.getfield 28), 3) := by decide +kernel
theorem d29_35 : decode b29 35 = .ok (.arraylength, 1) := by decide +kernel
theorem d29_36 : decode b29 36 = .ok (.i2l, 1) := by decide +kernel
theorem d29_37 : decode b29 37 = .ok (.lcmp, 1) := by decide +kernel
theorem d29_38 : decode b29 38 = .ok ((.ifCond .le 5), 3) := by decide +kernel
theorem d29_41 : decode b29 41 = .ok ((.iconst 0), 1) := by decide +kernel
theorem d29_42 : decode b29 42 = .ok (.ireturn, 1) := by decide +kernel
theorem d29_43 : decode b29 43 = .ok ((.aload_n 0), 1) := by decide +kernel
theorem d29_44 : decode b29 44 = .ok ((.getfield 32), 3) := by decide +kernel
theorem d29_47 : decode b29 47 = .ok ((.aload_n 0), 1) := by decide +kernel
theorem d29_48 : decode b29 48 = .ok ((.getfield 43), 3) := by decide +kernel
theorem d29_51 : decode b29 51 = .ok (.aaload, 1) := by decide +kernel
theorem d29_52 : decode b29 52 = .ok ((.astore 5), 2) := by decide +kernel
theorem d29_54 : decode b29 54 = .ok ((.aload 5), 2) := by decide +kernel
theorem d29_56 : decode b29 56 = .ok ((.iload_n 1), 1) := by decide +kernel
theorem d29_57 : decode b29 57 = .ok ((.putfield 49), 3) := by decide +kernel
theorem d29_60 : decode b29 60 = .ok ((.aload 5), 2) := by decide +kernel
theorem d29_62 : decode b29 62 = .ok ((.iload_n 2), 1) := by decide +kernel
theorem d29_63 : decode b29 63 = .ok ((.putfield 52), 3) := by decide +kernel
theorem d29_66 : decode b29 66 = .ok ((.aload 5), 2) := by decide +kernel
theorem d29_68 : decode b29 68 = .ok ((.aload_n 0), 1) := by decide +kernel
theorem d29_69 : decode b29 69 = .ok ((.getfield 46), 3) := by decide +kernel
theorem d29_72 : decode b29 72 = .ok ((.putfield 55), 3) := by decide +kernel
theorem d29_75 : decode b29 75 = .ok ((.aload 5), 2) := by decide +kernel
theorem d29_77 : decode b29 77 = .ok ((.iconst 0), 1) := by decide +kernel
theorem d29_78 : decode b29 78 = .ok ((.putfield 58), 3) := by decide +kernel
theorem d29_81 : decode b29 81 = .ok ((.iconst 0), 1) := by decide +kernel
theorem d29_82 : decode b29 82 = .ok ((.istore 6), 2) := by decide +kernel
theorem d29_84 : decode b29 84 = .ok ((.iload 6), 2) := by decide +kernel
theorem d29_86 : decode b29 86 = .ok (.i2l, 1) := by decide +kernel
theorem d29_87 : decode b29 87 = .ok ((.lload_n 3), 1) := by decide +kernel
theorem d29_88 : decode b29 88 = .ok (.lcmp, 1) := by decide +kernel
theorem d29_89 : decode b29 89 = .ok ((.ifCond .ge 32), 3) := by decide +kernel
theorem d29_92 : decode b29 92 = .ok ((.aload_n 0), 1) := by decide +kernel
theorem d29_93 : decode b29 93 = .ok ((.getfield 28), 3) := by decide +kernel
theorem d29_96 : decode b29 96 = .ok ((.aload_n 0), 1) := by decide +kernel
theorem d29_97 : decode b29 97 = .ok ((.getfield 46), 3) := by decide +kernel
theorem d29_100 : decode b29 100 = .ok ((.aload_n 0), 1) := by decide +kernel
theorem d29_101 : decode b29 101 = .ok ((.getfield 15), 3) := by decide +kernel
theorem d29_104 : decode b29 104 = .ok (.aastore, 1) := by decide +kernel
theorem d29_105 : decode b29 105 = .ok ((.aload_n 0), 1) := by decide +kernel
theorem d29_106 : decode b29 106 = .ok (.dup, 1) := by decide +kernel
theorem d29_107 : decode b29 107 = .ok ((.getfield 46), 3) := by decide +kernel
theorem d29_110 : decode b29 110 = .ok ((.iconst 1), 1) := by decide +kernel
theorem d29_111 : decode b29 111 = .ok (.iadd, 1) := by decide +kernel
theorem d29_112 : decode b29 112 = .ok ((.putfield 46), 3) := by decide +kernel
theorem d29_115 : decode b29 115 = .ok ((.iinc 6 1), 3) := by decide +kernel
theorem d29_118 : decode b29 118 = .ok ((.goto (-34)), 3) := by decide +kernel
theorem d29_121 : decode b29 121 = .ok ((.aload_n 0), 1) := by decide +kernel
theorem d29_122 : decode b29 122 = .ok (.dup, 1) := by decide +kernel
theorem d29_123 : decode b29 123 = .ok ((.getfield 43), 3) := by decide +kernel
theorem d29_126 : decode b29 126 = .ok ((.iconst 1), 1) := by decide +kernel
theorem d29_127 : decode b29 127 = .ok (.iadd, 1) := by decide +kernel
theorem d29_128 : decode b29 128 = .ok ((.putfield 43), 3) := by decide +kernel
theorem d29_131 : decode b29 131 = .ok ((.iconst 1), 1) := by decide +kernel
theorem d29_132 : decode b29 132 = .ok (.ireturn, 1) := by decide +kernel
abbrev b31 : ByteArray := prog_3_method_3_code
theorem d31_0 : decode b31 0 = .ok ((.aload_n 0), 1) := by decide +kernel
theorem d31_1 : decode b31 1 = .ok ((.iconst 0), 1) := by decide +kernel
theorem d31_2 : decode b31 2 = .ok ((.putfield 43), 3) := by decide +kernel
theorem d31_5 : decode b31 5 = .ok ((.aload_n 0), 1) := by decide +kernel
theorem d31_6 : decode b31 6 = .ok ((.iconst 0), 1) := by decide +kernel
theorem d31_7 : decode b31 7 = .ok ((.putfield 46), 3) := by decide +kernel
theorem d31_10 : decode b31 10 = .ok (.return_, 1) := by decide +kernel
abbrev b34 : ByteArray := prog_3_method_14_code
theorem d34_0 : decode b34 0 = .ok ((.aload_n 0), 1) := by decide +kernel
theorem d34_1 : decode b34 1 = .ok ((.getfield 91), 3) := by decide +kernel
theorem d34_4 : decode b34 4 = .ok ((.ifCond .ne 8), 3) := by decide +kernel
theorem d34_7 : decode b34 7 = .ok ((.aload_n 0), 1) := by decide +kernel
theorem d34_8 : decode b34 8 = .ok ((.iload_n 1), 1) := by decide +kernel
theorem d34_9 : decode b34 9 = .ok ((.putfield 91), 3) := by decide +kernel
theorem d34_12 : decode b34 12 = .ok (.return_, 1) := by decide +kernel
abbrev b42 : ByteArray := prog_3_method_16_code
theorem d42_0 : decode b42 0 = .ok ((.aload_n 1), 1) := by decide +kernel
theorem d42_1 : decode b42 1 = .ok ((.invokevirtual 113), 3) := by decide +kernel
theorem d42_4 : decode b42 4 = .ok ((.ifCond .ne 17), 3) := by decide +kernel
theorem d42_7 : decode b42 7 = .ok ((.aload_n 1), 1) := by decide +kernel
theorem d42_8 : decode b42 8 = .ok ((.iconst 0), 1) := by decide +kernel
theorem d42_9 : decode b42 9 = .ok ((.invokevirtual 119), 3) := by decide +kernel
theorem d42_12 : decode b42 12 = .ok ((.bipush 45), 2) := by decide +kernel
theorem d42_14 : decode b42 14 = .ok ((.if_icmp .ne 7), 3) := by decide +kernel
theorem d42_17 : decode b42 17 = .ok ((.iconst 1), 1) := by decide +kernel
theorem d42_18 : decode b42 18 = .ok ((.goto 4), 3) := by decide +kernel
theorem d42_21 : decode b42 21 = .ok ((.iconst 0), 1) := by decide +kernel
theorem d42_22 : decode b42 22 = .ok ((.istore_n 2), 1) := by decide +kernel
theorem d42_23 : decode b42 23 = .ok ((.aload_n 1), 1) := by decide +kernel
theorem d42_24 : decode b42 24 = .ok ((.bipush 46), 2) := by decide +kernel
theorem d42_26 : decode b42 26 = .ok ((.invokevirtual 123), 3) := by decide +kernel
theorem d42_29 : decode b42 29 = .ok ((.istore_n 3), 1) := by decide +kernel
theorem d42_30 : decode b42 30 = .ok ((.iload_n 3), 1) := by decide +kernel
theorem d42_31 : decode b42 31 = .ok ((.ifCond .ge 10), 3) := by decide +kernel
theorem d42_34 : decode b42 34 = .ok ((.aload_n 1), 1) := by decide +kernel
theorem d42_35 : decode b42 35 = .ok ((.invokevirtual 126), 3) := by decide +kernel
theorem d42_38 : decode b42 38 = .ok ((.goto 4), 3) := by decide +kernel
theorem d42_41 : decode b42 41 = .ok ((.iload_n 3), 1) := by decide +kernel
theorem d42_42 : decode b42 42 = .ok ((.iload_n 2), 1) := by decide +kernel
theorem d42_43 : decode b42 43 = .ok (.isub, 1) := by decide +kernel
theorem d42_44 : decode b42 44 = .ok ((.istore 4), 2) := by decide +kernel
theorem d42_46 : decode b42 46 = .ok ((.iload_n 3), 1) := by decide +kernel
theorem d42_47 : decode b42 47 = .ok ((.ifCond .ge 7), 3) := by decide +kernel
theorem d42_50 : decode b42 50 = .ok ((.iconst 0), 1) := by decide +kernel
theorem d42_51 : decode b42 51 = .ok ((.goto 11), 3) := by decide +kernel
theorem d42_54 : decode b42 54 = .ok ((.aload_n 1), 1) := by decide +kernel
theorem d42_55 : decode b42 55 = .ok ((.invokevirtual 126), 3) := by decide +kernel
theorem d42_58 : decode b42 58 = .ok ((.iload_n 3), 1) := by decide +kernel
theorem d42_59 : decode b42 59 = .ok (.isub, 1) := by decide +kernel
theorem d42_60 : decode b42 60 = .ok ((.iconst 1), 1) := by decide +kernel
theorem d42_61 : decode b42 61 = .ok (.isub, 1) := by decide +kernel
theorem d42_62 : decode b42 62 = .ok ((.istore 5), 2) := by decide +kernel
theorem d42_64 : decode b42 64 = .ok ((.iload 4), 2) := by decide +kernel
theorem d42_66 : decode b42 66 = .ok ((.iconst 1), 1) := by decide +kernel
theorem d42_67 : decode b42 67 = .ok ((.if_icmp .lt 30), 3) := by decide +kernel
theorem d42_70 : decode b42 70 = .ok ((.iload 4), 2) := by decide +kernel
theorem d42_72 : decode b42 72 = .ok ((.bipush 9), 2) := by decide +kernel
theorem d42_74 : decode b42 74 = .ok ((.if_icmp .gt 23), 3) := by decide +kernel
theorem d42_77 : decode b42 77 = .ok ((.iload 5), 2) := by decide +kernel
theorem d42_79 : decode b42 79 = .ok ((.iconst 3), 1) := by decide +kernel
theorem d42_80 : decode b42 80 = .ok ((.if_icmp .gt 17), 3) := by decide +kernel
theorem d42_83 : decode b42 83 = .ok ((.iload_n 3), 1) := by decide +kernel
theorem d42_84 : decode b42 84 = .ok ((.ifCond .lt 9), 3) := by decide +kernel
theorem d42_87 : decode b42 87 = .ok ((.iload 5), 2) := by decide +kernel
theorem d42_89 : decode b42 89 = .ok ((.iconst 1), 1) := by decide +kernel
theorem d42_90 : decode b42 90 = .ok ((.if_icmp .lt 7), 3) := by decide +kernel
theorem d42_93 : decode b42 93 = .ok ((.iconst 1), 1) := by decide +kernel
theorem d42_94 : decode b42 94 = .ok ((.goto 4), 3) := by decide +kernel
theorem d42_97 : decode b42 97 = .ok ((.iconst 0), 1) := by decide +kernel
theorem d42_98 : decode b42 98 = .ok ((.istore 6), 2) := by decide +kernel
theorem d42_100 : decode b42 100 = .ok ((.lconst 0), 1) := by decide +kernel
theorem d42_101 : decode b42 101 = .ok ((.lstore 7), 2) := by decide +kernel
theorem d42_103 : decode b42 103 = .ok ((.iload_n 2), 1) := by decide +kernel
theorem d42_104 : decode b42 104 = .ok ((.istore 9), 2) := by decide +kernel
theorem d42_106 : decode b42 106 = .ok ((.iload 9), 2) := by decide +kernel
theorem d42_108 : decode b42 108 = .ok ((.aload_n 1), 1) := by decide +kernel
theorem d42_109 : decode b42 109 = .ok ((.invokevirtual 126), 3) := by decide +kernel
theorem d42_112 : decode b42 112 = .ok ((.if_icmp .ge 67), 3) := by decide +kernel
theorem d42_115 : decode b42 115 = .ok ((.iload 6), 2) := by decide +kernel
theorem d42_117 : decode b42 117 = .ok ((.ifCond .eq 62), 3) := by decide +kernel
theorem d42_120 : decode b42 120 = .ok ((.aload_n 1), 1) := by decide +kernel
theorem d42_121 : decode b42 121 = .ok ((.iload 9), 2) := by decide +kernel
theorem d42_123 : decode b42 123 = .ok ((.invokevirtual 119), 3) := by decide +kernel
theorem d42_126 : decode b42 126 = .ok ((.istore 10), 2) := by decide +kernel
theorem d42_128 : decode b42 128 = .ok ((.iload 10), 2) := by decide +kernel
theorem d42_130 : decode b42 130 = .ok ((.bipush 48), 2) := by decide +kernel
theorem d42_132 : decode b42 132 = .ok ((.if_icmp .lt 28), 3) := by decide +kernel
theorem d42_135 : decode b42 135 = .ok ((.iload 10), 2) := by decide +kernel
theorem d42_137 : decode b42 137 = .ok ((.bipush 57), 2) := by decide +kernel
theorem d42_139 : decode b42 139 = .ok ((.if_icmp .gt 21), 3) := by decide +kernel
theorem d42_142 : decode b42 142 = .ok ((.lload 7), 2) := by decide +kernel
theorem d42_144 : decode b42 144 = .ok ((.ldc2_w 130), 3) := by decide +kernel
theorem d42_147 : decode b42 147 = .ok (.lmul, 1) := by decide +kernel
theorem d42_148 : decode b42 148 = .ok ((.iload 10), 2) := by decide +kernel
theorem d42_150 : decode b42 150 = .ok ((.bipush 48), 2) := by decide +kernel
theorem d42_152 : decode b42 152 = .ok (.isub, 1) := by decide +kernel
theorem d42_153 : decode b42 153 = .ok (.i2l, 1) := by decide +kernel
theorem d42_154 : decode b42 154 = .ok (.ladd, 1) := by decide +kernel
theorem d42_155 : decode b42 155 = .ok ((.lstore 7), 2) := by decide +kernel
theorem d42_157 : decode b42 157 = .ok ((.goto 16), 3) := by decide +kernel
theorem d42_160 : decode b42 160 = .ok ((.iload 9), 2) := by decide +kernel
theorem d42_162 : decode b42 162 = .ok ((.iload_n 3), 1) := by decide +kernel
theorem d42_163 : decode b42 163 = .ok ((.if_icmp .ne 7), 3) := by decide +kernel
theorem d42_166 : decode b42 166 = .ok ((.iconst 1), 1) := by decide +kernel
theorem d42_167 : decode b42 167 = .ok ((.goto 4), 3) := by decide +kernel
theorem d42_170 : decode b42 170 = .ok ((.iconst 0), 1) := by decide +kernel
theorem d42_171 : decode b42 171 = .ok ((.istore 6), 2) := by decide +kernel
theorem d42_173 : decode b42 173 = .ok ((.iinc 9 1), 3) := by decide +kernel
theorem d42_176 : decode b42 176 = .ok ((.goto (-70)), 3) := by decide +kernel
theorem d42_179 : decode b42 179 = .ok ((.iload 6), 2) := by decide +kernel
theorem d42_181 : decode b42 181 = .ok ((.ifCond .ne 10), 3) := by decide +kernel
theorem d42_184 : decode b42 184 = .ok ((.aload_n 0), 1) := by decide +kernel
theorem d42_185 : decode b42 185 = .ok ((.iconst 3), 1) := by decide +kernel
theorem d42_186 : decode b42 186 = .ok ((.invokevirtual 101), 3) := by decide +kernel
theorem d42_189 : decode b42 189 = .ok ((.dconst 0), 1) := by decide +kernel
theorem d42_190 : decode b42 190 = .ok (.dreturn, 1) := by decide +kernel
theorem d42_191 : decode b42 191 = .ok ((.iload 5), 2) := by decide +kernel
theorem d42_193 : decode b42 193 = .ok ((.ifCond .ne 7), 3) := by decide +kernel
theorem d42_196 : decode b42 196 = .ok ((.dconst 1), 1) := by decide +kernel
theorem d42_197 : decode b42 197 = .ok ((.goto 30), 3) := by decide +kernel
theorem d42_200 : decode b42 200 = .ok ((.iload 5), 2) := by decide +kernel
theorem d42_202 : decode b42 202 = .ok ((.iconst 1), 1) := by decide +kernel
theorem d42_203 : decode b42 203 = .ok ((.if_icmp .ne 9), 3) := by decide +kernel
theorem d42_206 : decode b42 206 = .ok ((.ldc2_w 132), 3) := by decide +kernel
theorem d42_209 : decode b42 209 = .ok ((.goto 18), 3) := by decide +kernel
theorem d42_212 : decode b42 212 = .ok ((.iload 5), 2) := by decide +kernel
theorem d42_214 : decode b42 214 = .ok ((.iconst 2), 1) := by decide +kernel
theorem d42_215 : decode b42 215 = .ok ((.if_icmp .ne 9), 3) := by decide +kernel
theorem d42_218 : decode b42 218 = .ok ((.ldc2_w 134), 3) := by decide +kernel
theorem d42_221 : decode b42 221 = .ok ((.goto 6), 3) := by decide +kernel
theorem d42_224 : decode b42 224 = .ok ((.ldc2_w 136), 3) := by decide +kernel
theorem d42_227 : decode b42 227 = .ok ((.dstore 9), 2) := by decide +kernel
theorem d42_229 : decode b42 229 = .ok ((.iload_n 2), 1) := by decide +kernel
theorem d42_230 : decode b42 230 = .ok ((.iconst 1), 1) := by decide +kernel
theorem d42_231 : decode b42 231 = .ok ((.if_icmp .ne 9), 3) := by decide +kernel
theorem d42_234 : decode b42 234 = .ok ((.lload 7), 2) := by decide +kernel
theorem d42_236 : decode b42 236 = .ok (.lneg, 1) := by decide +kernel
theorem d42_237 : decode b42 237 = .ok ((.goto 5), 3) := by decide +kernel
theorem d42_240 : decode b42 240 = .ok ((.lload 7), 2) := by decide +kernel
theorem d42_242 : decode b42 242 = .ok (.l2d, 1) := by decide +kernel
theorem d42_243 : decode b42 243 = .ok ((.dload 9), 2) := by decide +kernel
theorem d42_245 : decode b42 245 = .ok (.ddiv, 1) := by decide +kernel
theorem d42_246 : decode b42 246 = .ok (.dreturn, 1) := by decide +kernel
abbrev b40 : ByteArray := prog_3_method_15_code
theorem d40_0 : decode b40 0 = .ok ((.aload_n 0), 1) := by decide +kernel
theorem d40_1 : decode b40 1 = .ok ((.iload_n 1), 1) := by decide +kernel
theorem d40_2 : decode b40 2 = .ok ((.iconst 0), 1) := by decide +kernel
theorem d40_3 : decode b40 3 = .ok ((.invokevirtual 87), 3) := by decide +kernel
theorem d40_6 : decode b40 6 = .ok ((.astore_n 2), 1) := by decide +kernel
theorem d40_7 : decode b40 7 = .ok ((.aload_n 2), 1) := by decide +kernel
theorem d40_8 : decode b40 8 = .ok ((.getfield 94), 3) := by decide +kernel
theorem d40_11 : decode b40 11 = .ok ((.iconst 4), 1) := by decide +kernel
theorem d40_12 : decode b40 12 = .ok ((.if_icmp .ne 14), 3) := by decide +kernel
theorem d40_15 : decode b40 15 = .ok ((.aload_n 0), 1) := by decide +kernel
theorem d40_16 : decode b40 16 = .ok ((.aload_n 2), 1) := by decide +kernel
theorem d40_17 : decode b40 17 = .ok ((.getfield 97), 3) := by decide +kernel
theorem d40_20 : decode b40 20 = .ok (.d2i, 1) := by decide +kernel
theorem d40_21 : decode b40 21 = .ok ((.invokevirtual 101), 3) := by decide +kernel
theorem d40_24 : decode b40 24 = .ok ((.dconst 0), 1) := by decide +kernel
theorem d40_25 : decode b40 25 = .ok (.dreturn, 1) := by decide +kernel
theorem d40_26 : decode b40 26 = .ok ((.aload_n 2), 1) := by decide +kernel
theorem d40_27 : decode b40 27 = .ok ((.getfield 94), 3) := by decide +kernel
theorem d40_30 : decode b40 30 = .ok ((.iconst 2), 1) := by decide +kernel
theorem d40_31 : decode b40 31 = .ok ((.if_icmp .ne 14), 3) := by decide +kernel
theorem d40_34 : decode b40 34 = .ok ((.aload_n 0), 1) := by decide +kernel
theorem d40_35 : decode b40 35 = .ok ((.aload_n 2), 1) := by decide +kernel
theorem d40_36 : decode b40 36 = .ok ((.getfield 105), 3) := by decide +kernel
theorem d40_39 : decode b40 39 = .ok ((.invokevirtual 109), 3) := by decide +kernel
theorem d40_42 : decode b40 42 = .ok ((.goto 7), 3) := by decide +kernel
theorem d40_45 : decode b40 45 = .ok ((.aload_n 2), 1) := by decide +kernel
theorem d40_46 : decode b40 46 = .ok ((.getfield 97), 3) := by decide +kernel
theorem d40_49 : decode b40 49 = .ok (.dreturn, 1) := by decide +kernel
abbrev b54 : ByteArray := prog_4_method_3_code
theorem d54_0 : decode b54 0 = .ok ((.dload_n 0), 1) := by decide +kernel
theorem d54_1 : decode b54 1 = .ok ((.dconst 0), 1) := by decide +kernel
theorem d54_2 : decode b54 2 = .ok ((.dcmp .l), 1) := by decide +kernel
theorem d54_3 : decode b54 3 = .ok ((.ifCond .lt 15), 3) := by decide +kernel
theorem d54_6 : decode b54 6 = .ok ((.dload_n 0), 1) := by decide +kernel
theorem d54_7 : decode b54 7 = .ok ((.ldc2_w 10), 3) := by decide +kernel
theorem d54_10 : decode b54 10 = .ok ((.dcmp .g), 1) := by decide +kernel
theorem d54_11 : decode b54 11 = .ok ((.ifCond .ge 7), 3) := by decide +kernel
theorem d54_14 : decode b54 14 = .ok ((.iconst 1), 1) := by decide +kernel
theorem d54_15 : decode b54 15 = .ok ((.goto 4), 3) := by decide +kernel
theorem d54_18 : decode b54 18 = .ok ((.iconst 0), 1) := by decide +kernel
theorem d54_19 : decode b54 19 = .ok (.ireturn, 1) := by decide +kernel
abbrev b33 : ByteArray := prog_3_method_21_code
theorem d33_0 : decode b33 0 = .ok ((.aload_n 0), 1) := by decide +kernel
theorem d33_1 : decode b33 1 = .ok ((.iload_n 1), 1) := by decide +kernel
theorem d33_2 : decode b33 2 = .ok ((.invokevirtual 138), 3) := by decide +kernel
theorem d33_5 : decode b33 5 = .ok ((.dstore_n 2), 1) := by decide +kernel
theorem d33_6 : decode b33 6 = .ok ((.dload_n 2), 1) := by decide +kernel
theorem d33_7 : decode b33 7 = .ok ((.invokestatic 153), 3) := by decide +kernel
theorem d33_10 : decode b33 10 = .ok ((.ifCond .ne 11), 3) := by decide +kernel
theorem d33_13 : decode b33 13 = .ok ((.aload_n 0), 1) := by decide +kernel
theorem d33_14 : decode b33 14 = .ok ((.bipush 6), 2) := by decide +kernel
theorem d33_16 : decode b33 16 = .ok ((.invokevirtual 101), 3) := by decide +kernel
theorem d33_19 : decode b33 19 = .ok ((.iconst 0), 1) := by decide +kernel
theorem d33_20 : decode b33 20 = .ok (.ireturn, 1) := by decide +kernel
theorem d33_21 : decode b33 21 = .ok ((.dload_n 2), 1) := by decide +kernel
theorem d33_22 : decode b33 22 = .ok (.d2i, 1) := by decide +kernel
theorem d33_23 : decode b33 23 = .ok (.ireturn, 1) := by decide +kernel
abbrev b36 : ByteArray := prog_3_method_8_code
theorem d36_0 : decode b36 0 = .ok ((.aload_n 0), 1) := by decide +kernel
theorem d36_1 : decode b36 1 = .ok ((.iload_n 1), 1) := by decide +kernel
theorem d36_2 : decode b36 2 = .ok ((.invokevirtual 62), 3) := by decide +kernel
theorem d36_5 : decode b36 5 = .ok ((.getfield 49), 3) := by decide +kernel
theorem d36_8 : decode b36 8 = .ok ((.ifCond .ne 7), 3) := by decide +kernel
theorem d36_11 : decode b36 11 = .ok ((.iconst 1), 1) := by decide +kernel
theorem d36_12 : decode b36 12 = .ok ((.goto 4), 3) := by decide +kernel
theorem d36_15 : decode b36 15 = .ok ((.iconst 0), 1) := by decide +kernel
theorem d36_16 : decode b36 16 = .ok (.ireturn, 1) := by decide +kernel
abbrev b37 : ByteArray := prog_3_method_7_code
theorem d37_0 : decode b37 0 = .ok ((.iload_n 1), 1) := by decide +kernel
theorem d37_1 : decode b37 1 = .ok ((.aload_n 0), 1) := by decide +kernel
theorem d37_2 : decode b37 2 = .ok ((.getfield 43), 3) := by decide +kernel
theorem d37_5 : decode b37 5 = .ok ((.if_icmp .ge 7), 3) := by decide +kernel
theorem d37_8 : decode b37 8 = .ok ((.iconst 1), 1) := by decide +kernel
theorem d37_9 : decode b37 9 = .ok ((.goto 4), 3) := by decide +kernel
theorem d37_12 : decode b37 12 = .ok ((.iconst 0), 1) := by decide +kernel
theorem d37_13 : decode b37 13 = .ok (.ireturn, 1) := by decide +kernel
abbrev b38 : ByteArray := prog_3_method_11_code
theorem d38_0 : decode b38 0 = .ok ((.aload_n 0), 1) := by decide +kernel
theorem d38_1 : decode b38 1 = .ok ((.iload_n 1), 1) := by decide +kernel
theorem d38_2 : decode b38 2 = .ok ((.invokevirtual 82), 3) := by decide +kernel
theorem d38_5 : decode b38 5 = .ok ((.aload_n 0), 1) := by decide +kernel
theorem d38_6 : decode b38 6 = .ok ((.iload_n 1), 1) := by decide +kernel
theorem d38_7 : decode b38 7 = .ok ((.invokevirtual 85), 3) := by decide +kernel
theorem d38_10 : decode b38 10 = .ok (.imul, 1) := by decide +kernel
theorem d38_11 : decode b38 11 = .ok (.ireturn, 1) := by decide +kernel
abbrev b51 : ByteArray := prog_3_method_24_code
theorem d51_0 : decode b51 0 = .ok ((.dload_n 1), 1) := by decide +kernel
theorem d51_1 : decode b51 1 = .ok ((.dconst 0), 1) := by decide +kernel
theorem d51_2 : decode b51 2 = .ok ((.dcmp .g), 1) := by decide +kernel
theorem d51_3 : decode b51 3 = .ok ((.ifCond .ge 8), 3) := by decide +kernel
theorem d51_6 : decode b51 6 = .ok ((.dload_n 1), 1) := by decide +kernel
theorem d51_7 : decode b51 7 = .ok (.dneg, 1) := by decide +kernel
theorem d51_8 : decode b51 8 = .ok ((.goto 4), 3) := by decide +kernel
theorem d51_11 : decode b51 11 = .ok ((.dload_n 1), 1) := by decide +kernel
theorem d51_12 : decode b51 12 = .ok ((.dstore_n 3), 1) := by decide +kernel
theorem d51_13 : decode b51 13 = .ok ((.dload_n 3), 1) := by decide +kernel
theorem d51_14 : decode b51 14 = .ok ((.ldc2_w 173), 3) := by decide +kernel
theorem d51_17 : decode b51 17 = .ok ((.dcmp .l), 1) := by decide +kernel
theorem d51_18 : decode b51 18 = .ok ((.ifCond .lt 11), 3) := by decide +kernel
theorem d51_21 : decode b51 21 = .ok ((.aload_n 0), 1) := by decide +kernel
theorem d51_22 : decode b51 22 = .ok ((.iconst 3), 1) := by decide +kernel
theorem d51_23 : decode b51 23 = .ok ((.invokevirtual 101), 3) := by decide +kernel
theorem d51_26 : decode b51 26 = .ok ((.ldc 171), 2) := by decide +kernel
theorem d51_28 : decode b51 28 = .ok (.areturn, 1) := by decide +kernel
theorem d51_29 : decode b51 29 = .ok ((.dload_n 3), 1) := by decide +kernel
theorem d51_30 : decode b51 30 = .ok ((.ldc2_w 136), 3) := by decide +kernel
theorem d51_33 : decode b51 33 = .ok (.dmul, 1) := by decide +kernel
theorem d51_34 : decode b51 34 = .ok ((.ldc2_w 175), 3) := by decide +kernel
theorem d51_37 : decode b51 37 = .ok (.dadd, 1) := by decide +kernel
theorem d51_38 : decode b51 38 = .ok (.d2l, 1) := by decide +kernel
theorem d51_39 : decode b51 39 = .ok ((.lstore 5), 2) := by decide +kernel
theorem d51_41 : decode b51 41 = .ok ((.dload_n 1), 1) := by decide +kernel
theorem d51_42 : decode b51 42 = .ok ((.dconst 0), 1) := by decide +kernel
theorem d51_43 : decode b51 43 = .ok ((.dcmp .g), 1) := by decide +kernel
theorem d51_44 : decode b51 44 = .ok ((.ifCond .ge 14), 3) := by decide +kernel
theorem d51_47 : decode b51 47 = .ok ((.lload 5), 2) := by decide +kernel
theorem d51_49 : decode b51 49 = .ok ((.lconst 0), 1) := by decide +kernel
theorem d51_50 : decode b51 50 = .ok (.lcmp, 1) := by decide +kernel
theorem d51_51 : decode b51 51 = .ok ((.ifCond .eq 7), 3) := by decide +kernel
theorem d51_54 : decode b51 54 = .ok ((.iconst 1), 1) := by decide +kernel
theorem d51_55 : decode b51 55 = .ok ((.goto 4), 3) := by decide +kernel
theorem d51_58 : decode b51 58 = .ok ((.iconst 0), 1) := by decide +kernel
theorem d51_59 : decode b51 59 = .ok ((.istore 7), 2) := by decide +kernel
theorem d51_61 : decode b51 61 = .ok ((.iconst 3), 1) := by decide +kernel
theorem d51_62 : decode b51 62 = .ok ((.istore 8), 2) := by decide +kernel
theorem d51_64 : decode b51 64 = .ok ((.iload 8), 2) := by decide +kernel
theorem d51_66 : decode b51 66 = .ok ((.ifCond .le 28), 3) := by decide +kernel
theorem d51_69 : decode b51 69 = .ok ((.lload 5), 2) := by decide +kernel
theorem d51_71 : decode b51 71 = .ok ((.ldc2_w 130), 3) := by decide +kernel
theorem d51_74 : decode b51 74 = .ok (.lrem, 1) := by decide +kernel
theorem d51_75 : decode b51 75 = .ok ((.lconst 0), 1) := by decide +kernel
theorem d51_76 : decode b51 76 = .ok (.lcmp, 1) := by decide +kernel
theorem d51_77 : decode b51 77 = .ok ((.ifCond .ne 17), 3) := by decide +kernel
theorem d51_80 : decode b51 80 = .ok ((.lload 5), 2) := by decide +kernel
theorem d51_82 : decode b51 82 = .ok ((.ldc2_w 130), 3) := by decide +kernel
theorem d51_85 : decode b51 85 = .ok (.ldiv, 1) := by decide +kernel
theorem d51_86 : decode b51 86 = .ok ((.lstore 5), 2) := by decide +kernel
theorem d51_88 : decode b51 88 = .ok ((.iinc 8 (-1)), 3) := by decide +kernel
theorem d51_91 : decode b51 91 = .ok ((.goto (-27)), 3) := by decide +kernel
theorem d51_94 : decode b51 94 = .ok ((.new 177), 3) := by decide +kernel
theorem d51_97 : decode b51 97 = .ok (.dup, 1) := by decide +kernel
theorem d51_98 : decode b51 98 = .ok ((.invokespecial 179), 3) := by decide +kernel
theorem d51_101 : decode b51 101 = .ok ((.astore 9), 2) := by decide +kernel
theorem d51_103 : decode b51 103 = .ok ((.iconst 0), 1) := by decide +kernel
theorem d51_104 : decode b51 104 = .ok ((.istore 10), 2) := by decide +kernel
theorem d51_106 : decode b51 106 = .ok ((.iload 10), 2) := by decide +kernel
theorem d51_108 : decode b51 108 = .ok ((.sipush 255), 3) := by decide +kernel
theorem d51_111 : decode b51 111 = .ok ((.if_icmp .ge 68), 3) := by decide +kernel
theorem d51_114 : decode b51 114 = .ok ((.iload 10), 2) := by decide +kernel
theorem d51_116 : decode b51 116 = .ok ((.iload 8), 2) := by decide +kernel
theorem d51_118 : decode b51 118 = .ok ((.if_icmp .le 10), 3) := by decide +kernel
theorem d51_121 : decode b51 121 = .ok ((.lload 5), 2) := by decide +kernel
theorem d51_123 : decode b51 123 = .ok ((.lconst 0), 1) := by decide +kernel
theorem d51_124 : decode b51 124 = .ok (.lcmp, 1) := by decide +kernel
theorem d51_125 : decode b51 125 = .ok ((.ifCond .le 54), 3) := by decide +kernel
theorem d51_128 : decode b51 128 = .ok ((.iload 10), 2) := by decide +kernel
theorem d51_130 : decode b51 130 = .ok ((.iload 8), 2) := by decide +kernel
theorem d51_132 : decode b51 132 = .ok ((.if_icmp .ne 16), 3) := by decide +kernel
theorem d51_135 : decode b51 135 = .ok ((.iload 8), 2) := by decide +kernel
theorem d51_137 : decode b51 137 = .ok ((.ifCond .le 11), 3) := by decide +kernel
theorem d51_140 : decode b51 140 = .ok ((.aload 9), 2) := by decide +kernel
theorem d51_142 : decode b51 142 = .ok ((.bipush 46), 2) := by decide +kernel
theorem d51_144 : decode b51 144 = .ok ((.invokevirtual 180), 3) := by decide +kernel
theorem d51_147 : decode b51 147 = .ok (.pop, 1) := by decide +kernel
theorem d51_148 : decode b51 148 = .ok ((.aload 9), 2) := by decide +kernel
theorem d51_150 : decode b51 150 = .ok ((.bipush 48), 2) := by decide +kernel
theorem d51_152 : decode b51 152 = .ok ((.lload 5), 2) := by decide +kernel
theorem d51_154 : decode b51 154 = .ok ((.ldc2_w 130), 3) := by decide +kernel
theorem d51_157 : decode b51 157 = .ok (.lrem, 1) := by decide +kernel
theorem d51_158 : decode b51 158 = .ok (.l2i, 1) := by decide +kernel
theorem d51_159 : decode b51 159 = .ok (.iadd, 1) := by decide +kernel
theorem d51_160 : decode b51 160 = .ok (.i2c, 1) := by decide +kernel
theorem d51_161 : decode b51 161 = .ok ((.invokevirtual 180), 3) := by decide +kernel
theorem d51_164 : decode b51 164 = .ok (.pop, 1) := by decide +kernel
theorem d51_165 : decode b51 165 = .ok ((.lload 5), 2) := by decide +kernel
theorem d51_167 : decode b51 167 = .ok ((.ldc2_w 130), 3) := by decide +kernel
theorem d51_170 : decode b51 170 = .ok (.ldiv, 1) := by decide +kernel
theorem d51_171 : decode b51 171 = .ok ((.lstore 5), 2) := by decide +kernel
theorem d51_173 : decode b51 173 = .ok ((.iinc 10 1), 3) := by decide +kernel
theorem d51_176 : decode b51 176 = .ok ((.goto (-70)), 3) := by decide +kernel
theorem d51_179 : decode b51 179 = .ok ((.iload 7), 2) := by decide +kernel
theorem d51_181 : decode b51 181 = .ok ((.ifCond .eq 11), 3) := by decide +kernel
theorem d51_184 : decode b51 184 = .ok ((.aload 9), 2) := by decide +kernel
theorem d51_186 : decode b51 186 = .ok ((.bipush 45), 2) := by decide +kernel
theorem d51_188 : decode b51 188 = .ok ((.invokevirtual 180), 3) := by decide +kernel
theorem d51_191 : decode b51 191 = .ok (.pop, 1) := by decide +kernel
theorem d51_192 : decode b51 192 = .ok ((.aload 9), 2) := by decide +kernel
theorem d51_194 : decode b51 194 = .ok ((.invokevirtual 184), 3) := by decide +kernel
theorem d51_197 : decode b51 197 = .ok ((.invokevirtual 188), 3) := by decide +kernel
theorem d51_200 : decode b51 200 = .ok (.areturn, 1) := by decide +kernel
abbrev b46 : ByteArray := prog_3_method_23_code
theorem d46_0 : decode b46 0 = .ok ((.aload_n 1), 1) := by decide +kernel
theorem d46_1 : decode b46 1 = .ok ((.getfield 94), 3) := by decide +kernel
theorem d46_4 : decode b46 4 = .ok ((.tableswitch 70 1 4 #[32, 70, 41, 58]), 32) := by decide +kernel
theorem d46_36 : decode b46 36 = .ok ((.aload_n 0), 1) := by decide +kernel
theorem d46_37 : decode b46 37 = .ok ((.aload_n 1), 1) := by decide +kernel
theorem d46_38 : decode b46 38 = .ok ((.getfield 97), 3) := by decide +kernel
theorem d46_41 : decode b46 41 = .ok ((.invokevirtual 163), 3) := by decide +kernel
theorem d46_44 : decode b46 44 = .ok (.areturn, 1) := by decide +kernel
theorem d46_45 : decode b46 45 = .ok ((.aload_n 1), 1) := by decide +kernel
theorem d46_46 : decode b46 46 = .ok ((.getfield 97), 3) := by decide +kernel
theorem d46_49 : decode b46 49 = .ok ((.dconst 0), 1) := by decide +kernel
theorem d46_50 : decode b46 50 = .ok ((.dcmp .l), 1) := by decide +kernel
theorem d46_51 : decode b46 51 = .ok ((.ifCond .eq 8), 3) := by decide +kernel
theorem d46_54 : decode b46 54 = .ok ((.ldc 167), 2) := by decide +kernel
theorem d46_56 : decode b46 56 = .ok ((.goto 5), 3) := by decide +kernel
theorem d46_59 : decode b46 59 = .ok ((.ldc 169), 2) := by decide +kernel
theorem d46_61 : decode b46 61 = .ok (.areturn, 1) := by decide +kernel
theorem d46_62 : decode b46 62 = .ok ((.aload_n 0), 1) := by decide +kernel
theorem d46_63 : decode b46 63 = .ok ((.aload_n 1), 1) := by decide +kernel
theorem d46_64 : decode b46 64 = .ok ((.getfield 97), 3) := by decide +kernel
theorem d46_67 : decode b46 67 = .ok (.d2i, 1) := by decide +kernel
theorem d46_68 : decode b46 68 = .ok ((.invokevirtual 101), 3) := by decide +kernel
theorem d46_71 : decode b46 71 = .ok ((.ldc 171), 2) := by decide +kernel
theorem d46_73 : decode b46 73 = .ok (.areturn, 1) := by decide +kernel
theorem d46_74 : decode b46 74 = .ok ((.aload_n 1), 1) := by decide +kernel
theorem d46_75 : decode b46 75 = .ok ((.getfield 105), 3) := by decide +kernel
theorem d46_78 : decode b46 78 = .ok (.areturn, 1) := by decide +kernel
def f_an_become (st : CS) (p0 : VV) : Option (CS) := jn (uC st 2 1 1) (fun st1 => jn (uC st1 2 2 1) (fun st2 => jg (inb 0 512) (jn (uV st2 42 (0 : Int32).toNatClampNeg p0) (fun st4 => jn (uV st4 2 3 p0) (fun st5 => some st5)))))
set_option maxHeartbeats 4000000 in
set_option maxRecDepth 100000 in
theorem c_an_become (l : Launch) (ρ : RH) (ad : Nat → Nat) (H : Heap) (P : Nat → Prop) (st : CS) (ap0 : Nat) (p0 : VV) (res : CS) (hW : CW ρ P ad st H) (fap0 : isV ρ P H ap0 p0) (h : f_an_become st p0 = some res) : Met l y22 (wsOf y22 b22 2 none) ({ frames := 0, cells := 0, slots := 0, locals := 0 } : Room) (va_Pc [.ref (ad 2), .ref ap0] (KP ρ H)) (mQ (fun v H1 => v = none ∧ CW ρ P ad res H1) (MA wC ad H.size)) 0 0 (MA wC ad H.size) := by
  refine m_ofW (own := "WordFunctions$Answer") (plainFor_of_name rfl) rfl (Nat.le_of_ble_eq_true rfl) fun p e s m args below meth c ls hx hb hr hlk _ X hs hl => ?_
  subst hs
  have hS : va_S (MA wC ad s.heap.size) s.heap s.heap [] := va_S.rf
  have hSz := hS.1
  have hAz : ∀ q, s.heap.size ≤ q → (MA wC ad s.heap.size) q := fun q hq => Or.inr hq
  have hAp : ∀ i, i < 46 → (MA wC ad s.heap.size) (ad i) := fun i hi => MA.in hi
  have hPp : ∀ i, i < 46 → P (ad i) := hW.1
  have hl : lv_has ls 2 [(0, .ref (ad 2)), (1, .ref ap0)] := hl
  unfold f_an_become at h
  refine lv_aload_n (pc := 0) hx hb d22_0 rfl (lv_at hl 0 rfl) ?_
  refine lv_iconst (pc := 1) (v := 1) hx hb d22_1 (by decide) ?_
  obtain ⟨st1, est1, h⟩ := jn_ex h
  refine c_putI (pc := 2) X hW hS 2 1 4 (C := "WordFunctions$Answer") (T := T4) (N := 4) est1 (hAp _ (by decide)) (by decide) rfl rfl rfl rfl tin4 ty4 tyo4 tnm4 rfl wd175 rfl rfl rfl rfl d22_2 (fun H locs hW hS hk => ?_)
  have fap0 := fap0.keep hk (fun _ _ z => z)
  have hSz := hS.1
  refine lv_aload_n (pc := 5) hx hb d22_5 rfl (lv_at hl 0 rfl) ?_
  refine lv_iconst (pc := 6) (v := 1) hx hb d22_6 (by decide) ?_
  obtain ⟨st2, est2, h⟩ := jn_ex h
  refine c_putI (pc := 7) X hW hS 2 2 4 (C := "WordFunctions$Answer") (T := T4) (N := 4) est2 (hAp _ (by decide)) (by decide) rfl rfl rfl rfl tin4 ty4 tyo4 tnm4 rfl wd177 rfl rfl rfl rfl d22_7 (fun H locs hW hS hk => ?_)
  have fap0 := fap0.keep hk (fun _ _ z => z)
  have hSz := hS.1
  refine lv_aload_n (pc := 10) hx hb d22_10 rfl (lv_at hl 0 rfl) ?_
  refine c_getK (pc := 11) X hW 2 0 4 42 (C := "WordFunctions$Answer") (T := T4) (N := 4) (by decide) rfl rfl rfl rfl tin4 rfl wd174 rfl rfl d22_11 ?_
  refine lv_iconst (pc := 14) (v := 0) hx hb d22_14 (by decide) ?_
  refine lv_aload_n (pc := 15) hx hb d22_15 rfl (lv_at hl 1 rfl) ?_
  obtain ⟨g3, h⟩ := jg_some h
  obtain ⟨st4, est4, h⟩ := jn_ex h
  refine c_vast (pc := 16) X hW hS 42 (hAp 42 (by decide)) (by decide) fap0 g3 est4 d22_16 (fun H locs hW hS hk => ?_)
  have fap0 := fap0.keep hk (fun _ _ z => z)
  have hSz := hS.1
  refine lv_aload_n (pc := 17) hx hb d22_17 rfl (lv_at hl 0 rfl) ?_
  refine lv_aload_n (pc := 18) hx hb d22_18 rfl (lv_at hl 1 rfl) ?_
  obtain ⟨st5, est5, h⟩ := jn_ex h
  refine c_puttold (pc := 19) X hW hS fap0 est5 (hAp 2 (by decide)) wd179 d22_19 (fun H locs hW hS hk => ?_)
  have hSz := hS.1
  obtain rfl := Option.some.inj h
  exact m_vret (pc := 22) hx hb hr hlk hS ⟨rfl, hW⟩ (Nat.le_refl _) (Nat.le_refl _) d22_22
def f_ma_max  (p0 : Int32) (p1 : Int32) : Option (Int32) := jb (p0 < p1) (some p1) (some p0)
set_option maxHeartbeats 4000000 in
set_option maxRecDepth 100000 in
theorem c_ma_max (l : Launch) (ρ : RH) (H : Heap) (P : Nat → Prop) (p0 : Int32) (p1 : Int32) (res : Int32) (hC : CC ρ P H) (hPb : ∀ q, P q → q < H.size) (h : f_ma_max p0 p1 = some res) : Met l y278 (wsOf y278 b278 2 (some .int)) ({ frames := 0, cells := 0, slots := 0, locals := 0 } : Room) (va_Pc [.int p0, .int p1] (KP ρ H)) (mQ (fun v H1 => v = some (.int res) ∧ H1 = H) (fun _ => False)) 0 0 (fun _ => False) := by
  refine m_ofW (own := "java/lang/Math") (by decide +kernel) rfl (Nat.le_of_ble_eq_true rfl) fun p e s m args below meth c ls hx hb hr hlk _ X hs hl => ?_
  subst hs
  have hS : va_S (fun _ => False) s.heap s.heap [] := va_S.rf
  have hSz := hS.1
  have hl : lv_has ls 2 [(0, .int p0), (1, .int p1)] := hl
  unfold f_ma_max at h
  refine lv_iload_n (pc := 0) hx hb d278_0 rfl (lv_at hl 0 rfl) ?_
  refine lv_iload_n (pc := 1) hx hb d278_1 rfl (lv_at hl 1 rfl) ?_
  refine lv_icmp_lt (pc := 2) (tgt := 9) hx hb d278_2 (by decide) (fun c2 => ?_) (fun c2 => ?_)
  · have h := jb_t c2 h
    refine lv_iload_n (pc := 9) hx hb d278_9 rfl (lv_at hl 1 rfl) ?_
    obtain rfl := Option.some.inj h
    exact m_iret (pc := 10) hx hb hr hlk hS ⟨rfl, rfl⟩ (Nat.le_refl _) (Nat.le_refl _) d278_10
  · have h := jb_f c2 h
    refine lv_iload_n (pc := 5) hx hb d278_5 rfl (lv_at hl 0 rfl) ?_
    refine lv_goto (pc := 6) (tgt := 10) hx hb d278_6 (by decide) ?_
    obtain rfl := Option.some.inj h
    exact m_iret (pc := 10) hx hb hr hlk hS ⟨rfl, rfl⟩ (Nat.le_refl _) (Nat.le_refl _) d278_10
def f_ar_columns (st : CS) (p0 : Int32) : Option (Int32) := jc (f_ar_grid st p0) (fun q1 => jc (f_ma_max 1 (st.1 q1 1)) (fun q2 => some q2))
set_option maxHeartbeats 4000000 in
set_option maxRecDepth 100000 in
theorem c_ar_columns (l : Launch) (ρ : RH) (ad : Nat → Nat) (H : Heap) (P : Nat → Prop) (st : CS) (p0 : Int32) (res : Int32) (hW : CW ρ P ad st H) (h : f_ar_columns st p0 = some res) : Met l y32 (wsOf y32 b32 2 (some .int)) ({ frames := 1, cells := 0, slots := 0, locals := 21 } : Room) (va_Pc [.ref (ad 1), .int p0] (KP ρ H)) (mQ (fun v H1 => v = some (.int res) ∧ H1 = H) (fun _ => False)) 0 0 (fun _ => False) := by
  refine m_ofW (own := "WordFunctions$Arguments") (plainFor_of_name rfl) rfl (Nat.le_of_ble_eq_true rfl) fun p e s m args below meth c ls hx hb hr hlk _ X hs hl => ?_
  subst hs
  have hS : va_S (fun _ => False) s.heap s.heap [] := va_S.rf
  have hSz := hS.1
  have hPp : ∀ i, i < 46 → P (ad i) := hW.1
  have hl : lv_has ls 2 [(0, .ref (ad 1)), (1, .int p0)] := hl
  unfold f_ar_columns at h
  refine lv_iconst (pc := 0) (v := 1) hx hb d32_0 (by decide) ?_
  refine lv_aload_n (pc := 1) hx hb d32_1 rfl (lv_at hl 0 rfl) ?_
  refine lv_iload_n (pc := 2) hx hb d32_2 rfl (lv_at hl 1 rfl) ?_
  obtain ⟨q1, hq1, h⟩ := jc_some h
  refine k_callV (pc := 3) (n := 1) X hS (c_ar_grid l ρ ad _ P st p0 q1 hW  hq1) wd628 wd625 wd626 wd627 wd3 (by decide) ⟨rfl, rfl, Nat.le_of_ble_eq_true rfl, Nat.le_of_ble_eq_true rfl⟩ (c_recv X hW 1 3 (by decide) rfl rfl) (As := [.int p0]) (rest := [.int 1]) rfl rfl hl.1 (Nat.le_of_ble_eq_true rfl) d32_3 ⟨Nat.le_refl _, Nat.le_refl _⟩ (fun q hq => False.elim hq) (fun v H1 locs1 hv _ _ hSq1 => ?_)
  obtain ⟨rfl, hgq1, rfl⟩ := hv
  have hS := hSq1
  have hSz := hS.1
  refine c_getI (pc := 6) X hW q1 1 2 (C := "WordFunctions$Grid") (T := T2) (N := 6) hgq1.1 hgq1.2 rfl rfl rfl tin2 rfl wd105 rfl d32_6 ?_
  obtain ⟨q2, hq2, h⟩ := jc_some h
  refine k_callS (pc := 9) (n := 2) X hS (c_ma_max l ρ _ P 1 (st.1 q1 1) q2 hW.2.2.1 hW.2.1  hq2) wd333 wd750 wd332 wd17 (by decide) ⟨rfl, rfl, Nat.le_of_ble_eq_true rfl, Nat.le_of_ble_eq_true rfl⟩ (As := [.int 1, .int (st.1 q1 1)]) (rest := []) rfl rfl hl.1 (Nat.le_of_ble_eq_true rfl) d32_9 ⟨Nat.le_refl _, Nat.le_refl _⟩ (fun q hq => False.elim hq) (fun v H1 locs1 hv _ _ hSq2 => ?_)
  obtain ⟨rfl, rfl⟩ := hv
  have hS := hSq2
  have hSz := hS.1
  obtain rfl := Option.some.inj h
  exact m_iret (pc := 12) hx hb hr hlk hS ⟨rfl, rfl⟩ (Nat.le_refl _) (Nat.le_refl _) d32_12
def f_ar_nth (st : CS) (p0 : Int32) (p1 : Int32) : Option (VV) := jc (f_ar_grid st p0) (fun q1 => jb (p1 < 0) (some (st.2 1 0)) (jb (((st.1 q1 0) * (st.1 q1 1)) ≤ p1) (some (st.2 1 0)) (jb (((st.1 q1 2) + p1) < 512) (jg (inb ((st.1 q1 2) + p1) 512) (some (st.2 40 ((st.1 q1 2) + p1).toNatClampNeg))) (some (st.2 1 0)))))
set_option maxHeartbeats 4000000 in
set_option maxRecDepth 100000 in
theorem c_ar_nth (l : Launch) (ρ : RH) (ad : Nat → Nat) (H : Heap) (P : Nat → Prop) (st : CS) (p0 : Int32) (p1 : Int32) (res : VV) (hW : CW ρ P ad st H) (h : f_ar_nth st p0 p1 = some res) : Met l y39 (wsOf y39 b39 4 (some (.object "WordFunctions$Value"))) ({ frames := 1, cells := 0, slots := 0, locals := 21 } : Room) (va_Pc [.ref (ad 1), .int p0, .int p1] (KP ρ H)) (mQ (fun v H1 => ∃ x : Nat, v = some (.ref x) ∧ isV ρ P H1 x res ∧ H1 = H) (fun _ => False)) 0 0 (fun _ => False) := by
  refine m_ofW (own := "WordFunctions$Arguments") (plainFor_of_name rfl) rfl (Nat.le_of_ble_eq_true rfl) fun p e s m args below meth c ls hx hb hr hlk _ X hs hl => ?_
  subst hs
  have hS : va_S (fun _ => False) s.heap s.heap [] := va_S.rf
  have hSz := hS.1
  have hPp : ∀ i, i < 46 → P (ad i) := hW.1
  have hl : lv_has ls 4 [(0, .ref (ad 1)), (1, .int p0), (2, .int p1)] := hl
  unfold f_ar_nth at h
  refine lv_aload_n (pc := 0) hx hb d39_0 rfl (lv_at hl 0 rfl) ?_
  refine lv_iload_n (pc := 1) hx hb d39_1 rfl (lv_at hl 1 rfl) ?_
  obtain ⟨q1, hq1, h⟩ := jc_some h
  refine k_callV (pc := 2) (n := 1) X hS (c_ar_grid l ρ ad _ P st p0 q1 hW  hq1) wd628 wd625 wd626 wd627 wd3 (by decide) ⟨rfl, rfl, Nat.le_of_ble_eq_true rfl, Nat.le_of_ble_eq_true rfl⟩ (c_recv X hW 1 3 (by decide) rfl rfl) (As := [.int p0]) (rest := []) rfl rfl hl.1 (Nat.le_of_ble_eq_true rfl) d39_2 ⟨Nat.le_refl _, Nat.le_refl _⟩ (fun q hq => False.elim hq) (fun v H1 locs1 hv _ _ hSq1 => ?_)
  obtain ⟨rfl, hgq1, rfl⟩ := hv
  have hS := hSq1
  have hSz := hS.1
  refine lv_astore_n (pc := 5) (lv' := [(3, .ref (ad q1)), (0, .ref (ad 1)), (1, .int p0), (2, .int p1)]) hx hb d39_5 rfl hl (by decide) rfl (fun ls hl => ?_)
  refine lv_iload_n (pc := 6) hx hb d39_6 rfl (lv_at hl 3 rfl) ?_
  refine lv_if_lt (pc := 7) (tgt := 37) hx hb d39_7 (by decide) (fun c7 => ?_) (fun c7 => ?_)
  · have h := jb_t c7 h
    refine lv_aload_n (pc := 37) hx hb d39_37 rfl (lv_at hl 1 rfl) ?_
    refine c_getempty (pc := 38) X hW wd129 d39_38 (fun u2 fu2 => ?_)
    obtain rfl := Option.some.inj h
    exact m_aret (pc := 41) hx hb hr (Or.inl ⟨_, rfl⟩) hlk hS ⟨u2, rfl, fu2, rfl⟩ (Nat.le_refl _) (Nat.le_refl _) d39_41
  · have h := jb_f c7 h
    refine lv_iload_n (pc := 10) hx hb d39_10 rfl (lv_at hl 3 rfl) ?_
    refine lv_aload_n (pc := 11) hx hb d39_11 rfl (lv_at hl 0 rfl) ?_
    refine c_getI (pc := 12) X hW q1 0 2 (C := "WordFunctions$Grid") (T := T2) (N := 6) hgq1.1 hgq1.2 rfl rfl rfl tin2 rfl wd104 rfl d39_12 ?_
    refine lv_aload_n (pc := 15) hx hb d39_15 rfl (lv_at hl 0 rfl) ?_
    refine c_getI (pc := 16) X hW q1 1 2 (C := "WordFunctions$Grid") (T := T2) (N := 6) hgq1.1 hgq1.2 rfl rfl rfl tin2 rfl wd105 rfl d39_16 ?_
    refine lv_imul (pc := 19) hx hb d39_19 ?_
    refine lv_icmp_ge (pc := 20) (tgt := 37) hx hb d39_20 (by decide) (fun c20 => ?_) (fun c20 => ?_)
    · have h := jb_t c20 h
      refine lv_aload_n (pc := 37) hx hb d39_37 rfl (lv_at hl 1 rfl) ?_
      refine c_getempty (pc := 38) X hW wd129 d39_38 (fun u3 fu3 => ?_)
      obtain rfl := Option.some.inj h
      exact m_aret (pc := 41) hx hb hr (Or.inl ⟨_, rfl⟩) hlk hS ⟨u3, rfl, fu3, rfl⟩ (Nat.le_refl _) (Nat.le_refl _) d39_41
    · have h := jb_f c20 h
      refine lv_aload_n (pc := 23) hx hb d39_23 rfl (lv_at hl 0 rfl) ?_
      refine c_getI (pc := 24) X hW q1 2 2 (C := "WordFunctions$Grid") (T := T2) (N := 6) hgq1.1 hgq1.2 rfl rfl rfl tin2 rfl wd106 rfl d39_24 ?_
      refine lv_iload_n (pc := 27) hx hb d39_27 rfl (lv_at hl 3 rfl) ?_
      refine lv_iadd (pc := 28) hx hb d39_28 ?_
      refine lv_aload_n (pc := 29) hx hb d39_29 rfl (lv_at hl 1 rfl) ?_
      refine c_getK (pc := 30) X hW 1 2 3 40 (C := "WordFunctions$Arguments") (T := T3) (N := 9) (by decide) rfl rfl rfl rfl tin3 rfl wd131 rfl rfl d39_30 ?_
      refine c_alen (pc := 33) (v := 512) X hW 40 (by decide) rfl (by decide) (by decide) d39_33 ?_
      refine lv_icmp_lt (pc := 34) (tgt := 42) hx hb d39_34 (by decide) (fun c34 => ?_) (fun c34 => ?_)
      · have h := jb_t c34 h
        refine lv_aload_n (pc := 42) hx hb d39_42 rfl (lv_at hl 1 rfl) ?_
        refine c_getK (pc := 43) X hW 1 2 3 40 (C := "WordFunctions$Arguments") (T := T3) (N := 9) (by decide) rfl rfl rfl rfl tin3 rfl wd131 rfl rfl d39_43 ?_
        refine lv_aload_n (pc := 46) hx hb d39_46 rfl (lv_at hl 0 rfl) ?_
        refine c_getI (pc := 47) X hW q1 2 2 (C := "WordFunctions$Grid") (T := T2) (N := 6) hgq1.1 hgq1.2 rfl rfl rfl tin2 rfl wd106 rfl d39_47 ?_
        refine lv_iload_n (pc := 50) hx hb d39_50 rfl (lv_at hl 3 rfl) ?_
        refine lv_iadd (pc := 51) hx hb d39_51 ?_
        obtain ⟨g4, h⟩ := jg_some h
        refine c_vald (pc := 52) X hW 40 (by decide) g4 d39_52 (fun u5 fu5 => ?_)
        obtain rfl := Option.some.inj h
        exact m_aret (pc := 53) hx hb hr (Or.inl ⟨_, rfl⟩) hlk hS ⟨u5, rfl, fu5, rfl⟩ (Nat.le_refl _) (Nat.le_refl _) d39_53
      · have h := jb_f c34 h
        refine lv_aload_n (pc := 37) hx hb d39_37 rfl (lv_at hl 1 rfl) ?_
        refine c_getempty (pc := 38) X hW wd129 d39_38 (fun u6 fu6 => ?_)
        obtain rfl := Option.some.inj h
        exact m_aret (pc := 41) hx hb hr (Or.inl ⟨_, rfl⟩) hlk hS ⟨u6, rfl, fu6, rfl⟩ (Nat.le_refl _) (Nat.le_refl _) d39_41
def f_ar_at (st : CS) (p0 : Int32) (p1 : Int32) (p2 : Int32) : Option (VV) := jc (f_ar_columns st p0) (fun q1 => jc (f_ar_nth st p0 ((p1 * q1) + p2)) (fun q2 => some q2))
set_option maxHeartbeats 4000000 in
set_option maxRecDepth 100000 in
theorem c_ar_at (l : Launch) (ρ : RH) (ad : Nat → Nat) (H : Heap) (P : Nat → Prop) (st : CS) (p0 : Int32) (p1 : Int32) (p2 : Int32) (res : VV) (hW : CW ρ P ad st H) (h : f_ar_at st p0 p1 p2 = some res) : Met l y30 (wsOf y30 b30 4 (some (.object "WordFunctions$Value"))) ({ frames := 2, cells := 0, slots := 0, locals := 44 } : Room) (va_Pc [.ref (ad 1), .int p0, .int p1, .int p2] (KP ρ H)) (mQ (fun v H1 => ∃ x : Nat, v = some (.ref x) ∧ isV ρ P H1 x res ∧ H1 = H) (fun _ => False)) 0 0 (fun _ => False) := by
  refine m_ofW (own := "WordFunctions$Arguments") (plainFor_of_name rfl) rfl (Nat.le_of_ble_eq_true rfl) fun p e s m args below meth c ls hx hb hr hlk _ X hs hl => ?_
  subst hs
  have hS : va_S (fun _ => False) s.heap s.heap [] := va_S.rf
  have hSz := hS.1
  have hPp : ∀ i, i < 46 → P (ad i) := hW.1
  have hl : lv_has ls 4 [(0, .ref (ad 1)), (1, .int p0), (2, .int p1), (3, .int p2)] := hl
  unfold f_ar_at at h
  refine lv_aload_n (pc := 0) hx hb d30_0 rfl (lv_at hl 0 rfl) ?_
  refine lv_iload_n (pc := 1) hx hb d30_1 rfl (lv_at hl 1 rfl) ?_
  refine lv_iload_n (pc := 2) hx hb d30_2 rfl (lv_at hl 2 rfl) ?_
  refine lv_aload_n (pc := 3) hx hb d30_3 rfl (lv_at hl 0 rfl) ?_
  refine lv_iload_n (pc := 4) hx hb d30_4 rfl (lv_at hl 1 rfl) ?_
  obtain ⟨q1, hq1, h⟩ := jc_some h
  refine k_callV (pc := 5) (n := 1) X hS (c_ar_columns l ρ ad _ P st p0 q1 hW  hq1) wd754 wd850 wd752 wd753 wd3 (by decide) ⟨rfl, rfl, Nat.le_of_ble_eq_true rfl, Nat.le_of_ble_eq_true rfl⟩ (c_recv X hW 1 3 (by decide) rfl rfl) (As := [.int p0]) (rest := [.int p1, .int p0, .ref (ad 1)]) rfl rfl hl.1 (Nat.le_of_ble_eq_true rfl) d30_5 ⟨Nat.le_refl _, Nat.le_refl _⟩ (fun q hq => False.elim hq) (fun v H1 locs1 hv _ _ hSq1 => ?_)
  obtain ⟨rfl, rfl⟩ := hv
  have hS := hSq1
  have hSz := hS.1
  refine lv_imul (pc := 8) hx hb d30_8 ?_
  refine lv_iload_n (pc := 9) hx hb d30_9 rfl (lv_at hl 3 rfl) ?_
  refine lv_iadd (pc := 10) hx hb d30_10 ?_
  obtain ⟨q2, hq2, h⟩ := jc_some h
  refine k_callV (pc := 11) (n := 2) X hS (c_ar_nth l ρ ad _ P st p0 ((p1 * q1) + p2) q2 hW  hq2) wd770 wd767 wd768 wd769 wd3 (by decide) ⟨rfl, rfl, Nat.le_of_ble_eq_true rfl, Nat.le_of_ble_eq_true rfl⟩ (c_recv X hW 1 3 (by decide) rfl rfl) (As := [.int p0, .int ((p1 * q1) + p2)]) (rest := []) rfl rfl hl.1 (Nat.le_of_ble_eq_true rfl) d30_11 ⟨Nat.le_refl _, Nat.le_refl _⟩ (fun q hq => False.elim hq) (fun v H1 locs1 hv _ _ hSq2 => ?_)
  obtain ⟨u3, rfl, fu3, rfl⟩ := hv
  have hS := hSq2
  have hSz := hS.1
  obtain rfl := Option.some.inj h
  exact m_aret (pc := 14) hx hb hr (Or.inl ⟨_, rfl⟩) hlk hS ⟨u3, rfl, fu3, rfl⟩ (Nat.le_refl _) (Nat.le_refl _) d30_14
def f_an_keep (st : CS) (p0 : Int32) (p1 : Int32) (p2 : VV) : Option (CS) := jn ((p0 * (st.1 2 2)) + p1) (fun v1 => jb (v1 < 0) (some st) (jb (512 ≤ v1) (some st) (jg (inb v1 512) (jn (uV st 42 v1.toNatClampNeg p2) (fun st3 => some st3)))))
set_option maxHeartbeats 4000000 in
set_option maxRecDepth 100000 in
theorem c_an_keep (l : Launch) (ρ : RH) (ad : Nat → Nat) (H : Heap) (P : Nat → Prop) (st : CS) (p0 : Int32) (p1 : Int32) (ap2 : Nat) (p2 : VV) (res : CS) (hW : CW ρ P ad st H) (fap2 : isV ρ P H ap2 p2) (h : f_an_keep st p0 p1 p2 = some res) : Met l y25 (wsOf y25 b25 5 none) ({ frames := 0, cells := 0, slots := 0, locals := 0 } : Room) (va_Pc [.ref (ad 2), .int p0, .int p1, .ref ap2] (KP ρ H)) (mQ (fun v H1 => v = none ∧ CW ρ P ad res H1) (MA wC ad H.size)) 0 0 (MA wC ad H.size) := by
  refine m_ofW (own := "WordFunctions$Answer") (plainFor_of_name rfl) rfl (Nat.le_of_ble_eq_true rfl) fun p e s m args below meth c ls hx hb hr hlk _ X hs hl => ?_
  subst hs
  have hS : va_S (MA wC ad s.heap.size) s.heap s.heap [] := va_S.rf
  have hSz := hS.1
  have hAz : ∀ q, s.heap.size ≤ q → (MA wC ad s.heap.size) q := fun q hq => Or.inr hq
  have hAp : ∀ i, i < 46 → (MA wC ad s.heap.size) (ad i) := fun i hi => MA.in hi
  have hPp : ∀ i, i < 46 → P (ad i) := hW.1
  have hl : lv_has ls 5 [(0, .ref (ad 2)), (1, .int p0), (2, .int p1), (3, .ref ap2)] := hl
  unfold f_an_keep at h
  refine lv_iload_n (pc := 0) hx hb d25_0 rfl (lv_at hl 1 rfl) ?_
  refine lv_aload_n (pc := 1) hx hb d25_1 rfl (lv_at hl 0 rfl) ?_
  refine c_getI (pc := 2) X hW 2 2 4 (C := "WordFunctions$Answer") (T := T4) (N := 4) (by decide) rfl rfl rfl rfl tin4 rfl wd177 rfl d25_2 ?_
  refine lv_imul (pc := 5) hx hb d25_5 ?_
  refine lv_iload_n (pc := 6) hx hb d25_6 rfl (lv_at hl 2 rfl) ?_
  refine lv_iadd (pc := 7) hx hb d25_7 ?_
  obtain ⟨v1, ev1, h⟩ := jn_ex h
  refine nm_i ev1 ?_
  refine lv_istore (pc := 8) (lv' := [(4, .int v1), (0, .ref (ad 2)), (1, .int p0), (2, .int p1), (3, .ref ap2)]) hx hb d25_8 hl (by decide) rfl (fun ls hl => ?_)
  refine lv_iload (pc := 10) hx hb d25_10 (lv_at hl 0 rfl) ?_
  refine lv_if_lt (pc := 12) (tgt := 33) hx hb d25_12 (by decide) (fun c12 => ?_) (fun c12 => ?_)
  · have h := jb_t c12 h
    obtain rfl := Option.some.inj h
    exact m_vret (pc := 33) hx hb hr hlk hS ⟨rfl, hW⟩ (Nat.le_refl _) (Nat.le_refl _) d25_33
  · have h := jb_f c12 h
    refine lv_iload (pc := 15) hx hb d25_15 (lv_at hl 0 rfl) ?_
    refine lv_aload_n (pc := 17) hx hb d25_17 rfl (lv_at hl 1 rfl) ?_
    refine c_getK (pc := 18) X hW 2 0 4 42 (C := "WordFunctions$Answer") (T := T4) (N := 4) (by decide) rfl rfl rfl rfl tin4 rfl wd174 rfl rfl d25_18 ?_
    refine c_alen (pc := 21) (v := 512) X hW 42 (by decide) rfl (by decide) (by decide) d25_21 ?_
    refine lv_icmp_ge (pc := 22) (tgt := 33) hx hb d25_22 (by decide) (fun c22 => ?_) (fun c22 => ?_)
    · have h := jb_t c22 h
      obtain rfl := Option.some.inj h
      exact m_vret (pc := 33) hx hb hr hlk hS ⟨rfl, hW⟩ (Nat.le_refl _) (Nat.le_refl _) d25_33
    · have h := jb_f c22 h
      refine lv_aload_n (pc := 25) hx hb d25_25 rfl (lv_at hl 1 rfl) ?_
      refine c_getK (pc := 26) X hW 2 0 4 42 (C := "WordFunctions$Answer") (T := T4) (N := 4) (by decide) rfl rfl rfl rfl tin4 rfl wd174 rfl rfl d25_26 ?_
      refine lv_iload (pc := 29) hx hb d25_29 (lv_at hl 0 rfl) ?_
      refine lv_aload_n (pc := 31) hx hb d25_31 rfl (lv_at hl 4 rfl) ?_
      obtain ⟨g2, h⟩ := jg_some h
      obtain ⟨st3, est3, h⟩ := jn_ex h
      refine c_vast (pc := 32) X hW hS 42 (hAp 42 (by decide)) (by decide) fap2 g2 est3 d25_32 (fun H locs hW hS hk => ?_)
      have hSz := hS.1
      obtain rfl := Option.some.inj h
      exact m_vret (pc := 33) hx hb hr hlk hS ⟨rfl, hW⟩ (Nat.le_refl _) (Nat.le_refl _) d25_33
def an_becomePart_25 (K15 : CS → Int32 → Int32 → Int32 → Int32 → Int32 → Option (CS)) : Nat → CS → Int32 → Int32 → Int32 → Int32 → Int32 → Int32 → Option (CS)
  | 0, _, _, _, _, _, _, _ => none
  | fu + 1, st, x2, x3, x4, x5, x6, x7 => jb (x5 ≤ x7) (jn (x6 + 1) (fun v1 => K15 st x2 x3 x4 x5 v1)) (jc (f_ar_at st 0 (x2 + x6) (x3 + x7)) (fun q2 => jc (f_an_keep st x6 x7 q2) (fun q4 => jn (x7 + 1) (fun v5 => an_becomePart_25 K15 fu q4 x2 x3 x4 x5 x6 v5))))
def an_becomePart_15  : Nat → CS → Int32 → Int32 → Int32 → Int32 → Int32 → Option (CS)
  | 0, _, _, _, _, _, _ => none
  | fu + 1, st, x2, x3, x4, x5, x6 => jb (x4 ≤ x6) (jg (inb 0 512) (jn (uV st 2 3 (st.2 42 (0 : Int32).toNatClampNeg)) (fun st8 => some st8))) (an_becomePart_25 (an_becomePart_15 fu) FU st x2 x3 x4 x5 x6 0)
def f_an_becomePart (st : CS) (p1 : Int32) (p2 : Int32) (p3 : Int32) (p4 : Int32) : Option (CS) := jn (uC st 2 1 p3) (fun st9 => jn (uC st9 2 2 p4) (fun st10 => an_becomePart_15 FU st10 p1 p2 p3 p4 0))
set_option maxHeartbeats 4000000 in
set_option maxRecDepth 100000 in
theorem c_an_becomePart (l : Launch) (ρ : RH) (ad : Nat → Nat) (H : Heap) (P : Nat → Prop) (st : CS) (p1 : Int32) (p2 : Int32) (p3 : Int32) (p4 : Int32) (res : CS) (hW : CW ρ P ad st H) (h : f_an_becomePart st p1 p2 p3 p4 = some res) : Met l y23 (wsOf y23 b23 8 none) ({ frames := 3, cells := 0, slots := 0, locals := 67 } : Room) (va_Pc [.ref (ad 2), .ref (ad 1), .int p1, .int p2, .int p3, .int p4] (KP ρ H)) (mQ (fun v H1 => v = none ∧ CW ρ P ad res H1) (MA wC ad H.size)) 0 0 (MA wC ad H.size) := by
  refine m_ofW (own := "WordFunctions$Answer") (plainFor_of_name rfl) rfl (Nat.le_of_ble_eq_true rfl) fun p e s m args below meth c ls hx hb hr hlk _ X hs hl => ?_
  subst hs
  have hS : va_S (MA wC ad s.heap.size) s.heap s.heap [] := va_S.rf
  have hSz := hS.1
  have hAz : ∀ q, s.heap.size ≤ q → (MA wC ad s.heap.size) q := fun q hq => Or.inr hq
  have hAp : ∀ i, i < 46 → (MA wC ad s.heap.size) (ad i) := fun i hi => MA.in hi
  have hPp : ∀ i, i < 46 → P (ad i) := hW.1
  have hl : lv_has ls 8 [(0, .ref (ad 2)), (1, .ref (ad 1)), (2, .int p1), (3, .int p2), (4, .int p3), (5, .int p4)] := hl
  have kc25 : ∀ (K15 : CS → Int32 → Int32 → Int32 → Int32 → Int32 → Option (CS)) (hK15 : ∀ (st : CS) (x2 : Int32) (x3 : Int32) (x4 : Int32) (x5 : Int32) (x6 : Int32) (H : Heap) (locs : List Loc) (ls : Array Slot), CW ρ P ad st H → va_S (MA wC ad s.heap.size) s.heap H locs → lv_has ls 8 [(0, .ref (ad 2)), (1, .ref (ad 1)), (2, .int x2), (3, .int x3), (4, .int x4), (5, .int x5), (6, .int x6)] → K15 st x2 x3 x4 x5 x6 = some res → W p l e ({ frames := 3, cells := 0, slots := 0, locals := 67 } : Room) s m args below meth c H locs 0 0 (MQ below (mQ (fun v H1 => v = none ∧ CW ρ P ad res H1) (MA wC ad s.heap.size)) args s 0 0 (MA wC ad s.heap.size)) (F0 m 15 ls [])) (fu : Nat), ∀ (st : CS) (x2 : Int32) (x3 : Int32) (x4 : Int32) (x5 : Int32) (x6 : Int32) (x7 : Int32) (H : Heap) (locs : List Loc) (ls : Array Slot), CW ρ P ad st H → va_S (MA wC ad s.heap.size) s.heap H locs → lv_has ls 8 [(0, .ref (ad 2)), (1, .ref (ad 1)), (2, .int x2), (3, .int x3), (4, .int x4), (5, .int x5), (6, .int x6), (7, .int x7)] → an_becomePart_25 K15 fu st x2 x3 x4 x5 x6 x7 = some res → W p l e ({ frames := 3, cells := 0, slots := 0, locals := 67 } : Room) s m args below meth c H locs 0 0 (MQ below (mQ (fun v H1 => v = none ∧ CW ρ P ad res H1) (MA wC ad s.heap.size)) args s 0 0 (MA wC ad s.heap.size)) (F0 m 25 ls []) := by
    intro K15 hK15 fu
    induction fu with
    | zero => intro st x2 x3 x4 x5 x6 x7 H locs ls hW hS hl h; cases h
    | succ fu hK25 =>
      intro st x2 x3 x4 x5 x6 x7 H locs ls hW hS hl h
      have hSz := hS.1
      unfold an_becomePart_25 at h
      refine lv_iload (pc := 25) hx hb d23_25 (lv_at hl 7 rfl) ?_
      refine lv_iload (pc := 27) hx hb d23_27 (lv_at hl 5 rfl) ?_
      refine lv_icmp_ge (pc := 29) (tgt := 59) hx hb d23_29 (by decide) (fun c29 => ?_) (fun c29 => ?_)
      · have h := jb_t c29 h
        obtain ⟨v1, ev1, h⟩ := jn_ex h
        refine lv_iinc (pc := 59) (v := v1) (lv' := [(6, .int v1), (0, .ref (ad 2)), (1, .ref (ad 1)), (2, .int x2), (3, .int x3), (4, .int x4), (5, .int x5), (7, .int x7)]) hx hb d23_59 hl (k := 6) rfl (by rw [ev1]; rfl) (by decide) rfl (fun ls hl => ?_)
        refine lv_goto (pc := 62) (tgt := 15) hx hb d23_62 (by decide) ?_
        exact hK15 st x2 x3 x4 x5 v1 _ _ _ hW hS (lv_sub hl [1, 2, 3, 4, 5, 6, 0] rfl) h
      · have h := jb_f c29 h
        refine lv_aload_n (pc := 32) hx hb d23_32 rfl (lv_at hl 0 rfl) ?_
        refine lv_iload (pc := 33) hx hb d23_33 (lv_at hl 6 rfl) ?_
        refine lv_iload (pc := 35) hx hb d23_35 (lv_at hl 7 rfl) ?_
        refine lv_aload_n (pc := 37) hx hb d23_37 rfl (lv_at hl 1 rfl) ?_
        refine lv_iconst (pc := 38) (v := 0) hx hb d23_38 (by decide) ?_
        refine lv_iload_n (pc := 39) hx hb d23_39 rfl (lv_at hl 2 rfl) ?_
        refine lv_iload (pc := 40) hx hb d23_40 (lv_at hl 6 rfl) ?_
        refine lv_iadd (pc := 42) hx hb d23_42 ?_
        refine lv_iload_n (pc := 43) hx hb d23_43 rfl (lv_at hl 3 rfl) ?_
        refine lv_iload (pc := 44) hx hb d23_44 (lv_at hl 7 rfl) ?_
        refine lv_iadd (pc := 46) hx hb d23_46 ?_
        obtain ⟨q2, hq2, h⟩ := jc_some h
        refine k_callV (pc := 47) (n := 3) X hS (c_ar_at l ρ ad _ P st 0 (x2 + x6) (x3 + x7) q2 hW  hq2) wd849 wd846 wd847 wd848 wd3 (by decide) ⟨rfl, rfl, Nat.le_of_ble_eq_true rfl, Nat.le_of_ble_eq_true rfl⟩ (c_recv X hW 1 3 (by decide) rfl rfl) (As := [.int 0, .int (x2 + x6), .int (x3 + x7)]) (rest := [.int x7, .int x6, .ref (ad 2)]) rfl rfl hl.1 (Nat.le_of_ble_eq_true rfl) d23_47 ⟨Nat.le_refl _, Nat.le_refl _⟩ (fun q hq => False.elim hq) (fun v H1 locs1 hv _ _ hSq2 => ?_)
        obtain ⟨u3, rfl, fu3, rfl⟩ := hv
        have hS := hSq2
        have hSz := hS.1
        obtain ⟨q4, hq4, h⟩ := jc_some h
        refine k_callV (pc := 50) (n := 3) X hS (c_an_keep l ρ ad _ P st x6 x7 u3 q2 q4 hW fu3 hq4) wd854 wd851 wd853 sl25 wd6 (by decide) ⟨rfl, rfl, Nat.le_of_ble_eq_true rfl, Nat.le_of_ble_eq_true rfl⟩ (c_recv X hW 2 4 (by decide) rfl rfl) (As := [.int x6, .int x7, .ref u3]) (rest := []) rfl rfl hl.1 (Nat.le_of_ble_eq_true rfl) d23_50 ⟨Nat.le_refl _, Nat.le_refl _⟩ (fun q hq => MA.mono hS.1 hq) (fun v H1 locs1 hv hz1 hz2 hSq4 => ?_)
        have hPq := hW.1
        obtain ⟨rfl, hW⟩ := hv
        have hS := hSq4
        have hSz := hS.1
        obtain ⟨v5, ev5, h⟩ := jn_ex h
        refine lv_iinc (pc := 53) (v := v5) (lv' := [(7, .int v5), (0, .ref (ad 2)), (1, .ref (ad 1)), (2, .int x2), (3, .int x3), (4, .int x4), (5, .int x5), (6, .int x6)]) hx hb d23_53 hl (k := 7) rfl (by rw [ev5]; rfl) (by decide) rfl (fun ls hl => ?_)
        refine lv_goto (pc := 56) (tgt := 25) hx hb d23_56 (by decide) ?_
        exact hK25 q4 x2 x3 x4 x5 x6 v5 _ _ _ hW hS (lv_sub hl [1, 2, 3, 4, 5, 6, 7, 0] rfl) h
  have kc15 : ∀ (fu : Nat), ∀ (st : CS) (x2 : Int32) (x3 : Int32) (x4 : Int32) (x5 : Int32) (x6 : Int32) (H : Heap) (locs : List Loc) (ls : Array Slot), CW ρ P ad st H → va_S (MA wC ad s.heap.size) s.heap H locs → lv_has ls 8 [(0, .ref (ad 2)), (1, .ref (ad 1)), (2, .int x2), (3, .int x3), (4, .int x4), (5, .int x5), (6, .int x6)] → an_becomePart_15 fu st x2 x3 x4 x5 x6 = some res → W p l e ({ frames := 3, cells := 0, slots := 0, locals := 67 } : Room) s m args below meth c H locs 0 0 (MQ below (mQ (fun v H1 => v = none ∧ CW ρ P ad res H1) (MA wC ad s.heap.size)) args s 0 0 (MA wC ad s.heap.size)) (F0 m 15 ls []) := by
    intro  fu
    induction fu with
    | zero => intro st x2 x3 x4 x5 x6 H locs ls hW hS hl h; cases h
    | succ fu hK15 =>
      intro st x2 x3 x4 x5 x6 H locs ls hW hS hl h
      have hSz := hS.1
      unfold an_becomePart_15 at h
      refine lv_iload (pc := 15) hx hb d23_15 (lv_at hl 6 rfl) ?_
      refine lv_iload (pc := 17) hx hb d23_17 (lv_at hl 4 rfl) ?_
      refine lv_icmp_ge (pc := 19) (tgt := 65) hx hb d23_19 (by decide) (fun c19 => ?_) (fun c19 => ?_)
      · have h := jb_t c19 h
        refine lv_aload_n (pc := 65) hx hb d23_65 rfl (lv_at hl 0 rfl) ?_
        refine lv_aload_n (pc := 66) hx hb d23_66 rfl (lv_at hl 0 rfl) ?_
        refine c_getK (pc := 67) X hW 2 0 4 42 (C := "WordFunctions$Answer") (T := T4) (N := 4) (by decide) rfl rfl rfl rfl tin4 rfl wd174 rfl rfl d23_67 ?_
        refine lv_iconst (pc := 70) (v := 0) hx hb d23_70 (by decide) ?_
        obtain ⟨g6, h⟩ := jg_some h
        refine c_vald (pc := 71) X hW 42 (by decide) g6 d23_71 (fun u7 fu7 => ?_)
        obtain ⟨st8, est8, h⟩ := jn_ex h
        refine c_puttold (pc := 72) X hW hS fu7 est8 (hAp 2 (by decide)) wd179 d23_72 (fun H locs hW hS hk => ?_)
        have hSz := hS.1
        obtain rfl := Option.some.inj h
        exact m_vret (pc := 75) hx hb hr hlk hS ⟨rfl, hW⟩ (Nat.le_refl _) (Nat.le_refl _) d23_75
      · have h := jb_f c19 h
        refine lv_iconst (pc := 22) (v := 0) hx hb d23_22 (by decide) ?_
        refine lv_istore (pc := 23) (lv' := [(7, .int 0), (0, .ref (ad 2)), (1, .ref (ad 1)), (2, .int x2), (3, .int x3), (4, .int x4), (5, .int x5), (6, .int x6)]) hx hb d23_23 hl (by decide) rfl (fun ls hl => ?_)
        exact kc25 _ hK15 FU st x2 x3 x4 x5 x6 0 _ _ _ hW hS (lv_sub hl [1, 2, 3, 4, 5, 6, 7, 0] rfl) h
  unfold f_an_becomePart at h
  refine lv_aload_n (pc := 0) hx hb d23_0 rfl (lv_at hl 0 rfl) ?_
  refine lv_iload (pc := 1) hx hb d23_1 (lv_at hl 4 rfl) ?_
  obtain ⟨st9, est9, h⟩ := jn_ex h
  refine c_putI (pc := 3) X hW hS 2 1 4 (C := "WordFunctions$Answer") (T := T4) (N := 4) est9 (hAp _ (by decide)) (by decide) rfl rfl rfl rfl tin4 ty4 tyo4 tnm4 rfl wd175 rfl rfl rfl rfl d23_3 (fun H locs hW hS hk => ?_)
  have hSz := hS.1
  refine lv_aload_n (pc := 6) hx hb d23_6 rfl (lv_at hl 0 rfl) ?_
  refine lv_iload (pc := 7) hx hb d23_7 (lv_at hl 5 rfl) ?_
  obtain ⟨st10, est10, h⟩ := jn_ex h
  refine c_putI (pc := 9) X hW hS 2 2 4 (C := "WordFunctions$Answer") (T := T4) (N := 4) est10 (hAp _ (by decide)) (by decide) rfl rfl rfl rfl tin4 ty4 tyo4 tnm4 rfl wd177 rfl rfl rfl rfl d23_9 (fun H locs hW hS hk => ?_)
  have hSz := hS.1
  refine lv_iconst (pc := 12) (v := 0) hx hb d23_12 (by decide) ?_
  refine lv_istore (pc := 13) (lv' := [(6, .int 0), (0, .ref (ad 2)), (1, .ref (ad 1)), (2, .int p1), (3, .int p2), (4, .int p3), (5, .int p4)]) hx hb d23_13 hl (by decide) rfl (fun ls hl => ?_)
  exact kc15  FU st10 p1 p2 p3 p4 0 _ _ _ hW hS (lv_sub hl [1, 2, 3, 4, 5, 6, 0] rfl) h
def f_an_isOne (st : CS) : Option (Int32) := jb ((st.1 2 1) = 1) (jb ((st.1 2 2) = 1) (some 1) (some 0)) (some 0)
set_option maxHeartbeats 4000000 in
set_option maxRecDepth 100000 in
theorem c_an_isOne (l : Launch) (ρ : RH) (ad : Nat → Nat) (H : Heap) (P : Nat → Prop) (st : CS) (res : Int32) (hW : CW ρ P ad st H) (h : f_an_isOne st = some res) : Met l y24 (wsOf y24 b24 1 (some .boolean)) ({ frames := 0, cells := 0, slots := 0, locals := 0 } : Room) (va_Pc [.ref (ad 2)] (KP ρ H)) (mQ (fun v H1 => v = some (.int res) ∧ H1 = H) (fun _ => False)) 0 0 (fun _ => False) := by
  refine m_ofW (own := "WordFunctions$Answer") (plainFor_of_name rfl) rfl (Nat.le_of_ble_eq_true rfl) fun p e s m args below meth c ls hx hb hr hlk _ X hs hl => ?_
  subst hs
  have hS : va_S (fun _ => False) s.heap s.heap [] := va_S.rf
  have hSz := hS.1
  have hPp : ∀ i, i < 46 → P (ad i) := hW.1
  have hl : lv_has ls 1 [(0, .ref (ad 2))] := hl
  unfold f_an_isOne at h
  refine lv_aload_n (pc := 0) hx hb d24_0 rfl (lv_at hl 0 rfl) ?_
  refine c_getI (pc := 1) X hW 2 1 4 (C := "WordFunctions$Answer") (T := T4) (N := 4) (by decide) rfl rfl rfl rfl tin4 rfl wd175 rfl d24_1 ?_
  refine lv_iconst (pc := 4) (v := 1) hx hb d24_4 (by decide) ?_
  refine lv_icmp_ne (pc := 5) (tgt := 20) hx hb d24_5 (by decide) (fun c5 => ?_) (fun c5 => ?_)
  · have h := jb_f c5 h
    refine lv_iconst (pc := 20) (v := 0) hx hb d24_20 (by decide) ?_
    obtain rfl := Option.some.inj h
    exact m_zret (pc := 21) hx hb hr hlk hS ⟨rfl, rfl⟩ (Nat.le_refl _) (Nat.le_refl _) d24_21 (by decide)
  · have h := jb_t c5 h
    refine lv_aload_n (pc := 8) hx hb d24_8 rfl (lv_at hl 0 rfl) ?_
    refine c_getI (pc := 9) X hW 2 2 4 (C := "WordFunctions$Answer") (T := T4) (N := 4) (by decide) rfl rfl rfl rfl tin4 rfl wd177 rfl d24_9 ?_
    refine lv_iconst (pc := 12) (v := 1) hx hb d24_12 (by decide) ?_
    refine lv_icmp_ne (pc := 13) (tgt := 20) hx hb d24_13 (by decide) (fun c13 => ?_) (fun c13 => ?_)
    · have h := jb_f c13 h
      refine lv_iconst (pc := 20) (v := 0) hx hb d24_20 (by decide) ?_
      obtain rfl := Option.some.inj h
      exact m_zret (pc := 21) hx hb hr hlk hS ⟨rfl, rfl⟩ (Nat.le_refl _) (Nat.le_refl _) d24_21 (by decide)
    · have h := jb_t c13 h
      refine lv_iconst (pc := 16) (v := 1) hx hb d24_16 (by decide) ?_
      refine lv_goto (pc := 17) (tgt := 21) hx hb d24_17 (by decide) ?_
      obtain rfl := Option.some.inj h
      exact m_zret (pc := 21) hx hb hr hlk hS ⟨rfl, rfl⟩ (Nat.le_refl _) (Nat.le_refl _) d24_21 (by decide)
def f_ar_rows (st : CS) (p0 : Int32) : Option (Int32) := jc (f_ar_grid st p0) (fun q1 => jc (f_ma_max 1 (st.1 q1 0)) (fun q2 => some q2))
set_option maxHeartbeats 4000000 in
set_option maxRecDepth 100000 in
theorem c_ar_rows (l : Launch) (ρ : RH) (ad : Nat → Nat) (H : Heap) (P : Nat → Prop) (st : CS) (p0 : Int32) (res : Int32) (hW : CW ρ P ad st H) (h : f_ar_rows st p0 = some res) : Met l y41 (wsOf y41 b41 2 (some .int)) ({ frames := 1, cells := 0, slots := 0, locals := 21 } : Room) (va_Pc [.ref (ad 1), .int p0] (KP ρ H)) (mQ (fun v H1 => v = some (.int res) ∧ H1 = H) (fun _ => False)) 0 0 (fun _ => False) := by
  refine m_ofW (own := "WordFunctions$Arguments") (plainFor_of_name rfl) rfl (Nat.le_of_ble_eq_true rfl) fun p e s m args below meth c ls hx hb hr hlk _ X hs hl => ?_
  subst hs
  have hS : va_S (fun _ => False) s.heap s.heap [] := va_S.rf
  have hSz := hS.1
  have hPp : ∀ i, i < 46 → P (ad i) := hW.1
  have hl : lv_has ls 2 [(0, .ref (ad 1)), (1, .int p0)] := hl
  unfold f_ar_rows at h
  refine lv_iconst (pc := 0) (v := 1) hx hb d41_0 (by decide) ?_
  refine lv_aload_n (pc := 1) hx hb d41_1 rfl (lv_at hl 0 rfl) ?_
  refine lv_iload_n (pc := 2) hx hb d41_2 rfl (lv_at hl 1 rfl) ?_
  obtain ⟨q1, hq1, h⟩ := jc_some h
  refine k_callV (pc := 3) (n := 1) X hS (c_ar_grid l ρ ad _ P st p0 q1 hW  hq1) wd628 wd625 wd626 wd627 wd3 (by decide) ⟨rfl, rfl, Nat.le_of_ble_eq_true rfl, Nat.le_of_ble_eq_true rfl⟩ (c_recv X hW 1 3 (by decide) rfl rfl) (As := [.int p0]) (rest := [.int 1]) rfl rfl hl.1 (Nat.le_of_ble_eq_true rfl) d41_3 ⟨Nat.le_refl _, Nat.le_refl _⟩ (fun q hq => False.elim hq) (fun v H1 locs1 hv _ _ hSq1 => ?_)
  obtain ⟨rfl, hgq1, rfl⟩ := hv
  have hS := hSq1
  have hSz := hS.1
  refine c_getI (pc := 6) X hW q1 0 2 (C := "WordFunctions$Grid") (T := T2) (N := 6) hgq1.1 hgq1.2 rfl rfl rfl tin2 rfl wd104 rfl d41_6 ?_
  obtain ⟨q2, hq2, h⟩ := jc_some h
  refine k_callS (pc := 9) (n := 2) X hS (c_ma_max l ρ _ P 1 (st.1 q1 0) q2 hW.2.2.1 hW.2.1  hq2) wd333 wd750 wd332 wd17 (by decide) ⟨rfl, rfl, Nat.le_of_ble_eq_true rfl, Nat.le_of_ble_eq_true rfl⟩ (As := [.int 1, .int (st.1 q1 0)]) (rest := []) rfl rfl hl.1 (Nat.le_of_ble_eq_true rfl) d41_9 ⟨Nat.le_refl _, Nat.le_refl _⟩ (fun q hq => False.elim hq) (fun v H1 locs1 hv _ _ hSq2 => ?_)
  obtain ⟨rfl, rfl⟩ := hv
  have hS := hSq2
  have hSz := hS.1
  obtain rfl := Option.some.inj h
  exact m_iret (pc := 12) hx hb hr hlk hS ⟨rfl, rfl⟩ (Nat.le_refl _) (Nat.le_refl _) d41_12
def an_transpose_30 (K20 : CS → Int32 → Option (CS)) : Nat → CS → Int32 → Int32 → Option (CS)
  | 0, _, _, _ => none
  | fu + 1, st, x2, x3 => jb ((st.1 2 2) ≤ x3) (jn (x2 + 1) (fun v1 => K20 st v1)) (jc (f_ar_at st 0 x3 x2) (fun q2 => jc (f_an_keep st x2 x3 q2) (fun q4 => jn (x3 + 1) (fun v5 => an_transpose_30 K20 fu q4 x2 v5))))
def an_transpose_20  : Nat → CS → Int32 → Option (CS)
  | 0, _, _ => none
  | fu + 1, st, x2 => jb ((st.1 2 1) ≤ x2) (jg (inb 0 512) (jn (uV st 2 3 (st.2 42 (0 : Int32).toNatClampNeg)) (fun st8 => some st8))) (an_transpose_30 (an_transpose_20 fu) FU st x2 0)
def f_an_transpose (st : CS) : Option (CS) := jc (f_ar_columns st 0) (fun q9 => jn (uC st 2 1 q9) (fun st10 => jc (f_ar_rows st10 0) (fun q11 => jn (uC st10 2 2 q11) (fun st12 => an_transpose_20 FU st12 0))))
set_option maxHeartbeats 4000000 in
set_option maxRecDepth 100000 in
theorem c_an_transpose (l : Launch) (ρ : RH) (ad : Nat → Nat) (H : Heap) (P : Nat → Prop) (st : CS) (res : CS) (hW : CW ρ P ad st H) (h : f_an_transpose st = some res) : Met l y27 (wsOf y27 b27 4 none) ({ frames := 3, cells := 0, slots := 0, locals := 67 } : Room) (va_Pc [.ref (ad 2), .ref (ad 1)] (KP ρ H)) (mQ (fun v H1 => v = none ∧ CW ρ P ad res H1) (MA wC ad H.size)) 0 0 (MA wC ad H.size) := by
  refine m_ofW (own := "WordFunctions$Answer") (plainFor_of_name rfl) rfl (Nat.le_of_ble_eq_true rfl) fun p e s m args below meth c ls hx hb hr hlk _ X hs hl => ?_
  subst hs
  have hS : va_S (MA wC ad s.heap.size) s.heap s.heap [] := va_S.rf
  have hSz := hS.1
  have hAz : ∀ q, s.heap.size ≤ q → (MA wC ad s.heap.size) q := fun q hq => Or.inr hq
  have hAp : ∀ i, i < 46 → (MA wC ad s.heap.size) (ad i) := fun i hi => MA.in hi
  have hPp : ∀ i, i < 46 → P (ad i) := hW.1
  have hl : lv_has ls 4 [(0, .ref (ad 2)), (1, .ref (ad 1))] := hl
  have kc30 : ∀ (K20 : CS → Int32 → Option (CS)) (hK20 : ∀ (st : CS) (x2 : Int32) (H : Heap) (locs : List Loc) (ls : Array Slot), CW ρ P ad st H → va_S (MA wC ad s.heap.size) s.heap H locs → lv_has ls 4 [(0, .ref (ad 2)), (1, .ref (ad 1)), (2, .int x2)] → K20 st x2 = some res → W p l e ({ frames := 3, cells := 0, slots := 0, locals := 67 } : Room) s m args below meth c H locs 0 0 (MQ below (mQ (fun v H1 => v = none ∧ CW ρ P ad res H1) (MA wC ad s.heap.size)) args s 0 0 (MA wC ad s.heap.size)) (F0 m 20 ls [])) (fu : Nat), ∀ (st : CS) (x2 : Int32) (x3 : Int32) (H : Heap) (locs : List Loc) (ls : Array Slot), CW ρ P ad st H → va_S (MA wC ad s.heap.size) s.heap H locs → lv_has ls 4 [(0, .ref (ad 2)), (1, .ref (ad 1)), (2, .int x2), (3, .int x3)] → an_transpose_30 K20 fu st x2 x3 = some res → W p l e ({ frames := 3, cells := 0, slots := 0, locals := 67 } : Room) s m args below meth c H locs 0 0 (MQ below (mQ (fun v H1 => v = none ∧ CW ρ P ad res H1) (MA wC ad s.heap.size)) args s 0 0 (MA wC ad s.heap.size)) (F0 m 30 ls []) := by
    intro K20 hK20 fu
    induction fu with
    | zero => intro st x2 x3 H locs ls hW hS hl h; cases h
    | succ fu hK30 =>
      intro st x2 x3 H locs ls hW hS hl h
      have hSz := hS.1
      unfold an_transpose_30 at h
      refine lv_iload_n (pc := 30) hx hb d27_30 rfl (lv_at hl 3 rfl) ?_
      refine lv_aload_n (pc := 31) hx hb d27_31 rfl (lv_at hl 0 rfl) ?_
      refine c_getI (pc := 32) X hW 2 2 4 (C := "WordFunctions$Answer") (T := T4) (N := 4) (by decide) rfl rfl rfl rfl tin4 rfl wd177 rfl d27_32 ?_
      refine lv_icmp_ge (pc := 35) (tgt := 57) hx hb d27_35 (by decide) (fun c35 => ?_) (fun c35 => ?_)
      · have h := jb_t c35 h
        obtain ⟨v1, ev1, h⟩ := jn_ex h
        refine lv_iinc (pc := 57) (v := v1) (lv' := [(2, .int v1), (0, .ref (ad 2)), (1, .ref (ad 1)), (3, .int x3)]) hx hb d27_57 hl (k := 2) rfl (by rw [ev1]; rfl) (by decide) rfl (fun ls hl => ?_)
        refine lv_goto (pc := 60) (tgt := 20) hx hb d27_60 (by decide) ?_
        exact hK20 st v1 _ _ _ hW hS (lv_sub hl [1, 2, 0] rfl) h
      · have h := jb_f c35 h
        refine lv_aload_n (pc := 38) hx hb d27_38 rfl (lv_at hl 0 rfl) ?_
        refine lv_iload_n (pc := 39) hx hb d27_39 rfl (lv_at hl 2 rfl) ?_
        refine lv_iload_n (pc := 40) hx hb d27_40 rfl (lv_at hl 3 rfl) ?_
        refine lv_aload_n (pc := 41) hx hb d27_41 rfl (lv_at hl 1 rfl) ?_
        refine lv_iconst (pc := 42) (v := 0) hx hb d27_42 (by decide) ?_
        refine lv_iload_n (pc := 43) hx hb d27_43 rfl (lv_at hl 3 rfl) ?_
        refine lv_iload_n (pc := 44) hx hb d27_44 rfl (lv_at hl 2 rfl) ?_
        obtain ⟨q2, hq2, h⟩ := jc_some h
        refine k_callV (pc := 45) (n := 3) X hS (c_ar_at l ρ ad _ P st 0 x3 x2 q2 hW  hq2) wd849 wd846 wd847 wd848 wd3 (by decide) ⟨rfl, rfl, Nat.le_of_ble_eq_true rfl, Nat.le_of_ble_eq_true rfl⟩ (c_recv X hW 1 3 (by decide) rfl rfl) (As := [.int 0, .int x3, .int x2]) (rest := [.int x3, .int x2, .ref (ad 2)]) rfl rfl hl.1 (Nat.le_of_ble_eq_true rfl) d27_45 ⟨Nat.le_refl _, Nat.le_refl _⟩ (fun q hq => False.elim hq) (fun v H1 locs1 hv _ _ hSq2 => ?_)
        obtain ⟨u3, rfl, fu3, rfl⟩ := hv
        have hS := hSq2
        have hSz := hS.1
        obtain ⟨q4, hq4, h⟩ := jc_some h
        refine k_callV (pc := 48) (n := 3) X hS (c_an_keep l ρ ad _ P st x2 x3 u3 q2 q4 hW fu3 hq4) wd854 wd851 wd853 sl25 wd6 (by decide) ⟨rfl, rfl, Nat.le_of_ble_eq_true rfl, Nat.le_of_ble_eq_true rfl⟩ (c_recv X hW 2 4 (by decide) rfl rfl) (As := [.int x2, .int x3, .ref u3]) (rest := []) rfl rfl hl.1 (Nat.le_of_ble_eq_true rfl) d27_48 ⟨Nat.le_refl _, Nat.le_refl _⟩ (fun q hq => MA.mono hS.1 hq) (fun v H1 locs1 hv hz1 hz2 hSq4 => ?_)
        have hPq := hW.1
        obtain ⟨rfl, hW⟩ := hv
        have hS := hSq4
        have hSz := hS.1
        obtain ⟨v5, ev5, h⟩ := jn_ex h
        refine lv_iinc (pc := 51) (v := v5) (lv' := [(3, .int v5), (0, .ref (ad 2)), (1, .ref (ad 1)), (2, .int x2)]) hx hb d27_51 hl (k := 3) rfl (by rw [ev5]; rfl) (by decide) rfl (fun ls hl => ?_)
        refine lv_goto (pc := 54) (tgt := 30) hx hb d27_54 (by decide) ?_
        exact hK30 q4 x2 v5 _ _ _ hW hS (lv_sub hl [1, 2, 3, 0] rfl) h
  have kc20 : ∀ (fu : Nat), ∀ (st : CS) (x2 : Int32) (H : Heap) (locs : List Loc) (ls : Array Slot), CW ρ P ad st H → va_S (MA wC ad s.heap.size) s.heap H locs → lv_has ls 4 [(0, .ref (ad 2)), (1, .ref (ad 1)), (2, .int x2)] → an_transpose_20 fu st x2 = some res → W p l e ({ frames := 3, cells := 0, slots := 0, locals := 67 } : Room) s m args below meth c H locs 0 0 (MQ below (mQ (fun v H1 => v = none ∧ CW ρ P ad res H1) (MA wC ad s.heap.size)) args s 0 0 (MA wC ad s.heap.size)) (F0 m 20 ls []) := by
    intro  fu
    induction fu with
    | zero => intro st x2 H locs ls hW hS hl h; cases h
    | succ fu hK20 =>
      intro st x2 H locs ls hW hS hl h
      have hSz := hS.1
      unfold an_transpose_20 at h
      refine lv_iload_n (pc := 20) hx hb d27_20 rfl (lv_at hl 2 rfl) ?_
      refine lv_aload_n (pc := 21) hx hb d27_21 rfl (lv_at hl 0 rfl) ?_
      refine c_getI (pc := 22) X hW 2 1 4 (C := "WordFunctions$Answer") (T := T4) (N := 4) (by decide) rfl rfl rfl rfl tin4 rfl wd175 rfl d27_22 ?_
      refine lv_icmp_ge (pc := 25) (tgt := 63) hx hb d27_25 (by decide) (fun c25 => ?_) (fun c25 => ?_)
      · have h := jb_t c25 h
        refine lv_aload_n (pc := 63) hx hb d27_63 rfl (lv_at hl 0 rfl) ?_
        refine lv_aload_n (pc := 64) hx hb d27_64 rfl (lv_at hl 0 rfl) ?_
        refine c_getK (pc := 65) X hW 2 0 4 42 (C := "WordFunctions$Answer") (T := T4) (N := 4) (by decide) rfl rfl rfl rfl tin4 rfl wd174 rfl rfl d27_65 ?_
        refine lv_iconst (pc := 68) (v := 0) hx hb d27_68 (by decide) ?_
        obtain ⟨g6, h⟩ := jg_some h
        refine c_vald (pc := 69) X hW 42 (by decide) g6 d27_69 (fun u7 fu7 => ?_)
        obtain ⟨st8, est8, h⟩ := jn_ex h
        refine c_puttold (pc := 70) X hW hS fu7 est8 (hAp 2 (by decide)) wd179 d27_70 (fun H locs hW hS hk => ?_)
        have hSz := hS.1
        obtain rfl := Option.some.inj h
        exact m_vret (pc := 73) hx hb hr hlk hS ⟨rfl, hW⟩ (Nat.le_refl _) (Nat.le_refl _) d27_73
      · have h := jb_f c25 h
        refine lv_iconst (pc := 28) (v := 0) hx hb d27_28 (by decide) ?_
        refine lv_istore_n (pc := 29) (lv' := [(3, .int 0), (0, .ref (ad 2)), (1, .ref (ad 1)), (2, .int x2)]) hx hb d27_29 rfl hl (by decide) rfl (fun ls hl => ?_)
        exact kc30 _ hK20 FU st x2 0 _ _ _ hW hS (lv_sub hl [1, 2, 3, 0] rfl) h
  unfold f_an_transpose at h
  refine lv_aload_n (pc := 0) hx hb d27_0 rfl (lv_at hl 0 rfl) ?_
  refine lv_aload_n (pc := 1) hx hb d27_1 rfl (lv_at hl 1 rfl) ?_
  refine lv_iconst (pc := 2) (v := 0) hx hb d27_2 (by decide) ?_
  obtain ⟨q9, hq9, h⟩ := jc_some h
  refine k_callV (pc := 3) (n := 1) X hS (c_ar_columns l ρ ad _ P st 0 q9 hW  hq9) wd754 wd859 wd752 wd753 wd3 (by decide) ⟨rfl, rfl, Nat.le_of_ble_eq_true rfl, Nat.le_of_ble_eq_true rfl⟩ (c_recv X hW 1 3 (by decide) rfl rfl) (As := [.int 0]) (rest := [.ref (ad 2)]) rfl rfl hl.1 (Nat.le_of_ble_eq_true rfl) d27_3 ⟨Nat.le_refl _, Nat.le_refl _⟩ (fun q hq => False.elim hq) (fun v H1 locs1 hv _ _ hSq9 => ?_)
  obtain ⟨rfl, rfl⟩ := hv
  have hS := hSq9
  have hSz := hS.1
  obtain ⟨st10, est10, h⟩ := jn_ex h
  refine c_putI (pc := 6) X hW hS 2 1 4 (C := "WordFunctions$Answer") (T := T4) (N := 4) est10 (hAp _ (by decide)) (by decide) rfl rfl rfl rfl tin4 ty4 tyo4 tnm4 rfl wd175 rfl rfl rfl rfl d27_6 (fun H locs hW hS hk => ?_)
  have hSz := hS.1
  refine lv_aload_n (pc := 9) hx hb d27_9 rfl (lv_at hl 0 rfl) ?_
  refine lv_aload_n (pc := 10) hx hb d27_10 rfl (lv_at hl 1 rfl) ?_
  refine lv_iconst (pc := 11) (v := 0) hx hb d27_11 (by decide) ?_
  obtain ⟨q11, hq11, h⟩ := jc_some h
  refine k_callV (pc := 12) (n := 1) X hS (c_ar_rows l ρ ad _ P st10 0 q11 hW  hq11) wd749 wd860 wd747 wd748 wd3 (by decide) ⟨rfl, rfl, Nat.le_of_ble_eq_true rfl, Nat.le_of_ble_eq_true rfl⟩ (c_recv X hW 1 3 (by decide) rfl rfl) (As := [.int 0]) (rest := [.ref (ad 2)]) rfl rfl hl.1 (Nat.le_of_ble_eq_true rfl) d27_12 ⟨Nat.le_refl _, Nat.le_refl _⟩ (fun q hq => False.elim hq) (fun v H1 locs1 hv _ _ hSq11 => ?_)
  obtain ⟨rfl, rfl⟩ := hv
  have hS := hSq11
  have hSz := hS.1
  obtain ⟨st12, est12, h⟩ := jn_ex h
  refine c_putI (pc := 15) X hW hS 2 2 4 (C := "WordFunctions$Answer") (T := T4) (N := 4) est12 (hAp _ (by decide)) (by decide) rfl rfl rfl rfl tin4 ty4 tyo4 tnm4 rfl wd177 rfl rfl rfl rfl d27_15 (fun H locs hW hS hk => ?_)
  have hSz := hS.1
  refine lv_iconst (pc := 18) (v := 0) hx hb d27_18 (by decide) ?_
  refine lv_istore_n (pc := 19) (lv' := [(2, .int 0), (0, .ref (ad 2)), (1, .ref (ad 1))]) hx hb d27_19 rfl hl (by decide) rfl (fun ls hl => ?_)
  exact kc20  FU st12 0 _ _ _ hW hS (lv_sub hl [1, 2, 0] rfl) h
def ar_add_84  : Nat → CS → Int64 → Int32 → Option (Int32 × CS)
  | 0, _, _, _ => none
  | fu + 1, st, x3, x6 => jb (0 ≤ (lg_cmp x6.toInt64 x3)) (jn (uC st 1 5 ((st.1 1 5) + 1)) (fun st1 => some (1, st1))) (jg (inb (st.1 1 4) 512) (jn (uV st 40 (st.1 1 4).toNatClampNeg (st.2 1 0)) (fun st4 => jn (uC st4 1 4 ((st4.1 1 4) + 1)) (fun st5 => jn (x6 + 1) (fun v6 => ar_add_84 fu st5 x3 v6)))))
def f_ar_add (st : CS) (p0 : Int32) (p1 : Int32) : Option (Int32 × CS) := jn (p0.toInt64 * p1.toInt64) (fun v7 => jb (30 ≤ (st.1 1 5)) (some (0, st)) (jb ((lg_cmp v7 0) < 0) (some (0, st)) (jb ((lg_cmp ((st.1 1 4).toInt64 + v7) ((512 : Int32).toInt64)) ≤ 0) (jg (inb (st.1 1 5) 30) (jn (9 + (st.1 1 5).toNatClampNeg) (fun v9 => jn (uC st v9 0 p0) (fun st10 => jn (uC st10 v9 1 p1) (fun st11 => jn (uC st11 v9 2 (st11.1 1 4)) (fun st12 => jn (uC st12 v9 3 0) (fun st13 => ar_add_84 FU st13 v7 0))))))) (some (0, st)))))
set_option maxHeartbeats 4000000 in
set_option maxRecDepth 100000 in
theorem c_ar_add (l : Launch) (ρ : RH) (ad : Nat → Nat) (H : Heap) (P : Nat → Prop) (st : CS) (p0 : Int32) (p1 : Int32) (res : Int32 × CS) (hW : CW ρ P ad st H) (h : f_ar_add st p0 p1 = some res) : Met l y29 (wsOf y29 b29 7 (some .boolean)) ({ frames := 0, cells := 0, slots := 0, locals := 0 } : Room) (va_Pc [.ref (ad 1), .int p0, .int p1] (KP ρ H)) (mQ (fun v H1 => v = some (.int res.1) ∧ CW ρ P ad res.2 H1) (MA wC ad H.size)) 0 0 (MA wC ad H.size) := by
  refine m_ofW (own := "WordFunctions$Arguments") (plainFor_of_name rfl) rfl (Nat.le_of_ble_eq_true rfl) fun p e s m args below meth c ls hx hb hr hlk _ X hs hl => ?_
  subst hs
  have hS : va_S (MA wC ad s.heap.size) s.heap s.heap [] := va_S.rf
  have hSz := hS.1
  have hAz : ∀ q, s.heap.size ≤ q → (MA wC ad s.heap.size) q := fun q hq => Or.inr hq
  have hAp : ∀ i, i < 46 → (MA wC ad s.heap.size) (ad i) := fun i hi => MA.in hi
  have hPp : ∀ i, i < 46 → P (ad i) := hW.1
  have hl : lv_has ls 7 [(0, .ref (ad 1)), (1, .int p0), (2, .int p1)] := hl
  have kc84 : ∀ (fu : Nat), ∀ (st : CS) (x3 : Int64) (x6 : Int32) (H : Heap) (locs : List Loc) (ls : Array Slot), CW ρ P ad st H → va_S (MA wC ad s.heap.size) s.heap H locs → lv_has ls 7 [(0, .ref (ad 1)), (3, .long x3), (6, .int x6)] → ar_add_84 fu st x3 x6 = some res → W p l e ({ frames := 0, cells := 0, slots := 0, locals := 0 } : Room) s m args below meth c H locs 0 0 (MQ below (mQ (fun v H1 => v = some (.int res.1) ∧ CW ρ P ad res.2 H1) (MA wC ad s.heap.size)) args s 0 0 (MA wC ad s.heap.size)) (F0 m 84 ls []) := by
    intro  fu
    induction fu with
    | zero => intro st x3 x6 H locs ls hW hS hl h; cases h
    | succ fu hK84 =>
      intro st x3 x6 H locs ls hW hS hl h
      have hSz := hS.1
      unfold ar_add_84 at h
      refine lv_iload (pc := 84) hx hb d29_84 (lv_at hl 2 rfl) ?_
      refine lv_i2l (pc := 86) hx hb d29_86 rfl ?_
      refine lv_lload_n (pc := 87) hx hb d29_87 rfl (lv_at hl 1 rfl) ?_
      refine W.lcmp (pc := 88) hx hb d29_88 ?_
      refine lv_if_ge (pc := 89) (tgt := 121) hx hb d29_89 (by decide) (fun c89 => ?_) (fun c89 => ?_)
      · have h := jb_t c89 h
        refine lv_aload_n (pc := 121) hx hb d29_121 rfl (lv_at hl 0 rfl) ?_
        refine lv_dup (pc := 122) hx hb d29_122 rfl ?_
        refine c_getI (pc := 123) X hW 1 5 3 (C := "WordFunctions$Arguments") (T := T3) (N := 9) (by decide) rfl rfl rfl rfl tin3 rfl wd134 rfl d29_123 ?_
        refine lv_iconst (pc := 126) (v := 1) hx hb d29_126 (by decide) ?_
        refine lv_iadd (pc := 127) hx hb d29_127 ?_
        obtain ⟨st1, est1, h⟩ := jn_ex h
        refine c_putI (pc := 128) X hW hS 1 5 3 (C := "WordFunctions$Arguments") (T := T3) (N := 9) est1 (hAp _ (by decide)) (by decide) rfl rfl rfl rfl tin3 ty3 tyo3 tnm3 rfl wd134 rfl rfl rfl rfl d29_128 (fun H locs hW hS hk => ?_)
        have hSz := hS.1
        refine lv_iconst (pc := 131) (v := 1) hx hb d29_131 (by decide) ?_
        obtain rfl := Option.some.inj h
        exact m_zret (pc := 132) hx hb hr hlk hS ⟨rfl, hW⟩ (Nat.le_refl _) (Nat.le_refl _) d29_132 (by decide)
      · have h := jb_f c89 h
        refine lv_aload_n (pc := 92) hx hb d29_92 rfl (lv_at hl 0 rfl) ?_
        refine c_getK (pc := 93) X hW 1 2 3 40 (C := "WordFunctions$Arguments") (T := T3) (N := 9) (by decide) rfl rfl rfl rfl tin3 rfl wd131 rfl rfl d29_93 ?_
        refine lv_aload_n (pc := 96) hx hb d29_96 rfl (lv_at hl 0 rfl) ?_
        refine c_getI (pc := 97) X hW 1 4 3 (C := "WordFunctions$Arguments") (T := T3) (N := 9) (by decide) rfl rfl rfl rfl tin3 rfl wd133 rfl d29_97 ?_
        refine lv_aload_n (pc := 100) hx hb d29_100 rfl (lv_at hl 0 rfl) ?_
        refine c_getempty (pc := 101) X hW wd129 d29_101 (fun u2 fu2 => ?_)
        obtain ⟨g3, h⟩ := jg_some h
        obtain ⟨st4, est4, h⟩ := jn_ex h
        refine c_vast (pc := 104) X hW hS 40 (hAp 40 (by decide)) (by decide) fu2 g3 est4 d29_104 (fun H locs hW hS hk => ?_)
        have hSz := hS.1
        refine lv_aload_n (pc := 105) hx hb d29_105 rfl (lv_at hl 0 rfl) ?_
        refine lv_dup (pc := 106) hx hb d29_106 rfl ?_
        refine c_getI (pc := 107) X hW 1 4 3 (C := "WordFunctions$Arguments") (T := T3) (N := 9) (by decide) rfl rfl rfl rfl tin3 rfl wd133 rfl d29_107 ?_
        refine lv_iconst (pc := 110) (v := 1) hx hb d29_110 (by decide) ?_
        refine lv_iadd (pc := 111) hx hb d29_111 ?_
        obtain ⟨st5, est5, h⟩ := jn_ex h
        refine c_putI (pc := 112) X hW hS 1 4 3 (C := "WordFunctions$Arguments") (T := T3) (N := 9) est5 (hAp _ (by decide)) (by decide) rfl rfl rfl rfl tin3 ty3 tyo3 tnm3 rfl wd133 rfl rfl rfl rfl d29_112 (fun H locs hW hS hk => ?_)
        have hSz := hS.1
        obtain ⟨v6, ev6, h⟩ := jn_ex h
        refine lv_iinc (pc := 115) (v := v6) (lv' := [(6, .int v6), (0, .ref (ad 1)), (3, .long x3)]) hx hb d29_115 hl (k := 2) rfl (by rw [ev6]; rfl) (by decide) rfl (fun ls hl => ?_)
        refine lv_goto (pc := 118) (tgt := 84) hx hb d29_118 (by decide) ?_
        exact hK84 st5 x3 v6 _ _ _ hW hS (lv_sub hl [1, 2, 0] rfl) h
  unfold f_ar_add at h
  refine lv_iload_n (pc := 0) hx hb d29_0 rfl (lv_at hl 1 rfl) ?_
  refine lv_i2l (pc := 1) hx hb d29_1 rfl ?_
  refine lv_iload_n (pc := 2) hx hb d29_2 rfl (lv_at hl 2 rfl) ?_
  refine lv_i2l (pc := 3) hx hb d29_3 rfl ?_
  refine lv_lmul (pc := 4) hx hb d29_4 ?_
  obtain ⟨v7, ev7, h⟩ := jn_ex h
  refine nm_l ev7 ?_
  refine lv_lstore_n (pc := 5) (lv' := [(3, .long v7), (0, .ref (ad 1)), (1, .int p0), (2, .int p1)]) hx hb d29_5 rfl hl (by decide) rfl (fun ls hl => ?_)
  refine lv_aload_n (pc := 6) hx hb d29_6 rfl (lv_at hl 1 rfl) ?_
  refine c_getI (pc := 7) X hW 1 5 3 (C := "WordFunctions$Arguments") (T := T3) (N := 9) (by decide) rfl rfl rfl rfl tin3 rfl wd134 rfl d29_7 ?_
  refine lv_aload_n (pc := 10) hx hb d29_10 rfl (lv_at hl 1 rfl) ?_
  refine c_getK (pc := 11) X hW 1 3 3 41 (C := "WordFunctions$Arguments") (T := T3) (N := 9) (by decide) rfl rfl rfl rfl tin3 rfl wd132 rfl rfl d29_11 ?_
  refine c_alen (pc := 14) (v := 30) X hW 41 (by decide) rfl (by decide) (by decide) d29_14 ?_
  refine lv_icmp_ge (pc := 15) (tgt := 41) hx hb d29_15 (by decide) (fun c15 => ?_) (fun c15 => ?_)
  · have h := jb_t c15 h
    refine lv_iconst (pc := 41) (v := 0) hx hb d29_41 (by decide) ?_
    obtain rfl := Option.some.inj h
    exact m_zret (pc := 42) hx hb hr hlk hS ⟨rfl, hW⟩ (Nat.le_refl _) (Nat.le_refl _) d29_42 (by decide)
  · have h := jb_f c15 h
    refine lv_lload_n (pc := 18) hx hb d29_18 rfl (lv_at hl 0 rfl) ?_
    refine lv_lconst (pc := 19) (v := 0) hx hb d29_19 rfl ?_
    refine W.lcmp (pc := 20) hx hb d29_20 ?_
    refine lv_if_lt (pc := 21) (tgt := 41) hx hb d29_21 (by decide) (fun c21 => ?_) (fun c21 => ?_)
    · have h := jb_t c21 h
      refine lv_iconst (pc := 41) (v := 0) hx hb d29_41 (by decide) ?_
      obtain rfl := Option.some.inj h
      exact m_zret (pc := 42) hx hb hr hlk hS ⟨rfl, hW⟩ (Nat.le_refl _) (Nat.le_refl _) d29_42 (by decide)
    · have h := jb_f c21 h
      refine lv_aload_n (pc := 24) hx hb d29_24 rfl (lv_at hl 1 rfl) ?_
      refine c_getI (pc := 25) X hW 1 4 3 (C := "WordFunctions$Arguments") (T := T3) (N := 9) (by decide) rfl rfl rfl rfl tin3 rfl wd133 rfl d29_25 ?_
      refine lv_i2l (pc := 28) hx hb d29_28 rfl ?_
      refine lv_lload_n (pc := 29) hx hb d29_29 rfl (lv_at hl 0 rfl) ?_
      refine lv_ladd (pc := 30) hx hb d29_30 ?_
      refine lv_aload_n (pc := 31) hx hb d29_31 rfl (lv_at hl 1 rfl) ?_
      refine c_getK (pc := 32) X hW 1 2 3 40 (C := "WordFunctions$Arguments") (T := T3) (N := 9) (by decide) rfl rfl rfl rfl tin3 rfl wd131 rfl rfl d29_32 ?_
      refine c_alen (pc := 35) (v := 512) X hW 40 (by decide) rfl (by decide) (by decide) d29_35 ?_
      refine lv_i2l (pc := 36) hx hb d29_36 rfl ?_
      refine W.lcmp (pc := 37) hx hb d29_37 ?_
      refine lv_if_le (pc := 38) (tgt := 43) hx hb d29_38 (by decide) (fun c38 => ?_) (fun c38 => ?_)
      · have h := jb_t c38 h
        refine lv_aload_n (pc := 43) hx hb d29_43 rfl (lv_at hl 1 rfl) ?_
        refine c_getK (pc := 44) X hW 1 3 3 41 (C := "WordFunctions$Arguments") (T := T3) (N := 9) (by decide) rfl rfl rfl rfl tin3 rfl wd132 rfl rfl d29_44 ?_
        refine lv_aload_n (pc := 47) hx hb d29_47 rfl (lv_at hl 1 rfl) ?_
        refine c_getI (pc := 48) X hW 1 5 3 (C := "WordFunctions$Arguments") (T := T3) (N := 9) (by decide) rfl rfl rfl rfl tin3 rfl wd134 rfl d29_48 ?_
        obtain ⟨g8, h⟩ := jg_some h
        refine c_gald (pc := 51) X hW g8 d29_51 ?_
        obtain ⟨v9, ev9, h⟩ := jn_ex h
        rw [← ev9]
        have hgv9 : v9 < 46 ∧ tabC v9 = (0, 2) := by rw [ev9]; exact grid_ok g8
        refine lv_astore (pc := 52) (lv' := [(5, .ref (ad v9)), (3, .long v7), (0, .ref (ad 1)), (1, .int p0), (2, .int p1)]) hx hb d29_52 hl (by decide) rfl (fun ls hl => ?_)
        refine lv_aload (pc := 54) hx hb d29_54 (lv_at hl 0 rfl) ?_
        refine lv_iload_n (pc := 56) hx hb d29_56 rfl (lv_at hl 3 rfl) ?_
        obtain ⟨st10, est10, h⟩ := jn_ex h
        refine c_putI (pc := 57) X hW hS v9 0 2 (C := "WordFunctions$Grid") (T := T2) (N := 6) est10 (hAp _ hgv9.1) hgv9.1 hgv9.2 rfl rfl rfl tin2 ty2 tyo2 tnm2 rfl wd104 rfl rfl rfl rfl d29_57 (fun H locs hW hS hk => ?_)
        have hSz := hS.1
        refine lv_aload (pc := 60) hx hb d29_60 (lv_at hl 0 rfl) ?_
        refine lv_iload_n (pc := 62) hx hb d29_62 rfl (lv_at hl 4 rfl) ?_
        obtain ⟨st11, est11, h⟩ := jn_ex h
        refine c_putI (pc := 63) X hW hS v9 1 2 (C := "WordFunctions$Grid") (T := T2) (N := 6) est11 (hAp _ hgv9.1) hgv9.1 hgv9.2 rfl rfl rfl tin2 ty2 tyo2 tnm2 rfl wd105 rfl rfl rfl rfl d29_63 (fun H locs hW hS hk => ?_)
        have hSz := hS.1
        refine lv_aload (pc := 66) hx hb d29_66 (lv_at hl 0 rfl) ?_
        refine lv_aload_n (pc := 68) hx hb d29_68 rfl (lv_at hl 2 rfl) ?_
        refine c_getI (pc := 69) X hW 1 4 3 (C := "WordFunctions$Arguments") (T := T3) (N := 9) (by decide) rfl rfl rfl rfl tin3 rfl wd133 rfl d29_69 ?_
        obtain ⟨st12, est12, h⟩ := jn_ex h
        refine c_putI (pc := 72) X hW hS v9 2 2 (C := "WordFunctions$Grid") (T := T2) (N := 6) est12 (hAp _ hgv9.1) hgv9.1 hgv9.2 rfl rfl rfl tin2 ty2 tyo2 tnm2 rfl wd106 rfl rfl rfl rfl d29_72 (fun H locs hW hS hk => ?_)
        have hSz := hS.1
        refine lv_aload (pc := 75) hx hb d29_75 (lv_at hl 0 rfl) ?_
        refine lv_iconst (pc := 77) (v := 0) hx hb d29_77 (by decide) ?_
        obtain ⟨st13, est13, h⟩ := jn_ex h
        refine c_putI (pc := 78) X hW hS v9 3 2 (C := "WordFunctions$Grid") (T := T2) (N := 6) est13 (hAp _ hgv9.1) hgv9.1 hgv9.2 rfl rfl rfl tin2 ty2 tyo2 tnm2 rfl wd107 rfl rfl (by decide) (by decide) d29_78 (fun H locs hW hS hk => ?_)
        have hSz := hS.1
        refine lv_iconst (pc := 81) (v := 0) hx hb d29_81 (by decide) ?_
        refine lv_istore (pc := 82) (lv' := [(6, .int 0), (5, .ref (ad v9)), (3, .long v7), (0, .ref (ad 1)), (1, .int p0), (2, .int p1)]) hx hb d29_82 hl (by decide) rfl (fun ls hl => ?_)
        exact kc84  FU st13 v7 0 _ _ _ hW hS (lv_sub hl [3, 2, 0] rfl) h
      · have h := jb_f c38 h
        refine lv_iconst (pc := 41) (v := 0) hx hb d29_41 (by decide) ?_
        obtain rfl := Option.some.inj h
        exact m_zret (pc := 42) hx hb hr hlk hS ⟨rfl, hW⟩ (Nat.le_refl _) (Nat.le_refl _) d29_42 (by decide)
def f_ar_clear (st : CS) : Option (CS) := jn (uC st 1 5 0) (fun st1 => jn (uC st1 1 4 0) (fun st2 => some st2))
set_option maxHeartbeats 4000000 in
set_option maxRecDepth 100000 in
theorem c_ar_clear (l : Launch) (ρ : RH) (ad : Nat → Nat) (H : Heap) (P : Nat → Prop) (st : CS) (res : CS) (hW : CW ρ P ad st H) (h : f_ar_clear st = some res) : Met l y31 (wsOf y31 b31 1 none) ({ frames := 0, cells := 0, slots := 0, locals := 0 } : Room) (va_Pc [.ref (ad 1)] (KP ρ H)) (mQ (fun v H1 => v = none ∧ CW ρ P ad res H1) (MA wC ad H.size)) 0 0 (MA wC ad H.size) := by
  refine m_ofW (own := "WordFunctions$Arguments") (plainFor_of_name rfl) rfl (Nat.le_of_ble_eq_true rfl) fun p e s m args below meth c ls hx hb hr hlk _ X hs hl => ?_
  subst hs
  have hS : va_S (MA wC ad s.heap.size) s.heap s.heap [] := va_S.rf
  have hSz := hS.1
  have hAz : ∀ q, s.heap.size ≤ q → (MA wC ad s.heap.size) q := fun q hq => Or.inr hq
  have hAp : ∀ i, i < 46 → (MA wC ad s.heap.size) (ad i) := fun i hi => MA.in hi
  have hPp : ∀ i, i < 46 → P (ad i) := hW.1
  have hl : lv_has ls 1 [(0, .ref (ad 1))] := hl
  unfold f_ar_clear at h
  refine lv_aload_n (pc := 0) hx hb d31_0 rfl (lv_at hl 0 rfl) ?_
  refine lv_iconst (pc := 1) (v := 0) hx hb d31_1 (by decide) ?_
  obtain ⟨st1, est1, h⟩ := jn_ex h
  refine c_putI (pc := 2) X hW hS 1 5 3 (C := "WordFunctions$Arguments") (T := T3) (N := 9) est1 (hAp _ (by decide)) (by decide) rfl rfl rfl rfl tin3 ty3 tyo3 tnm3 rfl wd134 rfl rfl rfl rfl d31_2 (fun H locs hW hS hk => ?_)
  have hSz := hS.1
  refine lv_aload_n (pc := 5) hx hb d31_5 rfl (lv_at hl 0 rfl) ?_
  refine lv_iconst (pc := 6) (v := 0) hx hb d31_6 (by decide) ?_
  obtain ⟨st2, est2, h⟩ := jn_ex h
  refine c_putI (pc := 7) X hW hS 1 4 3 (C := "WordFunctions$Arguments") (T := T3) (N := 9) est2 (hAp _ (by decide)) (by decide) rfl rfl rfl rfl tin3 ty3 tyo3 tnm3 rfl wd133 rfl rfl rfl rfl d31_7 (fun H locs hW hS hk => ?_)
  have hSz := hS.1
  obtain rfl := Option.some.inj h
  exact m_vret (pc := 10) hx hb hr hlk hS ⟨rfl, hW⟩ (Nat.le_refl _) (Nat.le_refl _) d31_10
def f_ar_fail (st : CS) (p0 : Int32) : Option (CS) := jb ((st.1 1 6) = 0) (jn (uC st 1 6 p0) (fun st1 => some st1)) (some st)
set_option maxHeartbeats 4000000 in
set_option maxRecDepth 100000 in
theorem c_ar_fail (l : Launch) (ρ : RH) (ad : Nat → Nat) (H : Heap) (P : Nat → Prop) (st : CS) (p0 : Int32) (res : CS) (hW : CW ρ P ad st H) (h : f_ar_fail st p0 = some res) : Met l y34 (wsOf y34 b34 2 none) ({ frames := 0, cells := 0, slots := 0, locals := 0 } : Room) (va_Pc [.ref (ad 1), .int p0] (KP ρ H)) (mQ (fun v H1 => v = none ∧ CW ρ P ad res H1) (MA wC ad H.size)) 0 0 (MA wC ad H.size) := by
  refine m_ofW (own := "WordFunctions$Arguments") (plainFor_of_name rfl) rfl (Nat.le_of_ble_eq_true rfl) fun p e s m args below meth c ls hx hb hr hlk _ X hs hl => ?_
  subst hs
  have hS : va_S (MA wC ad s.heap.size) s.heap s.heap [] := va_S.rf
  have hSz := hS.1
  have hAz : ∀ q, s.heap.size ≤ q → (MA wC ad s.heap.size) q := fun q hq => Or.inr hq
  have hAp : ∀ i, i < 46 → (MA wC ad s.heap.size) (ad i) := fun i hi => MA.in hi
  have hPp : ∀ i, i < 46 → P (ad i) := hW.1
  have hl : lv_has ls 2 [(0, .ref (ad 1)), (1, .int p0)] := hl
  unfold f_ar_fail at h
  refine lv_aload_n (pc := 0) hx hb d34_0 rfl (lv_at hl 0 rfl) ?_
  refine c_getI (pc := 1) X hW 1 6 3 (C := "WordFunctions$Arguments") (T := T3) (N := 9) (by decide) rfl rfl rfl rfl tin3 rfl wd140 rfl d34_1 ?_
  refine lv_if_ne (pc := 4) (tgt := 12) hx hb d34_4 (by decide) (fun c4 => ?_) (fun c4 => ?_)
  · have h := jb_f c4 h
    obtain rfl := Option.some.inj h
    exact m_vret (pc := 12) hx hb hr hlk hS ⟨rfl, hW⟩ (Nat.le_refl _) (Nat.le_refl _) d34_12
  · have h := jb_t c4 h
    refine lv_aload_n (pc := 7) hx hb d34_7 rfl (lv_at hl 0 rfl) ?_
    refine lv_iload_n (pc := 8) hx hb d34_8 rfl (lv_at hl 1 rfl) ?_
    obtain ⟨st1, est1, h⟩ := jn_ex h
    refine c_putI (pc := 9) X hW hS 1 6 3 (C := "WordFunctions$Arguments") (T := T3) (N := 9) est1 (hAp _ (by decide)) (by decide) rfl rfl rfl rfl tin3 ty3 tyo3 tnm3 rfl wd140 rfl rfl rfl rfl d34_9 (fun H locs hW hS hk => ?_)
    have hSz := hS.1
    obtain rfl := Option.some.inj h
    exact m_vret (pc := 12) hx hb hr hlk hS ⟨rfl, hW⟩ (Nat.le_refl _) (Nat.le_refl _) d34_12
def ar_said_242  (st : CS) (x9 : UInt64) (z0 : Int64) : Option (UInt64 × CS) := jg (nn (FP.ddiv (FP.l2d z0) x9)) (some ((FP.ddiv (FP.l2d z0) x9), st))
def ar_said_227  (st : CS) (x2 : Int32) (x7 : Int64) (z0 : UInt64) : Option (UInt64 × CS) := jb (x2 = 1) (ar_said_242 st z0 (-x7)) (ar_said_242 st z0 x7)
def ar_said_179  (st : CS) (x2 : Int32) (x5 : Int32) (x6 : Int32) (x7 : Int64) : Option (UInt64 × CS) := jb (x6 = 0) (jc (f_ar_fail st 3) (fun q2 => some (FP.dconst0, q2))) (jb (x5 = 0) (ar_said_227 st x2 x7 FP.dconst1) (jb (x5 = 1) (ar_said_227 st x2 x7 (4621819117588971520 : UInt64)) (jb (x5 = 2) (ar_said_227 st x2 x7 (4636737291354636288 : UInt64)) (ar_said_227 st x2 x7 (4652007308841189376 : UInt64)))))
def ar_said_173 (K106 : CS → TT → Int32 → Int32 → Int32 → Int32 → Int64 → Int32 → Option (UInt64 × CS)) (st : CS) (x1 : TT) (x2 : Int32) (x3 : Int32) (x5 : Int32) (x6 : Int32) (x7 : Int64) (x9 : Int32) : Option (UInt64 × CS) := jn (x9 + 1) (fun v3 => K106 st x1 x2 x3 x5 x6 x7 v3)
def ar_said_171 (K106 : CS → TT → Int32 → Int32 → Int32 → Int32 → Int64 → Int32 → Option (UInt64 × CS)) (st : CS) (x1 : TT) (x2 : Int32) (x3 : Int32) (x5 : Int32) (x7 : Int64) (x9 : Int32) (z0 : Int32) : Option (UInt64 × CS) := ar_said_173 K106 st x1 x2 x3 x5 z0 x7 x9
def ar_said_160 (K106 : CS → TT → Int32 → Int32 → Int32 → Int32 → Int64 → Int32 → Option (UInt64 × CS)) (st : CS) (x1 : TT) (x2 : Int32) (x3 : Int32) (x5 : Int32) (x7 : Int64) (x9 : Int32) : Option (UInt64 × CS) := jb (x9 = x3) (ar_said_171 K106 st x1 x2 x3 x5 x7 x9 1) (ar_said_171 K106 st x1 x2 x3 x5 x7 x9 0)
def ar_said_106  : Nat → CS → TT → Int32 → Int32 → Int32 → Int32 → Int64 → Int32 → Option (UInt64 × CS)
  | 0, _, _, _, _, _, _, _, _ => none
  | fu + 1, st, x1, x2, x3, x5, x6, x7, x9 => jc (f_js_length x1) (fun q4 => jb (q4 ≤ x9) (ar_said_179 st x2 x5 x6 x7) (jb (x6 = 0) (ar_said_179 st x2 x5 x6 x7) (jc (f_js_charAt x1 x9) (fun q5 => jb (q5 < 48) (ar_said_160 (ar_said_106 fu) st x1 x2 x3 x5 x7 x9) (jb (57 < q5) (ar_said_160 (ar_said_106 fu) st x1 x2 x3 x5 x7 x9) (jn ((x7 * (10 : Int64)) + (q5 - 48).toInt64) (fun v6 => ar_said_173 (ar_said_106 fu) st x1 x2 x3 x5 x6 v6 x9)))))))
def ar_said_98  (st : CS) (x1 : TT) (x2 : Int32) (x3 : Int32) (x5 : Int32) (z0 : Int32) : Option (UInt64 × CS) := ar_said_106 FU st x1 x2 x3 x5 z0 0 x2
def ar_said_97  (st : CS) (x1 : TT) (x2 : Int32) (x3 : Int32) (x5 : Int32) : Option (UInt64 × CS) := ar_said_98 st x1 x2 x3 x5 0
def ar_said_93  (st : CS) (x1 : TT) (x2 : Int32) (x3 : Int32) (x5 : Int32) : Option (UInt64 × CS) := ar_said_98 st x1 x2 x3 x5 1
def ar_said_62  (st : CS) (x1 : TT) (x2 : Int32) (x3 : Int32) (x4 : Int32) (z0 : Int32) : Option (UInt64 × CS) := jb (x4 < 1) (ar_said_97 st x1 x2 x3 z0) (jb (9 < x4) (ar_said_97 st x1 x2 x3 z0) (jb (3 < z0) (ar_said_97 st x1 x2 x3 z0) (jb (x3 < 0) (ar_said_93 st x1 x2 x3 z0) (jb (z0 < 1) (ar_said_97 st x1 x2 x3 z0) (ar_said_93 st x1 x2 x3 z0)))))
def ar_said_42  (st : CS) (x1 : TT) (x2 : Int32) (x3 : Int32) (z0 : Int32) : Option (UInt64 × CS) := jn (z0 - x2) (fun v7 => jb (0 ≤ x3) (jc (f_js_length x1) (fun q8 => ar_said_62 st x1 x2 x3 v7 ((q8 - x3) - 1))) (ar_said_62 st x1 x2 x3 v7 0))
def ar_said_22  (st : CS) (x1 : TT) (z0 : Int32) : Option (UInt64 × CS) := jc (f_js_indexOf x1 46) (fun q9 => jb (0 ≤ q9) (ar_said_42 st x1 z0 q9 q9) (jc (f_js_length x1) (fun q10 => ar_said_42 st x1 z0 q9 q10)))
def ar_said_21  (st : CS) (x1 : TT) : Option (UInt64 × CS) := ar_said_22 st x1 0
def f_ar_said (st : CS) (p0 : TT) : Option (UInt64 × CS) := jc (f_js_isEmpty p0) (fun q11 => jb (q11 = 0) (jc (f_js_charAt p0 0) (fun q12 => jb (q12 = 45) (ar_said_22 st p0 1) (ar_said_21 st p0))) (ar_said_21 st p0))
set_option maxHeartbeats 4000000 in
set_option maxRecDepth 100000 in
theorem c_ar_said (l : Launch) (ρ : RH) (ad : Nat → Nat) (H : Heap) (P : Nat → Prop) (st : CS) (ap0 : Nat) (p0 : TT) (res : UInt64 × CS) (hW : CW ρ P ad st H) (fap0 : isS ρ P H ap0 p0) (h : f_ar_said st p0 = some res) : Met l y42 (wsOf y42 b42 11 (some .double)) ({ frames := 13, cells := 0, slots := 0, locals := 621 } : Room) (va_Pc [.ref (ad 1), .ref ap0] (KP ρ H)) (mQ (fun v H1 => v = some (.double res.1) ∧ CW ρ P ad res.2 H1) (MA wC ad H.size)) 0 0 (MA wC ad H.size) := by
  refine m_ofW (own := "WordFunctions$Arguments") (plainFor_of_name rfl) rfl (Nat.le_of_ble_eq_true rfl) fun p e s m args below meth c ls hx hb hr hlk _ X hs hl => ?_
  subst hs
  have hS : va_S (MA wC ad s.heap.size) s.heap s.heap [] := va_S.rf
  have hSz := hS.1
  have hAz : ∀ q, s.heap.size ≤ q → (MA wC ad s.heap.size) q := fun q hq => Or.inr hq
  have hAp : ∀ i, i < 46 → (MA wC ad s.heap.size) (ad i) := fun i hi => MA.in hi
  have hPp : ∀ i, i < 46 → P (ad i) := hW.1
  have hl : lv_has ls 11 [(0, .ref (ad 1)), (1, .ref ap0)] := hl
  have kc242 : ∀ (st : CS) (x9 : UInt64) (z0 : Int64) (H : Heap) (locs : List Loc) (ls : Array Slot), CW ρ P ad st H → va_S (MA wC ad s.heap.size) s.heap H locs → lv_has ls 11 [(9, .double x9)] → ar_said_242 st x9 z0 = some res → W p l e ({ frames := 13, cells := 0, slots := 0, locals := 621 } : Room) s m args below meth c H locs 0 0 (MQ below (mQ (fun v H1 => v = some (.double res.1) ∧ CW ρ P ad res.2 H1) (MA wC ad s.heap.size)) args s 0 0 (MA wC ad s.heap.size)) (F0 m 242 ls [.long z0]) := by
    intro st x9 z0 H locs ls hW hS hl h
    have hSz := hS.1
    unfold ar_said_242 at h
    refine lv_l2d (pc := 242) hx hb d42_242 ?_
    refine lv_dload (pc := 243) hx hb d42_243 (lv_at hl 0 rfl) ?_
    obtain ⟨g1, h⟩ := jg_some h
    refine lv_ddiv (pc := 245) hx hb d42_245 (nn_ok g1) ?_
    obtain rfl := Option.some.inj h
    exact m_dret (pc := 246) hx hb hr hlk hS ⟨rfl, hW⟩ (Nat.le_refl _) (Nat.le_refl _) d42_246
  have kc227 : ∀ (st : CS) (x2 : Int32) (x7 : Int64) (z0 : UInt64) (H : Heap) (locs : List Loc) (ls : Array Slot), CW ρ P ad st H → va_S (MA wC ad s.heap.size) s.heap H locs → lv_has ls 11 [(2, .int x2), (7, .long x7)] → ar_said_227 st x2 x7 z0 = some res → W p l e ({ frames := 13, cells := 0, slots := 0, locals := 621 } : Room) s m args below meth c H locs 0 0 (MQ below (mQ (fun v H1 => v = some (.double res.1) ∧ CW ρ P ad res.2 H1) (MA wC ad s.heap.size)) args s 0 0 (MA wC ad s.heap.size)) (F0 m 227 ls [.double z0]) := by
    intro st x2 x7 z0 H locs ls hW hS hl h
    have hSz := hS.1
    unfold ar_said_227 at h
    refine lv_dstore (pc := 227) (lv' := [(9, .double z0), (2, .int x2), (7, .long x7)]) hx hb d42_227 hl (by decide) rfl (fun ls hl => ?_)
    refine lv_iload_n (pc := 229) hx hb d42_229 rfl (lv_at hl 1 rfl) ?_
    refine lv_iconst (pc := 230) (v := 1) hx hb d42_230 (by decide) ?_
    refine lv_icmp_ne (pc := 231) (tgt := 240) hx hb d42_231 (by decide) (fun c231 => ?_) (fun c231 => ?_)
    · have h := jb_f c231 h
      refine lv_lload (pc := 240) hx hb d42_240 (lv_at hl 2 rfl) ?_
      exact kc242   st z0 x7 _ _ _ hW hS (lv_sub hl [0] rfl) h
    · have h := jb_t c231 h
      refine lv_lload (pc := 234) hx hb d42_234 (lv_at hl 2 rfl) ?_
      refine lv_lneg (pc := 236) hx hb d42_236 ?_
      refine lv_goto (pc := 237) (tgt := 242) hx hb d42_237 (by decide) ?_
      exact kc242   st z0 (-x7) _ _ _ hW hS (lv_sub hl [0] rfl) h
  have kc179 : ∀ (st : CS) (x2 : Int32) (x5 : Int32) (x6 : Int32) (x7 : Int64) (H : Heap) (locs : List Loc) (ls : Array Slot), CW ρ P ad st H → va_S (MA wC ad s.heap.size) s.heap H locs → lv_has ls 11 [(0, .ref (ad 1)), (2, .int x2), (5, .int x5), (6, .int x6), (7, .long x7)] → ar_said_179 st x2 x5 x6 x7 = some res → W p l e ({ frames := 13, cells := 0, slots := 0, locals := 621 } : Room) s m args below meth c H locs 0 0 (MQ below (mQ (fun v H1 => v = some (.double res.1) ∧ CW ρ P ad res.2 H1) (MA wC ad s.heap.size)) args s 0 0 (MA wC ad s.heap.size)) (F0 m 179 ls []) := by
    intro st x2 x5 x6 x7 H locs ls hW hS hl h
    have hSz := hS.1
    unfold ar_said_179 at h
    refine lv_iload (pc := 179) hx hb d42_179 (lv_at hl 3 rfl) ?_
    refine lv_if_ne (pc := 181) (tgt := 191) hx hb d42_181 (by decide) (fun c181 => ?_) (fun c181 => ?_)
    · have h := jb_f c181 h
      refine lv_iload (pc := 191) hx hb d42_191 (lv_at hl 2 rfl) ?_
      refine lv_if_ne (pc := 193) (tgt := 200) hx hb d42_193 (by decide) (fun c193 => ?_) (fun c193 => ?_)
      · have h := jb_f c193 h
        refine lv_iload (pc := 200) hx hb d42_200 (lv_at hl 2 rfl) ?_
        refine lv_iconst (pc := 202) (v := 1) hx hb d42_202 (by decide) ?_
        refine lv_icmp_ne (pc := 203) (tgt := 212) hx hb d42_203 (by decide) (fun c203 => ?_) (fun c203 => ?_)
        · have h := jb_f c203 h
          refine lv_iload (pc := 212) hx hb d42_212 (lv_at hl 2 rfl) ?_
          refine lv_iconst (pc := 214) (v := 2) hx hb d42_214 (by decide) ?_
          refine lv_icmp_ne (pc := 215) (tgt := 224) hx hb d42_215 (by decide) (fun c215 => ?_) (fun c215 => ?_)
          · have h := jb_f c215 h
            refine lv_ldc2d (pc := 224) hx hb X.1.2.2.2.1 (X.ts wd834) d42_224 ?_
            exact kc227   st x2 x7 (4652007308841189376 : UInt64) _ _ _ hW hS (lv_sub hl [1, 4] rfl) h
          · have h := jb_t c215 h
            refine lv_ldc2d (pc := 218) hx hb X.1.2.2.2.1 (X.ts wd833) d42_218 ?_
            refine lv_goto (pc := 221) (tgt := 227) hx hb d42_221 (by decide) ?_
            exact kc227   st x2 x7 (4636737291354636288 : UInt64) _ _ _ hW hS (lv_sub hl [1, 4] rfl) h
        · have h := jb_t c203 h
          refine lv_ldc2d (pc := 206) hx hb X.1.2.2.2.1 (X.ts wd832) d42_206 ?_
          refine lv_goto (pc := 209) (tgt := 227) hx hb d42_209 (by decide) ?_
          exact kc227   st x2 x7 (4621819117588971520 : UInt64) _ _ _ hW hS (lv_sub hl [1, 4] rfl) h
      · have h := jb_t c193 h
        refine lv_dconst1 (pc := 196) hx hb d42_196 ?_
        refine lv_goto (pc := 197) (tgt := 227) hx hb d42_197 (by decide) ?_
        exact kc227   st x2 x7 FP.dconst1 _ _ _ hW hS (lv_sub hl [1, 4] rfl) h
    · have h := jb_t c181 h
      refine lv_aload_n (pc := 184) hx hb d42_184 rfl (lv_at hl 0 rfl) ?_
      refine lv_iconst (pc := 185) (v := 3) hx hb d42_185 (by decide) ?_
      obtain ⟨q2, hq2, h⟩ := jc_some h
      refine k_callV (pc := 186) (n := 1) X hS (c_ar_fail l ρ ad _ P st 3 q2 hW  hq2) wd774 wd771 wd772 wd773 wd3 (by decide) ⟨rfl, rfl, Nat.le_of_ble_eq_true rfl, Nat.le_of_ble_eq_true rfl⟩ (c_recv X hW 1 3 (by decide) rfl rfl) (As := [.int 3]) (rest := []) rfl rfl hl.1 (Nat.le_of_ble_eq_true rfl) d42_186 ⟨Nat.le_refl _, Nat.le_refl _⟩ (fun q hq => MA.mono hS.1 hq) (fun v H1 locs1 hv hz1 hz2 hSq2 => ?_)
      have hPq := hW.1
      obtain ⟨rfl, hW⟩ := hv
      have hS := hSq2
      have hSz := hS.1
      refine lv_dconst0 (pc := 189) hx hb d42_189 ?_
      obtain rfl := Option.some.inj h
      exact m_dret (pc := 190) hx hb hr hlk hS ⟨rfl, hW⟩ (Nat.le_refl _) (Nat.le_refl _) d42_190
  have kc173 : ∀ (K106 : CS → TT → Int32 → Int32 → Int32 → Int32 → Int64 → Int32 → Option (UInt64 × CS)) (hK106 : ∀ (st : CS) (x1 : TT) (x2 : Int32) (x3 : Int32) (x5 : Int32) (x6 : Int32) (x7 : Int64) (x9 : Int32) (ax1 : Nat) (H : Heap) (locs : List Loc) (ls : Array Slot), CW ρ P ad st H → va_S (MA wC ad s.heap.size) s.heap H locs → isS ρ P H ax1 x1 → lv_has ls 11 [(0, .ref (ad 1)), (1, .ref ax1), (2, .int x2), (3, .int x3), (5, .int x5), (6, .int x6), (7, .long x7), (9, .int x9)] → K106 st x1 x2 x3 x5 x6 x7 x9 = some res → W p l e ({ frames := 13, cells := 0, slots := 0, locals := 621 } : Room) s m args below meth c H locs 0 0 (MQ below (mQ (fun v H1 => v = some (.double res.1) ∧ CW ρ P ad res.2 H1) (MA wC ad s.heap.size)) args s 0 0 (MA wC ad s.heap.size)) (F0 m 106 ls [])), ∀ (st : CS) (x1 : TT) (x2 : Int32) (x3 : Int32) (x5 : Int32) (x6 : Int32) (x7 : Int64) (x9 : Int32) (ax1 : Nat) (H : Heap) (locs : List Loc) (ls : Array Slot), CW ρ P ad st H → va_S (MA wC ad s.heap.size) s.heap H locs → isS ρ P H ax1 x1 → lv_has ls 11 [(0, .ref (ad 1)), (1, .ref ax1), (2, .int x2), (3, .int x3), (5, .int x5), (6, .int x6), (7, .long x7), (9, .int x9)] → ar_said_173 K106 st x1 x2 x3 x5 x6 x7 x9 = some res → W p l e ({ frames := 13, cells := 0, slots := 0, locals := 621 } : Room) s m args below meth c H locs 0 0 (MQ below (mQ (fun v H1 => v = some (.double res.1) ∧ CW ρ P ad res.2 H1) (MA wC ad s.heap.size)) args s 0 0 (MA wC ad s.heap.size)) (F0 m 173 ls []) := by
    intro K106 hK106
    intro st x1 x2 x3 x5 x6 x7 x9 ax1 H locs ls hW hS fax1 hl h
    have hSz := hS.1
    unfold ar_said_173 at h
    obtain ⟨v3, ev3, h⟩ := jn_ex h
    refine lv_iinc (pc := 173) (v := v3) (lv' := [(9, .int v3), (0, .ref (ad 1)), (1, .ref ax1), (2, .int x2), (3, .int x3), (5, .int x5), (6, .int x6), (7, .long x7)]) hx hb d42_173 hl (k := 7) rfl (by rw [ev3]; rfl) (by decide) rfl (fun ls hl => ?_)
    refine lv_goto (pc := 176) (tgt := 106) hx hb d42_176 (by decide) ?_
    exact hK106 st x1 x2 x3 x5 x6 x7 v3 ax1 _ _ _ hW hS fax1 (lv_sub hl [1, 2, 3, 4, 5, 6, 7, 0] rfl) h
  have kc171 : ∀ (K106 : CS → TT → Int32 → Int32 → Int32 → Int32 → Int64 → Int32 → Option (UInt64 × CS)) (hK106 : ∀ (st : CS) (x1 : TT) (x2 : Int32) (x3 : Int32) (x5 : Int32) (x6 : Int32) (x7 : Int64) (x9 : Int32) (ax1 : Nat) (H : Heap) (locs : List Loc) (ls : Array Slot), CW ρ P ad st H → va_S (MA wC ad s.heap.size) s.heap H locs → isS ρ P H ax1 x1 → lv_has ls 11 [(0, .ref (ad 1)), (1, .ref ax1), (2, .int x2), (3, .int x3), (5, .int x5), (6, .int x6), (7, .long x7), (9, .int x9)] → K106 st x1 x2 x3 x5 x6 x7 x9 = some res → W p l e ({ frames := 13, cells := 0, slots := 0, locals := 621 } : Room) s m args below meth c H locs 0 0 (MQ below (mQ (fun v H1 => v = some (.double res.1) ∧ CW ρ P ad res.2 H1) (MA wC ad s.heap.size)) args s 0 0 (MA wC ad s.heap.size)) (F0 m 106 ls [])), ∀ (st : CS) (x1 : TT) (x2 : Int32) (x3 : Int32) (x5 : Int32) (x7 : Int64) (x9 : Int32) (z0 : Int32) (ax1 : Nat) (H : Heap) (locs : List Loc) (ls : Array Slot), CW ρ P ad st H → va_S (MA wC ad s.heap.size) s.heap H locs → isS ρ P H ax1 x1 → lv_has ls 11 [(0, .ref (ad 1)), (1, .ref ax1), (2, .int x2), (3, .int x3), (5, .int x5), (7, .long x7), (9, .int x9)] → ar_said_171 K106 st x1 x2 x3 x5 x7 x9 z0 = some res → W p l e ({ frames := 13, cells := 0, slots := 0, locals := 621 } : Room) s m args below meth c H locs 0 0 (MQ below (mQ (fun v H1 => v = some (.double res.1) ∧ CW ρ P ad res.2 H1) (MA wC ad s.heap.size)) args s 0 0 (MA wC ad s.heap.size)) (F0 m 171 ls [.int z0]) := by
    intro K106 hK106
    intro st x1 x2 x3 x5 x7 x9 z0 ax1 H locs ls hW hS fax1 hl h
    have hSz := hS.1
    unfold ar_said_171 at h
    refine lv_istore (pc := 171) (lv' := [(6, .int z0), (0, .ref (ad 1)), (1, .ref ax1), (2, .int x2), (3, .int x3), (5, .int x5), (7, .long x7), (9, .int x9)]) hx hb d42_171 hl (by decide) rfl (fun ls hl => ?_)
    exact kc173 _ hK106  st x1 x2 x3 x5 z0 x7 x9 ax1 _ _ _ hW hS fax1 (lv_sub hl [1, 2, 3, 4, 5, 0, 6, 7] rfl) h
  have kc160 : ∀ (K106 : CS → TT → Int32 → Int32 → Int32 → Int32 → Int64 → Int32 → Option (UInt64 × CS)) (hK106 : ∀ (st : CS) (x1 : TT) (x2 : Int32) (x3 : Int32) (x5 : Int32) (x6 : Int32) (x7 : Int64) (x9 : Int32) (ax1 : Nat) (H : Heap) (locs : List Loc) (ls : Array Slot), CW ρ P ad st H → va_S (MA wC ad s.heap.size) s.heap H locs → isS ρ P H ax1 x1 → lv_has ls 11 [(0, .ref (ad 1)), (1, .ref ax1), (2, .int x2), (3, .int x3), (5, .int x5), (6, .int x6), (7, .long x7), (9, .int x9)] → K106 st x1 x2 x3 x5 x6 x7 x9 = some res → W p l e ({ frames := 13, cells := 0, slots := 0, locals := 621 } : Room) s m args below meth c H locs 0 0 (MQ below (mQ (fun v H1 => v = some (.double res.1) ∧ CW ρ P ad res.2 H1) (MA wC ad s.heap.size)) args s 0 0 (MA wC ad s.heap.size)) (F0 m 106 ls [])), ∀ (st : CS) (x1 : TT) (x2 : Int32) (x3 : Int32) (x5 : Int32) (x7 : Int64) (x9 : Int32) (ax1 : Nat) (H : Heap) (locs : List Loc) (ls : Array Slot), CW ρ P ad st H → va_S (MA wC ad s.heap.size) s.heap H locs → isS ρ P H ax1 x1 → lv_has ls 11 [(0, .ref (ad 1)), (1, .ref ax1), (2, .int x2), (3, .int x3), (5, .int x5), (7, .long x7), (9, .int x9)] → ar_said_160 K106 st x1 x2 x3 x5 x7 x9 = some res → W p l e ({ frames := 13, cells := 0, slots := 0, locals := 621 } : Room) s m args below meth c H locs 0 0 (MQ below (mQ (fun v H1 => v = some (.double res.1) ∧ CW ρ P ad res.2 H1) (MA wC ad s.heap.size)) args s 0 0 (MA wC ad s.heap.size)) (F0 m 160 ls []) := by
    intro K106 hK106
    intro st x1 x2 x3 x5 x7 x9 ax1 H locs ls hW hS fax1 hl h
    have hSz := hS.1
    unfold ar_said_160 at h
    refine lv_iload (pc := 160) hx hb d42_160 (lv_at hl 6 rfl) ?_
    refine lv_iload_n (pc := 162) hx hb d42_162 rfl (lv_at hl 3 rfl) ?_
    refine lv_icmp_ne (pc := 163) (tgt := 170) hx hb d42_163 (by decide) (fun c163 => ?_) (fun c163 => ?_)
    · have h := jb_f c163 h
      refine lv_iconst (pc := 170) (v := 0) hx hb d42_170 (by decide) ?_
      exact kc171 _ hK106  st x1 x2 x3 x5 x7 x9 0 ax1 _ _ _ hW hS fax1 (lv_sub hl [0, 1, 2, 3, 4, 5, 6] rfl) h
    · have h := jb_t c163 h
      refine lv_iconst (pc := 166) (v := 1) hx hb d42_166 (by decide) ?_
      refine lv_goto (pc := 167) (tgt := 171) hx hb d42_167 (by decide) ?_
      exact kc171 _ hK106  st x1 x2 x3 x5 x7 x9 1 ax1 _ _ _ hW hS fax1 (lv_sub hl [0, 1, 2, 3, 4, 5, 6] rfl) h
  have kc106 : ∀ (fu : Nat), ∀ (st : CS) (x1 : TT) (x2 : Int32) (x3 : Int32) (x5 : Int32) (x6 : Int32) (x7 : Int64) (x9 : Int32) (ax1 : Nat) (H : Heap) (locs : List Loc) (ls : Array Slot), CW ρ P ad st H → va_S (MA wC ad s.heap.size) s.heap H locs → isS ρ P H ax1 x1 → lv_has ls 11 [(0, .ref (ad 1)), (1, .ref ax1), (2, .int x2), (3, .int x3), (5, .int x5), (6, .int x6), (7, .long x7), (9, .int x9)] → ar_said_106 fu st x1 x2 x3 x5 x6 x7 x9 = some res → W p l e ({ frames := 13, cells := 0, slots := 0, locals := 621 } : Room) s m args below meth c H locs 0 0 (MQ below (mQ (fun v H1 => v = some (.double res.1) ∧ CW ρ P ad res.2 H1) (MA wC ad s.heap.size)) args s 0 0 (MA wC ad s.heap.size)) (F0 m 106 ls []) := by
    intro  fu
    induction fu with
    | zero => intro st x1 x2 x3 x5 x6 x7 x9 ax1 H locs ls hW hS fax1 hl h; cases h
    | succ fu hK106 =>
      intro st x1 x2 x3 x5 x6 x7 x9 ax1 H locs ls hW hS fax1 hl h
      have hSz := hS.1
      unfold ar_said_106 at h
      refine lv_iload (pc := 106) hx hb d42_106 (lv_at hl 7 rfl) ?_
      refine lv_aload_n (pc := 108) hx hb d42_108 rfl (lv_at hl 1 rfl) ?_
      obtain ⟨q4, hq4, h⟩ := jc_some h
      refine k_callV (pc := 109) (n := 0) X hS (c_js_length l ρ _ P ax1 x1 q4 hW.2.2.1 hW.2.1 fax1 hq4) wd538 wd830 wd536 wd537 wd14 (by decide) ⟨rfl, rfl, Nat.le_of_ble_eq_true rfl, Nat.le_of_ble_eq_true rfl⟩ (s_recv X fax1) (As := []) (rest := [.int x9]) rfl rfl hl.1 (Nat.le_of_ble_eq_true rfl) d42_109 ⟨Nat.le_refl _, Nat.le_refl _⟩ (fun q hq => False.elim hq) (fun v H1 locs1 hv _ _ hSq4 => ?_)
      obtain ⟨rfl, rfl⟩ := hv
      have hS := hSq4
      have hSz := hS.1
      refine lv_icmp_ge (pc := 112) (tgt := 179) hx hb d42_112 (by decide) (fun c112 => ?_) (fun c112 => ?_)
      · have h := jb_t c112 h
        exact kc179   st x2 x5 x6 x7 _ _ _ hW hS (lv_sub hl [0, 2, 4, 5, 6] rfl) h
      · have h := jb_f c112 h
        refine lv_iload (pc := 115) hx hb d42_115 (lv_at hl 5 rfl) ?_
        refine lv_if_eq (pc := 117) (tgt := 179) hx hb d42_117 (by decide) (fun c117 => ?_) (fun c117 => ?_)
        · have h := jb_t c117 h
          exact kc179   st x2 x5 x6 x7 _ _ _ hW hS (lv_sub hl [0, 2, 4, 5, 6] rfl) h
        · have h := jb_f c117 h
          refine lv_aload_n (pc := 120) hx hb d42_120 rfl (lv_at hl 1 rfl) ?_
          refine lv_iload (pc := 121) hx hb d42_121 (lv_at hl 7 rfl) ?_
          obtain ⟨q5, hq5, h⟩ := jc_some h
          refine k_callV (pc := 123) (n := 1) X hS (c_js_charAt l ρ _ P ax1 x1 x9 q5 hW.2.2.1 hW.2.1 fax1 hq5) wd683 wd783 wd681 wd682 wd14 (by decide) ⟨rfl, rfl, Nat.le_of_ble_eq_true rfl, Nat.le_of_ble_eq_true rfl⟩ (s_recv X fax1) (As := [.int x9]) (rest := []) rfl rfl hl.1 (Nat.le_of_ble_eq_true rfl) d42_123 ⟨Nat.le_refl _, Nat.le_refl _⟩ (fun q hq => False.elim hq) (fun v H1 locs1 hv _ _ hSq5 => ?_)
          obtain ⟨rfl, rfl⟩ := hv
          have hS := hSq5
          have hSz := hS.1
          refine lv_istore (pc := 126) (lv' := [(10, .int q5), (0, .ref (ad 1)), (1, .ref ax1), (2, .int x2), (3, .int x3), (5, .int x5), (6, .int x6), (7, .long x7), (9, .int x9)]) hx hb d42_126 hl (by decide) rfl (fun ls hl => ?_)
          refine lv_iload (pc := 128) hx hb d42_128 (lv_at hl 0 rfl) ?_
          refine lv_bipush (pc := 130) (v := 48) hx hb d42_130 (by decide) ?_
          refine lv_icmp_lt (pc := 132) (tgt := 160) hx hb d42_132 (by decide) (fun c132 => ?_) (fun c132 => ?_)
          · have h := jb_t c132 h
            exact kc160 _ hK106  st x1 x2 x3 x5 x7 x9 ax1 _ _ _ hW hS fax1 (lv_sub hl [1, 2, 3, 4, 5, 7, 8] rfl) h
          · have h := jb_f c132 h
            refine lv_iload (pc := 135) hx hb d42_135 (lv_at hl 0 rfl) ?_
            refine lv_bipush (pc := 137) (v := 57) hx hb d42_137 (by decide) ?_
            refine lv_icmp_gt (pc := 139) (tgt := 160) hx hb d42_139 (by decide) (fun c139 => ?_) (fun c139 => ?_)
            · have h := jb_t c139 h
              exact kc160 _ hK106  st x1 x2 x3 x5 x7 x9 ax1 _ _ _ hW hS fax1 (lv_sub hl [1, 2, 3, 4, 5, 7, 8] rfl) h
            · have h := jb_f c139 h
              refine lv_lload (pc := 142) hx hb d42_142 (lv_at hl 7 rfl) ?_
              refine lv_ldc2 (pc := 144) hx hb X.1.2.2.2.1 (X.ts wd831) d42_144 ?_
              refine lv_lmul (pc := 147) hx hb d42_147 ?_
              refine lv_iload (pc := 148) hx hb d42_148 (lv_at hl 0 rfl) ?_
              refine lv_bipush (pc := 150) (v := 48) hx hb d42_150 (by decide) ?_
              refine lv_isub (pc := 152) hx hb d42_152 ?_
              refine lv_i2l (pc := 153) hx hb d42_153 rfl ?_
              refine lv_ladd (pc := 154) hx hb d42_154 ?_
              obtain ⟨v6, ev6, h⟩ := jn_ex h
              refine nm_l ev6 ?_
              refine lv_lstore (pc := 155) (lv' := [(7, .long v6), (10, .int q5), (0, .ref (ad 1)), (1, .ref ax1), (2, .int x2), (3, .int x3), (5, .int x5), (6, .int x6), (9, .int x9)]) hx hb d42_155 hl (by decide) rfl (fun ls hl => ?_)
              refine lv_goto (pc := 157) (tgt := 173) hx hb d42_157 (by decide) ?_
              exact kc173 _ hK106  st x1 x2 x3 x5 x6 v6 x9 ax1 _ _ _ hW hS fax1 (lv_sub hl [2, 3, 4, 5, 6, 7, 0, 8] rfl) h
  have kc98 : ∀ (st : CS) (x1 : TT) (x2 : Int32) (x3 : Int32) (x5 : Int32) (z0 : Int32) (ax1 : Nat) (H : Heap) (locs : List Loc) (ls : Array Slot), CW ρ P ad st H → va_S (MA wC ad s.heap.size) s.heap H locs → isS ρ P H ax1 x1 → lv_has ls 11 [(0, .ref (ad 1)), (1, .ref ax1), (2, .int x2), (3, .int x3), (5, .int x5)] → ar_said_98 st x1 x2 x3 x5 z0 = some res → W p l e ({ frames := 13, cells := 0, slots := 0, locals := 621 } : Room) s m args below meth c H locs 0 0 (MQ below (mQ (fun v H1 => v = some (.double res.1) ∧ CW ρ P ad res.2 H1) (MA wC ad s.heap.size)) args s 0 0 (MA wC ad s.heap.size)) (F0 m 98 ls [.int z0]) := by
    intro st x1 x2 x3 x5 z0 ax1 H locs ls hW hS fax1 hl h
    have hSz := hS.1
    unfold ar_said_98 at h
    refine lv_istore (pc := 98) (lv' := [(6, .int z0), (0, .ref (ad 1)), (1, .ref ax1), (2, .int x2), (3, .int x3), (5, .int x5)]) hx hb d42_98 hl (by decide) rfl (fun ls hl => ?_)
    refine lv_lconst (pc := 100) (v := 0) hx hb d42_100 rfl ?_
    refine lv_lstore (pc := 101) (lv' := [(7, .long 0), (6, .int z0), (0, .ref (ad 1)), (1, .ref ax1), (2, .int x2), (3, .int x3), (5, .int x5)]) hx hb d42_101 hl (by decide) rfl (fun ls hl => ?_)
    refine lv_iload_n (pc := 103) hx hb d42_103 rfl (lv_at hl 4 rfl) ?_
    refine lv_istore (pc := 104) (lv' := [(9, .int x2), (7, .long 0), (6, .int z0), (0, .ref (ad 1)), (1, .ref ax1), (2, .int x2), (3, .int x3), (5, .int x5)]) hx hb d42_104 hl (by decide) rfl (fun ls hl => ?_)
    exact kc106  FU st x1 x2 x3 x5 z0 0 x2 ax1 _ _ _ hW hS fax1 (lv_sub hl [3, 4, 5, 6, 7, 2, 1, 0] rfl) h
  have kc97 : ∀ (st : CS) (x1 : TT) (x2 : Int32) (x3 : Int32) (x5 : Int32) (ax1 : Nat) (H : Heap) (locs : List Loc) (ls : Array Slot), CW ρ P ad st H → va_S (MA wC ad s.heap.size) s.heap H locs → isS ρ P H ax1 x1 → lv_has ls 11 [(0, .ref (ad 1)), (1, .ref ax1), (2, .int x2), (3, .int x3), (5, .int x5)] → ar_said_97 st x1 x2 x3 x5 = some res → W p l e ({ frames := 13, cells := 0, slots := 0, locals := 621 } : Room) s m args below meth c H locs 0 0 (MQ below (mQ (fun v H1 => v = some (.double res.1) ∧ CW ρ P ad res.2 H1) (MA wC ad s.heap.size)) args s 0 0 (MA wC ad s.heap.size)) (F0 m 97 ls []) := by
    intro st x1 x2 x3 x5 ax1 H locs ls hW hS fax1 hl h
    have hSz := hS.1
    unfold ar_said_97 at h
    refine lv_iconst (pc := 97) (v := 0) hx hb d42_97 (by decide) ?_
    exact kc98   st x1 x2 x3 x5 0 ax1 _ _ _ hW hS fax1 (lv_sub hl [0, 1, 2, 3, 4] rfl) h
  have kc93 : ∀ (st : CS) (x1 : TT) (x2 : Int32) (x3 : Int32) (x5 : Int32) (ax1 : Nat) (H : Heap) (locs : List Loc) (ls : Array Slot), CW ρ P ad st H → va_S (MA wC ad s.heap.size) s.heap H locs → isS ρ P H ax1 x1 → lv_has ls 11 [(0, .ref (ad 1)), (1, .ref ax1), (2, .int x2), (3, .int x3), (5, .int x5)] → ar_said_93 st x1 x2 x3 x5 = some res → W p l e ({ frames := 13, cells := 0, slots := 0, locals := 621 } : Room) s m args below meth c H locs 0 0 (MQ below (mQ (fun v H1 => v = some (.double res.1) ∧ CW ρ P ad res.2 H1) (MA wC ad s.heap.size)) args s 0 0 (MA wC ad s.heap.size)) (F0 m 93 ls []) := by
    intro st x1 x2 x3 x5 ax1 H locs ls hW hS fax1 hl h
    have hSz := hS.1
    unfold ar_said_93 at h
    refine lv_iconst (pc := 93) (v := 1) hx hb d42_93 (by decide) ?_
    refine lv_goto (pc := 94) (tgt := 98) hx hb d42_94 (by decide) ?_
    exact kc98   st x1 x2 x3 x5 1 ax1 _ _ _ hW hS fax1 (lv_sub hl [0, 1, 2, 3, 4] rfl) h
  have kc62 : ∀ (st : CS) (x1 : TT) (x2 : Int32) (x3 : Int32) (x4 : Int32) (z0 : Int32) (ax1 : Nat) (H : Heap) (locs : List Loc) (ls : Array Slot), CW ρ P ad st H → va_S (MA wC ad s.heap.size) s.heap H locs → isS ρ P H ax1 x1 → lv_has ls 11 [(0, .ref (ad 1)), (1, .ref ax1), (2, .int x2), (3, .int x3), (4, .int x4)] → ar_said_62 st x1 x2 x3 x4 z0 = some res → W p l e ({ frames := 13, cells := 0, slots := 0, locals := 621 } : Room) s m args below meth c H locs 0 0 (MQ below (mQ (fun v H1 => v = some (.double res.1) ∧ CW ρ P ad res.2 H1) (MA wC ad s.heap.size)) args s 0 0 (MA wC ad s.heap.size)) (F0 m 62 ls [.int z0]) := by
    intro st x1 x2 x3 x4 z0 ax1 H locs ls hW hS fax1 hl h
    have hSz := hS.1
    unfold ar_said_62 at h
    refine lv_istore (pc := 62) (lv' := [(5, .int z0), (0, .ref (ad 1)), (1, .ref ax1), (2, .int x2), (3, .int x3), (4, .int x4)]) hx hb d42_62 hl (by decide) rfl (fun ls hl => ?_)
    refine lv_iload (pc := 64) hx hb d42_64 (lv_at hl 5 rfl) ?_
    refine lv_iconst (pc := 66) (v := 1) hx hb d42_66 (by decide) ?_
    refine lv_icmp_lt (pc := 67) (tgt := 97) hx hb d42_67 (by decide) (fun c67 => ?_) (fun c67 => ?_)
    · have h := jb_t c67 h
      exact kc97   st x1 x2 x3 z0 ax1 _ _ _ hW hS fax1 (lv_sub hl [1, 2, 3, 4, 0] rfl) h
    · have h := jb_f c67 h
      refine lv_iload (pc := 70) hx hb d42_70 (lv_at hl 5 rfl) ?_
      refine lv_bipush (pc := 72) (v := 9) hx hb d42_72 (by decide) ?_
      refine lv_icmp_gt (pc := 74) (tgt := 97) hx hb d42_74 (by decide) (fun c74 => ?_) (fun c74 => ?_)
      · have h := jb_t c74 h
        exact kc97   st x1 x2 x3 z0 ax1 _ _ _ hW hS fax1 (lv_sub hl [1, 2, 3, 4, 0] rfl) h
      · have h := jb_f c74 h
        refine lv_iload (pc := 77) hx hb d42_77 (lv_at hl 0 rfl) ?_
        refine lv_iconst (pc := 79) (v := 3) hx hb d42_79 (by decide) ?_
        refine lv_icmp_gt (pc := 80) (tgt := 97) hx hb d42_80 (by decide) (fun c80 => ?_) (fun c80 => ?_)
        · have h := jb_t c80 h
          exact kc97   st x1 x2 x3 z0 ax1 _ _ _ hW hS fax1 (lv_sub hl [1, 2, 3, 4, 0] rfl) h
        · have h := jb_f c80 h
          refine lv_iload_n (pc := 83) hx hb d42_83 rfl (lv_at hl 4 rfl) ?_
          refine lv_if_lt (pc := 84) (tgt := 93) hx hb d42_84 (by decide) (fun c84 => ?_) (fun c84 => ?_)
          · have h := jb_t c84 h
            exact kc93   st x1 x2 x3 z0 ax1 _ _ _ hW hS fax1 (lv_sub hl [1, 2, 3, 4, 0] rfl) h
          · have h := jb_f c84 h
            refine lv_iload (pc := 87) hx hb d42_87 (lv_at hl 0 rfl) ?_
            refine lv_iconst (pc := 89) (v := 1) hx hb d42_89 (by decide) ?_
            refine lv_icmp_lt (pc := 90) (tgt := 97) hx hb d42_90 (by decide) (fun c90 => ?_) (fun c90 => ?_)
            · have h := jb_t c90 h
              exact kc97   st x1 x2 x3 z0 ax1 _ _ _ hW hS fax1 (lv_sub hl [1, 2, 3, 4, 0] rfl) h
            · have h := jb_f c90 h
              exact kc93   st x1 x2 x3 z0 ax1 _ _ _ hW hS fax1 (lv_sub hl [1, 2, 3, 4, 0] rfl) h
  have kc42 : ∀ (st : CS) (x1 : TT) (x2 : Int32) (x3 : Int32) (z0 : Int32) (ax1 : Nat) (H : Heap) (locs : List Loc) (ls : Array Slot), CW ρ P ad st H → va_S (MA wC ad s.heap.size) s.heap H locs → isS ρ P H ax1 x1 → lv_has ls 11 [(0, .ref (ad 1)), (1, .ref ax1), (2, .int x2), (3, .int x3)] → ar_said_42 st x1 x2 x3 z0 = some res → W p l e ({ frames := 13, cells := 0, slots := 0, locals := 621 } : Room) s m args below meth c H locs 0 0 (MQ below (mQ (fun v H1 => v = some (.double res.1) ∧ CW ρ P ad res.2 H1) (MA wC ad s.heap.size)) args s 0 0 (MA wC ad s.heap.size)) (F0 m 42 ls [.int z0]) := by
    intro st x1 x2 x3 z0 ax1 H locs ls hW hS fax1 hl h
    have hSz := hS.1
    unfold ar_said_42 at h
    refine lv_iload_n (pc := 42) hx hb d42_42 rfl (lv_at hl 2 rfl) ?_
    refine lv_isub (pc := 43) hx hb d42_43 ?_
    obtain ⟨v7, ev7, h⟩ := jn_ex h
    refine nm_i ev7 ?_
    refine lv_istore (pc := 44) (lv' := [(4, .int v7), (0, .ref (ad 1)), (1, .ref ax1), (2, .int x2), (3, .int x3)]) hx hb d42_44 hl (by decide) rfl (fun ls hl => ?_)
    refine lv_iload_n (pc := 46) hx hb d42_46 rfl (lv_at hl 4 rfl) ?_
    refine lv_if_ge (pc := 47) (tgt := 54) hx hb d42_47 (by decide) (fun c47 => ?_) (fun c47 => ?_)
    · have h := jb_t c47 h
      refine lv_aload_n (pc := 54) hx hb d42_54 rfl (lv_at hl 2 rfl) ?_
      obtain ⟨q8, hq8, h⟩ := jc_some h
      refine k_callV (pc := 55) (n := 0) X hS (c_js_length l ρ _ P ax1 x1 q8 hW.2.2.1 hW.2.1 fax1 hq8) wd538 wd830 wd536 wd537 wd14 (by decide) ⟨rfl, rfl, Nat.le_of_ble_eq_true rfl, Nat.le_of_ble_eq_true rfl⟩ (s_recv X fax1) (As := []) (rest := []) rfl rfl hl.1 (Nat.le_of_ble_eq_true rfl) d42_55 ⟨Nat.le_refl _, Nat.le_refl _⟩ (fun q hq => False.elim hq) (fun v H1 locs1 hv _ _ hSq8 => ?_)
      obtain ⟨rfl, rfl⟩ := hv
      have hS := hSq8
      have hSz := hS.1
      refine lv_iload_n (pc := 58) hx hb d42_58 rfl (lv_at hl 4 rfl) ?_
      refine lv_isub (pc := 59) hx hb d42_59 ?_
      refine lv_iconst (pc := 60) (v := 1) hx hb d42_60 (by decide) ?_
      refine lv_isub (pc := 61) hx hb d42_61 ?_
      exact kc62   st x1 x2 x3 v7 ((q8 - x3) - 1) ax1 _ _ _ hW hS fax1 (lv_sub hl [1, 2, 3, 4, 0] rfl) h
    · have h := jb_f c47 h
      refine lv_iconst (pc := 50) (v := 0) hx hb d42_50 (by decide) ?_
      refine lv_goto (pc := 51) (tgt := 62) hx hb d42_51 (by decide) ?_
      exact kc62   st x1 x2 x3 v7 0 ax1 _ _ _ hW hS fax1 (lv_sub hl [1, 2, 3, 4, 0] rfl) h
  have kc22 : ∀ (st : CS) (x1 : TT) (z0 : Int32) (ax1 : Nat) (H : Heap) (locs : List Loc) (ls : Array Slot), CW ρ P ad st H → va_S (MA wC ad s.heap.size) s.heap H locs → isS ρ P H ax1 x1 → lv_has ls 11 [(0, .ref (ad 1)), (1, .ref ax1)] → ar_said_22 st x1 z0 = some res → W p l e ({ frames := 13, cells := 0, slots := 0, locals := 621 } : Room) s m args below meth c H locs 0 0 (MQ below (mQ (fun v H1 => v = some (.double res.1) ∧ CW ρ P ad res.2 H1) (MA wC ad s.heap.size)) args s 0 0 (MA wC ad s.heap.size)) (F0 m 22 ls [.int z0]) := by
    intro st x1 z0 ax1 H locs ls hW hS fax1 hl h
    have hSz := hS.1
    unfold ar_said_22 at h
    refine lv_istore_n (pc := 22) (lv' := [(2, .int z0), (0, .ref (ad 1)), (1, .ref ax1)]) hx hb d42_22 rfl hl (by decide) rfl (fun ls hl => ?_)
    refine lv_aload_n (pc := 23) hx hb d42_23 rfl (lv_at hl 2 rfl) ?_
    refine lv_bipush (pc := 24) (v := 46) hx hb d42_24 (by decide) ?_
    obtain ⟨q9, hq9, h⟩ := jc_some h
    refine k_callV (pc := 26) (n := 1) X hS (c_js_indexOf l ρ _ P ax1 x1 46 q9 hW.2.2.1 hW.2.1 fax1 hq9) wd787 wd784 wd785 wd786 wd14 (by decide) ⟨rfl, rfl, Nat.le_of_ble_eq_true rfl, Nat.le_of_ble_eq_true rfl⟩ (s_recv X fax1) (As := [.int 46]) (rest := []) rfl rfl hl.1 (Nat.le_of_ble_eq_true rfl) d42_26 ⟨Nat.le_refl _, Nat.le_refl _⟩ (fun q hq => False.elim hq) (fun v H1 locs1 hv _ _ hSq9 => ?_)
    obtain ⟨rfl, rfl⟩ := hv
    have hS := hSq9
    have hSz := hS.1
    refine lv_istore_n (pc := 29) (lv' := [(3, .int q9), (2, .int z0), (0, .ref (ad 1)), (1, .ref ax1)]) hx hb d42_29 rfl hl (by decide) rfl (fun ls hl => ?_)
    refine lv_iload_n (pc := 30) hx hb d42_30 rfl (lv_at hl 0 rfl) ?_
    refine lv_if_ge (pc := 31) (tgt := 41) hx hb d42_31 (by decide) (fun c31 => ?_) (fun c31 => ?_)
    · have h := jb_t c31 h
      refine lv_iload_n (pc := 41) hx hb d42_41 rfl (lv_at hl 0 rfl) ?_
      exact kc42   st x1 z0 q9 q9 ax1 _ _ _ hW hS fax1 (lv_sub hl [2, 3, 1, 0] rfl) h
    · have h := jb_f c31 h
      refine lv_aload_n (pc := 34) hx hb d42_34 rfl (lv_at hl 3 rfl) ?_
      obtain ⟨q10, hq10, h⟩ := jc_some h
      refine k_callV (pc := 35) (n := 0) X hS (c_js_length l ρ _ P ax1 x1 q10 hW.2.2.1 hW.2.1 fax1 hq10) wd538 wd830 wd536 wd537 wd14 (by decide) ⟨rfl, rfl, Nat.le_of_ble_eq_true rfl, Nat.le_of_ble_eq_true rfl⟩ (s_recv X fax1) (As := []) (rest := []) rfl rfl hl.1 (Nat.le_of_ble_eq_true rfl) d42_35 ⟨Nat.le_refl _, Nat.le_refl _⟩ (fun q hq => False.elim hq) (fun v H1 locs1 hv _ _ hSq10 => ?_)
      obtain ⟨rfl, rfl⟩ := hv
      have hS := hSq10
      have hSz := hS.1
      refine lv_goto (pc := 38) (tgt := 42) hx hb d42_38 (by decide) ?_
      exact kc42   st x1 z0 q9 q10 ax1 _ _ _ hW hS fax1 (lv_sub hl [2, 3, 1, 0] rfl) h
  have kc21 : ∀ (st : CS) (x1 : TT) (ax1 : Nat) (H : Heap) (locs : List Loc) (ls : Array Slot), CW ρ P ad st H → va_S (MA wC ad s.heap.size) s.heap H locs → isS ρ P H ax1 x1 → lv_has ls 11 [(0, .ref (ad 1)), (1, .ref ax1)] → ar_said_21 st x1 = some res → W p l e ({ frames := 13, cells := 0, slots := 0, locals := 621 } : Room) s m args below meth c H locs 0 0 (MQ below (mQ (fun v H1 => v = some (.double res.1) ∧ CW ρ P ad res.2 H1) (MA wC ad s.heap.size)) args s 0 0 (MA wC ad s.heap.size)) (F0 m 21 ls []) := by
    intro st x1 ax1 H locs ls hW hS fax1 hl h
    have hSz := hS.1
    unfold ar_said_21 at h
    refine lv_iconst (pc := 21) (v := 0) hx hb d42_21 (by decide) ?_
    exact kc22   st x1 0 ax1 _ _ _ hW hS fax1 (lv_sub hl [0, 1] rfl) h
  unfold f_ar_said at h
  refine lv_aload_n (pc := 0) hx hb d42_0 rfl (lv_at hl 1 rfl) ?_
  obtain ⟨q11, hq11, h⟩ := jc_some h
  refine k_callV (pc := 1) (n := 0) X hS (c_js_isEmpty l ρ _ P ap0 p0 q11 hW.2.2.1 hW.2.1 fap0 hq11) wd782 wd779 wd780 wd781 wd14 (by decide) ⟨rfl, rfl, Nat.le_of_ble_eq_true rfl, Nat.le_of_ble_eq_true rfl⟩ (s_recv X fap0) (As := []) (rest := []) rfl rfl hl.1 (Nat.le_of_ble_eq_true rfl) d42_1 ⟨Nat.le_refl _, Nat.le_refl _⟩ (fun q hq => False.elim hq) (fun v H1 locs1 hv _ _ hSq11 => ?_)
  obtain ⟨rfl, rfl⟩ := hv
  have hS := hSq11
  have hSz := hS.1
  refine lv_if_ne (pc := 4) (tgt := 21) hx hb d42_4 (by decide) (fun c4 => ?_) (fun c4 => ?_)
  · have h := jb_f c4 h
    exact kc21   st p0 ap0 _ _ _ hW hS fap0 (lv_sub hl [0, 1] rfl) h
  · have h := jb_t c4 h
    refine lv_aload_n (pc := 7) hx hb d42_7 rfl (lv_at hl 1 rfl) ?_
    refine lv_iconst (pc := 8) (v := 0) hx hb d42_8 (by decide) ?_
    obtain ⟨q12, hq12, h⟩ := jc_some h
    refine k_callV (pc := 9) (n := 1) X hS (c_js_charAt l ρ _ P ap0 p0 0 q12 hW.2.2.1 hW.2.1 fap0 hq12) wd683 wd783 wd681 wd682 wd14 (by decide) ⟨rfl, rfl, Nat.le_of_ble_eq_true rfl, Nat.le_of_ble_eq_true rfl⟩ (s_recv X fap0) (As := [.int 0]) (rest := []) rfl rfl hl.1 (Nat.le_of_ble_eq_true rfl) d42_9 ⟨Nat.le_refl _, Nat.le_refl _⟩ (fun q hq => False.elim hq) (fun v H1 locs1 hv _ _ hSq12 => ?_)
    obtain ⟨rfl, rfl⟩ := hv
    have hS := hSq12
    have hSz := hS.1
    refine lv_bipush (pc := 12) (v := 45) hx hb d42_12 (by decide) ?_
    refine lv_icmp_ne (pc := 14) (tgt := 21) hx hb d42_14 (by decide) (fun c14 => ?_) (fun c14 => ?_)
    · have h := jb_f c14 h
      exact kc21   st p0 ap0 _ _ _ hW hS fap0 (lv_sub hl [0, 1] rfl) h
    · have h := jb_t c14 h
      refine lv_iconst (pc := 17) (v := 1) hx hb d42_17 (by decide) ?_
      refine lv_goto (pc := 18) (tgt := 22) hx hb d42_18 (by decide) ?_
      exact kc22   st p0 1 ap0 _ _ _ hW hS fap0 (lv_sub hl [0, 1] rfl) h
def f_ar_number (st : CS) (p0 : Int32) : Option (UInt64 × CS) := jc (f_ar_nth st p0 0) (fun q1 => jb (q1.1 = 4) (jc (f_ar_fail st (FP.d2i q1.2.1)) (fun q5 => some (FP.dconst0, q5))) (jb (q1.1 = 2) (jc (f_ar_said st q1.2.2) (fun q4 => some (q4.1, q4.2))) (some (q1.2.1, st))))
set_option maxHeartbeats 4000000 in
set_option maxRecDepth 100000 in
theorem c_ar_number (l : Launch) (ρ : RH) (ad : Nat → Nat) (H : Heap) (P : Nat → Prop) (st : CS) (p0 : Int32) (res : UInt64 × CS) (hW : CW ρ P ad st H) (h : f_ar_number st p0 = some res) : Met l y40 (wsOf y40 b40 3 (some .double)) ({ frames := 14, cells := 0, slots := 0, locals := 651 } : Room) (va_Pc [.ref (ad 1), .int p0] (KP ρ H)) (mQ (fun v H1 => v = some (.double res.1) ∧ CW ρ P ad res.2 H1) (MA wC ad H.size)) 0 0 (MA wC ad H.size) := by
  refine m_ofW (own := "WordFunctions$Arguments") (plainFor_of_name rfl) rfl (Nat.le_of_ble_eq_true rfl) fun p e s m args below meth c ls hx hb hr hlk _ X hs hl => ?_
  subst hs
  have hS : va_S (MA wC ad s.heap.size) s.heap s.heap [] := va_S.rf
  have hSz := hS.1
  have hAz : ∀ q, s.heap.size ≤ q → (MA wC ad s.heap.size) q := fun q hq => Or.inr hq
  have hAp : ∀ i, i < 46 → (MA wC ad s.heap.size) (ad i) := fun i hi => MA.in hi
  have hPp : ∀ i, i < 46 → P (ad i) := hW.1
  have hl : lv_has ls 3 [(0, .ref (ad 1)), (1, .int p0)] := hl
  unfold f_ar_number at h
  refine lv_aload_n (pc := 0) hx hb d40_0 rfl (lv_at hl 0 rfl) ?_
  refine lv_iload_n (pc := 1) hx hb d40_1 rfl (lv_at hl 1 rfl) ?_
  refine lv_iconst (pc := 2) (v := 0) hx hb d40_2 (by decide) ?_
  obtain ⟨q1, hq1, h⟩ := jc_some h
  refine k_callV (pc := 3) (n := 2) X hS (c_ar_nth l ρ ad _ P st p0 0 q1 hW  hq1) wd770 wd767 wd768 wd769 wd3 (by decide) ⟨rfl, rfl, Nat.le_of_ble_eq_true rfl, Nat.le_of_ble_eq_true rfl⟩ (c_recv X hW 1 3 (by decide) rfl rfl) (As := [.int p0, .int 0]) (rest := []) rfl rfl hl.1 (Nat.le_of_ble_eq_true rfl) d40_3 ⟨Nat.le_refl _, Nat.le_refl _⟩ (fun q hq => False.elim hq) (fun v H1 locs1 hv _ _ hSq1 => ?_)
  obtain ⟨u2, rfl, fu2, rfl⟩ := hv
  have hS := hSq1
  have hSz := hS.1
  refine lv_astore_n (pc := 6) (lv' := [(2, .ref u2), (0, .ref (ad 1)), (1, .int p0)]) hx hb d40_6 rfl hl (by decide) rfl (fun ls hl => ?_)
  refine lv_aload_n (pc := 7) hx hb d40_7 rfl (lv_at hl 0 rfl) ?_
  refine v_kind (pc := 8) X fu2 wd79 d40_8 ?_
  refine lv_iconst (pc := 11) (v := 4) hx hb d40_11 (by decide) ?_
  refine lv_icmp_ne (pc := 12) (tgt := 26) hx hb d40_12 (by decide) (fun c12 => ?_) (fun c12 => ?_)
  · have h := jb_f c12 h
    refine lv_aload_n (pc := 26) hx hb d40_26 rfl (lv_at hl 0 rfl) ?_
    refine v_kind (pc := 27) X fu2 wd79 d40_27 ?_
    refine lv_iconst (pc := 30) (v := 2) hx hb d40_30 (by decide) ?_
    refine lv_icmp_ne (pc := 31) (tgt := 45) hx hb d40_31 (by decide) (fun c31 => ?_) (fun c31 => ?_)
    · have h := jb_f c31 h
      refine lv_aload_n (pc := 45) hx hb d40_45 rfl (lv_at hl 0 rfl) ?_
      refine v_number (pc := 46) X fu2 wd84 d40_46 ?_
      obtain rfl := Option.some.inj h
      exact m_dret (pc := 49) hx hb hr hlk hS ⟨rfl, hW⟩ (Nat.le_refl _) (Nat.le_refl _) d40_49
    · have h := jb_t c31 h
      refine lv_aload_n (pc := 34) hx hb d40_34 rfl (lv_at hl 1 rfl) ?_
      refine lv_aload_n (pc := 35) hx hb d40_35 rfl (lv_at hl 0 rfl) ?_
      refine v_text (pc := 36) X fu2 wd90 d40_36 (fun u3 fu3 => ?_)
      obtain ⟨q4, hq4, h⟩ := jc_some h
      refine k_callV (pc := 39) (n := 1) X hS (c_ar_said l ρ ad _ P st u3 q1.2.2 q4 hW fu3 hq4) wd778 wd775 wd777 sl42 wd3 (by decide) ⟨rfl, rfl, Nat.le_of_ble_eq_true rfl, Nat.le_of_ble_eq_true rfl⟩ (c_recv X hW 1 3 (by decide) rfl rfl) (As := [.ref u3]) (rest := []) rfl rfl hl.1 (Nat.le_of_ble_eq_true rfl) d40_39 ⟨Nat.le_refl _, Nat.le_refl _⟩ (fun q hq => MA.mono hS.1 hq) (fun v H1 locs1 hv hz1 hz2 hSq4 => ?_)
      have hPq := hW.1
      obtain ⟨rfl, hW⟩ := hv
      have hS := hSq4
      have hSz := hS.1
      refine lv_goto (pc := 42) (tgt := 49) hx hb d40_42 (by decide) ?_
      obtain rfl := Option.some.inj h
      exact m_dret (pc := 49) hx hb hr hlk hS ⟨rfl, hW⟩ (Nat.le_refl _) (Nat.le_refl _) d40_49
  · have h := jb_t c12 h
    refine lv_aload_n (pc := 15) hx hb d40_15 rfl (lv_at hl 1 rfl) ?_
    refine lv_aload_n (pc := 16) hx hb d40_16 rfl (lv_at hl 0 rfl) ?_
    refine v_number (pc := 17) X fu2 wd84 d40_17 ?_
    refine lv_d2i (pc := 20) hx hb d40_20 ?_
    obtain ⟨q5, hq5, h⟩ := jc_some h
    refine k_callV (pc := 21) (n := 1) X hS (c_ar_fail l ρ ad _ P st (FP.d2i q1.2.1) q5 hW  hq5) wd774 wd771 wd772 wd773 wd3 (by decide) ⟨rfl, rfl, Nat.le_of_ble_eq_true rfl, Nat.le_of_ble_eq_true rfl⟩ (c_recv X hW 1 3 (by decide) rfl rfl) (As := [.int (FP.d2i q1.2.1)]) (rest := []) rfl rfl hl.1 (Nat.le_of_ble_eq_true rfl) d40_21 ⟨Nat.le_refl _, Nat.le_refl _⟩ (fun q hq => MA.mono hS.1 hq) (fun v H1 locs1 hv hz1 hz2 hSq5 => ?_)
    have hPq := hW.1
    obtain ⟨rfl, hW⟩ := hv
    have hS := hSq5
    have hSz := hS.1
    refine lv_dconst0 (pc := 24) hx hb d40_24 ?_
    obtain rfl := Option.some.inj h
    exact m_dret (pc := 25) hx hb hr hlk hS ⟨rfl, hW⟩ (Nat.le_refl _) (Nat.le_refl _) d40_25
def f_ca_hasDay  (p0 : UInt64) : Option (Int32) := jb ((Op.cmpValue (FP.dcmp p0 FP.dconst0) .l) < 0) (some 0) (jb (0 ≤ (Op.cmpValue (FP.dcmp p0 (4703607668705591296 : UInt64)) .g)) (some 0) (some 1))
set_option maxHeartbeats 4000000 in
set_option maxRecDepth 100000 in
theorem c_ca_hasDay (l : Launch) (ρ : RH) (H : Heap) (P : Nat → Prop) (p0 : UInt64) (res : Int32) (hC : CC ρ P H) (hPb : ∀ q, P q → q < H.size) (h : f_ca_hasDay p0 = some res) : Met l y54 (wsOf y54 b54 2 (some .boolean)) ({ frames := 0, cells := 0, slots := 0, locals := 0 } : Room) (va_Pc [.double p0] (KP ρ H)) (mQ (fun v H1 => v = some (.int res) ∧ H1 = H) (fun _ => False)) 0 0 (fun _ => False) := by
  refine m_ofW (own := "WordFunctions$Calendar") (plainFor_of_name rfl) rfl (Nat.le_of_ble_eq_true rfl) fun p e s m args below meth c ls hx hb hr hlk _ X hs hl => ?_
  subst hs
  have hS : va_S (fun _ => False) s.heap s.heap [] := va_S.rf
  have hSz := hS.1
  have hl : lv_has ls 2 [(0, .double p0)] := hl
  unfold f_ca_hasDay at h
  refine lv_dload_n (pc := 0) hx hb d54_0 rfl (lv_at hl 0 rfl) ?_
  refine lv_dconst0 (pc := 1) hx hb d54_1 ?_
  refine lv_dcmp (pc := 2) hx hb d54_2 ?_
  refine lv_if_lt (pc := 3) (tgt := 18) hx hb d54_3 (by decide) (fun c3 => ?_) (fun c3 => ?_)
  · have h := jb_t c3 h
    refine lv_iconst (pc := 18) (v := 0) hx hb d54_18 (by decide) ?_
    obtain rfl := Option.some.inj h
    exact m_zret (pc := 19) hx hb hr hlk hS ⟨rfl, rfl⟩ (Nat.le_refl _) (Nat.le_refl _) d54_19 (by decide)
  · have h := jb_f c3 h
    refine lv_dload_n (pc := 6) hx hb d54_6 rfl (lv_at hl 0 rfl) ?_
    refine lv_ldc2d (pc := 7) hx hb X.1.2.2.2.1 (X.ts wd1236) d54_7 ?_
    refine lv_dcmp (pc := 10) hx hb d54_10 ?_
    refine lv_if_ge (pc := 11) (tgt := 18) hx hb d54_11 (by decide) (fun c11 => ?_) (fun c11 => ?_)
    · have h := jb_t c11 h
      refine lv_iconst (pc := 18) (v := 0) hx hb d54_18 (by decide) ?_
      obtain rfl := Option.some.inj h
      exact m_zret (pc := 19) hx hb hr hlk hS ⟨rfl, rfl⟩ (Nat.le_refl _) (Nat.le_refl _) d54_19 (by decide)
    · have h := jb_f c11 h
      refine lv_iconst (pc := 14) (v := 1) hx hb d54_14 (by decide) ?_
      refine lv_goto (pc := 15) (tgt := 19) hx hb d54_15 (by decide) ?_
      obtain rfl := Option.some.inj h
      exact m_zret (pc := 19) hx hb hr hlk hS ⟨rfl, rfl⟩ (Nat.le_refl _) (Nat.le_refl _) d54_19 (by decide)
def f_ar_day (st : CS) (p0 : Int32) : Option (Int32 × CS) := jc (f_ar_number st p0) (fun q1 => jc (f_ca_hasDay q1.1) (fun q2 => jb (q2 = 0) (jc (f_ar_fail q1.2 6) (fun q3 => some (0, q3))) (some ((FP.d2i q1.1), q1.2))))
set_option maxHeartbeats 4000000 in
set_option maxRecDepth 100000 in
theorem c_ar_day (l : Launch) (ρ : RH) (ad : Nat → Nat) (H : Heap) (P : Nat → Prop) (st : CS) (p0 : Int32) (res : Int32 × CS) (hW : CW ρ P ad st H) (h : f_ar_day st p0 = some res) : Met l y33 (wsOf y33 b33 4 (some .int)) ({ frames := 15, cells := 0, slots := 0, locals := 673 } : Room) (va_Pc [.ref (ad 1), .int p0] (KP ρ H)) (mQ (fun v H1 => v = some (.int res.1) ∧ CW ρ P ad res.2 H1) (MA wC ad H.size)) 0 0 (MA wC ad H.size) := by
  refine m_ofW (own := "WordFunctions$Arguments") (plainFor_of_name rfl) rfl (Nat.le_of_ble_eq_true rfl) fun p e s m args below meth c ls hx hb hr hlk _ X hs hl => ?_
  subst hs
  have hS : va_S (MA wC ad s.heap.size) s.heap s.heap [] := va_S.rf
  have hSz := hS.1
  have hAz : ∀ q, s.heap.size ≤ q → (MA wC ad s.heap.size) q := fun q hq => Or.inr hq
  have hAp : ∀ i, i < 46 → (MA wC ad s.heap.size) (ad i) := fun i hi => MA.in hi
  have hPp : ∀ i, i < 46 → P (ad i) := hW.1
  have hl : lv_has ls 4 [(0, .ref (ad 1)), (1, .int p0)] := hl
  unfold f_ar_day at h
  refine lv_aload_n (pc := 0) hx hb d33_0 rfl (lv_at hl 0 rfl) ?_
  refine lv_iload_n (pc := 1) hx hb d33_1 rfl (lv_at hl 1 rfl) ?_
  obtain ⟨q1, hq1, h⟩ := jc_some h
  refine k_callV (pc := 2) (n := 1) X hS (c_ar_number l ρ ad _ P st p0 q1 hW  hq1) wd766 wd763 wd764 wd765 wd3 (by decide) ⟨rfl, rfl, Nat.le_of_ble_eq_true rfl, Nat.le_of_ble_eq_true rfl⟩ (c_recv X hW 1 3 (by decide) rfl rfl) (As := [.int p0]) (rest := []) rfl rfl hl.1 (Nat.le_of_ble_eq_true rfl) d33_2 ⟨Nat.le_refl _, Nat.le_refl _⟩ (fun q hq => MA.mono hS.1 hq) (fun v H1 locs1 hv hz1 hz2 hSq1 => ?_)
  have hPq := hW.1
  obtain ⟨rfl, hW⟩ := hv
  have hS := hSq1
  have hSz := hS.1
  refine lv_dstore_n (pc := 5) (lv' := [(2, .double q1.1), (0, .ref (ad 1)), (1, .int p0)]) hx hb d33_5 rfl hl (by decide) rfl (fun ls hl => ?_)
  refine lv_dload_n (pc := 6) hx hb d33_6 rfl (lv_at hl 0 rfl) ?_
  obtain ⟨q2, hq2, h⟩ := jc_some h
  refine k_callS (pc := 7) (n := 1) X hS (c_ca_hasDay l ρ _ P q1.1 q2 hW.2.2.1 hW.2.1  hq2) wd1235 wd1233 wd1234 wd29 (by decide) ⟨rfl, rfl, Nat.le_of_ble_eq_true rfl, Nat.le_of_ble_eq_true rfl⟩ (As := [.double q1.1]) (rest := []) rfl rfl hl.1 (Nat.le_of_ble_eq_true rfl) d33_7 ⟨Nat.le_refl _, Nat.le_refl _⟩ (fun q hq => False.elim hq) (fun v H1 locs1 hv _ _ hSq2 => ?_)
  obtain ⟨rfl, rfl⟩ := hv
  have hS := hSq2
  have hSz := hS.1
  refine lv_if_ne (pc := 10) (tgt := 21) hx hb d33_10 (by decide) (fun c10 => ?_) (fun c10 => ?_)
  · have h := jb_f c10 h
    refine lv_dload_n (pc := 21) hx hb d33_21 rfl (lv_at hl 0 rfl) ?_
    refine lv_d2i (pc := 22) hx hb d33_22 ?_
    obtain rfl := Option.some.inj h
    exact m_iret (pc := 23) hx hb hr hlk hS ⟨rfl, hW⟩ (Nat.le_refl _) (Nat.le_refl _) d33_23
  · have h := jb_t c10 h
    refine lv_aload_n (pc := 13) hx hb d33_13 rfl (lv_at hl 1 rfl) ?_
    refine lv_bipush (pc := 14) (v := 6) hx hb d33_14 (by decide) ?_
    obtain ⟨q3, hq3, h⟩ := jc_some h
    refine k_callV (pc := 16) (n := 1) X hS (c_ar_fail l ρ ad _ P q1.2 6 q3 hW  hq3) wd774 wd771 wd772 wd773 wd3 (by decide) ⟨rfl, rfl, Nat.le_of_ble_eq_true rfl, Nat.le_of_ble_eq_true rfl⟩ (c_recv X hW 1 3 (by decide) rfl rfl) (As := [.int 6]) (rest := []) rfl rfl hl.1 (Nat.le_of_ble_eq_true rfl) d33_16 ⟨Nat.le_refl _, Nat.le_refl _⟩ (fun q hq => MA.mono hS.1 hq) (fun v H1 locs1 hv hz1 hz2 hSq3 => ?_)
    have hPq := hW.1
    obtain ⟨rfl, hW⟩ := hv
    have hS := hSq3
    have hSz := hS.1
    refine lv_iconst (pc := 19) (v := 0) hx hb d33_19 (by decide) ?_
    obtain rfl := Option.some.inj h
    exact m_iret (pc := 20) hx hb hr hlk hS ⟨rfl, hW⟩ (Nat.le_refl _) (Nat.le_refl _) d33_20
def f_ar_isLeftOut (st : CS) (p0 : Int32) : Option (Int32) := jc (f_ar_grid st p0) (fun q1 => jb ((st.1 q1 0) = 0) (some 1) (some 0))
set_option maxHeartbeats 4000000 in
set_option maxRecDepth 100000 in
theorem c_ar_isLeftOut (l : Launch) (ρ : RH) (ad : Nat → Nat) (H : Heap) (P : Nat → Prop) (st : CS) (p0 : Int32) (res : Int32) (hW : CW ρ P ad st H) (h : f_ar_isLeftOut st p0 = some res) : Met l y36 (wsOf y36 b36 2 (some .boolean)) ({ frames := 1, cells := 0, slots := 0, locals := 21 } : Room) (va_Pc [.ref (ad 1), .int p0] (KP ρ H)) (mQ (fun v H1 => v = some (.int res) ∧ H1 = H) (fun _ => False)) 0 0 (fun _ => False) := by
  refine m_ofW (own := "WordFunctions$Arguments") (plainFor_of_name rfl) rfl (Nat.le_of_ble_eq_true rfl) fun p e s m args below meth c ls hx hb hr hlk _ X hs hl => ?_
  subst hs
  have hS : va_S (fun _ => False) s.heap s.heap [] := va_S.rf
  have hSz := hS.1
  have hPp : ∀ i, i < 46 → P (ad i) := hW.1
  have hl : lv_has ls 2 [(0, .ref (ad 1)), (1, .int p0)] := hl
  unfold f_ar_isLeftOut at h
  refine lv_aload_n (pc := 0) hx hb d36_0 rfl (lv_at hl 0 rfl) ?_
  refine lv_iload_n (pc := 1) hx hb d36_1 rfl (lv_at hl 1 rfl) ?_
  obtain ⟨q1, hq1, h⟩ := jc_some h
  refine k_callV (pc := 2) (n := 1) X hS (c_ar_grid l ρ ad _ P st p0 q1 hW  hq1) wd628 wd625 wd626 wd627 wd3 (by decide) ⟨rfl, rfl, Nat.le_of_ble_eq_true rfl, Nat.le_of_ble_eq_true rfl⟩ (c_recv X hW 1 3 (by decide) rfl rfl) (As := [.int p0]) (rest := []) rfl rfl hl.1 (Nat.le_of_ble_eq_true rfl) d36_2 ⟨Nat.le_refl _, Nat.le_refl _⟩ (fun q hq => False.elim hq) (fun v H1 locs1 hv _ _ hSq1 => ?_)
  obtain ⟨rfl, hgq1, rfl⟩ := hv
  have hS := hSq1
  have hSz := hS.1
  refine c_getI (pc := 5) X hW q1 0 2 (C := "WordFunctions$Grid") (T := T2) (N := 6) hgq1.1 hgq1.2 rfl rfl rfl tin2 rfl wd104 rfl d36_5 ?_
  refine lv_if_ne (pc := 8) (tgt := 15) hx hb d36_8 (by decide) (fun c8 => ?_) (fun c8 => ?_)
  · have h := jb_f c8 h
    refine lv_iconst (pc := 15) (v := 0) hx hb d36_15 (by decide) ?_
    obtain rfl := Option.some.inj h
    exact m_zret (pc := 16) hx hb hr hlk hS ⟨rfl, rfl⟩ (Nat.le_refl _) (Nat.le_refl _) d36_16 (by decide)
  · have h := jb_t c8 h
    refine lv_iconst (pc := 11) (v := 1) hx hb d36_11 (by decide) ?_
    refine lv_goto (pc := 12) (tgt := 16) hx hb d36_12 (by decide) ?_
    obtain rfl := Option.some.inj h
    exact m_zret (pc := 16) hx hb hr hlk hS ⟨rfl, rfl⟩ (Nat.le_refl _) (Nat.le_refl _) d36_16 (by decide)
def f_ar_isThere (st : CS) (p0 : Int32) : Option (Int32) := jb ((st.1 1 5) ≤ p0) (some 0) (some 1)
set_option maxHeartbeats 4000000 in
set_option maxRecDepth 100000 in
theorem c_ar_isThere (l : Launch) (ρ : RH) (ad : Nat → Nat) (H : Heap) (P : Nat → Prop) (st : CS) (p0 : Int32) (res : Int32) (hW : CW ρ P ad st H) (h : f_ar_isThere st p0 = some res) : Met l y37 (wsOf y37 b37 2 (some .boolean)) ({ frames := 0, cells := 0, slots := 0, locals := 0 } : Room) (va_Pc [.ref (ad 1), .int p0] (KP ρ H)) (mQ (fun v H1 => v = some (.int res) ∧ H1 = H) (fun _ => False)) 0 0 (fun _ => False) := by
  refine m_ofW (own := "WordFunctions$Arguments") (plainFor_of_name rfl) rfl (Nat.le_of_ble_eq_true rfl) fun p e s m args below meth c ls hx hb hr hlk _ X hs hl => ?_
  subst hs
  have hS : va_S (fun _ => False) s.heap s.heap [] := va_S.rf
  have hSz := hS.1
  have hPp : ∀ i, i < 46 → P (ad i) := hW.1
  have hl : lv_has ls 2 [(0, .ref (ad 1)), (1, .int p0)] := hl
  unfold f_ar_isThere at h
  refine lv_iload_n (pc := 0) hx hb d37_0 rfl (lv_at hl 1 rfl) ?_
  refine lv_aload_n (pc := 1) hx hb d37_1 rfl (lv_at hl 0 rfl) ?_
  refine c_getI (pc := 2) X hW 1 5 3 (C := "WordFunctions$Arguments") (T := T3) (N := 9) (by decide) rfl rfl rfl rfl tin3 rfl wd134 rfl d37_2 ?_
  refine lv_icmp_ge (pc := 5) (tgt := 12) hx hb d37_5 (by decide) (fun c5 => ?_) (fun c5 => ?_)
  · have h := jb_t c5 h
    refine lv_iconst (pc := 12) (v := 0) hx hb d37_12 (by decide) ?_
    obtain rfl := Option.some.inj h
    exact m_zret (pc := 13) hx hb hr hlk hS ⟨rfl, rfl⟩ (Nat.le_refl _) (Nat.le_refl _) d37_13 (by decide)
  · have h := jb_f c5 h
    refine lv_iconst (pc := 8) (v := 1) hx hb d37_8 (by decide) ?_
    refine lv_goto (pc := 9) (tgt := 13) hx hb d37_9 (by decide) ?_
    obtain rfl := Option.some.inj h
    exact m_zret (pc := 13) hx hb hr hlk hS ⟨rfl, rfl⟩ (Nat.le_refl _) (Nat.le_refl _) d37_13 (by decide)
def f_ar_many (st : CS) (p0 : Int32) : Option (Int32) := jc (f_ar_rows st p0) (fun q1 => jc (f_ar_columns st p0) (fun q2 => some (q1 * q2)))
set_option maxHeartbeats 4000000 in
set_option maxRecDepth 100000 in
theorem c_ar_many (l : Launch) (ρ : RH) (ad : Nat → Nat) (H : Heap) (P : Nat → Prop) (st : CS) (p0 : Int32) (res : Int32) (hW : CW ρ P ad st H) (h : f_ar_many st p0 = some res) : Met l y38 (wsOf y38 b38 2 (some .int)) ({ frames := 2, cells := 0, slots := 0, locals := 42 } : Room) (va_Pc [.ref (ad 1), .int p0] (KP ρ H)) (mQ (fun v H1 => v = some (.int res) ∧ H1 = H) (fun _ => False)) 0 0 (fun _ => False) := by
  refine m_ofW (own := "WordFunctions$Arguments") (plainFor_of_name rfl) rfl (Nat.le_of_ble_eq_true rfl) fun p e s m args below meth c ls hx hb hr hlk _ X hs hl => ?_
  subst hs
  have hS : va_S (fun _ => False) s.heap s.heap [] := va_S.rf
  have hSz := hS.1
  have hPp : ∀ i, i < 46 → P (ad i) := hW.1
  have hl : lv_has ls 2 [(0, .ref (ad 1)), (1, .int p0)] := hl
  unfold f_ar_many at h
  refine lv_aload_n (pc := 0) hx hb d38_0 rfl (lv_at hl 0 rfl) ?_
  refine lv_iload_n (pc := 1) hx hb d38_1 rfl (lv_at hl 1 rfl) ?_
  obtain ⟨q1, hq1, h⟩ := jc_some h
  refine k_callV (pc := 2) (n := 1) X hS (c_ar_rows l ρ ad _ P st p0 q1 hW  hq1) wd749 wd1057 wd747 wd748 wd3 (by decide) ⟨rfl, rfl, Nat.le_of_ble_eq_true rfl, Nat.le_of_ble_eq_true rfl⟩ (c_recv X hW 1 3 (by decide) rfl rfl) (As := [.int p0]) (rest := []) rfl rfl hl.1 (Nat.le_of_ble_eq_true rfl) d38_2 ⟨Nat.le_refl _, Nat.le_refl _⟩ (fun q hq => False.elim hq) (fun v H1 locs1 hv _ _ hSq1 => ?_)
  obtain ⟨rfl, rfl⟩ := hv
  have hS := hSq1
  have hSz := hS.1
  refine lv_aload_n (pc := 5) hx hb d38_5 rfl (lv_at hl 0 rfl) ?_
  refine lv_iload_n (pc := 6) hx hb d38_6 rfl (lv_at hl 1 rfl) ?_
  obtain ⟨q2, hq2, h⟩ := jc_some h
  refine k_callV (pc := 7) (n := 1) X hS (c_ar_columns l ρ ad _ P st p0 q2 hW  hq2) wd754 wd850 wd752 wd753 wd3 (by decide) ⟨rfl, rfl, Nat.le_of_ble_eq_true rfl, Nat.le_of_ble_eq_true rfl⟩ (c_recv X hW 1 3 (by decide) rfl rfl) (As := [.int p0]) (rest := [.int q1]) rfl rfl hl.1 (Nat.le_of_ble_eq_true rfl) d38_7 ⟨Nat.le_refl _, Nat.le_refl _⟩ (fun q hq => False.elim hq) (fun v H1 locs1 hv _ _ hSq2 => ?_)
  obtain ⟨rfl, rfl⟩ := hv
  have hS := hSq2
  have hSz := hS.1
  refine lv_imul (pc := 10) hx hb d38_10 ?_
  obtain rfl := Option.some.inj h
  exact m_iret (pc := 11) hx hb hr hlk hS ⟨rfl, rfl⟩ (Nat.le_refl _) (Nat.le_refl _) d38_11
def ar_written_192  (st : CS) (xb : BT) : Option ((TT × CS) × Nat × Nat) := jc (f_sb_rev xb) (fun q1 => jd (f_sb_toS q1) (fun q3 => some ((q3, st), 0, 0)))
def ar_written_179  (st : CS) (x7 : Int32) (xb : BT) : Option ((TT × CS) × Nat × Nat) := jb (x7 = 0) (ar_written_192 st xb) (jd (f_sb_appC xb 45) (fun q5 => ar_written_192 st q5))
def ar_written_148 (K106 : CS → Int64 → Int32 → Int32 → Int32 → BT → Option ((TT × CS) × Nat × Nat)) (st : CS) (x5 : Int64) (x7 : Int32) (x8 : Int32) (x10 : Int32) (xb : BT) : Option ((TT × CS) × Nat × Nat) := jd (f_sb_appC xb (((48 + (x5 - x5 / (10 : Int64) * (10 : Int64)).toInt32).toUInt32 % 65536).toInt32)) (fun q7 => jn (x5 / (10 : Int64)) (fun v9 => jn (x10 + 1) (fun v10 => K106 st v9 x7 x8 v10 q7)))
def ar_written_128 (K106 : CS → Int64 → Int32 → Int32 → Int32 → BT → Option ((TT × CS) × Nat × Nat)) (st : CS) (x5 : Int64) (x7 : Int32) (x8 : Int32) (x10 : Int32) (xb : BT) : Option ((TT × CS) × Nat × Nat) := jb (x10 = x8) (jb (x8 ≤ 0) (ar_written_148 K106 st x5 x7 x8 x10 xb) (jd (f_sb_appC xb 46) (fun q11 => ar_written_148 K106 st x5 x7 x8 x10 q11))) (ar_written_148 K106 st x5 x7 x8 x10 xb)
def ar_written_106  : Nat → CS → Int64 → Int32 → Int32 → Int32 → BT → Option ((TT × CS) × Nat × Nat)
  | 0, _, _, _, _, _, _ => none
  | fu + 1, st, x5, x7, x8, x10, xb => jb (255 ≤ x10) (ar_written_179 st x7 xb) (jb (x10 ≤ x8) (ar_written_128 (ar_written_106 fu) st x5 x7 x8 x10 xb) (jb ((lg_cmp x5 0) ≤ 0) (ar_written_179 st x7 xb) (ar_written_128 (ar_written_106 fu) st x5 x7 x8 x10 xb)))
def ar_written_94  (st : CS) (x5 : Int64) (x7 : Int32) (x8 : Int32) : Option ((TT × CS) × Nat × Nat) := ja 2 20 (ar_written_106 FU st x5 x7 x8 0 (([] : TT), 16))
def ar_written_64  : Nat → CS → Int64 → Int32 → Int32 → Option ((TT × CS) × Nat × Nat)
  | 0, _, _, _, _ => none
  | fu + 1, st, x5, x7, x8 => jb (x8 ≤ 0) (ar_written_94 st x5 x7 x8) (jb ((lg_cmp (x5 - x5 / (10 : Int64) * (10 : Int64)) 0) = 0) (jn (x5 / (10 : Int64)) (fun v14 => jn (x8 + (-1)) (fun v15 => ar_written_64 fu st v14 x7 v15))) (ar_written_94 st x5 x7 x8))
def ar_written_59  (st : CS) (x5 : Int64) (z0 : Int32) : Option ((TT × CS) × Nat × Nat) := ar_written_64 FU st x5 z0 3
def ar_written_58  (st : CS) (x5 : Int64) : Option ((TT × CS) × Nat × Nat) := ar_written_59 st x5 0
def ar_written_12  (st : CS) (x1 : UInt64) (z0 : UInt64) : Option ((TT × CS) × Nat × Nat) := jb ((Op.cmpValue (FP.dcmp z0 (4786511204640096256 : UInt64)) .l) < 0) (jg (nn (FP.dmul z0 (4652007308841189376 : UInt64))) (jg (nn (FP.dadd (FP.dmul z0 (4652007308841189376 : UInt64)) (4602678819172646912 : UInt64))) (jn (FP.d2l (FP.dadd (FP.dmul z0 (4652007308841189376 : UInt64)) (4602678819172646912 : UInt64))) (fun v18 => jb (0 ≤ (Op.cmpValue (FP.dcmp x1 FP.dconst0) .g)) (ar_written_58 st v18) (jb ((lg_cmp v18 0) = 0) (ar_written_58 st v18) (ar_written_59 st v18 1)))))) (jc (f_ar_fail st 3) (fun q19 => some ((TX6, q19), 0, 0)))
def f_ar_written (st : CS) (p0 : UInt64) : Option ((TT × CS) × Nat × Nat) := jb (0 ≤ (Op.cmpValue (FP.dcmp p0 FP.dconst0) .g)) (ar_written_12 st p0 p0) (ar_written_12 st p0 (FP.dneg p0))
set_option maxHeartbeats 4000000 in
set_option maxRecDepth 100000 in
theorem c_ar_written (l : Launch) (ρ : RH) (ad : Nat → Nat) (H : Heap) (P : Nat → Prop) (st : CS) (p0 : UInt64) (res : (TT × CS) × Nat × Nat) (hW : CW ρ P ad st H) (h : f_ar_written st p0 = some res) : Met l y51 (wsOf y51 b51 11 (some (.object "java/lang/String"))) ({ frames := 13, cells := res.2.1, slots := res.2.2, locals := 621 } : Room) (va_Pc [.ref (ad 1), .double p0] (KP ρ H)) (mQ (fun v H1 => ∃ x : Nat, v = some (.ref x) ∧ isS ρ P H1 x res.1.1 ∧ CW ρ P ad res.1.2 H1) (MA wC ad H.size)) res.2.1 res.2.2 (MA wC ad H.size) := by
  refine m_ofW (own := "WordFunctions$Arguments") (plainFor_of_name rfl) rfl (Nat.le_of_ble_eq_true rfl) fun p e s m args below meth c ls hx hb hr hlk _ X hs hl => ?_
  subst hs
  have hS : va_S (MA wC ad s.heap.size) s.heap s.heap [] := va_S.rf
  have hSz := hS.1
  have hAz : ∀ q, s.heap.size ≤ q → (MA wC ad s.heap.size) q := fun q hq => Or.inr hq
  have hAp : ∀ i, i < 46 → (MA wC ad s.heap.size) (ad i) := fun i hi => MA.in hi
  have hPp : ∀ i, i < 46 → P (ad i) := hW.1
  have hl : lv_has ls 11 [(0, .ref (ad 1)), (1, .double p0)] := hl
  have kc192 : ∀ (st : CS) (xb : BT) (ba bb : Nat) (H : Heap) (locs : List Loc) (ls : Array Slot) (cells slots : Nat) (r : (TT × CS) × Nat × Nat), CW ρ (pe P ba bb) ad st H → va_S (MA wC ad s.heap.size) s.heap H locs → SB ρ H ba bb xb → (MA wC ad s.heap.size) ba → (MA wC ad s.heap.size) bb → (∀ i, i < 46 → ¬ ab ba bb (ad i)) → lv_has ls 11 [(9, .ref ba)] → res.1 = r.1 → cells + r.2.1 ≤ res.2.1 → slots + r.2.2 ≤ res.2.2 → ar_written_192 st xb = some r → W p l e ({ frames := 13, cells := res.2.1, slots := res.2.2, locals := 621 } : Room) s m args below meth c H locs cells slots (MQ below (mQ (fun v H1 => ∃ x : Nat, v = some (.ref x) ∧ isS ρ P H1 x res.1.1 ∧ CW ρ P ad res.1.2 H1) (MA wC ad s.heap.size)) args s res.2.1 res.2.2 (MA wC ad s.heap.size)) (F0 m 192 ls []) := by
    intro st xb ba bb H locs ls cells slots r hW hS hSB hAa hAb hnn hl her hc1 hs1 h
    have hSz := hS.1
    unfold ar_written_192 at h
    refine lv_aload (pc := 192) hx hb d51_192 (lv_at hl 0 rfl) ?_
    obtain ⟨q1, hq1, h⟩ := jc_some h
    refine k_callV (pc := 194) (n := 0) X hS (c_sb_rev l ρ _ (pe P ba bb) ba bb xb q1 hW.2.2.1 hW.2.1 ⟨hSB, Or.inr (Or.inl rfl), Or.inr (Or.inr rfl)⟩ hq1) wd886 wd883 wd884 wd885 wd13 (by decide) ⟨rfl, rfl, Nat.le_of_ble_eq_true rfl, Nat.le_of_ble_eq_true rfl⟩ (sb_recv X hSB) (As := []) (rest := []) rfl rfl hl.1 (Nat.le_of_ble_eq_true rfl) d51_194 ⟨room_l0 hc1, room_l0 hs1⟩ (fun q hq => hq.elim (fun e => e ▸ hAa) (fun z => z.elim (fun e => e ▸ hAb) (fun g => hAz q (Nat.le_trans hS.1 g)))) (fun v H1 locs1 hv hz1 hz2 hSq1 => ?_)
    obtain ⟨rfl, bb2, hb1, hb2, hSB⟩ := hv
    have hk : kp (ab ba bb) _ H1 := kp_call hz1 hz2 (fun q hq z => z.elim Or.inl (fun z => z.elim Or.inr (fun g => absurd hq (Nat.not_lt.mpr g))))
    have hAb : (MA wC ad s.heap.size) bb2 := hb1.elim (fun e => e ▸ hAb) (fun g => hAz _ (Nat.le_trans hS.1 g))
    have hnn0 := hnn
    have hnn : ∀ i, i < 46 → ¬ ab ba bb2 (ad i) := nn_step hnn hb1 hW
    have hW := hW.sb hk hb1 hb2 hnn0 hPp
    have hS := hSq1
    have hSz := hS.1
    obtain ⟨q3, rq3, hq3, h, herq3, hccq3, hssq3⟩ := jd_some h
    refine k_callV (pc := 197) (n := 0) X hS (c_sb_toS l ρ _ (pe P ba bb2) ba bb2 q1 q3 hW.2.2.1 hW.2.1 ⟨hSB, Or.inr (Or.inl rfl), Or.inr (Or.inr rfl)⟩ hq3) wd411 wd913 wd409 wd410 wd13 (by decide) ⟨rfl, rfl, Nat.le_of_ble_eq_true rfl, Nat.le_of_ble_eq_true rfl⟩ (sb_recv X hSB) (As := []) (rest := []) rfl rfl hl.1 (Nat.le_of_ble_eq_true rfl) d51_197 ⟨room_le hccq3 hc1, room_le hssq3 hs1⟩ (fun q hq => hAz q (Nat.le_trans hS.1 hq)) (fun v H1 locs1 hv hz1 hz2 hSq3 => ?_)
    obtain ⟨u4, rfl, fu4⟩ := hv
    have hk : kp no _ H1 := kp_call hz1 hz2 (fun q hq z => absurd hq (Nat.not_lt.mpr z))
    have hSB := hSB.keep hk (fun z => z) (fun z => z)
    have hW := hW.keep hk no_hz (fun _ _ z => z)
    have hS := hSq3
    have hSz := hS.1
    have her := her.trans herq3
    have hc1 := room_st hccq3 hc1
    have hs1 := room_st hssq3 hs1
    have fu4 := fu4.un
    have hW := hW.un hPp
    have her : res.1 = (q3.1, st) := her.trans (congrArg Prod.fst (Option.some.inj h)).symm
    exact m_aret (pc := 200) hx hb hr (Or.inl ⟨_, rfl⟩) hlk hS ⟨u4, rfl, by rw [her]; exact fu4, by rw [her]; exact hW⟩ (Nat.le_trans (Nat.le_add_right _ _) hc1) (Nat.le_trans (Nat.le_add_right _ _) hs1) d51_200
  have kc179 : ∀ (st : CS) (x7 : Int32) (xb : BT) (ba bb : Nat) (H : Heap) (locs : List Loc) (ls : Array Slot) (cells slots : Nat) (r : (TT × CS) × Nat × Nat), CW ρ (pe P ba bb) ad st H → va_S (MA wC ad s.heap.size) s.heap H locs → SB ρ H ba bb xb → (MA wC ad s.heap.size) ba → (MA wC ad s.heap.size) bb → (∀ i, i < 46 → ¬ ab ba bb (ad i)) → lv_has ls 11 [(7, .int x7), (9, .ref ba)] → res.1 = r.1 → cells + r.2.1 ≤ res.2.1 → slots + r.2.2 ≤ res.2.2 → ar_written_179 st x7 xb = some r → W p l e ({ frames := 13, cells := res.2.1, slots := res.2.2, locals := 621 } : Room) s m args below meth c H locs cells slots (MQ below (mQ (fun v H1 => ∃ x : Nat, v = some (.ref x) ∧ isS ρ P H1 x res.1.1 ∧ CW ρ P ad res.1.2 H1) (MA wC ad s.heap.size)) args s res.2.1 res.2.2 (MA wC ad s.heap.size)) (F0 m 179 ls []) := by
    intro st x7 xb ba bb H locs ls cells slots r hW hS hSB hAa hAb hnn hl her hc1 hs1 h
    have hSz := hS.1
    unfold ar_written_179 at h
    refine lv_iload (pc := 179) hx hb d51_179 (lv_at hl 0 rfl) ?_
    refine lv_if_eq (pc := 181) (tgt := 192) hx hb d51_181 (by decide) (fun c181 => ?_) (fun c181 => ?_)
    · have h := jb_t c181 h
      exact kc192   st xb ba bb _ _ _ _ _ _ hW hS hSB hAa hAb hnn (lv_sub hl [1] rfl) her hc1 hs1 h
    · have h := jb_f c181 h
      refine lv_aload (pc := 184) hx hb d51_184 (lv_at hl 1 rfl) ?_
      refine lv_bipush (pc := 186) (v := 45) hx hb d51_186 (by decide) ?_
      obtain ⟨q5, rq5, hq5, h, herq5, hccq5, hssq5⟩ := jd_some h
      refine k_callV (pc := 188) (n := 1) X hS (c_sb_appC l ρ _ (pe P ba bb) ba bb xb 45 q5 hW.2.2.1 hW.2.1 ⟨hSB, Or.inr (Or.inl rfl), Or.inr (Or.inr rfl)⟩ hq5) wd316 wd882 wd314 wd315 wd13 (by decide) ⟨rfl, rfl, Nat.le_of_ble_eq_true rfl, Nat.le_of_ble_eq_true rfl⟩ (sb_recv X hSB) (As := [.int 45]) (rest := []) rfl rfl hl.1 (Nat.le_of_ble_eq_true rfl) d51_188 ⟨room_le hccq5 hc1, room_le hssq5 hs1⟩ (fun q hq => hq.elim (fun e => e ▸ hAa) (fun z => z.elim (fun e => e ▸ hAb) (fun g => hAz q (Nat.le_trans hS.1 g)))) (fun v H1 locs1 hv hz1 hz2 hSq5 => ?_)
      obtain ⟨rfl, bb6, hb1, hb2, hSB⟩ := hv
      have hk : kp (ab ba bb) _ H1 := kp_call hz1 hz2 (fun q hq z => z.elim Or.inl (fun z => z.elim Or.inr (fun g => absurd hq (Nat.not_lt.mpr g))))
      have hAb : (MA wC ad s.heap.size) bb6 := hb1.elim (fun e => e ▸ hAb) (fun g => hAz _ (Nat.le_trans hS.1 g))
      have hnn0 := hnn
      have hnn : ∀ i, i < 46 → ¬ ab ba bb6 (ad i) := nn_step hnn hb1 hW
      have hW := hW.sb hk hb1 hb2 hnn0 hPp
      have hS := hSq5
      have hSz := hS.1
      have her := her.trans herq5
      have hc1 := room_st hccq5 hc1
      have hs1 := room_st hssq5 hs1
      refine lv_pop (pc := 191) hx hb d51_191 rfl ?_
      exact kc192   st q5.1 ba bb6 _ _ _ _ _ _ hW hS hSB hAa hAb hnn (lv_sub hl [1] rfl) her hc1 hs1 h
  have kc148 : ∀ (K106 : CS → Int64 → Int32 → Int32 → Int32 → BT → Option ((TT × CS) × Nat × Nat)) (hK106 : ∀ (st : CS) (x5 : Int64) (x7 : Int32) (x8 : Int32) (x10 : Int32) (xb : BT) (ba bb : Nat) (H : Heap) (locs : List Loc) (ls : Array Slot) (cells slots : Nat) (r : (TT × CS) × Nat × Nat), CW ρ (pe P ba bb) ad st H → va_S (MA wC ad s.heap.size) s.heap H locs → SB ρ H ba bb xb → (MA wC ad s.heap.size) ba → (MA wC ad s.heap.size) bb → (∀ i, i < 46 → ¬ ab ba bb (ad i)) → lv_has ls 11 [(5, .long x5), (7, .int x7), (8, .int x8), (9, .ref ba), (10, .int x10)] → res.1 = r.1 → cells + r.2.1 ≤ res.2.1 → slots + r.2.2 ≤ res.2.2 → K106 st x5 x7 x8 x10 xb = some r → W p l e ({ frames := 13, cells := res.2.1, slots := res.2.2, locals := 621 } : Room) s m args below meth c H locs cells slots (MQ below (mQ (fun v H1 => ∃ x : Nat, v = some (.ref x) ∧ isS ρ P H1 x res.1.1 ∧ CW ρ P ad res.1.2 H1) (MA wC ad s.heap.size)) args s res.2.1 res.2.2 (MA wC ad s.heap.size)) (F0 m 106 ls [])), ∀ (st : CS) (x5 : Int64) (x7 : Int32) (x8 : Int32) (x10 : Int32) (xb : BT) (ba bb : Nat) (H : Heap) (locs : List Loc) (ls : Array Slot) (cells slots : Nat) (r : (TT × CS) × Nat × Nat), CW ρ (pe P ba bb) ad st H → va_S (MA wC ad s.heap.size) s.heap H locs → SB ρ H ba bb xb → (MA wC ad s.heap.size) ba → (MA wC ad s.heap.size) bb → (∀ i, i < 46 → ¬ ab ba bb (ad i)) → lv_has ls 11 [(5, .long x5), (7, .int x7), (8, .int x8), (9, .ref ba), (10, .int x10)] → res.1 = r.1 → cells + r.2.1 ≤ res.2.1 → slots + r.2.2 ≤ res.2.2 → ar_written_148 K106 st x5 x7 x8 x10 xb = some r → W p l e ({ frames := 13, cells := res.2.1, slots := res.2.2, locals := 621 } : Room) s m args below meth c H locs cells slots (MQ below (mQ (fun v H1 => ∃ x : Nat, v = some (.ref x) ∧ isS ρ P H1 x res.1.1 ∧ CW ρ P ad res.1.2 H1) (MA wC ad s.heap.size)) args s res.2.1 res.2.2 (MA wC ad s.heap.size)) (F0 m 148 ls []) := by
    intro K106 hK106
    intro st x5 x7 x8 x10 xb ba bb H locs ls cells slots r hW hS hSB hAa hAb hnn hl her hc1 hs1 h
    have hSz := hS.1
    unfold ar_written_148 at h
    refine lv_aload (pc := 148) hx hb d51_148 (lv_at hl 3 rfl) ?_
    refine lv_bipush (pc := 150) (v := 48) hx hb d51_150 (by decide) ?_
    refine lv_lload (pc := 152) hx hb d51_152 (lv_at hl 0 rfl) ?_
    refine lv_ldc2 (pc := 154) hx hb X.1.2.2.2.1 (X.ts wd831) d51_154 ?_
    refine lv_lrem (pc := 157) hx hb d51_157 (by decide) ?_
    refine lv_l2i (pc := 158) hx hb d51_158 rfl ?_
    refine lv_iadd (pc := 159) hx hb d51_159 ?_
    refine lv_i2c (pc := 160) hx hb d51_160 rfl ?_
    obtain ⟨q7, rq7, hq7, h, herq7, hccq7, hssq7⟩ := jd_some h
    refine k_callV (pc := 161) (n := 1) X hS (c_sb_appC l ρ _ (pe P ba bb) ba bb xb (((48 + (x5 - x5 / (10 : Int64) * (10 : Int64)).toInt32).toUInt32 % 65536).toInt32) q7 hW.2.2.1 hW.2.1 ⟨hSB, Or.inr (Or.inl rfl), Or.inr (Or.inr rfl)⟩ hq7) wd316 wd882 wd314 wd315 wd13 (by decide) ⟨rfl, rfl, Nat.le_of_ble_eq_true rfl, Nat.le_of_ble_eq_true rfl⟩ (sb_recv X hSB) (As := [.int (((48 + (x5 - x5 / (10 : Int64) * (10 : Int64)).toInt32).toUInt32 % 65536).toInt32)]) (rest := []) rfl rfl hl.1 (Nat.le_of_ble_eq_true rfl) d51_161 ⟨room_le hccq7 hc1, room_le hssq7 hs1⟩ (fun q hq => hq.elim (fun e => e ▸ hAa) (fun z => z.elim (fun e => e ▸ hAb) (fun g => hAz q (Nat.le_trans hS.1 g)))) (fun v H1 locs1 hv hz1 hz2 hSq7 => ?_)
    obtain ⟨rfl, bb8, hb1, hb2, hSB⟩ := hv
    have hk : kp (ab ba bb) _ H1 := kp_call hz1 hz2 (fun q hq z => z.elim Or.inl (fun z => z.elim Or.inr (fun g => absurd hq (Nat.not_lt.mpr g))))
    have hAb : (MA wC ad s.heap.size) bb8 := hb1.elim (fun e => e ▸ hAb) (fun g => hAz _ (Nat.le_trans hS.1 g))
    have hnn0 := hnn
    have hnn : ∀ i, i < 46 → ¬ ab ba bb8 (ad i) := nn_step hnn hb1 hW
    have hW := hW.sb hk hb1 hb2 hnn0 hPp
    have hS := hSq7
    have hSz := hS.1
    have her := her.trans herq7
    have hc1 := room_st hccq7 hc1
    have hs1 := room_st hssq7 hs1
    refine lv_pop (pc := 164) hx hb d51_164 rfl ?_
    refine lv_lload (pc := 165) hx hb d51_165 (lv_at hl 0 rfl) ?_
    refine lv_ldc2 (pc := 167) hx hb X.1.2.2.2.1 (X.ts wd831) d51_167 ?_
    refine lv_ldiv (pc := 170) hx hb d51_170 (by decide) ?_
    obtain ⟨v9, ev9, h⟩ := jn_ex h
    refine nm_l ev9 ?_
    refine lv_lstore (pc := 171) (lv' := [(5, .long v9), (7, .int x7), (8, .int x8), (9, .ref ba), (10, .int x10)]) hx hb d51_171 hl (by decide) rfl (fun ls hl => ?_)
    obtain ⟨v10, ev10, h⟩ := jn_ex h
    refine lv_iinc (pc := 173) (v := v10) (lv' := [(10, .int v10), (5, .long v9), (7, .int x7), (8, .int x8), (9, .ref ba)]) hx hb d51_173 hl (k := 4) rfl (by rw [ev10]; rfl) (by decide) rfl (fun ls hl => ?_)
    refine lv_goto (pc := 176) (tgt := 106) hx hb d51_176 (by decide) ?_
    exact hK106 st v9 x7 x8 v10 q7.1 ba bb8 _ _ _ _ _ _ hW hS hSB hAa hAb hnn (lv_sub hl [1, 2, 3, 4, 0] rfl) her hc1 hs1 h
  have kc128 : ∀ (K106 : CS → Int64 → Int32 → Int32 → Int32 → BT → Option ((TT × CS) × Nat × Nat)) (hK106 : ∀ (st : CS) (x5 : Int64) (x7 : Int32) (x8 : Int32) (x10 : Int32) (xb : BT) (ba bb : Nat) (H : Heap) (locs : List Loc) (ls : Array Slot) (cells slots : Nat) (r : (TT × CS) × Nat × Nat), CW ρ (pe P ba bb) ad st H → va_S (MA wC ad s.heap.size) s.heap H locs → SB ρ H ba bb xb → (MA wC ad s.heap.size) ba → (MA wC ad s.heap.size) bb → (∀ i, i < 46 → ¬ ab ba bb (ad i)) → lv_has ls 11 [(5, .long x5), (7, .int x7), (8, .int x8), (9, .ref ba), (10, .int x10)] → res.1 = r.1 → cells + r.2.1 ≤ res.2.1 → slots + r.2.2 ≤ res.2.2 → K106 st x5 x7 x8 x10 xb = some r → W p l e ({ frames := 13, cells := res.2.1, slots := res.2.2, locals := 621 } : Room) s m args below meth c H locs cells slots (MQ below (mQ (fun v H1 => ∃ x : Nat, v = some (.ref x) ∧ isS ρ P H1 x res.1.1 ∧ CW ρ P ad res.1.2 H1) (MA wC ad s.heap.size)) args s res.2.1 res.2.2 (MA wC ad s.heap.size)) (F0 m 106 ls [])), ∀ (st : CS) (x5 : Int64) (x7 : Int32) (x8 : Int32) (x10 : Int32) (xb : BT) (ba bb : Nat) (H : Heap) (locs : List Loc) (ls : Array Slot) (cells slots : Nat) (r : (TT × CS) × Nat × Nat), CW ρ (pe P ba bb) ad st H → va_S (MA wC ad s.heap.size) s.heap H locs → SB ρ H ba bb xb → (MA wC ad s.heap.size) ba → (MA wC ad s.heap.size) bb → (∀ i, i < 46 → ¬ ab ba bb (ad i)) → lv_has ls 11 [(5, .long x5), (7, .int x7), (8, .int x8), (9, .ref ba), (10, .int x10)] → res.1 = r.1 → cells + r.2.1 ≤ res.2.1 → slots + r.2.2 ≤ res.2.2 → ar_written_128 K106 st x5 x7 x8 x10 xb = some r → W p l e ({ frames := 13, cells := res.2.1, slots := res.2.2, locals := 621 } : Room) s m args below meth c H locs cells slots (MQ below (mQ (fun v H1 => ∃ x : Nat, v = some (.ref x) ∧ isS ρ P H1 x res.1.1 ∧ CW ρ P ad res.1.2 H1) (MA wC ad s.heap.size)) args s res.2.1 res.2.2 (MA wC ad s.heap.size)) (F0 m 128 ls []) := by
    intro K106 hK106
    intro st x5 x7 x8 x10 xb ba bb H locs ls cells slots r hW hS hSB hAa hAb hnn hl her hc1 hs1 h
    have hSz := hS.1
    unfold ar_written_128 at h
    refine lv_iload (pc := 128) hx hb d51_128 (lv_at hl 4 rfl) ?_
    refine lv_iload (pc := 130) hx hb d51_130 (lv_at hl 2 rfl) ?_
    refine lv_icmp_ne (pc := 132) (tgt := 148) hx hb d51_132 (by decide) (fun c132 => ?_) (fun c132 => ?_)
    · have h := jb_f c132 h
      exact kc148 _ hK106  st x5 x7 x8 x10 xb ba bb _ _ _ _ _ _ hW hS hSB hAa hAb hnn (lv_sub hl [0, 1, 2, 3, 4] rfl) her hc1 hs1 h
    · have h := jb_t c132 h
      refine lv_iload (pc := 135) hx hb d51_135 (lv_at hl 2 rfl) ?_
      refine lv_if_le (pc := 137) (tgt := 148) hx hb d51_137 (by decide) (fun c137 => ?_) (fun c137 => ?_)
      · have h := jb_t c137 h
        exact kc148 _ hK106  st x5 x7 x8 x10 xb ba bb _ _ _ _ _ _ hW hS hSB hAa hAb hnn (lv_sub hl [0, 1, 2, 3, 4] rfl) her hc1 hs1 h
      · have h := jb_f c137 h
        refine lv_aload (pc := 140) hx hb d51_140 (lv_at hl 3 rfl) ?_
        refine lv_bipush (pc := 142) (v := 46) hx hb d51_142 (by decide) ?_
        obtain ⟨q11, rq11, hq11, h, herq11, hccq11, hssq11⟩ := jd_some h
        refine k_callV (pc := 144) (n := 1) X hS (c_sb_appC l ρ _ (pe P ba bb) ba bb xb 46 q11 hW.2.2.1 hW.2.1 ⟨hSB, Or.inr (Or.inl rfl), Or.inr (Or.inr rfl)⟩ hq11) wd316 wd882 wd314 wd315 wd13 (by decide) ⟨rfl, rfl, Nat.le_of_ble_eq_true rfl, Nat.le_of_ble_eq_true rfl⟩ (sb_recv X hSB) (As := [.int 46]) (rest := []) rfl rfl hl.1 (Nat.le_of_ble_eq_true rfl) d51_144 ⟨room_le hccq11 hc1, room_le hssq11 hs1⟩ (fun q hq => hq.elim (fun e => e ▸ hAa) (fun z => z.elim (fun e => e ▸ hAb) (fun g => hAz q (Nat.le_trans hS.1 g)))) (fun v H1 locs1 hv hz1 hz2 hSq11 => ?_)
        obtain ⟨rfl, bb12, hb1, hb2, hSB⟩ := hv
        have hk : kp (ab ba bb) _ H1 := kp_call hz1 hz2 (fun q hq z => z.elim Or.inl (fun z => z.elim Or.inr (fun g => absurd hq (Nat.not_lt.mpr g))))
        have hAb : (MA wC ad s.heap.size) bb12 := hb1.elim (fun e => e ▸ hAb) (fun g => hAz _ (Nat.le_trans hS.1 g))
        have hnn0 := hnn
        have hnn : ∀ i, i < 46 → ¬ ab ba bb12 (ad i) := nn_step hnn hb1 hW
        have hW := hW.sb hk hb1 hb2 hnn0 hPp
        have hS := hSq11
        have hSz := hS.1
        have her := her.trans herq11
        have hc1 := room_st hccq11 hc1
        have hs1 := room_st hssq11 hs1
        refine lv_pop (pc := 147) hx hb d51_147 rfl ?_
        exact kc148 _ hK106  st x5 x7 x8 x10 q11.1 ba bb12 _ _ _ _ _ _ hW hS hSB hAa hAb hnn (lv_sub hl [0, 1, 2, 3, 4] rfl) her hc1 hs1 h
  have kc106 : ∀ (fu : Nat), ∀ (st : CS) (x5 : Int64) (x7 : Int32) (x8 : Int32) (x10 : Int32) (xb : BT) (ba bb : Nat) (H : Heap) (locs : List Loc) (ls : Array Slot) (cells slots : Nat) (r : (TT × CS) × Nat × Nat), CW ρ (pe P ba bb) ad st H → va_S (MA wC ad s.heap.size) s.heap H locs → SB ρ H ba bb xb → (MA wC ad s.heap.size) ba → (MA wC ad s.heap.size) bb → (∀ i, i < 46 → ¬ ab ba bb (ad i)) → lv_has ls 11 [(5, .long x5), (7, .int x7), (8, .int x8), (9, .ref ba), (10, .int x10)] → res.1 = r.1 → cells + r.2.1 ≤ res.2.1 → slots + r.2.2 ≤ res.2.2 → ar_written_106 fu st x5 x7 x8 x10 xb = some r → W p l e ({ frames := 13, cells := res.2.1, slots := res.2.2, locals := 621 } : Room) s m args below meth c H locs cells slots (MQ below (mQ (fun v H1 => ∃ x : Nat, v = some (.ref x) ∧ isS ρ P H1 x res.1.1 ∧ CW ρ P ad res.1.2 H1) (MA wC ad s.heap.size)) args s res.2.1 res.2.2 (MA wC ad s.heap.size)) (F0 m 106 ls []) := by
    intro  fu
    induction fu with
    | zero => intro st x5 x7 x8 x10 xb ba bb H locs ls cells slots r hW hS hSB hAa hAb hnn hl her hc1 hs1 h; cases h
    | succ fu hK106 =>
      intro st x5 x7 x8 x10 xb ba bb H locs ls cells slots r hW hS hSB hAa hAb hnn hl her hc1 hs1 h
      have hSz := hS.1
      unfold ar_written_106 at h
      refine lv_iload (pc := 106) hx hb d51_106 (lv_at hl 4 rfl) ?_
      refine lv_sipush (pc := 108) (v := 255) hx hb d51_108 (by decide) ?_
      refine lv_icmp_ge (pc := 111) (tgt := 179) hx hb d51_111 (by decide) (fun c111 => ?_) (fun c111 => ?_)
      · have h := jb_t c111 h
        exact kc179   st x7 xb ba bb _ _ _ _ _ _ hW hS hSB hAa hAb hnn (lv_sub hl [1, 3] rfl) her hc1 hs1 h
      · have h := jb_f c111 h
        refine lv_iload (pc := 114) hx hb d51_114 (lv_at hl 4 rfl) ?_
        refine lv_iload (pc := 116) hx hb d51_116 (lv_at hl 2 rfl) ?_
        refine lv_icmp_le (pc := 118) (tgt := 128) hx hb d51_118 (by decide) (fun c118 => ?_) (fun c118 => ?_)
        · have h := jb_t c118 h
          exact kc128 _ hK106  st x5 x7 x8 x10 xb ba bb _ _ _ _ _ _ hW hS hSB hAa hAb hnn (lv_sub hl [0, 1, 2, 3, 4] rfl) her hc1 hs1 h
        · have h := jb_f c118 h
          refine lv_lload (pc := 121) hx hb d51_121 (lv_at hl 0 rfl) ?_
          refine lv_lconst (pc := 123) (v := 0) hx hb d51_123 rfl ?_
          refine W.lcmp (pc := 124) hx hb d51_124 ?_
          refine lv_if_le (pc := 125) (tgt := 179) hx hb d51_125 (by decide) (fun c125 => ?_) (fun c125 => ?_)
          · have h := jb_t c125 h
            exact kc179   st x7 xb ba bb _ _ _ _ _ _ hW hS hSB hAa hAb hnn (lv_sub hl [1, 3] rfl) her hc1 hs1 h
          · have h := jb_f c125 h
            exact kc128 _ hK106  st x5 x7 x8 x10 xb ba bb _ _ _ _ _ _ hW hS hSB hAa hAb hnn (lv_sub hl [0, 1, 2, 3, 4] rfl) her hc1 hs1 h
  have kc94 : ∀ (st : CS) (x5 : Int64) (x7 : Int32) (x8 : Int32) (H : Heap) (locs : List Loc) (ls : Array Slot) (cells slots : Nat) (r : (TT × CS) × Nat × Nat), CW ρ P ad st H → va_S (MA wC ad s.heap.size) s.heap H locs → lv_has ls 11 [(5, .long x5), (7, .int x7), (8, .int x8)] → res.1 = r.1 → cells + r.2.1 ≤ res.2.1 → slots + r.2.2 ≤ res.2.2 → ar_written_94 st x5 x7 x8 = some r → W p l e ({ frames := 13, cells := res.2.1, slots := res.2.2, locals := 621 } : Room) s m args below meth c H locs cells slots (MQ below (mQ (fun v H1 => ∃ x : Nat, v = some (.ref x) ∧ isS ρ P H1 x res.1.1 ∧ CW ρ P ad res.1.2 H1) (MA wC ad s.heap.size)) args s res.2.1 res.2.2 (MA wC ad s.heap.size)) (F0 m 94 ls []) := by
    intro st x5 x7 x8 H locs ls cells slots r hW hS hl her hc1 hs1 h
    have hSz := hS.1
    unfold ar_written_94 at h
    obtain ⟨r13, h, her13, hcc13, hss13⟩ := ja_some h
    refine k_newSB (pc := 94) X hS hW.2.2.1 hW.2.1 hAz wd880 wd881 (rest := []) hl.1 (Nat.le_of_ble_eq_true rfl) rfl rfl (room_le hcc13 hc1) (room_le hss13 hs1) d51_94 d51_97 d51_98 (fun ba bb H1 locs hka hba hbb hba1 hbb1 hSB hS => ?_)
    have hnn : ∀ i, i < 46 → ¬ ab ba bb (ad i) := nn_new hW hba hbb
    have hW := hW.new hka hba hbb hba1 hbb1
    have hAa : (MA wC ad s.heap.size) ba := hAz _ (Nat.le_trans hSz hba)
    have hAb : (MA wC ad s.heap.size) bb := hAz _ (Nat.le_trans hSz hbb)
    have hSz := hS.1
    have her := her.trans her13
    have hc1 := room_st hcc13 hc1
    have hs1 := room_st hss13 hs1
    refine lv_astore (pc := 101) (lv' := [(9, .ref ba), (5, .long x5), (7, .int x7), (8, .int x8)]) hx hb d51_101 hl (by decide) rfl (fun ls hl => ?_)
    refine lv_iconst (pc := 103) (v := 0) hx hb d51_103 (by decide) ?_
    refine lv_istore (pc := 104) (lv' := [(10, .int 0), (9, .ref ba), (5, .long x5), (7, .int x7), (8, .int x8)]) hx hb d51_104 hl (by decide) rfl (fun ls hl => ?_)
    exact kc106  FU st x5 x7 x8 0 (([] : TT), 16) ba bb _ _ _ _ _ _ hW hS hSB hAa hAb hnn (lv_sub hl [2, 3, 4, 1, 0] rfl) her hc1 hs1 h
  have kc64 : ∀ (fu : Nat), ∀ (st : CS) (x5 : Int64) (x7 : Int32) (x8 : Int32) (H : Heap) (locs : List Loc) (ls : Array Slot) (cells slots : Nat) (r : (TT × CS) × Nat × Nat), CW ρ P ad st H → va_S (MA wC ad s.heap.size) s.heap H locs → lv_has ls 11 [(5, .long x5), (7, .int x7), (8, .int x8)] → res.1 = r.1 → cells + r.2.1 ≤ res.2.1 → slots + r.2.2 ≤ res.2.2 → ar_written_64 fu st x5 x7 x8 = some r → W p l e ({ frames := 13, cells := res.2.1, slots := res.2.2, locals := 621 } : Room) s m args below meth c H locs cells slots (MQ below (mQ (fun v H1 => ∃ x : Nat, v = some (.ref x) ∧ isS ρ P H1 x res.1.1 ∧ CW ρ P ad res.1.2 H1) (MA wC ad s.heap.size)) args s res.2.1 res.2.2 (MA wC ad s.heap.size)) (F0 m 64 ls []) := by
    intro  fu
    induction fu with
    | zero => intro st x5 x7 x8 H locs ls cells slots r hW hS hl her hc1 hs1 h; cases h
    | succ fu hK64 =>
      intro st x5 x7 x8 H locs ls cells slots r hW hS hl her hc1 hs1 h
      have hSz := hS.1
      unfold ar_written_64 at h
      refine lv_iload (pc := 64) hx hb d51_64 (lv_at hl 2 rfl) ?_
      refine lv_if_le (pc := 66) (tgt := 94) hx hb d51_66 (by decide) (fun c66 => ?_) (fun c66 => ?_)
      · have h := jb_t c66 h
        exact kc94   st x5 x7 x8 _ _ _ _ _ _ hW hS (lv_sub hl [0, 1, 2] rfl) her hc1 hs1 h
      · have h := jb_f c66 h
        refine lv_lload (pc := 69) hx hb d51_69 (lv_at hl 0 rfl) ?_
        refine lv_ldc2 (pc := 71) hx hb X.1.2.2.2.1 (X.ts wd831) d51_71 ?_
        refine lv_lrem (pc := 74) hx hb d51_74 (by decide) ?_
        refine lv_lconst (pc := 75) (v := 0) hx hb d51_75 rfl ?_
        refine W.lcmp (pc := 76) hx hb d51_76 ?_
        refine lv_if_ne (pc := 77) (tgt := 94) hx hb d51_77 (by decide) (fun c77 => ?_) (fun c77 => ?_)
        · have h := jb_f c77 h
          exact kc94   st x5 x7 x8 _ _ _ _ _ _ hW hS (lv_sub hl [0, 1, 2] rfl) her hc1 hs1 h
        · have h := jb_t c77 h
          refine lv_lload (pc := 80) hx hb d51_80 (lv_at hl 0 rfl) ?_
          refine lv_ldc2 (pc := 82) hx hb X.1.2.2.2.1 (X.ts wd831) d51_82 ?_
          refine lv_ldiv (pc := 85) hx hb d51_85 (by decide) ?_
          obtain ⟨v14, ev14, h⟩ := jn_ex h
          refine nm_l ev14 ?_
          refine lv_lstore (pc := 86) (lv' := [(5, .long v14), (7, .int x7), (8, .int x8)]) hx hb d51_86 hl (by decide) rfl (fun ls hl => ?_)
          obtain ⟨v15, ev15, h⟩ := jn_ex h
          refine lv_iinc (pc := 88) (v := v15) (lv' := [(8, .int v15), (5, .long v14), (7, .int x7)]) hx hb d51_88 hl (k := 2) rfl (by rw [ev15]; rfl) (by decide) rfl (fun ls hl => ?_)
          refine lv_goto (pc := 91) (tgt := 64) hx hb d51_91 (by decide) ?_
          exact hK64 st v14 x7 v15 _ _ _ _ _ _ hW hS (lv_sub hl [1, 2, 0] rfl) her hc1 hs1 h
  have kc59 : ∀ (st : CS) (x5 : Int64) (z0 : Int32) (H : Heap) (locs : List Loc) (ls : Array Slot) (cells slots : Nat) (r : (TT × CS) × Nat × Nat), CW ρ P ad st H → va_S (MA wC ad s.heap.size) s.heap H locs → lv_has ls 11 [(5, .long x5)] → res.1 = r.1 → cells + r.2.1 ≤ res.2.1 → slots + r.2.2 ≤ res.2.2 → ar_written_59 st x5 z0 = some r → W p l e ({ frames := 13, cells := res.2.1, slots := res.2.2, locals := 621 } : Room) s m args below meth c H locs cells slots (MQ below (mQ (fun v H1 => ∃ x : Nat, v = some (.ref x) ∧ isS ρ P H1 x res.1.1 ∧ CW ρ P ad res.1.2 H1) (MA wC ad s.heap.size)) args s res.2.1 res.2.2 (MA wC ad s.heap.size)) (F0 m 59 ls [.int z0]) := by
    intro st x5 z0 H locs ls cells slots r hW hS hl her hc1 hs1 h
    have hSz := hS.1
    unfold ar_written_59 at h
    refine lv_istore (pc := 59) (lv' := [(7, .int z0), (5, .long x5)]) hx hb d51_59 hl (by decide) rfl (fun ls hl => ?_)
    refine lv_iconst (pc := 61) (v := 3) hx hb d51_61 (by decide) ?_
    refine lv_istore (pc := 62) (lv' := [(8, .int 3), (7, .int z0), (5, .long x5)]) hx hb d51_62 hl (by decide) rfl (fun ls hl => ?_)
    exact kc64  FU st x5 z0 3 _ _ _ _ _ _ hW hS (lv_sub hl [2, 1, 0] rfl) her hc1 hs1 h
  have kc58 : ∀ (st : CS) (x5 : Int64) (H : Heap) (locs : List Loc) (ls : Array Slot) (cells slots : Nat) (r : (TT × CS) × Nat × Nat), CW ρ P ad st H → va_S (MA wC ad s.heap.size) s.heap H locs → lv_has ls 11 [(5, .long x5)] → res.1 = r.1 → cells + r.2.1 ≤ res.2.1 → slots + r.2.2 ≤ res.2.2 → ar_written_58 st x5 = some r → W p l e ({ frames := 13, cells := res.2.1, slots := res.2.2, locals := 621 } : Room) s m args below meth c H locs cells slots (MQ below (mQ (fun v H1 => ∃ x : Nat, v = some (.ref x) ∧ isS ρ P H1 x res.1.1 ∧ CW ρ P ad res.1.2 H1) (MA wC ad s.heap.size)) args s res.2.1 res.2.2 (MA wC ad s.heap.size)) (F0 m 58 ls []) := by
    intro st x5 H locs ls cells slots r hW hS hl her hc1 hs1 h
    have hSz := hS.1
    unfold ar_written_58 at h
    refine lv_iconst (pc := 58) (v := 0) hx hb d51_58 (by decide) ?_
    exact kc59   st x5 0 _ _ _ _ _ _ hW hS (lv_sub hl [0] rfl) her hc1 hs1 h
  have kc12 : ∀ (st : CS) (x1 : UInt64) (z0 : UInt64) (H : Heap) (locs : List Loc) (ls : Array Slot) (cells slots : Nat) (r : (TT × CS) × Nat × Nat), CW ρ P ad st H → va_S (MA wC ad s.heap.size) s.heap H locs → lv_has ls 11 [(0, .ref (ad 1)), (1, .double x1)] → res.1 = r.1 → cells + r.2.1 ≤ res.2.1 → slots + r.2.2 ≤ res.2.2 → ar_written_12 st x1 z0 = some r → W p l e ({ frames := 13, cells := res.2.1, slots := res.2.2, locals := 621 } : Room) s m args below meth c H locs cells slots (MQ below (mQ (fun v H1 => ∃ x : Nat, v = some (.ref x) ∧ isS ρ P H1 x res.1.1 ∧ CW ρ P ad res.1.2 H1) (MA wC ad s.heap.size)) args s res.2.1 res.2.2 (MA wC ad s.heap.size)) (F0 m 12 ls [.double z0]) := by
    intro st x1 z0 H locs ls cells slots r hW hS hl her hc1 hs1 h
    have hSz := hS.1
    unfold ar_written_12 at h
    refine lv_dstore_n (pc := 12) (lv' := [(3, .double z0), (0, .ref (ad 1)), (1, .double x1)]) hx hb d51_12 rfl hl (by decide) rfl (fun ls hl => ?_)
    refine lv_dload_n (pc := 13) hx hb d51_13 rfl (lv_at hl 0 rfl) ?_
    refine lv_ldc2d (pc := 14) hx hb X.1.2.2.2.1 (X.ts wd877) d51_14 ?_
    refine lv_dcmp (pc := 17) hx hb d51_17 ?_
    refine lv_if_lt (pc := 18) (tgt := 29) hx hb d51_18 (by decide) (fun c18 => ?_) (fun c18 => ?_)
    · have h := jb_t c18 h
      refine lv_dload_n (pc := 29) hx hb d51_29 rfl (lv_at hl 0 rfl) ?_
      refine lv_ldc2d (pc := 30) hx hb X.1.2.2.2.1 (X.ts wd834) d51_30 ?_
      obtain ⟨g16, h⟩ := jg_some h
      refine lv_dmul (pc := 33) hx hb d51_33 (nn_ok g16) ?_
      refine lv_ldc2d (pc := 34) hx hb X.1.2.2.2.1 (X.ts wd879) d51_34 ?_
      obtain ⟨g17, h⟩ := jg_some h
      refine lv_dadd (pc := 37) hx hb d51_37 (nn_ok g17) ?_
      refine lv_d2l (pc := 38) hx hb d51_38 ?_
      obtain ⟨v18, ev18, h⟩ := jn_ex h
      refine nm_l ev18 ?_
      refine lv_lstore (pc := 39) (lv' := [(5, .long v18), (3, .double z0), (0, .ref (ad 1)), (1, .double x1)]) hx hb d51_39 hl (by decide) rfl (fun ls hl => ?_)
      refine lv_dload_n (pc := 41) hx hb d51_41 rfl (lv_at hl 3 rfl) ?_
      refine lv_dconst0 (pc := 42) hx hb d51_42 ?_
      refine lv_dcmp (pc := 43) hx hb d51_43 ?_
      refine lv_if_ge (pc := 44) (tgt := 58) hx hb d51_44 (by decide) (fun c44 => ?_) (fun c44 => ?_)
      · have h := jb_t c44 h
        exact kc58   st v18 _ _ _ _ _ _ hW hS (lv_sub hl [0] rfl) her hc1 hs1 h
      · have h := jb_f c44 h
        refine lv_lload (pc := 47) hx hb d51_47 (lv_at hl 0 rfl) ?_
        refine lv_lconst (pc := 49) (v := 0) hx hb d51_49 rfl ?_
        refine W.lcmp (pc := 50) hx hb d51_50 ?_
        refine lv_if_eq (pc := 51) (tgt := 58) hx hb d51_51 (by decide) (fun c51 => ?_) (fun c51 => ?_)
        · have h := jb_t c51 h
          exact kc58   st v18 _ _ _ _ _ _ hW hS (lv_sub hl [0] rfl) her hc1 hs1 h
        · have h := jb_f c51 h
          refine lv_iconst (pc := 54) (v := 1) hx hb d51_54 (by decide) ?_
          refine lv_goto (pc := 55) (tgt := 59) hx hb d51_55 (by decide) ?_
          exact kc59   st v18 1 _ _ _ _ _ _ hW hS (lv_sub hl [0] rfl) her hc1 hs1 h
    · have h := jb_f c18 h
      refine lv_aload_n (pc := 21) hx hb d51_21 rfl (lv_at hl 1 rfl) ?_
      refine lv_iconst (pc := 22) (v := 3) hx hb d51_22 (by decide) ?_
      obtain ⟨q19, hq19, h⟩ := jc_some h
      refine k_callV (pc := 23) (n := 1) X hS (c_ar_fail l ρ ad _ P st 3 q19 hW  hq19) wd774 wd771 wd772 wd773 wd3 (by decide) ⟨rfl, rfl, Nat.le_of_ble_eq_true rfl, Nat.le_of_ble_eq_true rfl⟩ (c_recv X hW 1 3 (by decide) rfl rfl) (As := [.int 3]) (rest := []) rfl rfl hl.1 (Nat.le_of_ble_eq_true rfl) d51_23 ⟨room_l0 hc1, room_l0 hs1⟩ (fun q hq => MA.mono hS.1 hq) (fun v H1 locs1 hv hz1 hz2 hSq19 => ?_)
      have hPq := hW.1
      obtain ⟨rfl, hW⟩ := hv
      have hS := hSq19
      have hSz := hS.1
      refine c_ldcS (pc := 26) (t := TX6) X hW.2.2.1 6 rfl rfl d51_26 (fun f_rS_ρ_6_ => ?_)
      have her : res.1 = (TX6, q19) := her.trans (congrArg Prod.fst (Option.some.inj h)).symm
      exact m_aret (pc := 28) hx hb hr (Or.inl ⟨_, rfl⟩) hlk hS ⟨(rS ρ 6), rfl, by rw [her]; exact f_rS_ρ_6_, by rw [her]; exact hW⟩ (Nat.le_trans (Nat.le_add_right _ _) hc1) (Nat.le_trans (Nat.le_add_right _ _) hs1) d51_28
  have her : res.1 = res.1 := rfl
  have hc1 : 0 + res.2.1 ≤ res.2.1 := Nat.le_of_eq (Nat.zero_add _)
  have hs1 : 0 + res.2.2 ≤ res.2.2 := Nat.le_of_eq (Nat.zero_add _)
  unfold f_ar_written at h
  refine lv_dload_n (pc := 0) hx hb d51_0 rfl (lv_at hl 1 rfl) ?_
  refine lv_dconst0 (pc := 1) hx hb d51_1 ?_
  refine lv_dcmp (pc := 2) hx hb d51_2 ?_
  refine lv_if_ge (pc := 3) (tgt := 11) hx hb d51_3 (by decide) (fun c3 => ?_) (fun c3 => ?_)
  · have h := jb_t c3 h
    refine lv_dload_n (pc := 11) hx hb d51_11 rfl (lv_at hl 1 rfl) ?_
    exact kc12   st p0 p0 _ _ _ _ _ _ hW hS (lv_sub hl [0, 1] rfl) her hc1 hs1 h
  · have h := jb_f c3 h
    refine lv_dload_n (pc := 6) hx hb d51_6 rfl (lv_at hl 1 rfl) ?_
    refine lv_dneg (pc := 7) hx hb d51_7 ?_
    refine lv_goto (pc := 8) (tgt := 12) hx hb d51_8 (by decide) ?_
    exact kc12   st p0 (FP.dneg p0) _ _ _ _ _ _ hW hS (lv_sub hl [0, 1] rfl) her hc1 hs1 h
def f_ar_textOf (st : CS) (p0 : VV) : Option ((TT × CS) × Nat × Nat) := jb (p0.1 = 1) (jd (f_ar_written st p0.2.1) (fun q1 => some ((q1.1, q1.2), 0, 0))) (jb (p0.1 = 2) (some ((p0.2.2, st), 0, 0)) (jb (p0.1 = 3) (jb ((Op.cmpValue (FP.dcmp p0.2.1 FP.dconst0) .l) = 0) (some ((TX8, st), 0, 0)) (some ((TX7, st), 0, 0))) (jb (p0.1 = 4) (jc (f_ar_fail st (FP.d2i p0.2.1)) (fun q4 => some ((TX6, q4), 0, 0))) (some ((p0.2.2, st), 0, 0)))))
set_option maxHeartbeats 4000000 in
set_option maxRecDepth 100000 in
theorem c_ar_textOf (l : Launch) (ρ : RH) (ad : Nat → Nat) (H : Heap) (P : Nat → Prop) (st : CS) (ap0 : Nat) (p0 : VV) (res : (TT × CS) × Nat × Nat) (hW : CW ρ P ad st H) (fap0 : isV ρ P H ap0 p0) (h : f_ar_textOf st p0 = some res) : Met l y46 (wsOf y46 b46 2 (some (.object "java/lang/String"))) ({ frames := 14, cells := res.2.1, slots := res.2.2, locals := 651 } : Room) (va_Pc [.ref (ad 1), .ref ap0] (KP ρ H)) (mQ (fun v H1 => ∃ x : Nat, v = some (.ref x) ∧ isS ρ P H1 x res.1.1 ∧ CW ρ P ad res.1.2 H1) (MA wC ad H.size)) res.2.1 res.2.2 (MA wC ad H.size) := by
  refine m_ofW (own := "WordFunctions$Arguments") (plainFor_of_name rfl) rfl (Nat.le_of_ble_eq_true rfl) fun p e s m args below meth c ls hx hb hr hlk _ X hs hl => ?_
  subst hs
  have hS : va_S (MA wC ad s.heap.size) s.heap s.heap [] := va_S.rf
  have hSz := hS.1
  have hAz : ∀ q, s.heap.size ≤ q → (MA wC ad s.heap.size) q := fun q hq => Or.inr hq
  have hAp : ∀ i, i < 46 → (MA wC ad s.heap.size) (ad i) := fun i hi => MA.in hi
  have hPp : ∀ i, i < 46 → P (ad i) := hW.1
  have hl : lv_has ls 2 [(0, .ref (ad 1)), (1, .ref ap0)] := hl
  have her : res.1 = res.1 := rfl
  have hc1 : 0 + res.2.1 ≤ res.2.1 := Nat.le_of_eq (Nat.zero_add _)
  have hs1 : 0 + res.2.2 ≤ res.2.2 := Nat.le_of_eq (Nat.zero_add _)
  unfold f_ar_textOf at h
  refine lv_aload_n (pc := 0) hx hb d46_0 rfl (lv_at hl 1 rfl) ?_
  refine v_kind (pc := 1) X fap0 wd79 d46_1 ?_
  by_cases c4_1 : p0.1 = 1
  · have h := jb_t c4_1 h
    refine lv_tableIn (pc := 4) (off := 32) (tgt := 36) hx hb d46_4 (by rw [c4_1]; decide) (by rw [c4_1]; decide) (by rw [c4_1]; rfl) (by decide) ?_
    refine lv_aload_n (pc := 36) hx hb d46_36 rfl (lv_at hl 0 rfl) ?_
    refine lv_aload_n (pc := 37) hx hb d46_37 rfl (lv_at hl 1 rfl) ?_
    refine v_number (pc := 38) X fap0 wd84 d46_38 ?_
    obtain ⟨q1, rq1, hq1, h, herq1, hccq1, hssq1⟩ := jd_some h
    refine k_callV (pc := 41) (n := 1) X hS (c_ar_written l ρ ad _ P st p0.2.1 q1 hW  hq1) wd876 wd873 wd875 sl51 wd3 (by decide) ⟨rfl, rfl, Nat.le_of_ble_eq_true rfl, Nat.le_of_ble_eq_true rfl⟩ (c_recv X hW 1 3 (by decide) rfl rfl) (As := [.double p0.2.1]) (rest := []) rfl rfl hl.1 (Nat.le_of_ble_eq_true rfl) d46_41 ⟨room_le hccq1 hc1, room_le hssq1 hs1⟩ (fun q hq => MA.mono hS.1 hq) (fun v H1 locs1 hv hz1 hz2 hSq1 => ?_)
    have hPq := hW.1
    obtain ⟨u2, rfl, fu2, hW⟩ := hv
    have hS := hSq1
    have hSz := hS.1
    have her := her.trans herq1
    have hc1 := room_st hccq1 hc1
    have hs1 := room_st hssq1 hs1
    have her : res.1 = (q1.1.1, q1.1.2) := her.trans (congrArg Prod.fst (Option.some.inj h)).symm
    exact m_aret (pc := 44) hx hb hr (Or.inl ⟨_, rfl⟩) hlk hS ⟨u2, rfl, by rw [her]; exact fu2, by rw [her]; exact hW⟩ (Nat.le_trans (Nat.le_add_right _ _) hc1) (Nat.le_trans (Nat.le_add_right _ _) hs1) d46_44
  have h := jb_f c4_1 h
  by_cases c4_2 : p0.1 = 2
  · have h := jb_t c4_2 h
    refine lv_tableIn (pc := 4) (off := 70) (tgt := 74) hx hb d46_4 (by rw [c4_2]; decide) (by rw [c4_2]; decide) (by rw [c4_2]; rfl) (by decide) ?_
    refine lv_aload_n (pc := 74) hx hb d46_74 rfl (lv_at hl 1 rfl) ?_
    refine v_text (pc := 75) X fap0 wd90 d46_75 (fun u3 fu3 => ?_)
    have her : res.1 = (p0.2.2, st) := her.trans (congrArg Prod.fst (Option.some.inj h)).symm
    exact m_aret (pc := 78) hx hb hr (Or.inl ⟨_, rfl⟩) hlk hS ⟨u3, rfl, by rw [her]; exact fu3, by rw [her]; exact hW⟩ (Nat.le_trans (Nat.le_add_right _ _) hc1) (Nat.le_trans (Nat.le_add_right _ _) hs1) d46_78
  have h := jb_f c4_2 h
  by_cases c4_3 : p0.1 = 3
  · have h := jb_t c4_3 h
    refine lv_tableIn (pc := 4) (off := 41) (tgt := 45) hx hb d46_4 (by rw [c4_3]; decide) (by rw [c4_3]; decide) (by rw [c4_3]; rfl) (by decide) ?_
    refine lv_aload_n (pc := 45) hx hb d46_45 rfl (lv_at hl 1 rfl) ?_
    refine v_number (pc := 46) X fap0 wd84 d46_46 ?_
    refine lv_dconst0 (pc := 49) hx hb d46_49 ?_
    refine lv_dcmp (pc := 50) hx hb d46_50 ?_
    refine lv_if_eq (pc := 51) (tgt := 59) hx hb d46_51 (by decide) (fun c51 => ?_) (fun c51 => ?_)
    · have h := jb_t c51 h
      refine c_ldcS (pc := 59) (t := TX8) X hW.2.2.1 8 rfl rfl d46_59 (fun f_rS_ρ_8_ => ?_)
      have her : res.1 = (TX8, st) := her.trans (congrArg Prod.fst (Option.some.inj h)).symm
      exact m_aret (pc := 61) hx hb hr (Or.inl ⟨_, rfl⟩) hlk hS ⟨(rS ρ 8), rfl, by rw [her]; exact f_rS_ρ_8_, by rw [her]; exact hW⟩ (Nat.le_trans (Nat.le_add_right _ _) hc1) (Nat.le_trans (Nat.le_add_right _ _) hs1) d46_61
    · have h := jb_f c51 h
      refine c_ldcS (pc := 54) (t := TX7) X hW.2.2.1 7 rfl rfl d46_54 (fun f_rS_ρ_7_ => ?_)
      refine lv_goto (pc := 56) (tgt := 61) hx hb d46_56 (by decide) ?_
      have her : res.1 = (TX7, st) := her.trans (congrArg Prod.fst (Option.some.inj h)).symm
      exact m_aret (pc := 61) hx hb hr (Or.inl ⟨_, rfl⟩) hlk hS ⟨(rS ρ 7), rfl, by rw [her]; exact f_rS_ρ_7_, by rw [her]; exact hW⟩ (Nat.le_trans (Nat.le_add_right _ _) hc1) (Nat.le_trans (Nat.le_add_right _ _) hs1) d46_61
  have h := jb_f c4_3 h
  by_cases c4_4 : p0.1 = 4
  · have h := jb_t c4_4 h
    refine lv_tableIn (pc := 4) (off := 58) (tgt := 62) hx hb d46_4 (by rw [c4_4]; decide) (by rw [c4_4]; decide) (by rw [c4_4]; rfl) (by decide) ?_
    refine lv_aload_n (pc := 62) hx hb d46_62 rfl (lv_at hl 0 rfl) ?_
    refine lv_aload_n (pc := 63) hx hb d46_63 rfl (lv_at hl 1 rfl) ?_
    refine v_number (pc := 64) X fap0 wd84 d46_64 ?_
    refine lv_d2i (pc := 67) hx hb d46_67 ?_
    obtain ⟨q4, hq4, h⟩ := jc_some h
    refine k_callV (pc := 68) (n := 1) X hS (c_ar_fail l ρ ad _ P st (FP.d2i p0.2.1) q4 hW  hq4) wd774 wd771 wd772 wd773 wd3 (by decide) ⟨rfl, rfl, Nat.le_of_ble_eq_true rfl, Nat.le_of_ble_eq_true rfl⟩ (c_recv X hW 1 3 (by decide) rfl rfl) (As := [.int (FP.d2i p0.2.1)]) (rest := []) rfl rfl hl.1 (Nat.le_of_ble_eq_true rfl) d46_68 ⟨room_l0 hc1, room_l0 hs1⟩ (fun q hq => MA.mono hS.1 hq) (fun v H1 locs1 hv hz1 hz2 hSq4 => ?_)
    have hPq := hW.1
    obtain ⟨rfl, hW⟩ := hv
    have hS := hSq4
    have hSz := hS.1
    refine c_ldcS (pc := 71) (t := TX6) X hW.2.2.1 6 rfl rfl d46_71 (fun f_rS_ρ_6_ => ?_)
    have her : res.1 = (TX6, q4) := her.trans (congrArg Prod.fst (Option.some.inj h)).symm
    exact m_aret (pc := 73) hx hb hr (Or.inl ⟨_, rfl⟩) hlk hS ⟨(rS ρ 6), rfl, by rw [her]; exact f_rS_ρ_6_, by rw [her]; exact hW⟩ (Nat.le_trans (Nat.le_add_right _ _) hc1) (Nat.le_trans (Nat.le_add_right _ _) hs1) d46_73
  have h := jb_f c4_4 h
  refine lv_tableOut (pc := 4) (tgt := 74) hx hb d46_4 (sw_out 4 (by decide) (by
    intro i hi
    match i, hi with
    | 0, _ => exact fun z => c4_1 (Int32.toInt_inj.mp (by rw [z]; decide))
    | 1, _ => exact fun z => c4_2 (Int32.toInt_inj.mp (by rw [z]; decide))
    | 2, _ => exact fun z => c4_3 (Int32.toInt_inj.mp (by rw [z]; decide))
    | 3, _ => exact fun z => c4_4 (Int32.toInt_inj.mp (by rw [z]; decide))
    | i + 4, q => exact absurd q (by omega))) (by decide) ?_
  refine lv_aload_n (pc := 74) hx hb d46_74 rfl (lv_at hl 1 rfl) ?_
  refine v_text (pc := 75) X fap0 wd90 d46_75 (fun u5 fu5 => ?_)
  have her : res.1 = (p0.2.2, st) := her.trans (congrArg Prod.fst (Option.some.inj h)).symm
  exact m_aret (pc := 78) hx hb hr (Or.inl ⟨_, rfl⟩) hlk hS ⟨u5, rfl, by rw [her]; exact fu5, by rw [her]; exact hW⟩ (Nat.le_trans (Nat.le_add_right _ _) hc1) (Nat.le_trans (Nat.le_add_right _ _) hs1) d46_78
