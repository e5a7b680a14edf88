abbrev b117 : ByteArray := prog_10_method_16_code
theorem d117_0 : decode b117 0 = .ok ((.aload_n 0), 1) := by decide +kernel
theorem d117_1 : decode b117 1 = .ok ((.getfield 9), 3) := by decide +kernel
theorem d117_4 : decode b117 4 = .ok ((.iconst 0), 1) := by decide +kernel
theorem d117_5 : decode b117 5 = .ok ((.invokevirtual 19), 3) := by decide +kernel
theorem d117_8 : decode b117 8 = .ok ((.astore_n 1), 1) := by decide +kernel
theorem d117_9 : decode b117 9 = .ok ((.aload_n 0), 1) := by decide +kernel
theorem d117_10 : decode b117 10 = .ok ((.getfield 9), 3) := by decide +kernel
theorem d117_13 : decode b117 13 = .ok ((.iconst 1), 1) := by decide +kernel
theorem d117_14 : decode b117 14 = .ok ((.invokevirtual 180), 3) := by decide +kernel
theorem d117_17 : decode b117 17 = .ok ((.istore_n 2), 1) := by decide +kernel
theorem d117_18 : decode b117 18 = .ok ((.new 136), 3) := by decide +kernel
theorem d117_21 : decode b117 21 = .ok (.dup, 1) := by decide +kernel
theorem d117_22 : decode b117 22 = .ok ((.invokespecial 138), 3) := by decide +kernel
theorem d117_25 : decode b117 25 = .ok ((.astore_n 3), 1) := by decide +kernel
theorem d117_26 : decode b117 26 = .ok ((.iconst 1), 1) := by decide +kernel
theorem d117_27 : decode b117 27 = .ok ((.istore 4), 2) := by decide +kernel
theorem d117_29 : decode b117 29 = .ok ((.iconst 2), 1) := by decide +kernel
theorem d117_30 : decode b117 30 = .ok ((.istore 5), 2) := by decide +kernel
theorem d117_32 : decode b117 32 = .ok ((.iload 5), 2) := by decide +kernel
theorem d117_34 : decode b117 34 = .ok ((.aload_n 0), 1) := by decide +kernel
theorem d117_35 : decode b117 35 = .ok ((.getfield 9), 3) := by decide +kernel
theorem d117_38 : decode b117 38 = .ok ((.getfield 172), 3) := by decide +kernel
theorem d117_41 : decode b117 41 = .ok ((.if_icmp .ge 92), 3) := by decide +kernel
theorem d117_44 : decode b117 44 = .ok ((.aload_n 0), 1) := by decide +kernel
theorem d117_45 : decode b117 45 = .ok ((.getfield 9), 3) := by decide +kernel
theorem d117_48 : decode b117 48 = .ok ((.iload 5), 2) := by decide +kernel
theorem d117_50 : decode b117 50 = .ok ((.invokevirtual 183), 3) := by decide +kernel
theorem d117_53 : decode b117 53 = .ok ((.istore 6), 2) := by decide +kernel
theorem d117_55 : decode b117 55 = .ok ((.iconst 0), 1) := by decide +kernel
theorem d117_56 : decode b117 56 = .ok ((.istore 7), 2) := by decide +kernel
theorem d117_58 : decode b117 58 = .ok ((.iload 7), 2) := by decide +kernel
theorem d117_60 : decode b117 60 = .ok ((.iload 6), 2) := by decide +kernel
theorem d117_62 : decode b117 62 = .ok ((.if_icmp .ge 65), 3) := by decide +kernel
theorem d117_65 : decode b117 65 = .ok ((.aload_n 0), 1) := by decide +kernel
theorem d117_66 : decode b117 66 = .ok ((.getfield 9), 3) := by decide +kernel
theorem d117_69 : decode b117 69 = .ok ((.aload_n 0), 1) := by decide +kernel
theorem d117_70 : decode b117 70 = .ok ((.getfield 9), 3) := by decide +kernel
theorem d117_73 : decode b117 73 = .ok ((.iload 5), 2) := by decide +kernel
theorem d117_75 : decode b117 75 = .ok ((.iload 7), 2) := by decide +kernel
theorem d117_77 : decode b117 77 = .ok ((.invokevirtual 186), 3) := by decide +kernel
theorem d117_80 : decode b117 80 = .ok ((.invokevirtual 190), 3) := by decide +kernel
theorem d117_83 : decode b117 83 = .ok ((.astore 8), 2) := by decide +kernel
theorem d117_85 : decode b117 85 = .ok ((.iload_n 2), 1) := by decide +kernel
theorem d117_86 : decode b117 86 = .ok ((.ifCond .eq 11), 3) := by decide +kernel
theorem d117_89 : decode b117 89 = .ok ((.aload 8), 2) := by decide +kernel
theorem d117_91 : decode b117 91 = .ok ((.invokevirtual 151), 3) := by decide +kernel
theorem d117_94 : decode b117 94 = .ok ((.ifCond .ne 27), 3) := by decide +kernel
theorem d117_97 : decode b117 97 = .ok ((.aload_n 3), 1) := by decide +kernel
theorem d117_98 : decode b117 98 = .ok ((.iload 4), 2) := by decide +kernel
theorem d117_100 : decode b117 100 = .ok ((.ifCond .eq 8), 3) := by decide +kernel
theorem d117_103 : decode b117 103 = .ok ((.ldc 194), 2) := by decide +kernel
theorem d117_105 : decode b117 105 = .ok ((.goto 4), 3) := by decide +kernel
theorem d117_108 : decode b117 108 = .ok ((.aload_n 1), 1) := by decide +kernel
theorem d117_109 : decode b117 109 = .ok ((.invokestatic 176), 3) := by decide +kernel
theorem d117_112 : decode b117 112 = .ok ((.aload_n 3), 1) := by decide +kernel
theorem d117_113 : decode b117 113 = .ok ((.aload 8), 2) := by decide +kernel
theorem d117_115 : decode b117 115 = .ok ((.invokestatic 176), 3) := by decide +kernel
theorem d117_118 : decode b117 118 = .ok ((.iconst 0), 1) := by decide +kernel
theorem d117_119 : decode b117 119 = .ok ((.istore 4), 2) := by decide +kernel
theorem d117_121 : decode b117 121 = .ok ((.iinc 7 1), 3) := by decide +kernel
theorem d117_124 : decode b117 124 = .ok ((.goto (-66)), 3) := by decide +kernel
theorem d117_127 : decode b117 127 = .ok ((.iinc 5 1), 3) := by decide +kernel
theorem d117_130 : decode b117 130 = .ok ((.goto (-98)), 3) := by decide +kernel
theorem d117_133 : decode b117 133 = .ok ((.aload_n 3), 1) := by decide +kernel
theorem d117_134 : decode b117 134 = .ok ((.invokestatic 143), 3) := by decide +kernel
theorem d117_137 : decode b117 137 = .ok (.areturn, 1) := by decide +kernel
abbrev b118 : ByteArray := prog_10_method_4_code
theorem d118_0 : decode b118 0 = .ok ((.aload_n 0), 1) := by decide +kernel
theorem d118_1 : decode b118 1 = .ok ((.getfield 9), 3) := by decide +kernel
theorem d118_4 : decode b118 4 = .ok ((.iconst 0), 1) := by decide +kernel
theorem d118_5 : decode b118 5 = .ok ((.invokevirtual 19), 3) := by decide +kernel
theorem d118_8 : decode b118 8 = .ok ((.astore_n 1), 1) := by decide +kernel
theorem d118_9 : decode b118 9 = .ok ((.aload_n 0), 1) := by decide +kernel
theorem d118_10 : decode b118 10 = .ok ((.getfield 9), 3) := by decide +kernel
theorem d118_13 : decode b118 13 = .ok ((.iconst 1), 1) := by decide +kernel
theorem d118_14 : decode b118 14 = .ok ((.invokevirtual 114), 3) := by decide +kernel
theorem d118_17 : decode b118 17 = .ok ((.istore_n 2), 1) := by decide +kernel
theorem d118_18 : decode b118 18 = .ok ((.aload_n 0), 1) := by decide +kernel
theorem d118_19 : decode b118 19 = .ok ((.getfield 9), 3) := by decide +kernel
theorem d118_22 : decode b118 22 = .ok ((.iconst 2), 1) := by decide +kernel
theorem d118_23 : decode b118 23 = .ok ((.invokevirtual 114), 3) := by decide +kernel
theorem d118_26 : decode b118 26 = .ok ((.istore_n 3), 1) := by decide +kernel
theorem d118_27 : decode b118 27 = .ok ((.iload_n 2), 1) := by decide +kernel
theorem d118_28 : decode b118 28 = .ok ((.iconst 1), 1) := by decide +kernel
theorem d118_29 : decode b118 29 = .ok ((.if_icmp .lt 7), 3) := by decide +kernel
theorem d118_32 : decode b118 32 = .ok ((.iload_n 3), 1) := by decide +kernel
theorem d118_33 : decode b118 33 = .ok ((.ifCond .ge 8), 3) := by decide +kernel
theorem d118_36 : decode b118 36 = .ok ((.iconst 3), 1) := by decide +kernel
theorem d118_37 : decode b118 37 = .ok ((.invokestatic 97), 3) := by decide +kernel
theorem d118_40 : decode b118 40 = .ok (.areturn, 1) := by decide +kernel
theorem d118_41 : decode b118 41 = .ok ((.iload_n 2), 1) := by decide +kernel
theorem d118_42 : decode b118 42 = .ok ((.iconst 1), 1) := by decide +kernel
theorem d118_43 : decode b118 43 = .ok (.isub, 1) := by decide +kernel
theorem d118_44 : decode b118 44 = .ok ((.aload_n 1), 1) := by decide +kernel
theorem d118_45 : decode b118 45 = .ok ((.invokevirtual 25), 3) := by decide +kernel
theorem d118_48 : decode b118 48 = .ok ((.invokestatic 101), 3) := by decide +kernel
theorem d118_51 : decode b118 51 = .ok ((.istore 4), 2) := by decide +kernel
theorem d118_53 : decode b118 53 = .ok ((.iload_n 3), 1) := by decide +kernel
theorem d118_54 : decode b118 54 = .ok ((.aload_n 1), 1) := by decide +kernel
theorem d118_55 : decode b118 55 = .ok ((.invokevirtual 25), 3) := by decide +kernel
theorem d118_58 : decode b118 58 = .ok ((.iload 4), 2) := by decide +kernel
theorem d118_60 : decode b118 60 = .ok (.isub, 1) := by decide +kernel
theorem d118_61 : decode b118 61 = .ok ((.invokestatic 101), 3) := by decide +kernel
theorem d118_64 : decode b118 64 = .ok ((.istore 5), 2) := by decide +kernel
theorem d118_66 : decode b118 66 = .ok ((.aload_n 1), 1) := by decide +kernel
theorem d118_67 : decode b118 67 = .ok ((.iload 4), 2) := by decide +kernel
theorem d118_69 : decode b118 69 = .ok ((.iload 4), 2) := by decide +kernel
theorem d118_71 : decode b118 71 = .ok ((.iload 5), 2) := by decide +kernel
theorem d118_73 : decode b118 73 = .ok (.iadd, 1) := by decide +kernel
theorem d118_74 : decode b118 74 = .ok ((.invokevirtual 106), 3) := by decide +kernel
theorem d118_77 : decode b118 77 = .ok ((.invokestatic 110), 3) := by decide +kernel
theorem d118_80 : decode b118 80 = .ok (.areturn, 1) := by decide +kernel
abbrev b125 : ByteArray := prog_10_method_3_code
theorem d125_0 : decode b125 0 = .ok ((.aload_n 0), 1) := by decide +kernel
theorem d125_1 : decode b125 1 = .ok ((.getfield 9), 3) := by decide +kernel
theorem d125_4 : decode b125 4 = .ok ((.iconst 0), 1) := by decide +kernel
theorem d125_5 : decode b125 5 = .ok ((.invokevirtual 19), 3) := by decide +kernel
theorem d125_8 : decode b125 8 = .ok ((.astore_n 2), 1) := by decide +kernel
theorem d125_9 : decode b125 9 = .ok ((.aload_n 0), 1) := by decide +kernel
theorem d125_10 : decode b125 10 = .ok ((.getfield 9), 3) := by decide +kernel
theorem d125_13 : decode b125 13 = .ok ((.iconst 1), 1) := by decide +kernel
theorem d125_14 : decode b125 14 = .ok ((.iconst 1), 1) := by decide +kernel
theorem d125_15 : decode b125 15 = .ok ((.invokevirtual 93), 3) := by decide +kernel
theorem d125_18 : decode b125 18 = .ok ((.istore_n 3), 1) := by decide +kernel
theorem d125_19 : decode b125 19 = .ok ((.iload_n 3), 1) := by decide +kernel
theorem d125_20 : decode b125 20 = .ok ((.ifCond .ge 8), 3) := by decide +kernel
theorem d125_23 : decode b125 23 = .ok ((.iconst 3), 1) := by decide +kernel
theorem d125_24 : decode b125 24 = .ok ((.invokestatic 97), 3) := by decide +kernel
theorem d125_27 : decode b125 27 = .ok (.areturn, 1) := by decide +kernel
theorem d125_28 : decode b125 28 = .ok ((.iload_n 3), 1) := by decide +kernel
theorem d125_29 : decode b125 29 = .ok ((.aload_n 2), 1) := by decide +kernel
theorem d125_30 : decode b125 30 = .ok ((.invokevirtual 25), 3) := by decide +kernel
theorem d125_33 : decode b125 33 = .ok ((.invokestatic 101), 3) := by decide +kernel
theorem d125_36 : decode b125 36 = .ok ((.istore 4), 2) := by decide +kernel
theorem d125_38 : decode b125 38 = .ok ((.iload_n 1), 1) := by decide +kernel
theorem d125_39 : decode b125 39 = .ok ((.ifCond .eq 13), 3) := by decide +kernel
theorem d125_42 : decode b125 42 = .ok ((.aload_n 2), 1) := by decide +kernel
theorem d125_43 : decode b125 43 = .ok ((.invokevirtual 25), 3) := by decide +kernel
theorem d125_46 : decode b125 46 = .ok ((.iload 4), 2) := by decide +kernel
theorem d125_48 : decode b125 48 = .ok (.isub, 1) := by decide +kernel
theorem d125_49 : decode b125 49 = .ok ((.goto 4), 3) := by decide +kernel
theorem d125_52 : decode b125 52 = .ok ((.iconst 0), 1) := by decide +kernel
theorem d125_53 : decode b125 53 = .ok ((.istore 5), 2) := by decide +kernel
theorem d125_55 : decode b125 55 = .ok ((.aload_n 2), 1) := by decide +kernel
theorem d125_56 : decode b125 56 = .ok ((.iload 5), 2) := by decide +kernel
theorem d125_58 : decode b125 58 = .ok ((.iload 5), 2) := by decide +kernel
theorem d125_60 : decode b125 60 = .ok ((.iload 4), 2) := by decide +kernel
theorem d125_62 : decode b125 62 = .ok (.iadd, 1) := by decide +kernel
theorem d125_63 : decode b125 63 = .ok ((.invokevirtual 106), 3) := by decide +kernel
theorem d125_66 : decode b125 66 = .ok ((.invokestatic 110), 3) := by decide +kernel
theorem d125_69 : decode b125 69 = .ok (.areturn, 1) := by decide +kernel
abbrev b124 : ByteArray := prog_10_method_7_code
theorem d124_0 : decode b124 0 = .ok ((.aload_n 0), 1) := by decide +kernel
theorem d124_1 : decode b124 1 = .ok ((.getfield 9), 3) := by decide +kernel
theorem d124_4 : decode b124 4 = .ok ((.iconst 0), 1) := by decide +kernel
theorem d124_5 : decode b124 5 = .ok ((.invokevirtual 19), 3) := by decide +kernel
theorem d124_8 : decode b124 8 = .ok ((.astore_n 1), 1) := by decide +kernel
theorem d124_9 : decode b124 9 = .ok ((.aload_n 0), 1) := by decide +kernel
theorem d124_10 : decode b124 10 = .ok ((.getfield 9), 3) := by decide +kernel
theorem d124_13 : decode b124 13 = .ok ((.iconst 1), 1) := by decide +kernel
theorem d124_14 : decode b124 14 = .ok ((.invokevirtual 19), 3) := by decide +kernel
theorem d124_17 : decode b124 17 = .ok ((.astore_n 2), 1) := by decide +kernel
theorem d124_18 : decode b124 18 = .ok ((.aload_n 0), 1) := by decide +kernel
theorem d124_19 : decode b124 19 = .ok ((.getfield 9), 3) := by decide +kernel
theorem d124_22 : decode b124 22 = .ok ((.iconst 2), 1) := by decide +kernel
theorem d124_23 : decode b124 23 = .ok ((.iconst 1), 1) := by decide +kernel
theorem d124_24 : decode b124 24 = .ok ((.invokevirtual 93), 3) := by decide +kernel
theorem d124_27 : decode b124 27 = .ok ((.istore_n 3), 1) := by decide +kernel
theorem d124_28 : decode b124 28 = .ok ((.iload_n 3), 1) := by decide +kernel
theorem d124_29 : decode b124 29 = .ok ((.iconst 1), 1) := by decide +kernel
theorem d124_30 : decode b124 30 = .ok ((.if_icmp .lt 13), 3) := by decide +kernel
theorem d124_33 : decode b124 33 = .ok ((.iload_n 3), 1) := by decide +kernel
theorem d124_34 : decode b124 34 = .ok ((.aload_n 2), 1) := by decide +kernel
theorem d124_35 : decode b124 35 = .ok ((.invokevirtual 25), 3) := by decide +kernel
theorem d124_38 : decode b124 38 = .ok ((.iconst 1), 1) := by decide +kernel
theorem d124_39 : decode b124 39 = .ok (.iadd, 1) := by decide +kernel
theorem d124_40 : decode b124 40 = .ok ((.if_icmp .le 8), 3) := by decide +kernel
theorem d124_43 : decode b124 43 = .ok ((.iconst 3), 1) := by decide +kernel
theorem d124_44 : decode b124 44 = .ok ((.invokestatic 97), 3) := by decide +kernel
theorem d124_47 : decode b124 47 = .ok (.areturn, 1) := by decide +kernel
theorem d124_48 : decode b124 48 = .ok ((.aload_n 0), 1) := by decide +kernel
theorem d124_49 : decode b124 49 = .ok ((.getfield 15), 3) := by decide +kernel
theorem d124_52 : decode b124 52 = .ok ((.aload_n 1), 1) := by decide +kernel
theorem d124_53 : decode b124 53 = .ok ((.invokevirtual 126), 3) := by decide +kernel
theorem d124_56 : decode b124 56 = .ok ((.aload_n 0), 1) := by decide +kernel
theorem d124_57 : decode b124 57 = .ok ((.getfield 15), 3) := by decide +kernel
theorem d124_60 : decode b124 60 = .ok ((.aload_n 2), 1) := by decide +kernel
theorem d124_61 : decode b124 61 = .ok ((.iload_n 3), 1) := by decide +kernel
theorem d124_62 : decode b124 62 = .ok ((.iconst 1), 1) := by decide +kernel
theorem d124_63 : decode b124 63 = .ok (.isub, 1) := by decide +kernel
theorem d124_64 : decode b124 64 = .ok ((.invokevirtual 132), 3) := by decide +kernel
theorem d124_67 : decode b124 67 = .ok ((.istore 4), 2) := by decide +kernel
theorem d124_69 : decode b124 69 = .ok ((.iload 4), 2) := by decide +kernel
theorem d124_71 : decode b124 71 = .ok ((.iconst (-1)), 1) := by decide +kernel
theorem d124_72 : decode b124 72 = .ok ((.if_icmp .ne 10), 3) := by decide +kernel
theorem d124_75 : decode b124 75 = .ok ((.iconst 3), 1) := by decide +kernel
theorem d124_76 : decode b124 76 = .ok ((.invokestatic 97), 3) := by decide +kernel
theorem d124_79 : decode b124 79 = .ok ((.goto 11), 3) := by decide +kernel
theorem d124_82 : decode b124 82 = .ok ((.iload 4), 2) := by decide +kernel
theorem d124_84 : decode b124 84 = .ok ((.iconst 1), 1) := by decide +kernel
theorem d124_85 : decode b124 85 = .ok (.iadd, 1) := by decide +kernel
theorem d124_86 : decode b124 86 = .ok (.i2d, 1) := by decide +kernel
theorem d124_87 : decode b124 87 = .ok ((.invokestatic 31), 3) := by decide +kernel
theorem d124_90 : decode b124 90 = .ok (.areturn, 1) := by decide +kernel
abbrev b122 : ByteArray := prog_10_method_8_code
theorem d122_0 : decode b122 0 = .ok ((.aload_n 0), 1) := by decide +kernel
theorem d122_1 : decode b122 1 = .ok ((.getfield 9), 3) := by decide +kernel
theorem d122_4 : decode b122 4 = .ok ((.iconst 0), 1) := by decide +kernel
theorem d122_5 : decode b122 5 = .ok ((.invokevirtual 19), 3) := by decide +kernel
theorem d122_8 : decode b122 8 = .ok ((.astore_n 1), 1) := by decide +kernel
theorem d122_9 : decode b122 9 = .ok ((.aload_n 0), 1) := by decide +kernel
theorem d122_10 : decode b122 10 = .ok ((.getfield 9), 3) := by decide +kernel
theorem d122_13 : decode b122 13 = .ok ((.iconst 1), 1) := by decide +kernel
theorem d122_14 : decode b122 14 = .ok ((.invokevirtual 114), 3) := by decide +kernel
theorem d122_17 : decode b122 17 = .ok ((.istore_n 2), 1) := by decide +kernel
theorem d122_18 : decode b122 18 = .ok ((.aload_n 0), 1) := by decide +kernel
theorem d122_19 : decode b122 19 = .ok ((.getfield 9), 3) := by decide +kernel
theorem d122_22 : decode b122 22 = .ok ((.iconst 2), 1) := by decide +kernel
theorem d122_23 : decode b122 23 = .ok ((.invokevirtual 114), 3) := by decide +kernel
theorem d122_26 : decode b122 26 = .ok ((.istore_n 3), 1) := by decide +kernel
theorem d122_27 : decode b122 27 = .ok ((.aload_n 0), 1) := by decide +kernel
theorem d122_28 : decode b122 28 = .ok ((.getfield 9), 3) := by decide +kernel
theorem d122_31 : decode b122 31 = .ok ((.iconst 3), 1) := by decide +kernel
theorem d122_32 : decode b122 32 = .ok ((.invokevirtual 19), 3) := by decide +kernel
theorem d122_35 : decode b122 35 = .ok ((.astore 4), 2) := by decide +kernel
theorem d122_37 : decode b122 37 = .ok ((.iload_n 2), 1) := by decide +kernel
theorem d122_38 : decode b122 38 = .ok ((.iconst 1), 1) := by decide +kernel
theorem d122_39 : decode b122 39 = .ok ((.if_icmp .lt 7), 3) := by decide +kernel
theorem d122_42 : decode b122 42 = .ok ((.iload_n 3), 1) := by decide +kernel
theorem d122_43 : decode b122 43 = .ok ((.ifCond .ge 8), 3) := by decide +kernel
theorem d122_46 : decode b122 46 = .ok ((.iconst 3), 1) := by decide +kernel
theorem d122_47 : decode b122 47 = .ok ((.invokestatic 97), 3) := by decide +kernel
theorem d122_50 : decode b122 50 = .ok (.areturn, 1) := by decide +kernel
theorem d122_51 : decode b122 51 = .ok ((.iload_n 2), 1) := by decide +kernel
theorem d122_52 : decode b122 52 = .ok ((.iconst 1), 1) := by decide +kernel
theorem d122_53 : decode b122 53 = .ok (.isub, 1) := by decide +kernel
theorem d122_54 : decode b122 54 = .ok ((.aload_n 1), 1) := by decide +kernel
theorem d122_55 : decode b122 55 = .ok ((.invokevirtual 25), 3) := by decide +kernel
theorem d122_58 : decode b122 58 = .ok ((.invokestatic 101), 3) := by decide +kernel
theorem d122_61 : decode b122 61 = .ok ((.istore 5), 2) := by decide +kernel
theorem d122_63 : decode b122 63 = .ok ((.iload 5), 2) := by decide +kernel
theorem d122_65 : decode b122 65 = .ok ((.iload_n 3), 1) := by decide +kernel
theorem d122_66 : decode b122 66 = .ok ((.aload_n 1), 1) := by decide +kernel
theorem d122_67 : decode b122 67 = .ok ((.invokevirtual 25), 3) := by decide +kernel
theorem d122_70 : decode b122 70 = .ok ((.iload 5), 2) := by decide +kernel
theorem d122_72 : decode b122 72 = .ok (.isub, 1) := by decide +kernel
theorem d122_73 : decode b122 73 = .ok ((.invokestatic 101), 3) := by decide +kernel
theorem d122_76 : decode b122 76 = .ok (.iadd, 1) := by decide +kernel
theorem d122_77 : decode b122 77 = .ok ((.istore 6), 2) := by decide +kernel
theorem d122_79 : decode b122 79 = .ok ((.new 136), 3) := by decide +kernel
theorem d122_82 : decode b122 82 = .ok (.dup, 1) := by decide +kernel
theorem d122_83 : decode b122 83 = .ok ((.invokespecial 138), 3) := by decide +kernel
theorem d122_86 : decode b122 86 = .ok ((.astore 7), 2) := by decide +kernel
theorem d122_88 : decode b122 88 = .ok ((.aload 7), 2) := by decide +kernel
theorem d122_90 : decode b122 90 = .ok ((.aload_n 1), 1) := by decide +kernel
theorem d122_91 : decode b122 91 = .ok ((.iconst 0), 1) := by decide +kernel
theorem d122_92 : decode b122 92 = .ok ((.iload 5), 2) := by decide +kernel
theorem d122_94 : decode b122 94 = .ok ((.invokevirtual 106), 3) := by decide +kernel
theorem d122_97 : decode b122 97 = .ok ((.invokevirtual 139), 3) := by decide +kernel
theorem d122_100 : decode b122 100 = .ok (.pop, 1) := by decide +kernel
theorem d122_101 : decode b122 101 = .ok ((.aload 7), 2) := by decide +kernel
theorem d122_103 : decode b122 103 = .ok ((.aload 4), 2) := by decide +kernel
theorem d122_105 : decode b122 105 = .ok ((.invokevirtual 139), 3) := by decide +kernel
theorem d122_108 : decode b122 108 = .ok (.pop, 1) := by decide +kernel
theorem d122_109 : decode b122 109 = .ok ((.aload 7), 2) := by decide +kernel
theorem d122_111 : decode b122 111 = .ok ((.aload_n 1), 1) := by decide +kernel
theorem d122_112 : decode b122 112 = .ok ((.iload 6), 2) := by decide +kernel
theorem d122_114 : decode b122 114 = .ok ((.aload_n 1), 1) := by decide +kernel
theorem d122_115 : decode b122 115 = .ok ((.invokevirtual 25), 3) := by decide +kernel
theorem d122_118 : decode b122 118 = .ok ((.invokevirtual 106), 3) := by decide +kernel
theorem d122_121 : decode b122 121 = .ok ((.invokevirtual 139), 3) := by decide +kernel
theorem d122_124 : decode b122 124 = .ok (.pop, 1) := by decide +kernel
theorem d122_125 : decode b122 125 = .ok ((.aload 7), 2) := by decide +kernel
theorem d122_127 : decode b122 127 = .ok ((.invokestatic 143), 3) := by decide +kernel
theorem d122_130 : decode b122 130 = .ok (.areturn, 1) := by decide +kernel
abbrev b127 : ByteArray := prog_10_method_9_code
theorem d127_0 : decode b127 0 = .ok ((.aload_n 0), 1) := by decide +kernel
theorem d127_1 : decode b127 1 = .ok ((.getfield 9), 3) := by decide +kernel
theorem d127_4 : decode b127 4 = .ok ((.iconst 0), 1) := by decide +kernel
theorem d127_5 : decode b127 5 = .ok ((.invokevirtual 19), 3) := by decide +kernel
theorem d127_8 : decode b127 8 = .ok ((.astore_n 1), 1) := by decide +kernel
theorem d127_9 : decode b127 9 = .ok ((.aload_n 0), 1) := by decide +kernel
theorem d127_10 : decode b127 10 = .ok ((.getfield 9), 3) := by decide +kernel
theorem d127_13 : decode b127 13 = .ok ((.iconst 1), 1) := by decide +kernel
theorem d127_14 : decode b127 14 = .ok ((.invokevirtual 19), 3) := by decide +kernel
theorem d127_17 : decode b127 17 = .ok ((.astore_n 2), 1) := by decide +kernel
theorem d127_18 : decode b127 18 = .ok ((.aload_n 0), 1) := by decide +kernel
theorem d127_19 : decode b127 19 = .ok ((.getfield 9), 3) := by decide +kernel
theorem d127_22 : decode b127 22 = .ok ((.iconst 2), 1) := by decide +kernel
theorem d127_23 : decode b127 23 = .ok ((.invokevirtual 19), 3) := by decide +kernel
theorem d127_26 : decode b127 26 = .ok ((.astore_n 3), 1) := by decide +kernel
theorem d127_27 : decode b127 27 = .ok ((.aload_n 0), 1) := by decide +kernel
theorem d127_28 : decode b127 28 = .ok ((.getfield 9), 3) := by decide +kernel
theorem d127_31 : decode b127 31 = .ok ((.iconst 3), 1) := by decide +kernel
theorem d127_32 : decode b127 32 = .ok ((.invokevirtual 147), 3) := by decide +kernel
theorem d127_35 : decode b127 35 = .ok ((.ifCond .ne 7), 3) := by decide +kernel
theorem d127_38 : decode b127 38 = .ok ((.iconst 1), 1) := by decide +kernel
theorem d127_39 : decode b127 39 = .ok ((.goto 4), 3) := by decide +kernel
theorem d127_42 : decode b127 42 = .ok ((.iconst 0), 1) := by decide +kernel
theorem d127_43 : decode b127 43 = .ok ((.istore 4), 2) := by decide +kernel
theorem d127_45 : decode b127 45 = .ok ((.iload 4), 2) := by decide +kernel
theorem d127_47 : decode b127 47 = .ok ((.ifCond .eq 7), 3) := by decide +kernel
theorem d127_50 : decode b127 50 = .ok ((.iconst 1), 1) := by decide +kernel
theorem d127_51 : decode b127 51 = .ok ((.goto 11), 3) := by decide +kernel
theorem d127_54 : decode b127 54 = .ok ((.aload_n 0), 1) := by decide +kernel
theorem d127_55 : decode b127 55 = .ok ((.getfield 9), 3) := by decide +kernel
theorem d127_58 : decode b127 58 = .ok ((.iconst 3), 1) := by decide +kernel
theorem d127_59 : decode b127 59 = .ok ((.invokevirtual 114), 3) := by decide +kernel
theorem d127_62 : decode b127 62 = .ok ((.istore 5), 2) := by decide +kernel
theorem d127_64 : decode b127 64 = .ok ((.iload 5), 2) := by decide +kernel
theorem d127_66 : decode b127 66 = .ok ((.iconst 1), 1) := by decide +kernel
theorem d127_67 : decode b127 67 = .ok ((.if_icmp .ge 8), 3) := by decide +kernel
theorem d127_70 : decode b127 70 = .ok ((.iconst 3), 1) := by decide +kernel
theorem d127_71 : decode b127 71 = .ok ((.invokestatic 97), 3) := by decide +kernel
theorem d127_74 : decode b127 74 = .ok (.areturn, 1) := by decide +kernel
theorem d127_75 : decode b127 75 = .ok ((.aload_n 2), 1) := by decide +kernel
theorem d127_76 : decode b127 76 = .ok ((.invokevirtual 151), 3) := by decide +kernel
theorem d127_79 : decode b127 79 = .ok ((.ifCond .eq 8), 3) := by decide +kernel
theorem d127_82 : decode b127 82 = .ok ((.aload_n 1), 1) := by decide +kernel
theorem d127_83 : decode b127 83 = .ok ((.invokestatic 110), 3) := by decide +kernel
theorem d127_86 : decode b127 86 = .ok (.areturn, 1) := by decide +kernel
theorem d127_87 : decode b127 87 = .ok ((.new 136), 3) := by decide +kernel
theorem d127_90 : decode b127 90 = .ok (.dup, 1) := by decide +kernel
theorem d127_91 : decode b127 91 = .ok ((.invokespecial 138), 3) := by decide +kernel
theorem d127_94 : decode b127 94 = .ok ((.astore 6), 2) := by decide +kernel
theorem d127_96 : decode b127 96 = .ok ((.iconst 0), 1) := by decide +kernel
theorem d127_97 : decode b127 97 = .ok ((.istore 7), 2) := by decide +kernel
theorem d127_99 : decode b127 99 = .ok ((.iconst 0), 1) := by decide +kernel
theorem d127_100 : decode b127 100 = .ok ((.istore 8), 2) := by decide +kernel
theorem d127_102 : decode b127 102 = .ok ((.iload 8), 2) := by decide +kernel
theorem d127_104 : decode b127 104 = .ok ((.aload_n 1), 1) := by decide +kernel
theorem d127_105 : decode b127 105 = .ok ((.invokevirtual 25), 3) := by decide +kernel
theorem d127_108 : decode b127 108 = .ok ((.if_icmp .ge 80), 3) := by decide +kernel
theorem d127_111 : decode b127 111 = .ok ((.aload 6), 2) := by decide +kernel
theorem d127_113 : decode b127 113 = .ok ((.invokevirtual 155), 3) := by decide +kernel
theorem d127_116 : decode b127 116 = .ok ((.sipush 255), 3) := by decide +kernel
theorem d127_119 : decode b127 119 = .ok ((.if_icmp .gt 69), 3) := by decide +kernel
theorem d127_122 : decode b127 122 = .ok ((.aload_n 2), 1) := by decide +kernel
theorem d127_123 : decode b127 123 = .ok ((.aload_n 1), 1) := by decide +kernel
theorem d127_124 : decode b127 124 = .ok ((.iload 8), 2) := by decide +kernel
theorem d127_126 : decode b127 126 = .ok ((.invokestatic 122), 3) := by decide +kernel
theorem d127_129 : decode b127 129 = .ok ((.ifCond .eq 41), 3) := by decide +kernel
theorem d127_132 : decode b127 132 = .ok ((.iinc 7 1), 3) := by decide +kernel
theorem d127_135 : decode b127 135 = .ok ((.aload 6), 2) := by decide +kernel
theorem d127_137 : decode b127 137 = .ok ((.iload 4), 2) := by decide +kernel
theorem d127_139 : decode b127 139 = .ok ((.ifCond .ne 10), 3) := by decide +kernel
theorem d127_142 : decode b127 142 = .ok ((.iload 7), 2) := by decide +kernel
theorem d127_144 : decode b127 144 = .ok ((.iload 5), 2) := by decide +kernel
theorem d127_146 : decode b127 146 = .ok ((.if_icmp .ne 7), 3) := by decide +kernel
theorem d127_149 : decode b127 149 = .ok ((.aload_n 3), 1) := by decide +kernel
theorem d127_150 : decode b127 150 = .ok ((.goto 4), 3) := by decide +kernel
theorem d127_153 : decode b127 153 = .ok ((.aload_n 2), 1) := by decide +kernel
theorem d127_154 : decode b127 154 = .ok ((.invokevirtual 139), 3) := by decide +kernel
theorem d127_157 : decode b127 157 = .ok (.pop, 1) := by decide +kernel
theorem d127_158 : decode b127 158 = .ok ((.iload 8), 2) := by decide +kernel
theorem d127_160 : decode b127 160 = .ok ((.aload_n 2), 1) := by decide +kernel
theorem d127_161 : decode b127 161 = .ok ((.invokevirtual 25), 3) := by decide +kernel
theorem d127_164 : decode b127 164 = .ok (.iadd, 1) := by decide +kernel
theorem d127_165 : decode b127 165 = .ok ((.istore 8), 2) := by decide +kernel
theorem d127_167 : decode b127 167 = .ok ((.goto (-65)), 3) := by decide +kernel
theorem d127_170 : decode b127 170 = .ok ((.aload 6), 2) := by decide +kernel
theorem d127_172 : decode b127 172 = .ok ((.aload_n 1), 1) := by decide +kernel
theorem d127_173 : decode b127 173 = .ok ((.iload 8), 2) := by decide +kernel
theorem d127_175 : decode b127 175 = .ok ((.invokevirtual 118), 3) := by decide +kernel
theorem d127_178 : decode b127 178 = .ok ((.invokevirtual 156), 3) := by decide +kernel
theorem d127_181 : decode b127 181 = .ok (.pop, 1) := by decide +kernel
theorem d127_182 : decode b127 182 = .ok ((.iinc 8 1), 3) := by decide +kernel
theorem d127_185 : decode b127 185 = .ok ((.goto (-83)), 3) := by decide +kernel
theorem d127_188 : decode b127 188 = .ok ((.aload 6), 2) := by decide +kernel
theorem d127_190 : decode b127 190 = .ok ((.invokestatic 143), 3) := by decide +kernel
theorem d127_193 : decode b127 193 = .ok (.areturn, 1) := by decide +kernel
abbrev b121 : ByteArray := prog_10_method_10_code
theorem d121_0 : decode b121 0 = .ok ((.aload_n 0), 1) := by decide +kernel
theorem d121_1 : decode b121 1 = .ok ((.getfield 9), 3) := by decide +kernel
theorem d121_4 : decode b121 4 = .ok ((.iconst 0), 1) := by decide +kernel
theorem d121_5 : decode b121 5 = .ok ((.invokevirtual 19), 3) := by decide +kernel
theorem d121_8 : decode b121 8 = .ok ((.astore_n 1), 1) := by decide +kernel
theorem d121_9 : decode b121 9 = .ok ((.aload_n 0), 1) := by decide +kernel
theorem d121_10 : decode b121 10 = .ok ((.getfield 9), 3) := by decide +kernel
theorem d121_13 : decode b121 13 = .ok ((.iconst 1), 1) := by decide +kernel
theorem d121_14 : decode b121 14 = .ok ((.invokevirtual 114), 3) := by decide +kernel
theorem d121_17 : decode b121 17 = .ok ((.istore_n 2), 1) := by decide +kernel
theorem d121_18 : decode b121 18 = .ok ((.iload_n 2), 1) := by decide +kernel
theorem d121_19 : decode b121 19 = .ok ((.ifCond .lt 18), 3) := by decide +kernel
theorem d121_22 : decode b121 22 = .ok ((.iload_n 2), 1) := by decide +kernel
theorem d121_23 : decode b121 23 = .ok (.i2l, 1) := by decide +kernel
theorem d121_24 : decode b121 24 = .ok ((.aload_n 1), 1) := by decide +kernel
theorem d121_25 : decode b121 25 = .ok ((.invokevirtual 25), 3) := by decide +kernel
theorem d121_28 : decode b121 28 = .ok (.i2l, 1) := by decide +kernel
theorem d121_29 : decode b121 29 = .ok (.lmul, 1) := by decide +kernel
theorem d121_30 : decode b121 30 = .ok ((.ldc2_w 159), 3) := by decide +kernel
theorem d121_33 : decode b121 33 = .ok (.lcmp, 1) := by decide +kernel
theorem d121_34 : decode b121 34 = .ok ((.ifCond .le 8), 3) := by decide +kernel
theorem d121_37 : decode b121 37 = .ok ((.iconst 3), 1) := by decide +kernel
theorem d121_38 : decode b121 38 = .ok ((.invokestatic 97), 3) := by decide +kernel
theorem d121_41 : decode b121 41 = .ok (.areturn, 1) := by decide +kernel
theorem d121_42 : decode b121 42 = .ok ((.aload_n 1), 1) := by decide +kernel
theorem d121_43 : decode b121 43 = .ok ((.invokevirtual 151), 3) := by decide +kernel
theorem d121_46 : decode b121 46 = .ok ((.ifCond .eq 7), 3) := by decide +kernel
theorem d121_49 : decode b121 49 = .ok ((.iconst 0), 1) := by decide +kernel
theorem d121_50 : decode b121 50 = .ok ((.goto 4), 3) := by decide +kernel
theorem d121_53 : decode b121 53 = .ok ((.iload_n 2), 1) := by decide +kernel
theorem d121_54 : decode b121 54 = .ok ((.istore_n 3), 1) := by decide +kernel
theorem d121_55 : decode b121 55 = .ok ((.new 136), 3) := by decide +kernel
theorem d121_58 : decode b121 58 = .ok (.dup, 1) := by decide +kernel
theorem d121_59 : decode b121 59 = .ok ((.invokespecial 138), 3) := by decide +kernel
theorem d121_62 : decode b121 62 = .ok ((.astore 4), 2) := by decide +kernel
theorem d121_64 : decode b121 64 = .ok ((.iconst 0), 1) := by decide +kernel
theorem d121_65 : decode b121 65 = .ok ((.istore 5), 2) := by decide +kernel
theorem d121_67 : decode b121 67 = .ok ((.iload 5), 2) := by decide +kernel
theorem d121_69 : decode b121 69 = .ok ((.iload_n 3), 1) := by decide +kernel
theorem d121_70 : decode b121 70 = .ok ((.if_icmp .ge 16), 3) := by decide +kernel
theorem d121_73 : decode b121 73 = .ok ((.aload 4), 2) := by decide +kernel
theorem d121_75 : decode b121 75 = .ok ((.aload_n 1), 1) := by decide +kernel
theorem d121_76 : decode b121 76 = .ok ((.invokevirtual 139), 3) := by decide +kernel
theorem d121_79 : decode b121 79 = .ok (.pop, 1) := by decide +kernel
theorem d121_80 : decode b121 80 = .ok ((.iinc 5 1), 3) := by decide +kernel
theorem d121_83 : decode b121 83 = .ok ((.goto (-16)), 3) := by decide +kernel
theorem d121_86 : decode b121 86 = .ok ((.aload 4), 2) := by decide +kernel
theorem d121_88 : decode b121 88 = .ok ((.invokestatic 143), 3) := by decide +kernel
theorem d121_91 : decode b121 91 = .ok (.areturn, 1) := by decide +kernel
abbrev b126 : ByteArray := prog_10_method_11_code
theorem d126_0 : decode b126 0 = .ok ((.aload_n 0), 1) := by decide +kernel
theorem d126_1 : decode b126 1 = .ok ((.getfield 9), 3) := by decide +kernel
theorem d126_4 : decode b126 4 = .ok ((.iconst 0), 1) := by decide +kernel
theorem d126_5 : decode b126 5 = .ok ((.invokevirtual 19), 3) := by decide +kernel
theorem d126_8 : decode b126 8 = .ok ((.astore_n 2), 1) := by decide +kernel
theorem d126_9 : decode b126 9 = .ok ((.new 136), 3) := by decide +kernel
theorem d126_12 : decode b126 12 = .ok (.dup, 1) := by decide +kernel
theorem d126_13 : decode b126 13 = .ok ((.invokespecial 138), 3) := by decide +kernel
theorem d126_16 : decode b126 16 = .ok ((.astore_n 3), 1) := by decide +kernel
theorem d126_17 : decode b126 17 = .ok ((.iconst 0), 1) := by decide +kernel
theorem d126_18 : decode b126 18 = .ok ((.istore 4), 2) := by decide +kernel
theorem d126_20 : decode b126 20 = .ok ((.iload 4), 2) := by decide +kernel
theorem d126_22 : decode b126 22 = .ok ((.aload_n 2), 1) := by decide +kernel
theorem d126_23 : decode b126 23 = .ok ((.invokevirtual 25), 3) := by decide +kernel
theorem d126_26 : decode b126 26 = .ok ((.if_icmp .ge 39), 3) := by decide +kernel
theorem d126_29 : decode b126 29 = .ok ((.aload_n 2), 1) := by decide +kernel
theorem d126_30 : decode b126 30 = .ok ((.iload 4), 2) := by decide +kernel
theorem d126_32 : decode b126 32 = .ok ((.invokevirtual 118), 3) := by decide +kernel
theorem d126_35 : decode b126 35 = .ok ((.istore 5), 2) := by decide +kernel
theorem d126_37 : decode b126 37 = .ok ((.aload_n 3), 1) := by decide +kernel
theorem d126_38 : decode b126 38 = .ok ((.iload_n 1), 1) := by decide +kernel
theorem d126_39 : decode b126 39 = .ok ((.ifCond .eq 11), 3) := by decide +kernel
theorem d126_42 : decode b126 42 = .ok ((.iload 5), 2) := by decide +kernel
theorem d126_44 : decode b126 44 = .ok ((.invokestatic 161), 3) := by decide +kernel
theorem d126_47 : decode b126 47 = .ok ((.goto 8), 3) := by decide +kernel
theorem d126_50 : decode b126 50 = .ok ((.iload 5), 2) := by decide +kernel
theorem d126_52 : decode b126 52 = .ok ((.invokestatic 165), 3) := by decide +kernel
theorem d126_55 : decode b126 55 = .ok ((.invokevirtual 156), 3) := by decide +kernel
theorem d126_58 : decode b126 58 = .ok (.pop, 1) := by decide +kernel
theorem d126_59 : decode b126 59 = .ok ((.iinc 4 1), 3) := by decide +kernel
theorem d126_62 : decode b126 62 = .ok ((.goto (-42)), 3) := by decide +kernel
theorem d126_65 : decode b126 65 = .ok ((.aload_n 3), 1) := by decide +kernel
theorem d126_66 : decode b126 66 = .ok ((.invokestatic 143), 3) := by decide +kernel
theorem d126_69 : decode b126 69 = .ok (.areturn, 1) := by decide +kernel
abbrev b120 : ByteArray := prog_10_method_12_code
theorem d120_0 : decode b120 0 = .ok ((.aload_n 0), 1) := by decide +kernel
theorem d120_1 : decode b120 1 = .ok ((.getfield 9), 3) := by decide +kernel
theorem d120_4 : decode b120 4 = .ok ((.iconst 0), 1) := by decide +kernel
theorem d120_5 : decode b120 5 = .ok ((.invokevirtual 19), 3) := by decide +kernel
theorem d120_8 : decode b120 8 = .ok ((.astore_n 1), 1) := by decide +kernel
theorem d120_9 : decode b120 9 = .ok ((.new 136), 3) := by decide +kernel
theorem d120_12 : decode b120 12 = .ok (.dup, 1) := by decide +kernel
theorem d120_13 : decode b120 13 = .ok ((.invokespecial 138), 3) := by decide +kernel
theorem d120_16 : decode b120 16 = .ok ((.astore_n 2), 1) := by decide +kernel
theorem d120_17 : decode b120 17 = .ok ((.iconst 0), 1) := by decide +kernel
theorem d120_18 : decode b120 18 = .ok ((.istore_n 3), 1) := by decide +kernel
theorem d120_19 : decode b120 19 = .ok ((.iconst 0), 1) := by decide +kernel
theorem d120_20 : decode b120 20 = .ok ((.istore 4), 2) := by decide +kernel
theorem d120_22 : decode b120 22 = .ok ((.iload 4), 2) := by decide +kernel
theorem d120_24 : decode b120 24 = .ok ((.aload_n 1), 1) := by decide +kernel
theorem d120_25 : decode b120 25 = .ok ((.invokevirtual 25), 3) := by decide +kernel
theorem d120_28 : decode b120 28 = .ok ((.if_icmp .ge 45), 3) := by decide +kernel
theorem d120_31 : decode b120 31 = .ok ((.aload_n 1), 1) := by decide +kernel
theorem d120_32 : decode b120 32 = .ok ((.iload 4), 2) := by decide +kernel
theorem d120_34 : decode b120 34 = .ok ((.invokevirtual 118), 3) := by decide +kernel
theorem d120_37 : decode b120 37 = .ok ((.istore 5), 2) := by decide +kernel
theorem d120_39 : decode b120 39 = .ok ((.aload_n 2), 1) := by decide +kernel
theorem d120_40 : decode b120 40 = .ok ((.iload_n 3), 1) := by decide +kernel
theorem d120_41 : decode b120 41 = .ok ((.ifCond .eq 11), 3) := by decide +kernel
theorem d120_44 : decode b120 44 = .ok ((.iload 5), 2) := by decide +kernel
theorem d120_46 : decode b120 46 = .ok ((.invokestatic 165), 3) := by decide +kernel
theorem d120_49 : decode b120 49 = .ok ((.goto 8), 3) := by decide +kernel
theorem d120_52 : decode b120 52 = .ok ((.iload 5), 2) := by decide +kernel
theorem d120_54 : decode b120 54 = .ok ((.invokestatic 161), 3) := by decide +kernel
theorem d120_57 : decode b120 57 = .ok ((.invokevirtual 156), 3) := by decide +kernel
theorem d120_60 : decode b120 60 = .ok (.pop, 1) := by decide +kernel
theorem d120_61 : decode b120 61 = .ok ((.iload 5), 2) := by decide +kernel
theorem d120_63 : decode b120 63 = .ok ((.invokestatic 168), 3) := by decide +kernel
theorem d120_66 : decode b120 66 = .ok ((.istore_n 3), 1) := by decide +kernel
theorem d120_67 : decode b120 67 = .ok ((.iinc 4 1), 3) := by decide +kernel
theorem d120_70 : decode b120 70 = .ok ((.goto (-48)), 3) := by decide +kernel
theorem d120_73 : decode b120 73 = .ok ((.aload_n 2), 1) := by decide +kernel
theorem d120_74 : decode b120 74 = .ok ((.invokestatic 143), 3) := by decide +kernel
theorem d120_77 : decode b120 77 = .ok (.areturn, 1) := by decide +kernel
abbrev b128 : ByteArray := prog_10_method_13_code
theorem d128_0 : decode b128 0 = .ok ((.aload_n 0), 1) := by decide +kernel
theorem d128_1 : decode b128 1 = .ok ((.getfield 9), 3) := by decide +kernel
theorem d128_4 : decode b128 4 = .ok ((.iconst 0), 1) := by decide +kernel
theorem d128_5 : decode b128 5 = .ok ((.invokevirtual 19), 3) := by decide +kernel
theorem d128_8 : decode b128 8 = .ok ((.astore_n 1), 1) := by decide +kernel
theorem d128_9 : decode b128 9 = .ok ((.new 136), 3) := by decide +kernel
theorem d128_12 : decode b128 12 = .ok (.dup, 1) := by decide +kernel
theorem d128_13 : decode b128 13 = .ok ((.invokespecial 138), 3) := by decide +kernel
theorem d128_16 : decode b128 16 = .ok ((.astore_n 2), 1) := by decide +kernel
theorem d128_17 : decode b128 17 = .ok ((.iconst 0), 1) := by decide +kernel
theorem d128_18 : decode b128 18 = .ok ((.istore_n 3), 1) := by decide +kernel
theorem d128_19 : decode b128 19 = .ok ((.iconst 0), 1) := by decide +kernel
theorem d128_20 : decode b128 20 = .ok ((.istore 4), 2) := by decide +kernel
theorem d128_22 : decode b128 22 = .ok ((.iload 4), 2) := by decide +kernel
theorem d128_24 : decode b128 24 = .ok ((.aload_n 1), 1) := by decide +kernel
theorem d128_25 : decode b128 25 = .ok ((.invokevirtual 25), 3) := by decide +kernel
theorem d128_28 : decode b128 28 = .ok ((.if_icmp .ge 62), 3) := by decide +kernel
theorem d128_31 : decode b128 31 = .ok ((.aload_n 1), 1) := by decide +kernel
theorem d128_32 : decode b128 32 = .ok ((.iload 4), 2) := by decide +kernel
theorem d128_34 : decode b128 34 = .ok ((.invokevirtual 118), 3) := by decide +kernel
theorem d128_37 : decode b128 37 = .ok ((.istore 5), 2) := by decide +kernel
theorem d128_39 : decode b128 39 = .ok ((.iload 5), 2) := by decide +kernel
theorem d128_41 : decode b128 41 = .ok ((.bipush 32), 2) := by decide +kernel
theorem d128_43 : decode b128 43 = .ok ((.if_icmp .eq 28), 3) := by decide +kernel
theorem d128_46 : decode b128 46 = .ok ((.iload_n 3), 1) := by decide +kernel
theorem d128_47 : decode b128 47 = .ok ((.ifCond .eq 17), 3) := by decide +kernel
theorem d128_50 : decode b128 50 = .ok ((.aload_n 2), 1) := by decide +kernel
theorem d128_51 : decode b128 51 = .ok ((.invokevirtual 155), 3) := by decide +kernel
theorem d128_54 : decode b128 54 = .ok ((.ifCond .le 10), 3) := by decide +kernel
theorem d128_57 : decode b128 57 = .ok ((.aload_n 2), 1) := by decide +kernel
theorem d128_58 : decode b128 58 = .ok ((.bipush 32), 2) := by decide +kernel
theorem d128_60 : decode b128 60 = .ok ((.invokevirtual 156), 3) := by decide +kernel
theorem d128_63 : decode b128 63 = .ok (.pop, 1) := by decide +kernel
theorem d128_64 : decode b128 64 = .ok ((.aload_n 2), 1) := by decide +kernel
theorem d128_65 : decode b128 65 = .ok ((.iload 5), 2) := by decide +kernel
theorem d128_67 : decode b128 67 = .ok ((.invokevirtual 156), 3) := by decide +kernel
theorem d128_70 : decode b128 70 = .ok (.pop, 1) := by decide +kernel
theorem d128_71 : decode b128 71 = .ok ((.iload 5), 2) := by decide +kernel
theorem d128_73 : decode b128 73 = .ok ((.bipush 32), 2) := by decide +kernel
theorem d128_75 : decode b128 75 = .ok ((.if_icmp .ne 7), 3) := by decide +kernel
theorem d128_78 : decode b128 78 = .ok ((.iconst 1), 1) := by decide +kernel
theorem d128_79 : decode b128 79 = .ok ((.goto 4), 3) := by decide +kernel
theorem d128_82 : decode b128 82 = .ok ((.iconst 0), 1) := by decide +kernel
theorem d128_83 : decode b128 83 = .ok ((.istore_n 3), 1) := by decide +kernel
theorem d128_84 : decode b128 84 = .ok ((.iinc 4 1), 3) := by decide +kernel
theorem d128_87 : decode b128 87 = .ok ((.goto (-65)), 3) := by decide +kernel
theorem d128_90 : decode b128 90 = .ok ((.aload_n 2), 1) := by decide +kernel
theorem d128_91 : decode b128 91 = .ok ((.invokestatic 143), 3) := by decide +kernel
theorem d128_94 : decode b128 94 = .ok (.areturn, 1) := by decide +kernel
abbrev b123 : ByteArray := prog_10_method_20_code
theorem d123_0 : decode b123 0 = .ok ((.aload_n 0), 1) := by decide +kernel
theorem d123_1 : decode b123 1 = .ok ((.getfield 9), 3) := by decide +kernel
theorem d123_4 : decode b123 4 = .ok ((.iconst 0), 1) := by decide +kernel
theorem d123_5 : decode b123 5 = .ok ((.invokevirtual 114), 3) := by decide +kernel
theorem d123_8 : decode b123 8 = .ok ((.istore_n 1), 1) := by decide +kernel
theorem d123_9 : decode b123 9 = .ok ((.iload_n 1), 1) := by decide +kernel
theorem d123_10 : decode b123 10 = .ok ((.ifCond .lt 10), 3) := by decide +kernel
theorem d123_13 : decode b123 13 = .ok ((.iload_n 1), 1) := by decide +kernel
theorem d123_14 : decode b123 14 = .ok ((.sipush 3999), 3) := by decide +kernel
theorem d123_17 : decode b123 17 = .ok ((.if_icmp .le 8), 3) := by decide +kernel
theorem d123_20 : decode b123 20 = .ok ((.iconst 3), 1) := by decide +kernel
theorem d123_21 : decode b123 21 = .ok ((.invokestatic 97), 3) := by decide +kernel
theorem d123_24 : decode b123 24 = .ok (.areturn, 1) := by decide +kernel
theorem d123_25 : decode b123 25 = .ok ((.new 136), 3) := by decide +kernel
theorem d123_28 : decode b123 28 = .ok (.dup, 1) := by decide +kernel
theorem d123_29 : decode b123 29 = .ok ((.invokespecial 138), 3) := by decide +kernel
theorem d123_32 : decode b123 32 = .ok ((.astore_n 2), 1) := by decide +kernel
theorem d123_33 : decode b123 33 = .ok ((.iconst 0), 1) := by decide +kernel
theorem d123_34 : decode b123 34 = .ok ((.istore_n 3), 1) := by decide +kernel
theorem d123_35 : decode b123 35 = .ok ((.iload_n 3), 1) := by decide +kernel
theorem d123_36 : decode b123 36 = .ok ((.getstatic 203), 3) := by decide +kernel
theorem d123_39 : decode b123 39 = .ok (.arraylength, 1) := by decide +kernel
theorem d123_40 : decode b123 40 = .ok ((.if_icmp .ge 68), 3) := by decide +kernel
theorem d123_43 : decode b123 43 = .ok ((.ldc 207), 2) := by decide +kernel
theorem d123_45 : decode b123 45 = .ok ((.iconst 2), 1) := by decide +kernel
theorem d123_46 : decode b123 46 = .ok ((.iload_n 3), 1) := by decide +kernel
theorem d123_47 : decode b123 47 = .ok (.imul, 1) := by decide +kernel
theorem d123_48 : decode b123 48 = .ok ((.iconst 1), 1) := by decide +kernel
theorem d123_49 : decode b123 49 = .ok (.iadd, 1) := by decide +kernel
theorem d123_50 : decode b123 50 = .ok ((.invokevirtual 118), 3) := by decide +kernel
theorem d123_53 : decode b123 53 = .ok ((.istore 4), 2) := by decide +kernel
theorem d123_55 : decode b123 55 = .ok ((.iload_n 1), 1) := by decide +kernel
theorem d123_56 : decode b123 56 = .ok ((.getstatic 203), 3) := by decide +kernel
theorem d123_59 : decode b123 59 = .ok ((.iload_n 3), 1) := by decide +kernel
theorem d123_60 : decode b123 60 = .ok (.iaload, 1) := by decide +kernel
theorem d123_61 : decode b123 61 = .ok ((.if_icmp .lt 41), 3) := by decide +kernel
theorem d123_64 : decode b123 64 = .ok ((.aload_n 2), 1) := by decide +kernel
theorem d123_65 : decode b123 65 = .ok ((.ldc 207), 2) := by decide +kernel
theorem d123_67 : decode b123 67 = .ok ((.iconst 2), 1) := by decide +kernel
theorem d123_68 : decode b123 68 = .ok ((.iload_n 3), 1) := by decide +kernel
theorem d123_69 : decode b123 69 = .ok (.imul, 1) := by decide +kernel
theorem d123_70 : decode b123 70 = .ok ((.invokevirtual 118), 3) := by decide +kernel
theorem d123_73 : decode b123 73 = .ok ((.invokevirtual 156), 3) := by decide +kernel
theorem d123_76 : decode b123 76 = .ok (.pop, 1) := by decide +kernel
theorem d123_77 : decode b123 77 = .ok ((.iload 4), 2) := by decide +kernel
theorem d123_79 : decode b123 79 = .ok ((.bipush 32), 2) := by decide +kernel
theorem d123_81 : decode b123 81 = .ok ((.if_icmp .eq 10), 3) := by decide +kernel
theorem d123_84 : decode b123 84 = .ok ((.aload_n 2), 1) := by decide +kernel
theorem d123_85 : decode b123 85 = .ok ((.iload 4), 2) := by decide +kernel
theorem d123_87 : decode b123 87 = .ok ((.invokevirtual 156), 3) := by decide +kernel
theorem d123_90 : decode b123 90 = .ok (.pop, 1) := by decide +kernel
theorem d123_91 : decode b123 91 = .ok ((.iload_n 1), 1) := by decide +kernel
theorem d123_92 : decode b123 92 = .ok ((.getstatic 203), 3) := by decide +kernel
theorem d123_95 : decode b123 95 = .ok ((.iload_n 3), 1) := by decide +kernel
theorem d123_96 : decode b123 96 = .ok (.iaload, 1) := by decide +kernel
theorem d123_97 : decode b123 97 = .ok (.isub, 1) := by decide +kernel
theorem d123_98 : decode b123 98 = .ok ((.istore_n 1), 1) := by decide +kernel
theorem d123_99 : decode b123 99 = .ok ((.goto (-44)), 3) := by decide +kernel
theorem d123_102 : decode b123 102 = .ok ((.iinc 3 1), 3) := by decide +kernel
theorem d123_105 : decode b123 105 = .ok ((.goto (-70)), 3) := by decide +kernel
theorem d123_108 : decode b123 108 = .ok ((.aload_n 2), 1) := by decide +kernel
theorem d123_109 : decode b123 109 = .ok ((.invokestatic 143), 3) := by decide +kernel
theorem d123_112 : decode b123 112 = .ok (.areturn, 1) := by decide +kernel
abbrev b119 : ByteArray := prog_10_method_2_code
theorem d119_0 : decode b119 0 = .ok ((.iload_n 1), 1) := by decide +kernel
theorem d119_1 : decode b119 1 = .ok ((.tableswitch 222 66 88 #[107, 123, 129, 135, 140, 145, 150, 155, 160, 165, 171, 177, 182, 187, 192, 197, 202, 207, 222, 222, 222, 212, 217]), 107) := by decide +kernel
theorem d119_108 : decode b119 108 = .ok ((.aload_n 0), 1) := by decide +kernel
theorem d119_109 : decode b119 109 = .ok ((.getfield 9), 3) := by decide +kernel
theorem d119_112 : decode b119 112 = .ok ((.iconst 0), 1) := by decide +kernel
theorem d119_113 : decode b119 113 = .ok ((.invokevirtual 19), 3) := by decide +kernel
theorem d119_116 : decode b119 116 = .ok ((.invokevirtual 25), 3) := by decide +kernel
theorem d119_119 : decode b119 119 = .ok (.i2d, 1) := by decide +kernel
theorem d119_120 : decode b119 120 = .ok ((.invokestatic 31), 3) := by decide +kernel
theorem d119_123 : decode b119 123 = .ok (.areturn, 1) := by decide +kernel
theorem d119_124 : decode b119 124 = .ok ((.aload_n 0), 1) := by decide +kernel
theorem d119_125 : decode b119 125 = .ok ((.iconst 0), 1) := by decide +kernel
theorem d119_126 : decode b119 126 = .ok ((.invokevirtual 37), 3) := by decide +kernel
theorem d119_129 : decode b119 129 = .ok (.areturn, 1) := by decide +kernel
theorem d119_130 : decode b119 130 = .ok ((.aload_n 0), 1) := by decide +kernel
theorem d119_131 : decode b119 131 = .ok ((.iconst 1), 1) := by decide +kernel
theorem d119_132 : decode b119 132 = .ok ((.invokevirtual 37), 3) := by decide +kernel
theorem d119_135 : decode b119 135 = .ok (.areturn, 1) := by decide +kernel
theorem d119_136 : decode b119 136 = .ok ((.aload_n 0), 1) := by decide +kernel
theorem d119_137 : decode b119 137 = .ok ((.invokevirtual 41), 3) := by decide +kernel
theorem d119_140 : decode b119 140 = .ok (.areturn, 1) := by decide +kernel
theorem d119_141 : decode b119 141 = .ok ((.aload_n 0), 1) := by decide +kernel
theorem d119_142 : decode b119 142 = .ok ((.invokevirtual 45), 3) := by decide +kernel
theorem d119_145 : decode b119 145 = .ok (.areturn, 1) := by decide +kernel
theorem d119_146 : decode b119 146 = .ok ((.aload_n 0), 1) := by decide +kernel
theorem d119_147 : decode b119 147 = .ok ((.invokevirtual 48), 3) := by decide +kernel
theorem d119_150 : decode b119 150 = .ok (.areturn, 1) := by decide +kernel
theorem d119_151 : decode b119 151 = .ok ((.aload_n 0), 1) := by decide +kernel
theorem d119_152 : decode b119 152 = .ok ((.invokevirtual 51), 3) := by decide +kernel
theorem d119_155 : decode b119 155 = .ok (.areturn, 1) := by decide +kernel
theorem d119_156 : decode b119 156 = .ok ((.aload_n 0), 1) := by decide +kernel
theorem d119_157 : decode b119 157 = .ok ((.invokevirtual 54), 3) := by decide +kernel
theorem d119_160 : decode b119 160 = .ok (.areturn, 1) := by decide +kernel
theorem d119_161 : decode b119 161 = .ok ((.aload_n 0), 1) := by decide +kernel
theorem d119_162 : decode b119 162 = .ok ((.invokevirtual 57), 3) := by decide +kernel
theorem d119_165 : decode b119 165 = .ok (.areturn, 1) := by decide +kernel
theorem d119_166 : decode b119 166 = .ok ((.aload_n 0), 1) := by decide +kernel
theorem d119_167 : decode b119 167 = .ok ((.iconst 1), 1) := by decide +kernel
theorem d119_168 : decode b119 168 = .ok ((.invokevirtual 60), 3) := by decide +kernel
theorem d119_171 : decode b119 171 = .ok (.areturn, 1) := by decide +kernel
theorem d119_172 : decode b119 172 = .ok ((.aload_n 0), 1) := by decide +kernel
theorem d119_173 : decode b119 173 = .ok ((.iconst 0), 1) := by decide +kernel
theorem d119_174 : decode b119 174 = .ok ((.invokevirtual 60), 3) := by decide +kernel
theorem d119_177 : decode b119 177 = .ok (.areturn, 1) := by decide +kernel
theorem d119_178 : decode b119 178 = .ok ((.aload_n 0), 1) := by decide +kernel
theorem d119_179 : decode b119 179 = .ok ((.invokevirtual 63), 3) := by decide +kernel
theorem d119_182 : decode b119 182 = .ok (.areturn, 1) := by decide +kernel
theorem d119_183 : decode b119 183 = .ok ((.aload_n 0), 1) := by decide +kernel
theorem d119_184 : decode b119 184 = .ok ((.invokevirtual 66), 3) := by decide +kernel
theorem d119_187 : decode b119 187 = .ok (.areturn, 1) := by decide +kernel
theorem d119_188 : decode b119 188 = .ok ((.aload_n 0), 1) := by decide +kernel
theorem d119_189 : decode b119 189 = .ok ((.invokevirtual 69), 3) := by decide +kernel
theorem d119_192 : decode b119 192 = .ok (.areturn, 1) := by decide +kernel
theorem d119_193 : decode b119 193 = .ok ((.aload_n 0), 1) := by decide +kernel
theorem d119_194 : decode b119 194 = .ok ((.invokevirtual 72), 3) := by decide +kernel
theorem d119_197 : decode b119 197 = .ok (.areturn, 1) := by decide +kernel
theorem d119_198 : decode b119 198 = .ok ((.aload_n 0), 1) := by decide +kernel
theorem d119_199 : decode b119 199 = .ok ((.invokevirtual 75), 3) := by decide +kernel
theorem d119_202 : decode b119 202 = .ok (.areturn, 1) := by decide +kernel
theorem d119_203 : decode b119 203 = .ok ((.aload_n 0), 1) := by decide +kernel
theorem d119_204 : decode b119 204 = .ok ((.invokevirtual 78), 3) := by decide +kernel
theorem d119_207 : decode b119 207 = .ok (.areturn, 1) := by decide +kernel
theorem d119_208 : decode b119 208 = .ok ((.aload_n 0), 1) := by decide +kernel
theorem d119_209 : decode b119 209 = .ok ((.invokevirtual 81), 3) := by decide +kernel
theorem d119_212 : decode b119 212 = .ok (.areturn, 1) := by decide +kernel
theorem d119_213 : decode b119 213 = .ok ((.aload_n 0), 1) := by decide +kernel
theorem d119_214 : decode b119 214 = .ok ((.invokevirtual 84), 3) := by decide +kernel
theorem d119_217 : decode b119 217 = .ok (.areturn, 1) := by decide +kernel
theorem d119_218 : decode b119 218 = .ok ((.aload_n 0), 1) := by decide +kernel
theorem d119_219 : decode b119 219 = .ok ((.invokevirtual 87), 3) := by decide +kernel
theorem d119_222 : decode b119 222 = .ok (.areturn, 1) := by decide +kernel
theorem d119_223 : decode b119 223 = .ok ((.aload_n 0), 1) := by decide +kernel
theorem d119_224 : decode b119 224 = .ok ((.invokevirtual 90), 3) := by decide +kernel
theorem d119_227 : decode b119 227 = .ok (.areturn, 1) := by decide +kernel
def tx_join_121 (K32 : CS → TT → Int32 → Int32 → Int32 → BT → Option ((VV × CS) × Nat × Nat)) (K58 : CS → TT → Int32 → Int32 → Int32 → Int32 → Int32 → BT → Option ((VV × CS) × Nat × Nat)) (st : CS) (x1 : TT) (x2 : Int32) (x4 : Int32) (x5 : Int32) (x6 : Int32) (x7 : Int32) (xb : BT) : Option ((VV × CS) × Nat × Nat) := jn (x7 + 1) (fun v1 => K58 st x1 x2 x4 x5 x6 v1 xb)
def tx_join_109 (K32 : CS → TT → Int32 → Int32 → Int32 → BT → Option ((VV × CS) × Nat × Nat)) (K58 : CS → TT → Int32 → Int32 → Int32 → Int32 → Int32 → BT → Option ((VV × CS) × Nat × Nat)) (st : CS) (x1 : TT) (x2 : Int32) (x5 : Int32) (x6 : Int32) (x7 : Int32) (x8 : TT) (z1 : TT) (xb : BT) : Option ((VV × CS) × Nat × Nat) := jd (f_tx_appendWhileShort xb z1) (fun q2 => jd (f_tx_appendWhileShort q2 x8) (fun q4 => tx_join_121 K32 K58 st x1 x2 0 x5 x6 x7 q4))
def tx_join_97 (K32 : CS → TT → Int32 → Int32 → Int32 → BT → Option ((VV × CS) × Nat × Nat)) (K58 : CS → TT → Int32 → Int32 → Int32 → Int32 → Int32 → BT → Option ((VV × CS) × Nat × Nat)) (st : CS) (x1 : TT) (x2 : Int32) (x4 : Int32) (x5 : Int32) (x6 : Int32) (x7 : Int32) (x8 : TT) (xb : BT) : Option ((VV × CS) × Nat × Nat) := jb (x4 = 0) (tx_join_109 K32 K58 st x1 x2 x5 x6 x7 x8 x1 xb) (tx_join_109 K32 K58 st x1 x2 x5 x6 x7 x8 TX11 xb)
def tx_join_58 (K32 : CS → TT → Int32 → Int32 → Int32 → BT → Option ((VV × CS) × Nat × Nat)) : Nat → CS → TT → Int32 → Int32 → Int32 → Int32 → Int32 → BT → Option ((VV × CS) × Nat × Nat)
  | 0, _, _, _, _, _, _, _, _ => none
  | fu + 1, st, x1, x2, x4, x5, x6, x7, xb => jb (x6 ≤ x7) (jn (x5 + 1) (fun v6 => K32 st x1 x2 x4 v6 xb)) (jc (f_ar_nth st x5 x7) (fun q7 => jd (f_ar_textOf st q7) (fun q9 => jb (x2 = 0) (tx_join_97 K32 (tx_join_58 K32 fu) q9.2 x1 x2 x4 x5 x6 x7 q9.1 xb) (jc (f_js_isEmpty q9.1) (fun q11 => jb (q11 = 0) (tx_join_97 K32 (tx_join_58 K32 fu) q9.2 x1 x2 x4 x5 x6 x7 q9.1 xb) (tx_join_121 K32 (tx_join_58 K32 fu) q9.2 x1 x2 x4 x5 x6 x7 xb))))))
def tx_join_32  : Nat → CS → TT → Int32 → Int32 → Int32 → BT → Option ((VV × CS) × Nat × Nat)
  | 0, _, _, _, _, _, _ => none
  | fu + 1, st, x1, x2, x4, x5, xb => jb ((st.1 1 5) ≤ x5) (jd (f_wf_textOrTooLong xb) (fun q12 => some ((q12, st), 0, 0))) (jc (f_ar_many st x5) (fun q14 => tx_join_58 (tx_join_32 fu) FU st x1 x2 x4 x5 q14 0 xb))
def f_tx_join (st : CS) : Option ((VV × CS) × Nat × Nat) := jd (f_ar_text st 0) (fun q15 => jc (f_ar_truth q15.2 1) (fun q17 => ja 2 20 (tx_join_32 FU q17.2 q15.1 q17.1 1 2 (([] : TT), 16))))
set_option maxHeartbeats 4000000 in
set_option maxRecDepth 100000 in
theorem c_tx_join (l : Launch) (ρ : RH) (ad : Nat → Nat) (H : Heap) (P : Nat → Prop) (st : CS) (res : (VV × CS) × Nat × Nat) (hW : CW ρ P ad st H) (h : f_tx_join st = some res) : Met l y117 (wsOf y117 b117 9 (some (.object "WordFunctions$Value"))) ({ frames := 16, cells := res.2.1, slots := res.2.2, locals := 694 } : Room) (va_Pc [.ref (ad 3)] (KP ρ H)) (mQ (fun v H1 => ∃ x : Nat, v = some (.ref x) ∧ isV ρ P H1 x res.1.1 ∧ CW ρ P ad res.1.2 H1) (MA wC ad H.size)) res.2.1 res.2.2 (MA wC ad H.size) := by
  refine m_ofW (own := "WordFunctions$Texts") (plainFor_of_name rfl) rfl (Nat.le_of_ble_eq_true rfl) fun p e s m args below meth c ls hx hb hr hlk _ X hs hl => ?_
  subst hs
  have hS : va_S (MA wC ad s.heap.size) s.heap s.heap [] := va_S.rf
  have hSz := hS.1
  have hAz : ∀ q, s.heap.size ≤ q → (MA wC ad s.heap.size) q := fun q hq => Or.inr hq
  have hAp : ∀ i, i < 46 → (MA wC ad s.heap.size) (ad i) := fun i hi => MA.in hi
  have hPp : ∀ i, i < 46 → P (ad i) := hW.1
  have hl : lv_has ls 9 [(0, .ref (ad 3))] := hl
  have kc121 : ∀ (K32 : CS → TT → Int32 → Int32 → Int32 → BT → Option ((VV × CS) × Nat × Nat)) (hK32 : ∀ (st : CS) (x1 : TT) (x2 : Int32) (x4 : Int32) (x5 : Int32) (ax1 : Nat) (xb : BT) (ba bb : Nat) (H : Heap) (locs : List Loc) (ls : Array Slot) (cells slots : Nat) (r : (VV × CS) × Nat × Nat), CW ρ (pe P ba bb) ad st H → va_S (MA wC ad s.heap.size) s.heap H locs → isS ρ (pe P ba bb) H ax1 x1 → SB ρ H ba bb xb → (MA wC ad s.heap.size) ba → (MA wC ad s.heap.size) bb → (∀ i, i < 46 → ¬ ab ba bb (ad i)) → lv_has ls 9 [(0, .ref (ad 3)), (1, .ref ax1), (2, .int x2), (3, .ref ba), (4, .int x4), (5, .int x5)] → res.1 = r.1 → cells + r.2.1 ≤ res.2.1 → slots + r.2.2 ≤ res.2.2 → K32 st x1 x2 x4 x5 xb = some r → W p l e ({ frames := 16, cells := res.2.1, slots := res.2.2, locals := 694 } : Room) s m args below meth c H locs cells slots (MQ below (mQ (fun v H1 => ∃ x : Nat, v = some (.ref x) ∧ isV ρ P H1 x res.1.1 ∧ CW ρ P ad res.1.2 H1) (MA wC ad s.heap.size)) args s res.2.1 res.2.2 (MA wC ad s.heap.size)) (F0 m 32 ls [])) (K58 : CS → TT → Int32 → Int32 → Int32 → Int32 → Int32 → BT → Option ((VV × CS) × Nat × Nat)) (hK58 : ∀ (st : CS) (x1 : TT) (x2 : Int32) (x4 : Int32) (x5 : Int32) (x6 : Int32) (x7 : Int32) (ax1 : Nat) (xb : BT) (ba bb : Nat) (H : Heap) (locs : List Loc) (ls : Array Slot) (cells slots : Nat) (r : (VV × CS) × Nat × Nat), CW ρ (pe P ba bb) ad st H → va_S (MA wC ad s.heap.size) s.heap H locs → isS ρ (pe P ba bb) H ax1 x1 → SB ρ H ba bb xb → (MA wC ad s.heap.size) ba → (MA wC ad s.heap.size) bb → (∀ i, i < 46 → ¬ ab ba bb (ad i)) → lv_has ls 9 [(0, .ref (ad 3)), (1, .ref ax1), (2, .int x2), (3, .ref ba), (4, .int x4), (5, .int x5), (6, .int x6), (7, .int x7)] → res.1 = r.1 → cells + r.2.1 ≤ res.2.1 → slots + r.2.2 ≤ res.2.2 → K58 st x1 x2 x4 x5 x6 x7 xb = some r → W p l e ({ frames := 16, cells := res.2.1, slots := res.2.2, locals := 694 } : Room) s m args below meth c H locs cells slots (MQ below (mQ (fun v H1 => ∃ x : Nat, v = some (.ref x) ∧ isV ρ P H1 x res.1.1 ∧ CW ρ P ad res.1.2 H1) (MA wC ad s.heap.size)) args s res.2.1 res.2.2 (MA wC ad s.heap.size)) (F0 m 58 ls [])), ∀ (st : CS) (x1 : TT) (x2 : Int32) (x4 : Int32) (x5 : Int32) (x6 : Int32) (x7 : Int32) (ax1 : Nat) (xb : BT) (ba bb : Nat) (H : Heap) (locs : List Loc) (ls : Array Slot) (cells slots : Nat) (r : (VV × CS) × Nat × Nat), CW ρ (pe P ba bb) ad st H → va_S (MA wC ad s.heap.size) s.heap H locs → isS ρ (pe P ba bb) H ax1 x1 → SB ρ H ba bb xb → (MA wC ad s.heap.size) ba → (MA wC ad s.heap.size) bb → (∀ i, i < 46 → ¬ ab ba bb (ad i)) → lv_has ls 9 [(0, .ref (ad 3)), (1, .ref ax1), (2, .int x2), (3, .ref ba), (4, .int x4), (5, .int x5), (6, .int x6), (7, .int x7)] → res.1 = r.1 → cells + r.2.1 ≤ res.2.1 → slots + r.2.2 ≤ res.2.2 → tx_join_121 K32 K58 st x1 x2 x4 x5 x6 x7 xb = some r → W p l e ({ frames := 16, cells := res.2.1, slots := res.2.2, locals := 694 } : Room) s m args below meth c H locs cells slots (MQ below (mQ (fun v H1 => ∃ x : Nat, v = some (.ref x) ∧ isV ρ P H1 x res.1.1 ∧ CW ρ P ad res.1.2 H1) (MA wC ad s.heap.size)) args s res.2.1 res.2.2 (MA wC ad s.heap.size)) (F0 m 121 ls []) := by
    intro K32 hK32 K58 hK58
    intro st x1 x2 x4 x5 x6 x7 ax1 xb ba bb H locs ls cells slots r hW hS fax1 hSB hAa hAb hnn hl her hc1 hs1 h
    have hSz := hS.1
    unfold tx_join_121 at h
    obtain ⟨v1, ev1, h⟩ := jn_ex h
    refine lv_iinc (pc := 121) (v := v1) (lv' := [(7, .int v1), (0, .ref (ad 3)), (1, .ref ax1), (2, .int x2), (3, .ref ba), (4, .int x4), (5, .int x5), (6, .int x6)]) hx hb d117_121 hl (k := 7) rfl (by rw [ev1]; rfl) (by decide) rfl (fun ls hl => ?_)
    refine lv_goto (pc := 124) (tgt := 58) hx hb d117_124 (by decide) ?_
    exact hK58 st x1 x2 x4 x5 x6 v1 ax1 xb ba bb _ _ _ _ _ _ hW hS fax1 hSB hAa hAb hnn (lv_sub hl [1, 2, 3, 4, 5, 6, 7, 0] rfl) her hc1 hs1 h
  have kc109 : ∀ (K32 : CS → TT → Int32 → Int32 → Int32 → BT → Option ((VV × CS) × Nat × Nat)) (hK32 : ∀ (st : CS) (x1 : TT) (x2 : Int32) (x4 : Int32) (x5 : Int32) (ax1 : Nat) (xb : BT) (ba bb : Nat) (H : Heap) (locs : List Loc) (ls : Array Slot) (cells slots : Nat) (r : (VV × CS) × Nat × Nat), CW ρ (pe P ba bb) ad st H → va_S (MA wC ad s.heap.size) s.heap H locs → isS ρ (pe P ba bb) H ax1 x1 → SB ρ H ba bb xb → (MA wC ad s.heap.size) ba → (MA wC ad s.heap.size) bb → (∀ i, i < 46 → ¬ ab ba bb (ad i)) → lv_has ls 9 [(0, .ref (ad 3)), (1, .ref ax1), (2, .int x2), (3, .ref ba), (4, .int x4), (5, .int x5)] → res.1 = r.1 → cells + r.2.1 ≤ res.2.1 → slots + r.2.2 ≤ res.2.2 → K32 st x1 x2 x4 x5 xb = some r → W p l e ({ frames := 16, cells := res.2.1, slots := res.2.2, locals := 694 } : Room) s m args below meth c H locs cells slots (MQ below (mQ (fun v H1 => ∃ x : Nat, v = some (.ref x) ∧ isV ρ P H1 x res.1.1 ∧ CW ρ P ad res.1.2 H1) (MA wC ad s.heap.size)) args s res.2.1 res.2.2 (MA wC ad s.heap.size)) (F0 m 32 ls [])) (K58 : CS → TT → Int32 → Int32 → Int32 → Int32 → Int32 → BT → Option ((VV × CS) × Nat × Nat)) (hK58 : ∀ (st : CS) (x1 : TT) (x2 : Int32) (x4 : Int32) (x5 : Int32) (x6 : Int32) (x7 : Int32) (ax1 : Nat) (xb : BT) (ba bb : Nat) (H : Heap) (locs : List Loc) (ls : Array Slot) (cells slots : Nat) (r : (VV × CS) × Nat × Nat), CW ρ (pe P ba bb) ad st H → va_S (MA wC ad s.heap.size) s.heap H locs → isS ρ (pe P ba bb) H ax1 x1 → SB ρ H ba bb xb → (MA wC ad s.heap.size) ba → (MA wC ad s.heap.size) bb → (∀ i, i < 46 → ¬ ab ba bb (ad i)) → lv_has ls 9 [(0, .ref (ad 3)), (1, .ref ax1), (2, .int x2), (3, .ref ba), (4, .int x4), (5, .int x5), (6, .int x6), (7, .int x7)] → res.1 = r.1 → cells + r.2.1 ≤ res.2.1 → slots + r.2.2 ≤ res.2.2 → K58 st x1 x2 x4 x5 x6 x7 xb = some r → W p l e ({ frames := 16, cells := res.2.1, slots := res.2.2, locals := 694 } : Room) s m args below meth c H locs cells slots (MQ below (mQ (fun v H1 => ∃ x : Nat, v = some (.ref x) ∧ isV ρ P H1 x res.1.1 ∧ CW ρ P ad res.1.2 H1) (MA wC ad s.heap.size)) args s res.2.1 res.2.2 (MA wC ad s.heap.size)) (F0 m 58 ls [])), ∀ (st : CS) (x1 : TT) (x2 : Int32) (x5 : Int32) (x6 : Int32) (x7 : Int32) (x8 : TT) (z1 : TT) (ax1 : Nat) (ax8 : Nat) (az1 : Nat) (xb : BT) (ba bb : Nat) (H : Heap) (locs : List Loc) (ls : Array Slot) (cells slots : Nat) (r : (VV × CS) × Nat × Nat), CW ρ (pe P ba bb) ad st H → va_S (MA wC ad s.heap.size) s.heap H locs → isS ρ (pe P ba bb) H ax1 x1 → isS ρ (pe P ba bb) H ax8 x8 → isS ρ (pe P ba bb) H az1 z1 → SB ρ H ba bb xb → (MA wC ad s.heap.size) ba → (MA wC ad s.heap.size) bb → (∀ i, i < 46 → ¬ ab ba bb (ad i)) → lv_has ls 9 [(0, .ref (ad 3)), (1, .ref ax1), (2, .int x2), (3, .ref ba), (5, .int x5), (6, .int x6), (7, .int x7), (8, .ref ax8)] → res.1 = r.1 → cells + r.2.1 ≤ res.2.1 → slots + r.2.2 ≤ res.2.2 → tx_join_109 K32 K58 st x1 x2 x5 x6 x7 x8 z1 xb = some r → W p l e ({ frames := 16, cells := res.2.1, slots := res.2.2, locals := 694 } : Room) s m args below meth c H locs cells slots (MQ below (mQ (fun v H1 => ∃ x : Nat, v = some (.ref x) ∧ isV ρ P H1 x res.1.1 ∧ CW ρ P ad res.1.2 H1) (MA wC ad s.heap.size)) args s res.2.1 res.2.2 (MA wC ad s.heap.size)) (F0 m 109 ls [.ref az1, .ref ba]) := by
    intro K32 hK32 K58 hK58
    intro st x1 x2 x5 x6 x7 x8 z1 ax1 ax8 az1 xb ba bb H locs ls cells slots r hW hS fax1 fax8 faz1 hSB hAa hAb hnn hl her hc1 hs1 h
    have hSz := hS.1
    unfold tx_join_109 at h
    obtain ⟨q2, rq2, hq2, h, herq2, hccq2, hssq2⟩ := jd_some h
    refine k_callS (pc := 109) (n := 2) X hS (c_tx_appendWhileShort l ρ _ (pe P ba bb) ba bb xb az1 z1 q2 hW.2.2.1 hW.2.1 ⟨hSB, Or.inr (Or.inl rfl), Or.inr (Or.inr rfl)⟩ faz1 hq2) wd1044 wd1042 wd1043 wd7 (by decide) ⟨rfl, rfl, Nat.le_of_ble_eq_true rfl, Nat.le_of_ble_eq_true rfl⟩ (As := [.ref ba, .ref az1]) (rest := []) rfl rfl hl.1 (Nat.le_of_ble_eq_true rfl) d117_109 ⟨room_le hccq2 hc1, room_le hssq2 hs1⟩ (fun q hq => hq.elim (fun e => e ▸ hAa) (fun z => z.elim (fun e => e ▸ hAb) (fun g => hAz q (Nat.le_trans hS.1 g)))) (fun v H1 locs1 hv hz1 hz2 hSq2 => ?_)
    obtain ⟨rfl, bb3, hb1, hb2, hSB⟩ := hv
    have hk : kp (ab ba bb) _ H1 := kp_call hz1 hz2 (fun q hq z => z.elim Or.inl (fun z => z.elim Or.inr (fun g => absurd hq (Nat.not_lt.mpr g))))
    have fax1 := fax1.sb hk hb1
    have fax8 := fax8.sb hk hb1
    have hAb : (MA wC ad s.heap.size) bb3 := hb1.elim (fun e => e ▸ hAb) (fun g => hAz _ (Nat.le_trans hS.1 g))
    have hnn0 := hnn
    have hnn : ∀ i, i < 46 → ¬ ab ba bb3 (ad i) := nn_step hnn hb1 hW
    have hW := hW.sb hk hb1 hb2 hnn0 hPp
    have hS := hSq2
    have hSz := hS.1
    have her := her.trans herq2
    have hc1 := room_st hccq2 hc1
    have hs1 := room_st hssq2 hs1
    refine lv_aload_n (pc := 112) hx hb d117_112 rfl (lv_at hl 3 rfl) ?_
    refine lv_aload (pc := 113) hx hb d117_113 (lv_at hl 7 rfl) ?_
    obtain ⟨q4, rq4, hq4, h, herq4, hccq4, hssq4⟩ := jd_some h
    refine k_callS (pc := 115) (n := 2) X hS (c_tx_appendWhileShort l ρ _ (pe P ba bb3) ba bb3 q2.1 ax8 x8 q4 hW.2.2.1 hW.2.1 ⟨hSB, Or.inr (Or.inl rfl), Or.inr (Or.inr rfl)⟩ fax8 hq4) wd1044 wd1042 wd1043 wd7 (by decide) ⟨rfl, rfl, Nat.le_of_ble_eq_true rfl, Nat.le_of_ble_eq_true rfl⟩ (As := [.ref ba, .ref ax8]) (rest := []) rfl rfl hl.1 (Nat.le_of_ble_eq_true rfl) d117_115 ⟨room_le hccq4 hc1, room_le hssq4 hs1⟩ (fun q hq => hq.elim (fun e => e ▸ hAa) (fun z => z.elim (fun e => e ▸ hAb) (fun g => hAz q (Nat.le_trans hS.1 g)))) (fun v H1 locs1 hv hz1 hz2 hSq4 => ?_)
    obtain ⟨rfl, bb5, hb1, hb2, hSB⟩ := hv
    have hk : kp (ab ba bb3) _ H1 := kp_call hz1 hz2 (fun q hq z => z.elim Or.inl (fun z => z.elim Or.inr (fun g => absurd hq (Nat.not_lt.mpr g))))
    have fax1 := fax1.sb hk hb1
    have hAb : (MA wC ad s.heap.size) bb5 := hb1.elim (fun e => e ▸ hAb) (fun g => hAz _ (Nat.le_trans hS.1 g))
    have hnn0 := hnn
    have hnn : ∀ i, i < 46 → ¬ ab ba bb5 (ad i) := nn_step hnn hb1 hW
    have hW := hW.sb hk hb1 hb2 hnn0 hPp
    have hS := hSq4
    have hSz := hS.1
    have her := her.trans herq4
    have hc1 := room_st hccq4 hc1
    have hs1 := room_st hssq4 hs1
    refine lv_iconst (pc := 118) (v := 0) hx hb d117_118 (by decide) ?_
    refine lv_istore (pc := 119) (lv' := [(4, .int 0), (0, .ref (ad 3)), (1, .ref ax1), (2, .int x2), (3, .ref ba), (5, .int x5), (6, .int x6), (7, .int x7), (8, .ref ax8)]) hx hb d117_119 hl (by decide) rfl (fun ls hl => ?_)
    exact kc121 _ hK32 _ hK58  st x1 x2 0 x5 x6 x7 ax1 q4.1 ba bb5 _ _ _ _ _ _ hW hS fax1 hSB hAa hAb hnn (lv_sub hl [1, 2, 3, 4, 0, 5, 6, 7] rfl) her hc1 hs1 h
  have kc97 : ∀ (K32 : CS → TT → Int32 → Int32 → Int32 → BT → Option ((VV × CS) × Nat × Nat)) (hK32 : ∀ (st : CS) (x1 : TT) (x2 : Int32) (x4 : Int32) (x5 : Int32) (ax1 : Nat) (xb : BT) (ba bb : Nat) (H : Heap) (locs : List Loc) (ls : Array Slot) (cells slots : Nat) (r : (VV × CS) × Nat × Nat), CW ρ (pe P ba bb) ad st H → va_S (MA wC ad s.heap.size) s.heap H locs → isS ρ (pe P ba bb) H ax1 x1 → SB ρ H ba bb xb → (MA wC ad s.heap.size) ba → (MA wC ad s.heap.size) bb → (∀ i, i < 46 → ¬ ab ba bb (ad i)) → lv_has ls 9 [(0, .ref (ad 3)), (1, .ref ax1), (2, .int x2), (3, .ref ba), (4, .int x4), (5, .int x5)] → res.1 = r.1 → cells + r.2.1 ≤ res.2.1 → slots + r.2.2 ≤ res.2.2 → K32 st x1 x2 x4 x5 xb = some r → W p l e ({ frames := 16, cells := res.2.1, slots := res.2.2, locals := 694 } : Room) s m args below meth c H locs cells slots (MQ below (mQ (fun v H1 => ∃ x : Nat, v = some (.ref x) ∧ isV ρ P H1 x res.1.1 ∧ CW ρ P ad res.1.2 H1) (MA wC ad s.heap.size)) args s res.2.1 res.2.2 (MA wC ad s.heap.size)) (F0 m 32 ls [])) (K58 : CS → TT → Int32 → Int32 → Int32 → Int32 → Int32 → BT → Option ((VV × CS) × Nat × Nat)) (hK58 : ∀ (st : CS) (x1 : TT) (x2 : Int32) (x4 : Int32) (x5 : Int32) (x6 : Int32) (x7 : Int32) (ax1 : Nat) (xb : BT) (ba bb : Nat) (H : Heap) (locs : List Loc) (ls : Array Slot) (cells slots : Nat) (r : (VV × CS) × Nat × Nat), CW ρ (pe P ba bb) ad st H → va_S (MA wC ad s.heap.size) s.heap H locs → isS ρ (pe P ba bb) H ax1 x1 → SB ρ H ba bb xb → (MA wC ad s.heap.size) ba → (MA wC ad s.heap.size) bb → (∀ i, i < 46 → ¬ ab ba bb (ad i)) → lv_has ls 9 [(0, .ref (ad 3)), (1, .ref ax1), (2, .int x2), (3, .ref ba), (4, .int x4), (5, .int x5), (6, .int x6), (7, .int x7)] → res.1 = r.1 → cells + r.2.1 ≤ res.2.1 → slots + r.2.2 ≤ res.2.2 → K58 st x1 x2 x4 x5 x6 x7 xb = some r → W p l e ({ frames := 16, cells := res.2.1, slots := res.2.2, locals := 694 } : Room) s m args below meth c H locs cells slots (MQ below (mQ (fun v H1 => ∃ x : Nat, v = some (.ref x) ∧ isV ρ P H1 x res.1.1 ∧ CW ρ P ad res.1.2 H1) (MA wC ad s.heap.size)) args s res.2.1 res.2.2 (MA wC ad s.heap.size)) (F0 m 58 ls [])), ∀ (st : CS) (x1 : TT) (x2 : Int32) (x4 : Int32) (x5 : Int32) (x6 : Int32) (x7 : Int32) (x8 : TT) (ax1 : Nat) (ax8 : Nat) (xb : BT) (ba bb : Nat) (H : Heap) (locs : List Loc) (ls : Array Slot) (cells slots : Nat) (r : (VV × CS) × Nat × Nat), CW ρ (pe P ba bb) ad st H → va_S (MA wC ad s.heap.size) s.heap H locs → isS ρ (pe P ba bb) H ax1 x1 → isS ρ (pe P ba bb) H ax8 x8 → SB ρ H ba bb xb → (MA wC ad s.heap.size) ba → (MA wC ad s.heap.size) bb → (∀ i, i < 46 → ¬ ab ba bb (ad i)) → lv_has ls 9 [(0, .ref (ad 3)), (1, .ref ax1), (2, .int x2), (3, .ref ba), (4, .int x4), (5, .int x5), (6, .int x6), (7, .int x7), (8, .ref ax8)] → res.1 = r.1 → cells + r.2.1 ≤ res.2.1 → slots + r.2.2 ≤ res.2.2 → tx_join_97 K32 K58 st x1 x2 x4 x5 x6 x7 x8 xb = some r → W p l e ({ frames := 16, cells := res.2.1, slots := res.2.2, locals := 694 } : Room) s m args below meth c H locs cells slots (MQ below (mQ (fun v H1 => ∃ x : Nat, v = some (.ref x) ∧ isV ρ P H1 x res.1.1 ∧ CW ρ P ad res.1.2 H1) (MA wC ad s.heap.size)) args s res.2.1 res.2.2 (MA wC ad s.heap.size)) (F0 m 97 ls []) := by
    intro K32 hK32 K58 hK58
    intro st x1 x2 x4 x5 x6 x7 x8 ax1 ax8 xb ba bb H locs ls cells slots r hW hS fax1 fax8 hSB hAa hAb hnn hl her hc1 hs1 h
    have hSz := hS.1
    unfold tx_join_97 at h
    refine lv_aload_n (pc := 97) hx hb d117_97 rfl (lv_at hl 3 rfl) ?_
    refine lv_iload (pc := 98) hx hb d117_98 (lv_at hl 4 rfl) ?_
    refine lv_if_eq (pc := 100) (tgt := 108) hx hb d117_100 (by decide) (fun c100 => ?_) (fun c100 => ?_)
    · have h := jb_t c100 h
      refine lv_aload_n (pc := 108) hx hb d117_108 rfl (lv_at hl 1 rfl) ?_
      exact kc109 _ hK32 _ hK58  st x1 x2 x5 x6 x7 x8 x1 ax1 ax8 ax1 xb ba bb _ _ _ _ _ _ hW hS fax1 fax8 fax1 hSB hAa hAb hnn (lv_sub hl [0, 1, 2, 3, 5, 6, 7, 8] rfl) her hc1 hs1 h
    · have h := jb_f c100 h
      refine c_ldcS (pc := 103) (t := TX11) X hW.2.2.1 11 rfl rfl d117_103 (fun f_rS_ρ_11_ => ?_)
      refine lv_goto (pc := 105) (tgt := 109) hx hb d117_105 (by decide) ?_
      exact kc109 _ hK32 _ hK58  st x1 x2 x5 x6 x7 x8 TX11 ax1 ax8 (rS ρ 11) xb ba bb _ _ _ _ _ _ hW hS fax1 fax8 f_rS_ρ_11_ hSB hAa hAb hnn (lv_sub hl [0, 1, 2, 3, 5, 6, 7, 8] rfl) her hc1 hs1 h
  have kc58 : ∀ (K32 : CS → TT → Int32 → Int32 → Int32 → BT → Option ((VV × CS) × Nat × Nat)) (hK32 : ∀ (st : CS) (x1 : TT) (x2 : Int32) (x4 : Int32) (x5 : Int32) (ax1 : Nat) (xb : BT) (ba bb : Nat) (H : Heap) (locs : List Loc) (ls : Array Slot) (cells slots : Nat) (r : (VV × CS) × Nat × Nat), CW ρ (pe P ba bb) ad st H → va_S (MA wC ad s.heap.size) s.heap H locs → isS ρ (pe P ba bb) H ax1 x1 → SB ρ H ba bb xb → (MA wC ad s.heap.size) ba → (MA wC ad s.heap.size) bb → (∀ i, i < 46 → ¬ ab ba bb (ad i)) → lv_has ls 9 [(0, .ref (ad 3)), (1, .ref ax1), (2, .int x2), (3, .ref ba), (4, .int x4), (5, .int x5)] → res.1 = r.1 → cells + r.2.1 ≤ res.2.1 → slots + r.2.2 ≤ res.2.2 → K32 st x1 x2 x4 x5 xb = some r → W p l e ({ frames := 16, cells := res.2.1, slots := res.2.2, locals := 694 } : Room) s m args below meth c H locs cells slots (MQ below (mQ (fun v H1 => ∃ x : Nat, v = some (.ref x) ∧ isV ρ P H1 x res.1.1 ∧ CW ρ P ad res.1.2 H1) (MA wC ad s.heap.size)) args s res.2.1 res.2.2 (MA wC ad s.heap.size)) (F0 m 32 ls [])) (fu : Nat), ∀ (st : CS) (x1 : TT) (x2 : Int32) (x4 : Int32) (x5 : Int32) (x6 : Int32) (x7 : Int32) (ax1 : Nat) (xb : BT) (ba bb : Nat) (H : Heap) (locs : List Loc) (ls : Array Slot) (cells slots : Nat) (r : (VV × CS) × Nat × Nat), CW ρ (pe P ba bb) ad st H → va_S (MA wC ad s.heap.size) s.heap H locs → isS ρ (pe P ba bb) H ax1 x1 → SB ρ H ba bb xb → (MA wC ad s.heap.size) ba → (MA wC ad s.heap.size) bb → (∀ i, i < 46 → ¬ ab ba bb (ad i)) → lv_has ls 9 [(0, .ref (ad 3)), (1, .ref ax1), (2, .int x2), (3, .ref ba), (4, .int x4), (5, .int x5), (6, .int x6), (7, .int x7)] → res.1 = r.1 → cells + r.2.1 ≤ res.2.1 → slots + r.2.2 ≤ res.2.2 → tx_join_58 K32 fu st x1 x2 x4 x5 x6 x7 xb = some r → W p l e ({ frames := 16, cells := res.2.1, slots := res.2.2, locals := 694 } : Room) s m args below meth c H locs cells slots (MQ below (mQ (fun v H1 => ∃ x : Nat, v = some (.ref x) ∧ isV ρ P H1 x res.1.1 ∧ CW ρ P ad res.1.2 H1) (MA wC ad s.heap.size)) args s res.2.1 res.2.2 (MA wC ad s.heap.size)) (F0 m 58 ls []) := by
    intro K32 hK32 fu
    induction fu with
    | zero => intro st x1 x2 x4 x5 x6 x7 ax1 xb ba bb H locs ls cells slots r hW hS fax1 hSB hAa hAb hnn hl her hc1 hs1 h; cases h
    | succ fu hK58 =>
      intro st x1 x2 x4 x5 x6 x7 ax1 xb ba bb H locs ls cells slots r hW hS fax1 hSB hAa hAb hnn hl her hc1 hs1 h
      have hSz := hS.1
      unfold tx_join_58 at h
      refine lv_iload (pc := 58) hx hb d117_58 (lv_at hl 7 rfl) ?_
      refine lv_iload (pc := 60) hx hb d117_60 (lv_at hl 6 rfl) ?_
      refine lv_icmp_ge (pc := 62) (tgt := 127) hx hb d117_62 (by decide) (fun c62 => ?_) (fun c62 => ?_)
      · have h := jb_t c62 h
        obtain ⟨v6, ev6, h⟩ := jn_ex h
        refine lv_iinc (pc := 127) (v := v6) (lv' := [(5, .int v6), (0, .ref (ad 3)), (1, .ref ax1), (2, .int x2), (3, .ref ba), (4, .int x4), (6, .int x6), (7, .int x7)]) hx hb d117_127 hl (k := 5) rfl (by rw [ev6]; rfl) (by decide) rfl (fun ls hl => ?_)
        refine lv_goto (pc := 130) (tgt := 32) hx hb d117_130 (by decide) ?_
        exact hK32 st x1 x2 x4 v6 ax1 xb ba bb _ _ _ _ _ _ hW hS fax1 hSB hAa hAb hnn (lv_sub hl [1, 2, 3, 4, 5, 0] rfl) her hc1 hs1 h
      · have h := jb_f c62 h
        refine lv_aload_n (pc := 65) hx hb d117_65 rfl (lv_at hl 0 rfl) ?_
        refine c_getK (pc := 66) X hW 3 0 5 1 (C := "WordFunctions$Texts") (T := T5) (N := 2) (by decide) rfl rfl rfl rfl tin5 rfl wd196 rfl rfl d117_66 ?_
        refine lv_aload_n (pc := 69) hx hb d117_69 rfl (lv_at hl 0 rfl) ?_
        refine c_getK (pc := 70) X hW 3 0 5 1 (C := "WordFunctions$Texts") (T := T5) (N := 2) (by decide) rfl rfl rfl rfl tin5 rfl wd196 rfl rfl d117_70 ?_
        refine lv_iload (pc := 73) hx hb d117_73 (lv_at hl 5 rfl) ?_
        refine lv_iload (pc := 75) hx hb d117_75 (lv_at hl 7 rfl) ?_
        obtain ⟨q7, hq7, h⟩ := jc_some h
        refine k_callV (pc := 77) (n := 2) X hS (c_ar_nth l ρ ad _ (pe P ba bb) st x5 x7 q7 hW  hq7) wd770 wd1058 wd768 wd769 wd3 (by decide) ⟨rfl, rfl, Nat.le_of_ble_eq_true rfl, Nat.le_of_ble_eq_true rfl⟩ (c_recv X hW 1 3 (by decide) rfl rfl) (As := [.int x5, .int x7]) (rest := [.ref (ad 1)]) rfl rfl hl.1 (Nat.le_of_ble_eq_true rfl) d117_77 ⟨room_l0 hc1, room_l0 hs1⟩ (fun q hq => False.elim hq) (fun v H1 locs1 hv _ _ hSq7 => ?_)
        obtain ⟨u8, rfl, fu8, rfl⟩ := hv
        have hS := hSq7
        have hSz := hS.1
        obtain ⟨q9, rq9, hq9, h, herq9, hccq9, hssq9⟩ := jd_some h
        refine k_callV (pc := 80) (n := 1) X hS (c_ar_textOf l ρ ad _ (pe P ba bb) st u8 q7 q9 hW fu8 hq9) wd872 wd1059 wd870 wd871 wd3 (by decide) ⟨rfl, rfl, Nat.le_of_ble_eq_true rfl, Nat.le_of_ble_eq_true rfl⟩ (c_recv X hW 1 3 (by decide) rfl rfl) (As := [.ref u8]) (rest := []) rfl rfl hl.1 (Nat.le_of_ble_eq_true rfl) d117_80 ⟨room_le hccq9 hc1, room_le hssq9 hs1⟩ (fun q hq => MA.mono hS.1 hq) (fun v H1 locs1 hv hz1 hz2 hSq9 => ?_)
        have hPq := hW.1
        obtain ⟨u10, rfl, fu10, hW⟩ := hv
        have hk : kp (Pm ad) _ H1 := kp_call hz1 hz2 (MA_Pm rfl)
        have fax1 := fax1.keep hk (Pm_P hPq)
        have hSB := hSB.keep hk (nn_a hnn) (nn_b hnn)
        have hS := hSq9
        have hSz := hS.1
        have her := her.trans herq9
        have hc1 := room_st hccq9 hc1
        have hs1 := room_st hssq9 hs1
        refine lv_astore (pc := 83) (lv' := [(8, .ref u10), (0, .ref (ad 3)), (1, .ref ax1), (2, .int x2), (3, .ref ba), (4, .int x4), (5, .int x5), (6, .int x6), (7, .int x7)]) hx hb d117_83 hl (by decide) rfl (fun ls hl => ?_)
        refine lv_iload_n (pc := 85) hx hb d117_85 rfl (lv_at hl 3 rfl) ?_
        refine lv_if_eq (pc := 86) (tgt := 97) hx hb d117_86 (by decide) (fun c86 => ?_) (fun c86 => ?_)
        · have h := jb_t c86 h
          exact kc97 _ hK32 _ hK58  q9.1.2 x1 x2 x4 x5 x6 x7 q9.1.1 ax1 u10 xb ba bb _ _ _ _ _ _ hW hS fax1 fu10 hSB hAa hAb hnn (lv_sub hl [1, 2, 3, 4, 5, 6, 7, 8, 0] rfl) her hc1 hs1 h
        · have h := jb_f c86 h
          refine lv_aload (pc := 89) hx hb d117_89 (lv_at hl 0 rfl) ?_
          obtain ⟨q11, hq11, h⟩ := jc_some h
          refine k_callV (pc := 91) (n := 0) X hS (c_js_isEmpty l ρ _ (pe P ba bb) u10 q9.1.1 q11 hW.2.2.1 hW.2.1 fu10 hq11) wd782 wd1011 wd780 wd781 wd14 (by decide) ⟨rfl, rfl, Nat.le_of_ble_eq_true rfl, Nat.le_of_ble_eq_true rfl⟩ (s_recv X fu10) (As := []) (rest := []) rfl rfl hl.1 (Nat.le_of_ble_eq_true rfl) d117_91 ⟨room_l0 hc1, room_l0 hs1⟩ (fun q hq => False.elim hq) (fun v H1 locs1 hv _ _ hSq11 => ?_)
          obtain ⟨rfl, rfl⟩ := hv
          have hS := hSq11
          have hSz := hS.1
          refine lv_if_ne (pc := 94) (tgt := 121) hx hb d117_94 (by decide) (fun c94 => ?_) (fun c94 => ?_)
          · have h := jb_f c94 h
            exact kc121 _ hK32 _ hK58  q9.1.2 x1 x2 x4 x5 x6 x7 ax1 xb ba bb _ _ _ _ _ _ hW hS fax1 hSB hAa hAb hnn (lv_sub hl [1, 2, 3, 4, 5, 6, 7, 8] rfl) her hc1 hs1 h
          · have h := jb_t c94 h
            exact kc97 _ hK32 _ hK58  q9.1.2 x1 x2 x4 x5 x6 x7 q9.1.1 ax1 u10 xb ba bb _ _ _ _ _ _ hW hS fax1 fu10 hSB hAa hAb hnn (lv_sub hl [1, 2, 3, 4, 5, 6, 7, 8, 0] rfl) her hc1 hs1 h
  have kc32 : ∀ (fu : Nat), ∀ (st : CS) (x1 : TT) (x2 : Int32) (x4 : Int32) (x5 : Int32) (ax1 : Nat) (xb : BT) (ba bb : Nat) (H : Heap) (locs : List Loc) (ls : Array Slot) (cells slots : Nat) (r : (VV × CS) × Nat × Nat), CW ρ (pe P ba bb) ad st H → va_S (MA wC ad s.heap.size) s.heap H locs → isS ρ (pe P ba bb) H ax1 x1 → SB ρ H ba bb xb → (MA wC ad s.heap.size) ba → (MA wC ad s.heap.size) bb → (∀ i, i < 46 → ¬ ab ba bb (ad i)) → lv_has ls 9 [(0, .ref (ad 3)), (1, .ref ax1), (2, .int x2), (3, .ref ba), (4, .int x4), (5, .int x5)] → res.1 = r.1 → cells + r.2.1 ≤ res.2.1 → slots + r.2.2 ≤ res.2.2 → tx_join_32 fu st x1 x2 x4 x5 xb = some r → W p l e ({ frames := 16, cells := res.2.1, slots := res.2.2, locals := 694 } : Room) s m args below meth c H locs cells slots (MQ below (mQ (fun v H1 => ∃ x : Nat, v = some (.ref x) ∧ isV ρ P H1 x res.1.1 ∧ CW ρ P ad res.1.2 H1) (MA wC ad s.heap.size)) args s res.2.1 res.2.2 (MA wC ad s.heap.size)) (F0 m 32 ls []) := by
    intro  fu
    induction fu with
    | zero => intro st x1 x2 x4 x5 ax1 xb ba bb H locs ls cells slots r hW hS fax1 hSB hAa hAb hnn hl her hc1 hs1 h; cases h
    | succ fu hK32 =>
      intro st x1 x2 x4 x5 ax1 xb ba bb H locs ls cells slots r hW hS fax1 hSB hAa hAb hnn hl her hc1 hs1 h
      have hSz := hS.1
      unfold tx_join_32 at h
      refine lv_iload (pc := 32) hx hb d117_32 (lv_at hl 5 rfl) ?_
      refine lv_aload_n (pc := 34) hx hb d117_34 rfl (lv_at hl 0 rfl) ?_
      refine c_getK (pc := 35) X hW 3 0 5 1 (C := "WordFunctions$Texts") (T := T5) (N := 2) (by decide) rfl rfl rfl rfl tin5 rfl wd196 rfl rfl d117_35 ?_
      refine c_getI (pc := 38) X hW 1 5 3 (C := "WordFunctions$Arguments") (T := T3) (N := 9) (by decide) rfl rfl rfl rfl tin3 rfl wd136 rfl d117_38 ?_
      refine lv_icmp_ge (pc := 41) (tgt := 133) hx hb d117_41 (by decide) (fun c41 => ?_) (fun c41 => ?_)
      · have h := jb_t c41 h
        refine lv_aload_n (pc := 133) hx hb d117_133 rfl (lv_at hl 3 rfl) ?_
        obtain ⟨q12, rq12, hq12, h, herq12, hccq12, hssq12⟩ := jd_some h
        refine k_callSN (pc := 134) (n := 1) X hS (c_wf_textOrTooLong l ρ _ (pe P ba bb) ba bb xb q12 hW.2.2.1 hW.2.1 ⟨hSB, Or.inr (Or.inl rfl), Or.inr (Or.inr rfl)⟩ hq12) wd1004 4 rfl wd1003 wd1 (by decide) ⟨rfl, rfl, Nat.le_of_ble_eq_true rfl, Nat.le_of_ble_eq_true rfl⟩ (As := [.ref ba]) (rest := []) rfl rfl hl.1 (Nat.le_of_ble_eq_true rfl) d117_134 ⟨room_le hccq12 hc1, room_le hssq12 hs1⟩ (fun q hq => hAz q (Nat.le_trans hS.1 hq)) (fun v H1 locs1 hv hz1 hz2 hSq12 => ?_)
        obtain ⟨u13, rfl, fu13⟩ := hv
        have hk : kp no _ H1 := kp_call hz1 hz2 (fun q hq z => absurd hq (Nat.not_lt.mpr z))
        have hSB := hSB.keep hk (fun z => z) (fun z => z)
        have hW := hW.keep hk no_hz (fun _ _ z => z)
        have hS := hSq12
        have hSz := hS.1
        have her := her.trans herq12
        have hc1 := room_st hccq12 hc1
        have hs1 := room_st hssq12 hs1
        have fu13 := fu13.un
        have hW := hW.un hPp
        have her : res.1 = (q12.1, st) := her.trans (congrArg Prod.fst (Option.some.inj h)).symm
        exact m_aret (pc := 137) hx hb hr (Or.inl ⟨_, rfl⟩) hlk hS ⟨u13, rfl, by rw [her]; exact fu13, by rw [her]; exact hW⟩ (Nat.le_trans (Nat.le_add_right _ _) hc1) (Nat.le_trans (Nat.le_add_right _ _) hs1) d117_137
      · have h := jb_f c41 h
        refine lv_aload_n (pc := 44) hx hb d117_44 rfl (lv_at hl 0 rfl) ?_
        refine c_getK (pc := 45) X hW 3 0 5 1 (C := "WordFunctions$Texts") (T := T5) (N := 2) (by decide) rfl rfl rfl rfl tin5 rfl wd196 rfl rfl d117_45 ?_
        refine lv_iload (pc := 48) hx hb d117_48 (lv_at hl 5 rfl) ?_
        obtain ⟨q14, hq14, h⟩ := jc_some h
        refine k_callV (pc := 50) (n := 1) X hS (c_ar_many l ρ ad _ (pe P ba bb) st x5 q14 hW  hq14) wd1056 wd1053 wd1054 wd1055 wd3 (by decide) ⟨rfl, rfl, Nat.le_of_ble_eq_true rfl, Nat.le_of_ble_eq_true rfl⟩ (c_recv X hW 1 3 (by decide) rfl rfl) (As := [.int x5]) (rest := []) rfl rfl hl.1 (Nat.le_of_ble_eq_true rfl) d117_50 ⟨room_l0 hc1, room_l0 hs1⟩ (fun q hq => False.elim hq) (fun v H1 locs1 hv _ _ hSq14 => ?_)
        obtain ⟨rfl, rfl⟩ := hv
        have hS := hSq14
        have hSz := hS.1
        refine lv_istore (pc := 53) (lv' := [(6, .int q14), (0, .ref (ad 3)), (1, .ref ax1), (2, .int x2), (3, .ref ba), (4, .int x4), (5, .int x5)]) hx hb d117_53 hl (by decide) rfl (fun ls hl => ?_)
        refine lv_iconst (pc := 55) (v := 0) hx hb d117_55 (by decide) ?_
        refine lv_istore (pc := 56) (lv' := [(7, .int 0), (6, .int q14), (0, .ref (ad 3)), (1, .ref ax1), (2, .int x2), (3, .ref ba), (4, .int x4), (5, .int x5)]) hx hb d117_56 hl (by decide) rfl (fun ls hl => ?_)
        exact kc58 _ hK32 FU st x1 x2 x4 x5 q14 0 ax1 xb ba bb _ _ _ _ _ _ hW hS fax1 hSB hAa hAb hnn (lv_sub hl [2, 3, 4, 5, 6, 7, 1, 0] rfl) her hc1 hs1 h
  have her : res.1 = res.1 := rfl
  have hc1 : 0 + res.2.1 ≤ res.2.1 := Nat.le_of_eq (Nat.zero_add _)
  have hs1 : 0 + res.2.2 ≤ res.2.2 := Nat.le_of_eq (Nat.zero_add _)
  unfold f_tx_join at h
  refine lv_aload_n (pc := 0) hx hb d117_0 rfl (lv_at hl 0 rfl) ?_
  refine c_getK (pc := 1) X hW 3 0 5 1 (C := "WordFunctions$Texts") (T := T5) (N := 2) (by decide) rfl rfl rfl rfl tin5 rfl wd196 rfl rfl d117_1 ?_
  refine lv_iconst (pc := 4) (v := 0) hx hb d117_4 (by decide) ?_
  obtain ⟨q15, rq15, hq15, h, herq15, hccq15, hssq15⟩ := jd_some h
  refine k_callV (pc := 5) (n := 1) X hS (c_ar_text l ρ ad _ P st 0 q15 hW  hq15) wd868 wd865 wd866 wd867 wd3 (by decide) ⟨rfl, rfl, Nat.le_of_ble_eq_true rfl, Nat.le_of_ble_eq_true rfl⟩ (c_recv X hW 1 3 (by decide) rfl rfl) (As := [.int 0]) (rest := []) rfl rfl hl.1 (Nat.le_of_ble_eq_true rfl) d117_5 ⟨room_le hccq15 hc1, room_le hssq15 hs1⟩ (fun q hq => MA.mono hS.1 hq) (fun v H1 locs1 hv hz1 hz2 hSq15 => ?_)
  have hPq := hW.1
  obtain ⟨u16, rfl, fu16, hW⟩ := hv
  have hS := hSq15
  have hSz := hS.1
  have her := her.trans herq15
  have hc1 := room_st hccq15 hc1
  have hs1 := room_st hssq15 hs1
  refine lv_astore_n (pc := 8) (lv' := [(1, .ref u16), (0, .ref (ad 3))]) hx hb d117_8 rfl hl (by decide) rfl (fun ls hl => ?_)
  refine lv_aload_n (pc := 9) hx hb d117_9 rfl (lv_at hl 1 rfl) ?_
  refine c_getK (pc := 10) X hW 3 0 5 1 (C := "WordFunctions$Texts") (T := T5) (N := 2) (by decide) rfl rfl rfl rfl tin5 rfl wd196 rfl rfl d117_10 ?_
  refine lv_iconst (pc := 13) (v := 1) hx hb d117_13 (by decide) ?_
  obtain ⟨q17, hq17, h⟩ := jc_some h
  refine k_callV (pc := 14) (n := 1) X hS (c_ar_truth l ρ ad _ P q15.1.2 1 q17 hW  hq17) wd1052 wd1049 wd1050 wd1051 wd3 (by decide) ⟨rfl, rfl, Nat.le_of_ble_eq_true rfl, Nat.le_of_ble_eq_true rfl⟩ (c_recv X hW 1 3 (by decide) rfl rfl) (As := [.int 1]) (rest := []) rfl rfl hl.1 (Nat.le_of_ble_eq_true rfl) d117_14 ⟨room_l0 hc1, room_l0 hs1⟩ (fun q hq => MA.mono hS.1 hq) (fun v H1 locs1 hv hz1 hz2 hSq17 => ?_)
  have hPq := hW.1
  obtain ⟨rfl, hW⟩ := hv
  have hk : kp (Pm ad) _ H1 := kp_call hz1 hz2 (MA_Pm rfl)
  have fu16 := fu16.keep hk (Pm_P hPq)
  have hS := hSq17
  have hSz := hS.1
  refine lv_istore_n (pc := 17) (lv' := [(2, .int q17.1), (1, .ref u16), (0, .ref (ad 3))]) hx hb d117_17 rfl hl (by decide) rfl (fun ls hl => ?_)
  obtain ⟨r18, h, her18, hcc18, hss18⟩ := ja_some h
  refine k_newSB (pc := 18) X hS hW.2.2.1 hW.2.1 hAz wd999 wd1000 (rest := []) hl.1 (Nat.le_of_ble_eq_true rfl) rfl rfl (room_le hcc18 hc1) (room_le hss18 hs1) d117_18 d117_21 d117_22 (fun ba bb H1 locs hka hba hbb hba1 hbb1 hSB hS => ?_)
  have fu16 := fu16.new hka hba hbb
  have hnn : ∀ i, i < 46 → ¬ ab ba bb (ad i) := nn_new hW hba hbb
  have hW := hW.new hka hba hbb hba1 hbb1
  have hAa : (MA wC ad s.heap.size) ba := hAz _ (Nat.le_trans hSz hba)
  have hAb : (MA wC ad s.heap.size) bb := hAz _ (Nat.le_trans hSz hbb)
  have hSz := hS.1
  have her := her.trans her18
  have hc1 := room_st hcc18 hc1
  have hs1 := room_st hss18 hs1
  refine lv_astore_n (pc := 25) (lv' := [(3, .ref ba), (2, .int q17.1), (1, .ref u16), (0, .ref (ad 3))]) hx hb d117_25 rfl hl (by decide) rfl (fun ls hl => ?_)
  refine lv_iconst (pc := 26) (v := 1) hx hb d117_26 (by decide) ?_
  refine lv_istore (pc := 27) (lv' := [(4, .int 1), (3, .ref ba), (2, .int q17.1), (1, .ref u16), (0, .ref (ad 3))]) hx hb d117_27 hl (by decide) rfl (fun ls hl => ?_)
  refine lv_iconst (pc := 29) (v := 2) hx hb d117_29 (by decide) ?_
  refine lv_istore (pc := 30) (lv' := [(5, .int 2), (4, .int 1), (3, .ref ba), (2, .int q17.1), (1, .ref u16), (0, .ref (ad 3))]) hx hb d117_30 hl (by decide) rfl (fun ls hl => ?_)
  exact kc32  FU q17.2 q15.1.1 q17.1 1 2 u16 (([] : TT), 16) ba bb _ _ _ _ _ _ hW hS fu16 hSB hAa hAb hnn (lv_sub hl [5, 4, 3, 2, 1, 0] rfl) her hc1 hs1 h
def tx_middle_36  (st : CS) : Option ((VV × CS) × Nat × Nat) := jd (f_vl_ofError 3) (fun q1 => some ((q1, st), 0, 0))
def f_tx_middle (st : CS) : Option ((VV × CS) × Nat × Nat) := jd (f_ar_text st 0) (fun q3 => jc (f_ar_whole q3.2 1) (fun q5 => jc (f_ar_whole q5.2 2) (fun q6 => jb (q5.1 < 1) (tx_middle_36 q6.2) (jb (0 ≤ q6.1) (jc (f_js_length q3.1) (fun q7 => jc (f_ma_min (q5.1 - 1) q7) (fun q8 => jc (f_js_length q3.1) (fun q9 => jc (f_ma_min q6.1 (q9 - q8)) (fun q10 => jd (f_js_substring q3.1 q8 (q8 + q10)) (fun q11 => jd (f_vl_ofText q11) (fun q13 => some ((q13, q6.2), 0, 0)))))))) (tx_middle_36 q6.2)))))
set_option maxHeartbeats 4000000 in
set_option maxRecDepth 100000 in
theorem c_tx_middle (l : Launch) (ρ : RH) (ad : Nat → Nat) (H : Heap) (P : Nat → Prop) (st : CS) (res : (VV × CS) × Nat × Nat) (hW : CW ρ P ad st H) (h : f_tx_middle st = some res) : Met l y118 (wsOf y118 b118 6 (some (.object "WordFunctions$Value"))) ({ frames := 16, cells := res.2.1, slots := res.2.2, locals := 698 } : Room) (va_Pc [.ref (ad 3)] (KP ρ H)) (mQ (fun v H1 => ∃ x : Nat, v = some (.ref x) ∧ isV ρ P H1 x res.1.1 ∧ CW ρ P ad res.1.2 H1) (MA wC ad H.size)) res.2.1 res.2.2 (MA wC ad H.size) := by
  refine m_ofW (own := "WordFunctions$Texts") (plainFor_of_name rfl) rfl (Nat.le_of_ble_eq_true rfl) fun p e s m args below meth c ls hx hb hr hlk _ X hs hl => ?_
  subst hs
  have hS : va_S (MA wC ad s.heap.size) s.heap s.heap [] := va_S.rf
  have hSz := hS.1
  have hAz : ∀ q, s.heap.size ≤ q → (MA wC ad s.heap.size) q := fun q hq => Or.inr hq
  have hAp : ∀ i, i < 46 → (MA wC ad s.heap.size) (ad i) := fun i hi => MA.in hi
  have hPp : ∀ i, i < 46 → P (ad i) := hW.1
  have hl : lv_has ls 6 [(0, .ref (ad 3))] := hl
  have kc36 : ∀ (st : CS) (H : Heap) (locs : List Loc) (ls : Array Slot) (cells slots : Nat) (r : (VV × CS) × Nat × Nat), CW ρ P ad st H → va_S (MA wC ad s.heap.size) s.heap H locs → lv_has ls 6 [] → res.1 = r.1 → cells + r.2.1 ≤ res.2.1 → slots + r.2.2 ≤ res.2.2 → tx_middle_36 st = some r → W p l e ({ frames := 16, cells := res.2.1, slots := res.2.2, locals := 698 } : Room) s m args below meth c H locs cells slots (MQ below (mQ (fun v H1 => ∃ x : Nat, v = some (.ref x) ∧ isV ρ P H1 x res.1.1 ∧ CW ρ P ad res.1.2 H1) (MA wC ad s.heap.size)) args s res.2.1 res.2.2 (MA wC ad s.heap.size)) (F0 m 36 ls []) := by
    intro st H locs ls cells slots r hW hS hl her hc1 hs1 h
    have hSz := hS.1
    unfold tx_middle_36 at h
    refine lv_iconst (pc := 36) (v := 3) hx hb d118_36 (by decide) ?_
    obtain ⟨q1, rq1, hq1, h, herq1, hccq1, hssq1⟩ := jd_some h
    refine k_callS (pc := 37) (n := 1) X hS (c_vl_ofError l ρ _ P 3 q1 hW.2.2.1 hW.2.1  hq1) wd651 wd931 wd650 wd4 (by decide) ⟨rfl, rfl, Nat.le_of_ble_eq_true rfl, Nat.le_of_ble_eq_true rfl⟩ (As := [.int 3]) (rest := []) rfl rfl hl.1 (Nat.le_of_ble_eq_true rfl) d118_37 ⟨room_le hccq1 hc1, room_le hssq1 hs1⟩ (fun q hq => hAz q (Nat.le_trans hS.1 hq)) (fun v H1 locs1 hv hz1 hz2 hSq1 => ?_)
    obtain ⟨u2, rfl, fu2⟩ := hv
    have hk : kp no _ H1 := kp_call hz1 hz2 (fun q hq z => absurd hq (Nat.not_lt.mpr z))
    have hW := hW.keep hk no_hz (fun _ _ z => z)
    have hS := hSq1
    have hSz := hS.1
    have her := her.trans herq1
    have hc1 := room_st hccq1 hc1
    have hs1 := room_st hssq1 hs1
    have her : res.1 = (q1.1, st) := her.trans (congrArg Prod.fst (Option.some.inj h)).symm
    exact m_aret (pc := 40) hx hb hr (Or.inl ⟨_, rfl⟩) hlk hS ⟨u2, rfl, by rw [her]; exact fu2, by rw [her]; exact hW⟩ (Nat.le_trans (Nat.le_add_right _ _) hc1) (Nat.le_trans (Nat.le_add_right _ _) hs1) d118_40
  have her : res.1 = res.1 := rfl
  have hc1 : 0 + res.2.1 ≤ res.2.1 := Nat.le_of_eq (Nat.zero_add _)
  have hs1 : 0 + res.2.2 ≤ res.2.2 := Nat.le_of_eq (Nat.zero_add _)
  unfold f_tx_middle at h
  refine lv_aload_n (pc := 0) hx hb d118_0 rfl (lv_at hl 0 rfl) ?_
  refine c_getK (pc := 1) X hW 3 0 5 1 (C := "WordFunctions$Texts") (T := T5) (N := 2) (by decide) rfl rfl rfl rfl tin5 rfl wd196 rfl rfl d118_1 ?_
  refine lv_iconst (pc := 4) (v := 0) hx hb d118_4 (by decide) ?_
  obtain ⟨q3, rq3, hq3, h, herq3, hccq3, hssq3⟩ := jd_some h
  refine k_callV (pc := 5) (n := 1) X hS (c_ar_text l ρ ad _ P st 0 q3 hW  hq3) wd868 wd865 wd866 wd867 wd3 (by decide) ⟨rfl, rfl, Nat.le_of_ble_eq_true rfl, Nat.le_of_ble_eq_true rfl⟩ (c_recv X hW 1 3 (by decide) rfl rfl) (As := [.int 0]) (rest := []) rfl rfl hl.1 (Nat.le_of_ble_eq_true rfl) d118_5 ⟨room_le hccq3 hc1, room_le hssq3 hs1⟩ (fun q hq => MA.mono hS.1 hq) (fun v H1 locs1 hv hz1 hz2 hSq3 => ?_)
  have hPq := hW.1
  obtain ⟨u4, rfl, fu4, hW⟩ := hv
  have hS := hSq3
  have hSz := hS.1
  have her := her.trans herq3
  have hc1 := room_st hccq3 hc1
  have hs1 := room_st hssq3 hs1
  refine lv_astore_n (pc := 8) (lv' := [(1, .ref u4), (0, .ref (ad 3))]) hx hb d118_8 rfl hl (by decide) rfl (fun ls hl => ?_)
  refine lv_aload_n (pc := 9) hx hb d118_9 rfl (lv_at hl 1 rfl) ?_
  refine c_getK (pc := 10) X hW 3 0 5 1 (C := "WordFunctions$Texts") (T := T5) (N := 2) (by decide) rfl rfl rfl rfl tin5 rfl wd196 rfl rfl d118_10 ?_
  refine lv_iconst (pc := 13) (v := 1) hx hb d118_13 (by decide) ?_
  obtain ⟨q5, hq5, h⟩ := jc_some h
  refine k_callV (pc := 14) (n := 1) X hS (c_ar_whole l ρ ad _ P q3.1.2 1 q5 hW  hq5) wd762 wd961 wd760 wd761 wd3 (by decide) ⟨rfl, rfl, Nat.le_of_ble_eq_true rfl, Nat.le_of_ble_eq_true rfl⟩ (c_recv X hW 1 3 (by decide) rfl rfl) (As := [.int 1]) (rest := []) rfl rfl hl.1 (Nat.le_of_ble_eq_true rfl) d118_14 ⟨room_l0 hc1, room_l0 hs1⟩ (fun q hq => MA.mono hS.1 hq) (fun v H1 locs1 hv hz1 hz2 hSq5 => ?_)
  have hPq := hW.1
  obtain ⟨rfl, hW⟩ := hv
  have hk : kp (Pm ad) _ H1 := kp_call hz1 hz2 (MA_Pm rfl)
  have fu4 := fu4.keep hk (Pm_P hPq)
  have hS := hSq5
  have hSz := hS.1
  refine lv_istore_n (pc := 17) (lv' := [(2, .int q5.1), (1, .ref u4), (0, .ref (ad 3))]) hx hb d118_17 rfl hl (by decide) rfl (fun ls hl => ?_)
  refine lv_aload_n (pc := 18) hx hb d118_18 rfl (lv_at hl 2 rfl) ?_
  refine c_getK (pc := 19) X hW 3 0 5 1 (C := "WordFunctions$Texts") (T := T5) (N := 2) (by decide) rfl rfl rfl rfl tin5 rfl wd196 rfl rfl d118_19 ?_
  refine lv_iconst (pc := 22) (v := 2) hx hb d118_22 (by decide) ?_
  obtain ⟨q6, hq6, h⟩ := jc_some h
  refine k_callV (pc := 23) (n := 1) X hS (c_ar_whole l ρ ad _ P q5.2 2 q6 hW  hq6) wd762 wd961 wd760 wd761 wd3 (by decide) ⟨rfl, rfl, Nat.le_of_ble_eq_true rfl, Nat.le_of_ble_eq_true rfl⟩ (c_recv X hW 1 3 (by decide) rfl rfl) (As := [.int 2]) (rest := []) rfl rfl hl.1 (Nat.le_of_ble_eq_true rfl) d118_23 ⟨room_l0 hc1, room_l0 hs1⟩ (fun q hq => MA.mono hS.1 hq) (fun v H1 locs1 hv hz1 hz2 hSq6 => ?_)
  have hPq := hW.1
  obtain ⟨rfl, hW⟩ := hv
  have hk : kp (Pm ad) _ H1 := kp_call hz1 hz2 (MA_Pm rfl)
  have fu4 := fu4.keep hk (Pm_P hPq)
  have hS := hSq6
  have hSz := hS.1
  refine lv_istore_n (pc := 26) (lv' := [(3, .int q6.1), (2, .int q5.1), (1, .ref u4), (0, .ref (ad 3))]) hx hb d118_26 rfl hl (by decide) rfl (fun ls hl => ?_)
  refine lv_iload_n (pc := 27) hx hb d118_27 rfl (lv_at hl 1 rfl) ?_
  refine lv_iconst (pc := 28) (v := 1) hx hb d118_28 (by decide) ?_
  refine lv_icmp_lt (pc := 29) (tgt := 36) hx hb d118_29 (by decide) (fun c29 => ?_) (fun c29 => ?_)
  · have h := jb_t c29 h
    exact kc36   q6.2 _ _ _ _ _ _ hW hS (lv_sub hl [] rfl) her hc1 hs1 h
  · have h := jb_f c29 h
    refine lv_iload_n (pc := 32) hx hb d118_32 rfl (lv_at hl 0 rfl) ?_
    refine lv_if_ge (pc := 33) (tgt := 41) hx hb d118_33 (by decide) (fun c33 => ?_) (fun c33 => ?_)
    · have h := jb_t c33 h
      refine lv_iload_n (pc := 41) hx hb d118_41 rfl (lv_at hl 1 rfl) ?_
      refine lv_iconst (pc := 42) (v := 1) hx hb d118_42 (by decide) ?_
      refine lv_isub (pc := 43) hx hb d118_43 ?_
      refine lv_aload_n (pc := 44) hx hb d118_44 rfl (lv_at hl 2 rfl) ?_
      obtain ⟨q7, hq7, h⟩ := jc_some h
      refine k_callV (pc := 45) (n := 0) X hS (c_js_length l ρ _ P u4 q3.1.1 q7 hW.2.2.1 hW.2.1 fu4 hq7) wd538 wd916 wd536 wd537 wd14 (by decide) ⟨rfl, rfl, Nat.le_of_ble_eq_true rfl, Nat.le_of_ble_eq_true rfl⟩ (s_recv X fu4) (As := []) (rest := [.int (q5.1 - 1)]) rfl rfl hl.1 (Nat.le_of_ble_eq_true rfl) d118_45 ⟨room_l0 hc1, room_l0 hs1⟩ (fun q hq => False.elim hq) (fun v H1 locs1 hv _ _ hSq7 => ?_)
      obtain ⟨rfl, rfl⟩ := hv
      have hS := hSq7
      have hSz := hS.1
      obtain ⟨q8, hq8, h⟩ := jc_some h
      refine k_callS (pc := 48) (n := 2) X hS (c_ma_min l ρ _ P (q5.1 - 1) q7 q8 hW.2.2.1 hW.2.1  hq8) wd351 wd932 wd350 wd17 (by decide) ⟨rfl, rfl, Nat.le_of_ble_eq_true rfl, Nat.le_of_ble_eq_true rfl⟩ (As := [.int (q5.1 - 1), .int q7]) (rest := []) rfl rfl hl.1 (Nat.le_of_ble_eq_true rfl) d118_48 ⟨room_l0 hc1, room_l0 hs1⟩ (fun q hq => False.elim hq) (fun v H1 locs1 hv _ _ hSq8 => ?_)
      obtain ⟨rfl, rfl⟩ := hv
      have hS := hSq8
      have hSz := hS.1
      refine lv_istore (pc := 51) (lv' := [(4, .int q8), (3, .int q6.1), (2, .int q5.1), (1, .ref u4), (0, .ref (ad 3))]) hx hb d118_51 hl (by decide) rfl (fun ls hl => ?_)
      refine lv_iload_n (pc := 53) hx hb d118_53 rfl (lv_at hl 1 rfl) ?_
      refine lv_aload_n (pc := 54) hx hb d118_54 rfl (lv_at hl 3 rfl) ?_
      obtain ⟨q9, hq9, h⟩ := jc_some h
      refine k_callV (pc := 55) (n := 0) X hS (c_js_length l ρ _ P u4 q3.1.1 q9 hW.2.2.1 hW.2.1 fu4 hq9) wd538 wd916 wd536 wd537 wd14 (by decide) ⟨rfl, rfl, Nat.le_of_ble_eq_true rfl, Nat.le_of_ble_eq_true rfl⟩ (s_recv X fu4) (As := []) (rest := [.int q6.1]) rfl rfl hl.1 (Nat.le_of_ble_eq_true rfl) d118_55 ⟨room_l0 hc1, room_l0 hs1⟩ (fun q hq => False.elim hq) (fun v H1 locs1 hv _ _ hSq9 => ?_)
      obtain ⟨rfl, rfl⟩ := hv
      have hS := hSq9
      have hSz := hS.1
      refine lv_iload (pc := 58) hx hb d118_58 (lv_at hl 0 rfl) ?_
      refine lv_isub (pc := 60) hx hb d118_60 ?_
      obtain ⟨q10, hq10, h⟩ := jc_some h
      refine k_callS (pc := 61) (n := 2) X hS (c_ma_min l ρ _ P q6.1 (q9 - q8) q10 hW.2.2.1 hW.2.1  hq10) wd351 wd932 wd350 wd17 (by decide) ⟨rfl, rfl, Nat.le_of_ble_eq_true rfl, Nat.le_of_ble_eq_true rfl⟩ (As := [.int q6.1, .int (q9 - q8)]) (rest := []) rfl rfl hl.1 (Nat.le_of_ble_eq_true rfl) d118_61 ⟨room_l0 hc1, room_l0 hs1⟩ (fun q hq => False.elim hq) (fun v H1 locs1 hv _ _ hSq10 => ?_)
      obtain ⟨rfl, rfl⟩ := hv
      have hS := hSq10
      have hSz := hS.1
      refine lv_istore (pc := 64) (lv' := [(5, .int q10), (4, .int q8), (3, .int q6.1), (2, .int q5.1), (1, .ref u4), (0, .ref (ad 3))]) hx hb d118_64 hl (by decide) rfl (fun ls hl => ?_)
      refine lv_aload_n (pc := 66) hx hb d118_66 rfl (lv_at hl 4 rfl) ?_
      refine lv_iload (pc := 67) hx hb d118_67 (lv_at hl 1 rfl) ?_
      refine lv_iload (pc := 69) hx hb d118_69 (lv_at hl 1 rfl) ?_
      refine lv_iload (pc := 71) hx hb d118_71 (lv_at hl 0 rfl) ?_
      refine lv_iadd (pc := 73) hx hb d118_73 ?_
      obtain ⟨q11, rq11, hq11, h, herq11, hccq11, hssq11⟩ := jd_some h
      refine k_callV (pc := 74) (n := 2) X hS (c_js_substring l ρ _ P u4 q3.1.1 q8 (q8 + q10) q11 hW.2.2.1 hW.2.1 fu4 hq11) wd936 wd933 wd934 wd935 wd14 (by decide) ⟨rfl, rfl, Nat.le_of_ble_eq_true rfl, Nat.le_of_ble_eq_true rfl⟩ (s_recv X fu4) (As := [.int q8, .int (q8 + q10)]) (rest := []) rfl rfl hl.1 (Nat.le_of_ble_eq_true rfl) d118_74 ⟨room_le hccq11 hc1, room_le hssq11 hs1⟩ (fun q hq => hAz q (Nat.le_trans hS.1 hq)) (fun v H1 locs1 hv hz1 hz2 hSq11 => ?_)
      obtain ⟨u12, rfl, fu12⟩ := hv
      have hk : kp no _ H1 := kp_call hz1 hz2 (fun q hq z => absurd hq (Nat.not_lt.mpr z))
      have hW := hW.keep hk no_hz (fun _ _ z => z)
      have hS := hSq11
      have hSz := hS.1
      have her := her.trans herq11
      have hc1 := room_st hccq11 hc1
      have hs1 := room_st hssq11 hs1
      obtain ⟨q13, rq13, hq13, h, herq13, hccq13, hssq13⟩ := jd_some h
      refine k_callS (pc := 77) (n := 1) X hS (c_vl_ofText l ρ _ P u12 q11.1 q13 hW.2.2.1 hW.2.1 fu12 hq13) wd658 wd956 wd657 wd4 (by decide) ⟨rfl, rfl, Nat.le_of_ble_eq_true rfl, Nat.le_of_ble_eq_true rfl⟩ (As := [.ref u12]) (rest := []) rfl rfl hl.1 (Nat.le_of_ble_eq_true rfl) d118_77 ⟨room_le hccq13 hc1, room_le hssq13 hs1⟩ (fun q hq => hAz q (Nat.le_trans hS.1 hq)) (fun v H1 locs1 hv hz1 hz2 hSq13 => ?_)
      obtain ⟨u14, rfl, fu14⟩ := hv
      have hk : kp no _ H1 := kp_call hz1 hz2 (fun q hq z => absurd hq (Nat.not_lt.mpr z))
      have hW := hW.keep hk no_hz (fun _ _ z => z)
      have hS := hSq13
      have hSz := hS.1
      have her := her.trans herq13
      have hc1 := room_st hccq13 hc1
      have hs1 := room_st hssq13 hs1
      have her : res.1 = (q13.1, q6.2) := her.trans (congrArg Prod.fst (Option.some.inj h)).symm
      exact m_aret (pc := 80) hx hb hr (Or.inl ⟨_, rfl⟩) hlk hS ⟨u14, rfl, by rw [her]; exact fu14, by rw [her]; exact hW⟩ (Nat.le_trans (Nat.le_add_right _ _) hc1) (Nat.le_trans (Nat.le_add_right _ _) hs1) d118_80
    · have h := jb_f c33 h
      exact kc36   q6.2 _ _ _ _ _ _ hW hS (lv_sub hl [] rfl) her hc1 hs1 h
def tx_side_53  (st : CS) (x2 : TT) (x4 : Int32) (z0 : Int32) : Option ((VV × CS) × Nat × Nat) := jd (f_js_substring x2 z0 (z0 + x4)) (fun q1 => jd (f_vl_ofText q1) (fun q3 => some ((q3, st), 0, 0)))
def f_tx_side (st : CS) (p0 : Int32) : Option ((VV × CS) × Nat × Nat) := jd (f_ar_text st 0) (fun q5 => jc (f_ar_wholeOr q5.2 1 1) (fun q7 => jb (0 ≤ q7.1) (jc (f_js_length q5.1) (fun q8 => jc (f_ma_min q7.1 q8) (fun q9 => jb (p0 = 0) (tx_side_53 q7.2 q5.1 q9 0) (jc (f_js_length q5.1) (fun q10 => tx_side_53 q7.2 q5.1 q9 (q10 - q9)))))) (jd (f_vl_ofError 3) (fun q11 => some ((q11, q7.2), 0, 0)))))
set_option maxHeartbeats 4000000 in
set_option maxRecDepth 100000 in
theorem c_tx_side (l : Launch) (ρ : RH) (ad : Nat → Nat) (H : Heap) (P : Nat → Prop) (st : CS) (p0 : Int32) (res : (VV × CS) × Nat × Nat) (hW : CW ρ P ad st H) (h : f_tx_side st p0 = some res) : Met l y125 (wsOf y125 b125 6 (some (.object "WordFunctions$Value"))) ({ frames := 17, cells := res.2.1, slots := res.2.2, locals := 720 } : Room) (va_Pc [.ref (ad 3), .int p0] (KP ρ H)) (mQ (fun v H1 => ∃ x : Nat, v = some (.ref x) ∧ isV ρ P H1 x res.1.1 ∧ CW ρ P ad res.1.2 H1) (MA wC ad H.size)) res.2.1 res.2.2 (MA wC ad H.size) := by
  refine m_ofW (own := "WordFunctions$Texts") (plainFor_of_name rfl) rfl (Nat.le_of_ble_eq_true rfl) fun p e s m args below meth c ls hx hb hr hlk _ X hs hl => ?_
  subst hs
  have hS : va_S (MA wC ad s.heap.size) s.heap s.heap [] := va_S.rf
  have hSz := hS.1
  have hAz : ∀ q, s.heap.size ≤ q → (MA wC ad s.heap.size) q := fun q hq => Or.inr hq
  have hAp : ∀ i, i < 46 → (MA wC ad s.heap.size) (ad i) := fun i hi => MA.in hi
  have hPp : ∀ i, i < 46 → P (ad i) := hW.1
  have hl : lv_has ls 6 [(0, .ref (ad 3)), (1, .int p0)] := hl
  have kc53 : ∀ (st : CS) (x2 : TT) (x4 : Int32) (z0 : Int32) (ax2 : Nat) (H : Heap) (locs : List Loc) (ls : Array Slot) (cells slots : Nat) (r : (VV × CS) × Nat × Nat), CW ρ P ad st H → va_S (MA wC ad s.heap.size) s.heap H locs → isS ρ P H ax2 x2 → lv_has ls 6 [(2, .ref ax2), (4, .int x4)] → res.1 = r.1 → cells + r.2.1 ≤ res.2.1 → slots + r.2.2 ≤ res.2.2 → tx_side_53 st x2 x4 z0 = some r → W p l e ({ frames := 17, cells := res.2.1, slots := res.2.2, locals := 720 } : Room) s m args below meth c H locs cells slots (MQ below (mQ (fun v H1 => ∃ x : Nat, v = some (.ref x) ∧ isV ρ P H1 x res.1.1 ∧ CW ρ P ad res.1.2 H1) (MA wC ad s.heap.size)) args s res.2.1 res.2.2 (MA wC ad s.heap.size)) (F0 m 53 ls [.int z0]) := by
    intro st x2 x4 z0 ax2 H locs ls cells slots r hW hS fax2 hl her hc1 hs1 h
    have hSz := hS.1
    unfold tx_side_53 at h
    refine lv_istore (pc := 53) (lv' := [(5, .int z0), (2, .ref ax2), (4, .int x4)]) hx hb d125_53 hl (by decide) rfl (fun ls hl => ?_)
    refine lv_aload_n (pc := 55) hx hb d125_55 rfl (lv_at hl 1 rfl) ?_
    refine lv_iload (pc := 56) hx hb d125_56 (lv_at hl 0 rfl) ?_
    refine lv_iload (pc := 58) hx hb d125_58 (lv_at hl 0 rfl) ?_
    refine lv_iload (pc := 60) hx hb d125_60 (lv_at hl 2 rfl) ?_
    refine lv_iadd (pc := 62) hx hb d125_62 ?_
    obtain ⟨q1, rq1, hq1, h, herq1, hccq1, hssq1⟩ := jd_some h
    refine k_callV (pc := 63) (n := 2) X hS (c_js_substring l ρ _ P ax2 x2 z0 (z0 + x4) q1 hW.2.2.1 hW.2.1 fax2 hq1) wd936 wd933 wd934 wd935 wd14 (by decide) ⟨rfl, rfl, Nat.le_of_ble_eq_true rfl, Nat.le_of_ble_eq_true rfl⟩ (s_recv X fax2) (As := [.int z0, .int (z0 + x4)]) (rest := []) rfl rfl hl.1 (Nat.le_of_ble_eq_true rfl) d125_63 ⟨room_le hccq1 hc1, room_le hssq1 hs1⟩ (fun q hq => hAz q (Nat.le_trans hS.1 hq)) (fun v H1 locs1 hv hz1 hz2 hSq1 => ?_)
    obtain ⟨u2, rfl, fu2⟩ := hv
    have hk : kp no _ H1 := kp_call hz1 hz2 (fun q hq z => absurd hq (Nat.not_lt.mpr z))
    have hW := hW.keep hk no_hz (fun _ _ z => z)
    have hS := hSq1
    have hSz := hS.1
    have her := her.trans herq1
    have hc1 := room_st hccq1 hc1
    have hs1 := room_st hssq1 hs1
    obtain ⟨q3, rq3, hq3, h, herq3, hccq3, hssq3⟩ := jd_some h
    refine k_callS (pc := 66) (n := 1) X hS (c_vl_ofText l ρ _ P u2 q1.1 q3 hW.2.2.1 hW.2.1 fu2 hq3) wd658 wd956 wd657 wd4 (by decide) ⟨rfl, rfl, Nat.le_of_ble_eq_true rfl, Nat.le_of_ble_eq_true rfl⟩ (As := [.ref u2]) (rest := []) rfl rfl hl.1 (Nat.le_of_ble_eq_true rfl) d125_66 ⟨room_le hccq3 hc1, room_le hssq3 hs1⟩ (fun q hq => hAz q (Nat.le_trans hS.1 hq)) (fun v H1 locs1 hv hz1 hz2 hSq3 => ?_)
    obtain ⟨u4, rfl, fu4⟩ := hv
    have hk : kp no _ H1 := kp_call hz1 hz2 (fun q hq z => absurd hq (Nat.not_lt.mpr z))
    have hW := hW.keep hk no_hz (fun _ _ z => z)
    have hS := hSq3
    have hSz := hS.1
    have her := her.trans herq3
    have hc1 := room_st hccq3 hc1
    have hs1 := room_st hssq3 hs1
    have her : res.1 = (q3.1, st) := her.trans (congrArg Prod.fst (Option.some.inj h)).symm
    exact m_aret (pc := 69) hx hb hr (Or.inl ⟨_, rfl⟩) hlk hS ⟨u4, rfl, by rw [her]; exact fu4, by rw [her]; exact hW⟩ (Nat.le_trans (Nat.le_add_right _ _) hc1) (Nat.le_trans (Nat.le_add_right _ _) hs1) d125_69
  have her : res.1 = res.1 := rfl
  have hc1 : 0 + res.2.1 ≤ res.2.1 := Nat.le_of_eq (Nat.zero_add _)
  have hs1 : 0 + res.2.2 ≤ res.2.2 := Nat.le_of_eq (Nat.zero_add _)
  unfold f_tx_side at h
  refine lv_aload_n (pc := 0) hx hb d125_0 rfl (lv_at hl 0 rfl) ?_
  refine c_getK (pc := 1) X hW 3 0 5 1 (C := "WordFunctions$Texts") (T := T5) (N := 2) (by decide) rfl rfl rfl rfl tin5 rfl wd196 rfl rfl d125_1 ?_
  refine lv_iconst (pc := 4) (v := 0) hx hb d125_4 (by decide) ?_
  obtain ⟨q5, rq5, hq5, h, herq5, hccq5, hssq5⟩ := jd_some h
  refine k_callV (pc := 5) (n := 1) X hS (c_ar_text l ρ ad _ P st 0 q5 hW  hq5) wd868 wd865 wd866 wd867 wd3 (by decide) ⟨rfl, rfl, Nat.le_of_ble_eq_true rfl, Nat.le_of_ble_eq_true rfl⟩ (c_recv X hW 1 3 (by decide) rfl rfl) (As := [.int 0]) (rest := []) rfl rfl hl.1 (Nat.le_of_ble_eq_true rfl) d125_5 ⟨room_le hccq5 hc1, room_le hssq5 hs1⟩ (fun q hq => MA.mono hS.1 hq) (fun v H1 locs1 hv hz1 hz2 hSq5 => ?_)
  have hPq := hW.1
  obtain ⟨u6, rfl, fu6, hW⟩ := hv
  have hS := hSq5
  have hSz := hS.1
  have her := her.trans herq5
  have hc1 := room_st hccq5 hc1
  have hs1 := room_st hssq5 hs1
  refine lv_astore_n (pc := 8) (lv' := [(2, .ref u6), (0, .ref (ad 3)), (1, .int p0)]) hx hb d125_8 rfl hl (by decide) rfl (fun ls hl => ?_)
  refine lv_aload_n (pc := 9) hx hb d125_9 rfl (lv_at hl 1 rfl) ?_
  refine c_getK (pc := 10) X hW 3 0 5 1 (C := "WordFunctions$Texts") (T := T5) (N := 2) (by decide) rfl rfl rfl rfl tin5 rfl wd196 rfl rfl d125_10 ?_
  refine lv_iconst (pc := 13) (v := 1) hx hb d125_13 (by decide) ?_
  refine lv_iconst (pc := 14) (v := 1) hx hb d125_14 (by decide) ?_
  obtain ⟨q7, hq7, h⟩ := jc_some h
  refine k_callV (pc := 15) (n := 2) X hS (c_ar_wholeOr l ρ ad _ P q5.1.2 1 1 q7 hW  hq7) wd925 wd922 wd923 wd924 wd3 (by decide) ⟨rfl, rfl, Nat.le_of_ble_eq_true rfl, Nat.le_of_ble_eq_true rfl⟩ (c_recv X hW 1 3 (by decide) rfl rfl) (As := [.int 1, .int 1]) (rest := []) rfl rfl hl.1 (Nat.le_of_ble_eq_true rfl) d125_15 ⟨room_l0 hc1, room_l0 hs1⟩ (fun q hq => MA.mono hS.1 hq) (fun v H1 locs1 hv hz1 hz2 hSq7 => ?_)
  have hPq := hW.1
  obtain ⟨rfl, hW⟩ := hv
  have hk : kp (Pm ad) _ H1 := kp_call hz1 hz2 (MA_Pm rfl)
  have fu6 := fu6.keep hk (Pm_P hPq)
  have hS := hSq7
  have hSz := hS.1
  refine lv_istore_n (pc := 18) (lv' := [(3, .int q7.1), (2, .ref u6), (0, .ref (ad 3)), (1, .int p0)]) hx hb d125_18 rfl hl (by decide) rfl (fun ls hl => ?_)
  refine lv_iload_n (pc := 19) hx hb d125_19 rfl (lv_at hl 0 rfl) ?_
  refine lv_if_ge (pc := 20) (tgt := 28) hx hb d125_20 (by decide) (fun c20 => ?_) (fun c20 => ?_)
  · have h := jb_t c20 h
    refine lv_iload_n (pc := 28) hx hb d125_28 rfl (lv_at hl 0 rfl) ?_
    refine lv_aload_n (pc := 29) hx hb d125_29 rfl (lv_at hl 1 rfl) ?_
    obtain ⟨q8, hq8, h⟩ := jc_some h
    refine k_callV (pc := 30) (n := 0) X hS (c_js_length l ρ _ P u6 q5.1.1 q8 hW.2.2.1 hW.2.1 fu6 hq8) wd538 wd916 wd536 wd537 wd14 (by decide) ⟨rfl, rfl, Nat.le_of_ble_eq_true rfl, Nat.le_of_ble_eq_true rfl⟩ (s_recv X fu6) (As := []) (rest := [.int q7.1]) rfl rfl hl.1 (Nat.le_of_ble_eq_true rfl) d125_30 ⟨room_l0 hc1, room_l0 hs1⟩ (fun q hq => False.elim hq) (fun v H1 locs1 hv _ _ hSq8 => ?_)
    obtain ⟨rfl, rfl⟩ := hv
    have hS := hSq8
    have hSz := hS.1
    obtain ⟨q9, hq9, h⟩ := jc_some h
    refine k_callS (pc := 33) (n := 2) X hS (c_ma_min l ρ _ P q7.1 q8 q9 hW.2.2.1 hW.2.1  hq9) wd351 wd932 wd350 wd17 (by decide) ⟨rfl, rfl, Nat.le_of_ble_eq_true rfl, Nat.le_of_ble_eq_true rfl⟩ (As := [.int q7.1, .int q8]) (rest := []) rfl rfl hl.1 (Nat.le_of_ble_eq_true rfl) d125_33 ⟨room_l0 hc1, room_l0 hs1⟩ (fun q hq => False.elim hq) (fun v H1 locs1 hv _ _ hSq9 => ?_)
    obtain ⟨rfl, rfl⟩ := hv
    have hS := hSq9
    have hSz := hS.1
    refine lv_istore (pc := 36) (lv' := [(4, .int q9), (3, .int q7.1), (2, .ref u6), (0, .ref (ad 3)), (1, .int p0)]) hx hb d125_36 hl (by decide) rfl (fun ls hl => ?_)
    refine lv_iload_n (pc := 38) hx hb d125_38 rfl (lv_at hl 4 rfl) ?_
    refine lv_if_eq (pc := 39) (tgt := 52) hx hb d125_39 (by decide) (fun c39 => ?_) (fun c39 => ?_)
    · have h := jb_t c39 h
      refine lv_iconst (pc := 52) (v := 0) hx hb d125_52 (by decide) ?_
      exact kc53   q7.2 q5.1.1 q9 0 u6 _ _ _ _ _ _ hW hS fu6 (lv_sub hl [2, 0] rfl) her hc1 hs1 h
    · have h := jb_f c39 h
      refine lv_aload_n (pc := 42) hx hb d125_42 rfl (lv_at hl 2 rfl) ?_
      obtain ⟨q10, hq10, h⟩ := jc_some h
      refine k_callV (pc := 43) (n := 0) X hS (c_js_length l ρ _ P u6 q5.1.1 q10 hW.2.2.1 hW.2.1 fu6 hq10) wd538 wd916 wd536 wd537 wd14 (by decide) ⟨rfl, rfl, Nat.le_of_ble_eq_true rfl, Nat.le_of_ble_eq_true rfl⟩ (s_recv X fu6) (As := []) (rest := []) rfl rfl hl.1 (Nat.le_of_ble_eq_true rfl) d125_43 ⟨room_l0 hc1, room_l0 hs1⟩ (fun q hq => False.elim hq) (fun v H1 locs1 hv _ _ hSq10 => ?_)
      obtain ⟨rfl, rfl⟩ := hv
      have hS := hSq10
      have hSz := hS.1
      refine lv_iload (pc := 46) hx hb d125_46 (lv_at hl 0 rfl) ?_
      refine lv_isub (pc := 48) hx hb d125_48 ?_
      refine lv_goto (pc := 49) (tgt := 53) hx hb d125_49 (by decide) ?_
      exact kc53   q7.2 q5.1.1 q9 (q10 - q9) u6 _ _ _ _ _ _ hW hS fu6 (lv_sub hl [2, 0] rfl) her hc1 hs1 h
  · have h := jb_f c20 h
    refine lv_iconst (pc := 23) (v := 3) hx hb d125_23 (by decide) ?_
    obtain ⟨q11, rq11, hq11, h, herq11, hccq11, hssq11⟩ := jd_some h
    refine k_callS (pc := 24) (n := 1) X hS (c_vl_ofError l ρ _ P 3 q11 hW.2.2.1 hW.2.1  hq11) wd651 wd931 wd650 wd4 (by decide) ⟨rfl, rfl, Nat.le_of_ble_eq_true rfl, Nat.le_of_ble_eq_true rfl⟩ (As := [.int 3]) (rest := []) rfl rfl hl.1 (Nat.le_of_ble_eq_true rfl) d125_24 ⟨room_le hccq11 hc1, room_le hssq11 hs1⟩ (fun q hq => hAz q (Nat.le_trans hS.1 hq)) (fun v H1 locs1 hv hz1 hz2 hSq11 => ?_)
    obtain ⟨u12, rfl, fu12⟩ := hv
    have hk : kp no _ H1 := kp_call hz1 hz2 (fun q hq z => absurd hq (Nat.not_lt.mpr z))
    have hW := hW.keep hk no_hz (fun _ _ z => z)
    have hS := hSq11
    have hSz := hS.1
    have her := her.trans herq11
    have hc1 := room_st hccq11 hc1
    have hs1 := room_st hssq11 hs1
    have her : res.1 = (q11.1, q7.2) := her.trans (congrArg Prod.fst (Option.some.inj h)).symm
    exact m_aret (pc := 27) hx hb hr (Or.inl ⟨_, rfl⟩) hlk hS ⟨u12, rfl, by rw [her]; exact fu12, by rw [her]; exact hW⟩ (Nat.le_trans (Nat.le_add_right _ _) hc1) (Nat.le_trans (Nat.le_add_right _ _) hs1) d125_27
def tx_search_43  (st : CS) : Option ((VV × CS) × Nat × Nat) := jd (f_vl_ofError 3) (fun q1 => some ((q1, st), 0, 0))
def f_tx_search (st : CS) : Option ((VV × CS) × Nat × Nat) := jd (f_ar_text st 0) (fun q3 => jd (f_ar_text q3.2 1) (fun q5 => jc (f_ar_wholeOr q5.2 2 1) (fun q7 => jb (q7.1 < 1) (tx_search_43 q7.2) (jc (f_js_length q5.1) (fun q8 => jb (q7.1 ≤ (q8 + 1)) (jc (f_pa_read q7.2 q3.1) (fun q9 => jc (f_pa_placeIn q9 q5.1 (q7.1 - 1)) (fun q10 => jb (q10.1 = (-1)) (jd (f_vl_ofError 3) (fun q13 => some ((q13, q10.2), 0, 0))) (jd (f_vl_ofNumber (FP.i2d (q10.1 + 1))) (fun q11 => some ((q11, q10.2), 0, 0)))))) (tx_search_43 q7.2))))))
set_option maxHeartbeats 4000000 in
set_option maxRecDepth 100000 in
theorem c_tx_search (l : Launch) (ρ : RH) (ad : Nat → Nat) (H : Heap) (P : Nat → Prop) (st : CS) (res : (VV × CS) × Nat × Nat) (hW : CW ρ P ad st H) (h : f_tx_search st = some res) : Met l y124 (wsOf y124 b124 5 (some (.object "WordFunctions$Value"))) ({ frames := 17, cells := res.2.1, slots := res.2.2, locals := 720 } : Room) (va_Pc [.ref (ad 3)] (KP ρ H)) (mQ (fun v H1 => ∃ x : Nat, v = some (.ref x) ∧ isV ρ P H1 x res.1.1 ∧ CW ρ P ad res.1.2 H1) (MA wC ad H.size)) res.2.1 res.2.2 (MA wC ad H.size) := by
  refine m_ofW (own := "WordFunctions$Texts") (plainFor_of_name rfl) rfl (Nat.le_of_ble_eq_true rfl) fun p e s m args below meth c ls hx hb hr hlk _ X hs hl => ?_
  subst hs
  have hS : va_S (MA wC ad s.heap.size) s.heap s.heap [] := va_S.rf
  have hSz := hS.1
  have hAz : ∀ q, s.heap.size ≤ q → (MA wC ad s.heap.size) q := fun q hq => Or.inr hq
  have hAp : ∀ i, i < 46 → (MA wC ad s.heap.size) (ad i) := fun i hi => MA.in hi
  have hPp : ∀ i, i < 46 → P (ad i) := hW.1
  have hl : lv_has ls 5 [(0, .ref (ad 3))] := hl
  have kc43 : ∀ (st : CS) (H : Heap) (locs : List Loc) (ls : Array Slot) (cells slots : Nat) (r : (VV × CS) × Nat × Nat), CW ρ P ad st H → va_S (MA wC ad s.heap.size) s.heap H locs → lv_has ls 5 [] → res.1 = r.1 → cells + r.2.1 ≤ res.2.1 → slots + r.2.2 ≤ res.2.2 → tx_search_43 st = some r → W p l e ({ frames := 17, cells := res.2.1, slots := res.2.2, locals := 720 } : Room) s m args below meth c H locs cells slots (MQ below (mQ (fun v H1 => ∃ x : Nat, v = some (.ref x) ∧ isV ρ P H1 x res.1.1 ∧ CW ρ P ad res.1.2 H1) (MA wC ad s.heap.size)) args s res.2.1 res.2.2 (MA wC ad s.heap.size)) (F0 m 43 ls []) := by
    intro st H locs ls cells slots r hW hS hl her hc1 hs1 h
    have hSz := hS.1
    unfold tx_search_43 at h
    refine lv_iconst (pc := 43) (v := 3) hx hb d124_43 (by decide) ?_
    obtain ⟨q1, rq1, hq1, h, herq1, hccq1, hssq1⟩ := jd_some h
    refine k_callS (pc := 44) (n := 1) X hS (c_vl_ofError l ρ _ P 3 q1 hW.2.2.1 hW.2.1  hq1) wd651 wd931 wd650 wd4 (by decide) ⟨rfl, rfl, Nat.le_of_ble_eq_true rfl, Nat.le_of_ble_eq_true rfl⟩ (As := [.int 3]) (rest := []) rfl rfl hl.1 (Nat.le_of_ble_eq_true rfl) d124_44 ⟨room_le hccq1 hc1, room_le hssq1 hs1⟩ (fun q hq => hAz q (Nat.le_trans hS.1 hq)) (fun v H1 locs1 hv hz1 hz2 hSq1 => ?_)
    obtain ⟨u2, rfl, fu2⟩ := hv
    have hk : kp no _ H1 := kp_call hz1 hz2 (fun q hq z => absurd hq (Nat.not_lt.mpr z))
    have hW := hW.keep hk no_hz (fun _ _ z => z)
    have hS := hSq1
    have hSz := hS.1
    have her := her.trans herq1
    have hc1 := room_st hccq1 hc1
    have hs1 := room_st hssq1 hs1
    have her : res.1 = (q1.1, st) := her.trans (congrArg Prod.fst (Option.some.inj h)).symm
    exact m_aret (pc := 47) hx hb hr (Or.inl ⟨_, rfl⟩) hlk hS ⟨u2, rfl, by rw [her]; exact fu2, by rw [her]; exact hW⟩ (Nat.le_trans (Nat.le_add_right _ _) hc1) (Nat.le_trans (Nat.le_add_right _ _) hs1) d124_47
  have her : res.1 = res.1 := rfl
  have hc1 : 0 + res.2.1 ≤ res.2.1 := Nat.le_of_eq (Nat.zero_add _)
  have hs1 : 0 + res.2.2 ≤ res.2.2 := Nat.le_of_eq (Nat.zero_add _)
  unfold f_tx_search at h
  refine lv_aload_n (pc := 0) hx hb d124_0 rfl (lv_at hl 0 rfl) ?_
  refine c_getK (pc := 1) X hW 3 0 5 1 (C := "WordFunctions$Texts") (T := T5) (N := 2) (by decide) rfl rfl rfl rfl tin5 rfl wd196 rfl rfl d124_1 ?_
  refine lv_iconst (pc := 4) (v := 0) hx hb d124_4 (by decide) ?_
  obtain ⟨q3, rq3, hq3, h, herq3, hccq3, hssq3⟩ := jd_some h
  refine k_callV (pc := 5) (n := 1) X hS (c_ar_text l ρ ad _ P st 0 q3 hW  hq3) wd868 wd865 wd866 wd867 wd3 (by decide) ⟨rfl, rfl, Nat.le_of_ble_eq_true rfl, Nat.le_of_ble_eq_true rfl⟩ (c_recv X hW 1 3 (by decide) rfl rfl) (As := [.int 0]) (rest := []) rfl rfl hl.1 (Nat.le_of_ble_eq_true rfl) d124_5 ⟨room_le hccq3 hc1, room_le hssq3 hs1⟩ (fun q hq => MA.mono hS.1 hq) (fun v H1 locs1 hv hz1 hz2 hSq3 => ?_)
  have hPq := hW.1
  obtain ⟨u4, rfl, fu4, hW⟩ := hv
  have hS := hSq3
  have hSz := hS.1
  have her := her.trans herq3
  have hc1 := room_st hccq3 hc1
  have hs1 := room_st hssq3 hs1
  refine lv_astore_n (pc := 8) (lv' := [(1, .ref u4), (0, .ref (ad 3))]) hx hb d124_8 rfl hl (by decide) rfl (fun ls hl => ?_)
  refine lv_aload_n (pc := 9) hx hb d124_9 rfl (lv_at hl 1 rfl) ?_
  refine c_getK (pc := 10) X hW 3 0 5 1 (C := "WordFunctions$Texts") (T := T5) (N := 2) (by decide) rfl rfl rfl rfl tin5 rfl wd196 rfl rfl d124_10 ?_
  refine lv_iconst (pc := 13) (v := 1) hx hb d124_13 (by decide) ?_
  obtain ⟨q5, rq5, hq5, h, herq5, hccq5, hssq5⟩ := jd_some h
  refine k_callV (pc := 14) (n := 1) X hS (c_ar_text l ρ ad _ P q3.1.2 1 q5 hW  hq5) wd868 wd865 wd866 wd867 wd3 (by decide) ⟨rfl, rfl, Nat.le_of_ble_eq_true rfl, Nat.le_of_ble_eq_true rfl⟩ (c_recv X hW 1 3 (by decide) rfl rfl) (As := [.int 1]) (rest := []) rfl rfl hl.1 (Nat.le_of_ble_eq_true rfl) d124_14 ⟨room_le hccq5 hc1, room_le hssq5 hs1⟩ (fun q hq => MA.mono hS.1 hq) (fun v H1 locs1 hv hz1 hz2 hSq5 => ?_)
  have hPq := hW.1
  obtain ⟨u6, rfl, fu6, hW⟩ := hv
  have hk : kp (Pm ad) _ H1 := kp_call hz1 hz2 (MA_Pm rfl)
  have fu4 := fu4.keep hk (Pm_P hPq)
  have hS := hSq5
  have hSz := hS.1
  have her := her.trans herq5
  have hc1 := room_st hccq5 hc1
  have hs1 := room_st hssq5 hs1
  refine lv_astore_n (pc := 17) (lv' := [(2, .ref u6), (1, .ref u4), (0, .ref (ad 3))]) hx hb d124_17 rfl hl (by decide) rfl (fun ls hl => ?_)
  refine lv_aload_n (pc := 18) hx hb d124_18 rfl (lv_at hl 2 rfl) ?_
  refine c_getK (pc := 19) X hW 3 0 5 1 (C := "WordFunctions$Texts") (T := T5) (N := 2) (by decide) rfl rfl rfl rfl tin5 rfl wd196 rfl rfl d124_19 ?_
  refine lv_iconst (pc := 22) (v := 2) hx hb d124_22 (by decide) ?_
  refine lv_iconst (pc := 23) (v := 1) hx hb d124_23 (by decide) ?_
  obtain ⟨q7, hq7, h⟩ := jc_some h
  refine k_callV (pc := 24) (n := 2) X hS (c_ar_wholeOr l ρ ad _ P q5.1.2 2 1 q7 hW  hq7) wd925 wd922 wd923 wd924 wd3 (by decide) ⟨rfl, rfl, Nat.le_of_ble_eq_true rfl, Nat.le_of_ble_eq_true rfl⟩ (c_recv X hW 1 3 (by decide) rfl rfl) (As := [.int 2, .int 1]) (rest := []) rfl rfl hl.1 (Nat.le_of_ble_eq_true rfl) d124_24 ⟨room_l0 hc1, room_l0 hs1⟩ (fun q hq => MA.mono hS.1 hq) (fun v H1 locs1 hv hz1 hz2 hSq7 => ?_)
  have hPq := hW.1
  obtain ⟨rfl, hW⟩ := hv
  have hk : kp (Pm ad) _ H1 := kp_call hz1 hz2 (MA_Pm rfl)
  have fu6 := fu6.keep hk (Pm_P hPq)
  have fu4 := fu4.keep hk (Pm_P hPq)
  have hS := hSq7
  have hSz := hS.1
  refine lv_istore_n (pc := 27) (lv' := [(3, .int q7.1), (2, .ref u6), (1, .ref u4), (0, .ref (ad 3))]) hx hb d124_27 rfl hl (by decide) rfl (fun ls hl => ?_)
  refine lv_iload_n (pc := 28) hx hb d124_28 rfl (lv_at hl 0 rfl) ?_
  refine lv_iconst (pc := 29) (v := 1) hx hb d124_29 (by decide) ?_
  refine lv_icmp_lt (pc := 30) (tgt := 43) hx hb d124_30 (by decide) (fun c30 => ?_) (fun c30 => ?_)
  · have h := jb_t c30 h
    exact kc43   q7.2 _ _ _ _ _ _ hW hS (lv_sub hl [] rfl) her hc1 hs1 h
  · have h := jb_f c30 h
    refine lv_iload_n (pc := 33) hx hb d124_33 rfl (lv_at hl 0 rfl) ?_
    refine lv_aload_n (pc := 34) hx hb d124_34 rfl (lv_at hl 1 rfl) ?_
    obtain ⟨q8, hq8, h⟩ := jc_some h
    refine k_callV (pc := 35) (n := 0) X hS (c_js_length l ρ _ P u6 q5.1.1 q8 hW.2.2.1 hW.2.1 fu6 hq8) wd538 wd916 wd536 wd537 wd14 (by decide) ⟨rfl, rfl, Nat.le_of_ble_eq_true rfl, Nat.le_of_ble_eq_true rfl⟩ (s_recv X fu6) (As := []) (rest := [.int q7.1]) rfl rfl hl.1 (Nat.le_of_ble_eq_true rfl) d124_35 ⟨room_l0 hc1, room_l0 hs1⟩ (fun q hq => False.elim hq) (fun v H1 locs1 hv _ _ hSq8 => ?_)
    obtain ⟨rfl, rfl⟩ := hv
    have hS := hSq8
    have hSz := hS.1
    refine lv_iconst (pc := 38) (v := 1) hx hb d124_38 (by decide) ?_
    refine lv_iadd (pc := 39) hx hb d124_39 ?_
    refine lv_icmp_le (pc := 40) (tgt := 48) hx hb d124_40 (by decide) (fun c40 => ?_) (fun c40 => ?_)
    · have h := jb_t c40 h
      refine lv_aload_n (pc := 48) hx hb d124_48 rfl (lv_at hl 3 rfl) ?_
      refine c_getK (pc := 49) X hW 3 1 5 7 (C := "WordFunctions$Texts") (T := T5) (N := 2) (by decide) rfl rfl rfl rfl tin5 rfl wd197 rfl rfl d124_49 ?_
      refine lv_aload_n (pc := 52) hx hb d124_52 rfl (lv_at hl 2 rfl) ?_
      obtain ⟨q9, hq9, h⟩ := jc_some h
      refine k_callV (pc := 53) (n := 1) X hS (c_pa_read l ρ ad _ P q7.2 u4 q3.1.1 q9 hW fu4 hq9) wd977 wd974 wd975 wd976 wd2 (by decide) ⟨rfl, rfl, Nat.le_of_ble_eq_true rfl, Nat.le_of_ble_eq_true rfl⟩ (c_recv X hW 7 0 (by decide) rfl rfl) (As := [.ref u4]) (rest := []) rfl rfl hl.1 (Nat.le_of_ble_eq_true rfl) d124_53 ⟨room_l0 hc1, room_l0 hs1⟩ (fun q hq => MA.mono hS.1 hq) (fun v H1 locs1 hv hz1 hz2 hSq9 => ?_)
      have hPq := hW.1
      obtain ⟨rfl, hW⟩ := hv
      have hk : kp (Pm ad) _ H1 := kp_call hz1 hz2 (MA_Pm rfl)
      have fu6 := fu6.keep hk (Pm_P hPq)
      have hS := hSq9
      have hSz := hS.1
      refine lv_aload_n (pc := 56) hx hb d124_56 rfl (lv_at hl 3 rfl) ?_
      refine c_getK (pc := 57) X hW 3 1 5 7 (C := "WordFunctions$Texts") (T := T5) (N := 2) (by decide) rfl rfl rfl rfl tin5 rfl wd197 rfl rfl d124_57 ?_
      refine lv_aload_n (pc := 60) hx hb d124_60 rfl (lv_at hl 1 rfl) ?_
      refine lv_iload_n (pc := 61) hx hb d124_61 rfl (lv_at hl 0 rfl) ?_
      refine lv_iconst (pc := 62) (v := 1) hx hb d124_62 (by decide) ?_
      refine lv_isub (pc := 63) hx hb d124_63 ?_
      obtain ⟨q10, hq10, h⟩ := jc_some h
      refine k_callV (pc := 64) (n := 2) X hS (c_pa_placeIn l ρ ad _ P q9 u6 q5.1.1 (q7.1 - 1) q10 hW fu6 hq10) wd989 wd986 wd987 wd988 wd2 (by decide) ⟨rfl, rfl, Nat.le_of_ble_eq_true rfl, Nat.le_of_ble_eq_true rfl⟩ (c_recv X hW 7 0 (by decide) rfl rfl) (As := [.ref u6, .int (q7.1 - 1)]) (rest := []) rfl rfl hl.1 (Nat.le_of_ble_eq_true rfl) d124_64 ⟨room_l0 hc1, room_l0 hs1⟩ (fun q hq => MA.mono hS.1 hq) (fun v H1 locs1 hv hz1 hz2 hSq10 => ?_)
      have hPq := hW.1
      obtain ⟨rfl, hW⟩ := hv
      have hS := hSq10
      have hSz := hS.1
      refine lv_istore (pc := 67) (lv' := [(4, .int q10.1), (3, .int q7.1), (2, .ref u6), (1, .ref u4), (0, .ref (ad 3))]) hx hb d124_67 hl (by decide) rfl (fun ls hl => ?_)
      refine lv_iload (pc := 69) hx hb d124_69 (lv_at hl 0 rfl) ?_
      refine lv_iconst (pc := 71) (v := (-1)) hx hb d124_71 (by decide) ?_
      refine lv_icmp_ne (pc := 72) (tgt := 82) hx hb d124_72 (by decide) (fun c72 => ?_) (fun c72 => ?_)
      · have h := jb_f c72 h
        refine lv_iload (pc := 82) hx hb d124_82 (lv_at hl 0 rfl) ?_
        refine lv_iconst (pc := 84) (v := 1) hx hb d124_84 (by decide) ?_
        refine lv_iadd (pc := 85) hx hb d124_85 ?_
        refine lv_i2d (pc := 86) hx hb d124_86 ?_
        obtain ⟨q11, rq11, hq11, h, herq11, hccq11, hssq11⟩ := jd_some h
        refine k_callS (pc := 87) (n := 1) X hS (c_vl_ofNumber l ρ _ P (FP.i2d (q10.1 + 1)) q11 hW.2.2.1 hW.2.1  hq11) wd642 wd917 wd641 wd4 (by decide) ⟨rfl, rfl, Nat.le_of_ble_eq_true rfl, Nat.le_of_ble_eq_true rfl⟩ (As := [.double (FP.i2d (q10.1 + 1))]) (rest := []) rfl rfl hl.1 (Nat.le_of_ble_eq_true rfl) d124_87 ⟨room_le hccq11 hc1, room_le hssq11 hs1⟩ (fun q hq => hAz q (Nat.le_trans hS.1 hq)) (fun v H1 locs1 hv hz1 hz2 hSq11 => ?_)
        obtain ⟨u12, rfl, fu12⟩ := hv
        have hk : kp no _ H1 := kp_call hz1 hz2 (fun q hq z => absurd hq (Nat.not_lt.mpr z))
        have hW := hW.keep hk no_hz (fun _ _ z => z)
        have hS := hSq11
        have hSz := hS.1
        have her := her.trans herq11
        have hc1 := room_st hccq11 hc1
        have hs1 := room_st hssq11 hs1
        have her : res.1 = (q11.1, q10.2) := her.trans (congrArg Prod.fst (Option.some.inj h)).symm
        exact m_aret (pc := 90) hx hb hr (Or.inl ⟨_, rfl⟩) hlk hS ⟨u12, rfl, by rw [her]; exact fu12, by rw [her]; exact hW⟩ (Nat.le_trans (Nat.le_add_right _ _) hc1) (Nat.le_trans (Nat.le_add_right _ _) hs1) d124_90
      · have h := jb_t c72 h
        refine lv_iconst (pc := 75) (v := 3) hx hb d124_75 (by decide) ?_
        obtain ⟨q13, rq13, hq13, h, herq13, hccq13, hssq13⟩ := jd_some h
        refine k_callS (pc := 76) (n := 1) X hS (c_vl_ofError l ρ _ P 3 q13 hW.2.2.1 hW.2.1  hq13) wd651 wd931 wd650 wd4 (by decide) ⟨rfl, rfl, Nat.le_of_ble_eq_true rfl, Nat.le_of_ble_eq_true rfl⟩ (As := [.int 3]) (rest := []) rfl rfl hl.1 (Nat.le_of_ble_eq_true rfl) d124_76 ⟨room_le hccq13 hc1, room_le hssq13 hs1⟩ (fun q hq => hAz q (Nat.le_trans hS.1 hq)) (fun v H1 locs1 hv hz1 hz2 hSq13 => ?_)
        obtain ⟨u14, rfl, fu14⟩ := hv
        have hk : kp no _ H1 := kp_call hz1 hz2 (fun q hq z => absurd hq (Nat.not_lt.mpr z))
        have hW := hW.keep hk no_hz (fun _ _ z => z)
        have hS := hSq13
        have hSz := hS.1
        have her := her.trans herq13
        have hc1 := room_st hccq13 hc1
        have hs1 := room_st hssq13 hs1
        refine lv_goto (pc := 79) (tgt := 90) hx hb d124_79 (by decide) ?_
        have her : res.1 = (q13.1, q10.2) := her.trans (congrArg Prod.fst (Option.some.inj h)).symm
        exact m_aret (pc := 90) hx hb hr (Or.inl ⟨_, rfl⟩) hlk hS ⟨u14, rfl, by rw [her]; exact fu14, by rw [her]; exact hW⟩ (Nat.le_trans (Nat.le_add_right _ _) hc1) (Nat.le_trans (Nat.le_add_right _ _) hs1) d124_90
    · have h := jb_f c40 h
      exact kc43   q7.2 _ _ _ _ _ _ hW hS (lv_sub hl [] rfl) her hc1 hs1 h
def tx_replace_46  (st : CS) : Option ((VV × CS) × Nat × Nat) := jd (f_vl_ofError 3) (fun q1 => some ((q1, st), 0, 0))
def f_tx_replace (st : CS) : Option ((VV × CS) × Nat × Nat) := jd (f_ar_text st 0) (fun q3 => jc (f_ar_whole q3.2 1) (fun q5 => jc (f_ar_whole q5.2 2) (fun q6 => jd (f_ar_text q6.2 3) (fun q7 => jb (q5.1 < 1) (tx_replace_46 q7.2) (jb (0 ≤ q6.1) (jc (f_js_length q3.1) (fun q9 => jc (f_ma_min (q5.1 - 1) q9) (fun q10 => jc (f_js_length q3.1) (fun q11 => jc (f_ma_min q6.1 (q11 - q10)) (fun q12 => jn (q10 + q12) (fun v13 => ja 2 20 (jd (f_js_substring q3.1 0 q10) (fun q15 => jd (f_sb_appS (([] : TT), 16) q15) (fun q17 => jd (f_sb_appS q17 q7.1) (fun q19 => jc (f_js_length q3.1) (fun q21 => jd (f_js_substring q3.1 v13 q21) (fun q22 => jd (f_sb_appS q19 q22) (fun q24 => jd (f_wf_textOrTooLong q24) (fun q26 => some ((q26, q7.2), 0, 0))))))))))))))) (tx_replace_46 q7.2))))))
set_option maxHeartbeats 4000000 in
set_option maxRecDepth 100000 in
theorem c_tx_replace (l : Launch) (ρ : RH) (ad : Nat → Nat) (H : Heap) (P : Nat → Prop) (st : CS) (res : (VV × CS) × Nat × Nat) (hW : CW ρ P ad st H) (h : f_tx_replace st = some res) : Met l y122 (wsOf y122 b122 8 (some (.object "WordFunctions$Value"))) ({ frames := 16, cells := res.2.1, slots := res.2.2, locals := 698 } : Room) (va_Pc [.ref (ad 3)] (KP ρ H)) (mQ (fun v H1 => ∃ x : Nat, v = some (.ref x) ∧ isV ρ P H1 x res.1.1 ∧ CW ρ P ad res.1.2 H1) (MA wC ad H.size)) res.2.1 res.2.2 (MA wC ad H.size) := by
  refine m_ofW (own := "WordFunctions$Texts") (plainFor_of_name rfl) rfl (Nat.le_of_ble_eq_true rfl) fun p e s m args below meth c ls hx hb hr hlk _ X hs hl => ?_
  subst hs
  have hS : va_S (MA wC ad s.heap.size) s.heap s.heap [] := va_S.rf
  have hSz := hS.1
  have hAz : ∀ q, s.heap.size ≤ q → (MA wC ad s.heap.size) q := fun q hq => Or.inr hq
  have hAp : ∀ i, i < 46 → (MA wC ad s.heap.size) (ad i) := fun i hi => MA.in hi
  have hPp : ∀ i, i < 46 → P (ad i) := hW.1
  have hl : lv_has ls 8 [(0, .ref (ad 3))] := hl
  have kc46 : ∀ (st : CS) (H : Heap) (locs : List Loc) (ls : Array Slot) (cells slots : Nat) (r : (VV × CS) × Nat × Nat), CW ρ P ad st H → va_S (MA wC ad s.heap.size) s.heap H locs → lv_has ls 8 [] → res.1 = r.1 → cells + r.2.1 ≤ res.2.1 → slots + r.2.2 ≤ res.2.2 → tx_replace_46 st = some r → W p l e ({ frames := 16, cells := res.2.1, slots := res.2.2, locals := 698 } : Room) s m args below meth c H locs cells slots (MQ below (mQ (fun v H1 => ∃ x : Nat, v = some (.ref x) ∧ isV ρ P H1 x res.1.1 ∧ CW ρ P ad res.1.2 H1) (MA wC ad s.heap.size)) args s res.2.1 res.2.2 (MA wC ad s.heap.size)) (F0 m 46 ls []) := by
    intro st H locs ls cells slots r hW hS hl her hc1 hs1 h
    have hSz := hS.1
    unfold tx_replace_46 at h
    refine lv_iconst (pc := 46) (v := 3) hx hb d122_46 (by decide) ?_
    obtain ⟨q1, rq1, hq1, h, herq1, hccq1, hssq1⟩ := jd_some h
    refine k_callS (pc := 47) (n := 1) X hS (c_vl_ofError l ρ _ P 3 q1 hW.2.2.1 hW.2.1  hq1) wd651 wd931 wd650 wd4 (by decide) ⟨rfl, rfl, Nat.le_of_ble_eq_true rfl, Nat.le_of_ble_eq_true rfl⟩ (As := [.int 3]) (rest := []) rfl rfl hl.1 (Nat.le_of_ble_eq_true rfl) d122_47 ⟨room_le hccq1 hc1, room_le hssq1 hs1⟩ (fun q hq => hAz q (Nat.le_trans hS.1 hq)) (fun v H1 locs1 hv hz1 hz2 hSq1 => ?_)
    obtain ⟨u2, rfl, fu2⟩ := hv
    have hk : kp no _ H1 := kp_call hz1 hz2 (fun q hq z => absurd hq (Nat.not_lt.mpr z))
    have hW := hW.keep hk no_hz (fun _ _ z => z)
    have hS := hSq1
    have hSz := hS.1
    have her := her.trans herq1
    have hc1 := room_st hccq1 hc1
    have hs1 := room_st hssq1 hs1
    have her : res.1 = (q1.1, st) := her.trans (congrArg Prod.fst (Option.some.inj h)).symm
    exact m_aret (pc := 50) hx hb hr (Or.inl ⟨_, rfl⟩) hlk hS ⟨u2, rfl, by rw [her]; exact fu2, by rw [her]; exact hW⟩ (Nat.le_trans (Nat.le_add_right _ _) hc1) (Nat.le_trans (Nat.le_add_right _ _) hs1) d122_50
  have her : res.1 = res.1 := rfl
  have hc1 : 0 + res.2.1 ≤ res.2.1 := Nat.le_of_eq (Nat.zero_add _)
  have hs1 : 0 + res.2.2 ≤ res.2.2 := Nat.le_of_eq (Nat.zero_add _)
  unfold f_tx_replace at h
  refine lv_aload_n (pc := 0) hx hb d122_0 rfl (lv_at hl 0 rfl) ?_
  refine c_getK (pc := 1) X hW 3 0 5 1 (C := "WordFunctions$Texts") (T := T5) (N := 2) (by decide) rfl rfl rfl rfl tin5 rfl wd196 rfl rfl d122_1 ?_
  refine lv_iconst (pc := 4) (v := 0) hx hb d122_4 (by decide) ?_
  obtain ⟨q3, rq3, hq3, h, herq3, hccq3, hssq3⟩ := jd_some h
  refine k_callV (pc := 5) (n := 1) X hS (c_ar_text l ρ ad _ P st 0 q3 hW  hq3) wd868 wd865 wd866 wd867 wd3 (by decide) ⟨rfl, rfl, Nat.le_of_ble_eq_true rfl, Nat.le_of_ble_eq_true rfl⟩ (c_recv X hW 1 3 (by decide) rfl rfl) (As := [.int 0]) (rest := []) rfl rfl hl.1 (Nat.le_of_ble_eq_true rfl) d122_5 ⟨room_le hccq3 hc1, room_le hssq3 hs1⟩ (fun q hq => MA.mono hS.1 hq) (fun v H1 locs1 hv hz1 hz2 hSq3 => ?_)
  have hPq := hW.1
  obtain ⟨u4, rfl, fu4, hW⟩ := hv
  have hS := hSq3
  have hSz := hS.1
  have her := her.trans herq3
  have hc1 := room_st hccq3 hc1
  have hs1 := room_st hssq3 hs1
  refine lv_astore_n (pc := 8) (lv' := [(1, .ref u4), (0, .ref (ad 3))]) hx hb d122_8 rfl hl (by decide) rfl (fun ls hl => ?_)
  refine lv_aload_n (pc := 9) hx hb d122_9 rfl (lv_at hl 1 rfl) ?_
  refine c_getK (pc := 10) X hW 3 0 5 1 (C := "WordFunctions$Texts") (T := T5) (N := 2) (by decide) rfl rfl rfl rfl tin5 rfl wd196 rfl rfl d122_10 ?_
  refine lv_iconst (pc := 13) (v := 1) hx hb d122_13 (by decide) ?_
  obtain ⟨q5, hq5, h⟩ := jc_some h
  refine k_callV (pc := 14) (n := 1) X hS (c_ar_whole l ρ ad _ P q3.1.2 1 q5 hW  hq5) wd762 wd961 wd760 wd761 wd3 (by decide) ⟨rfl, rfl, Nat.le_of_ble_eq_true rfl, Nat.le_of_ble_eq_true rfl⟩ (c_recv X hW 1 3 (by decide) rfl rfl) (As := [.int 1]) (rest := []) rfl rfl hl.1 (Nat.le_of_ble_eq_true rfl) d122_14 ⟨room_l0 hc1, room_l0 hs1⟩ (fun q hq => MA.mono hS.1 hq) (fun v H1 locs1 hv hz1 hz2 hSq5 => ?_)
  have hPq := hW.1
  obtain ⟨rfl, hW⟩ := hv
  have hk : kp (Pm ad) _ H1 := kp_call hz1 hz2 (MA_Pm rfl)
  have fu4 := fu4.keep hk (Pm_P hPq)
  have hS := hSq5
  have hSz := hS.1
  refine lv_istore_n (pc := 17) (lv' := [(2, .int q5.1), (1, .ref u4), (0, .ref (ad 3))]) hx hb d122_17 rfl hl (by decide) rfl (fun ls hl => ?_)
  refine lv_aload_n (pc := 18) hx hb d122_18 rfl (lv_at hl 2 rfl) ?_
  refine c_getK (pc := 19) X hW 3 0 5 1 (C := "WordFunctions$Texts") (T := T5) (N := 2) (by decide) rfl rfl rfl rfl tin5 rfl wd196 rfl rfl d122_19 ?_
  refine lv_iconst (pc := 22) (v := 2) hx hb d122_22 (by decide) ?_
  obtain ⟨q6, hq6, h⟩ := jc_some h
  refine k_callV (pc := 23) (n := 1) X hS (c_ar_whole l ρ ad _ P q5.2 2 q6 hW  hq6) wd762 wd961 wd760 wd761 wd3 (by decide) ⟨rfl, rfl, Nat.le_of_ble_eq_true rfl, Nat.le_of_ble_eq_true rfl⟩ (c_recv X hW 1 3 (by decide) rfl rfl) (As := [.int 2]) (rest := []) rfl rfl hl.1 (Nat.le_of_ble_eq_true rfl) d122_23 ⟨room_l0 hc1, room_l0 hs1⟩ (fun q hq => MA.mono hS.1 hq) (fun v H1 locs1 hv hz1 hz2 hSq6 => ?_)
  have hPq := hW.1
  obtain ⟨rfl, hW⟩ := hv
  have hk : kp (Pm ad) _ H1 := kp_call hz1 hz2 (MA_Pm rfl)
  have fu4 := fu4.keep hk (Pm_P hPq)
  have hS := hSq6
  have hSz := hS.1
  refine lv_istore_n (pc := 26) (lv' := [(3, .int q6.1), (2, .int q5.1), (1, .ref u4), (0, .ref (ad 3))]) hx hb d122_26 rfl hl (by decide) rfl (fun ls hl => ?_)
  refine lv_aload_n (pc := 27) hx hb d122_27 rfl (lv_at hl 3 rfl) ?_
  refine c_getK (pc := 28) X hW 3 0 5 1 (C := "WordFunctions$Texts") (T := T5) (N := 2) (by decide) rfl rfl rfl rfl tin5 rfl wd196 rfl rfl d122_28 ?_
  refine lv_iconst (pc := 31) (v := 3) hx hb d122_31 (by decide) ?_
  obtain ⟨q7, rq7, hq7, h, herq7, hccq7, hssq7⟩ := jd_some h
  refine k_callV (pc := 32) (n := 1) X hS (c_ar_text l ρ ad _ P q6.2 3 q7 hW  hq7) wd868 wd865 wd866 wd867 wd3 (by decide) ⟨rfl, rfl, Nat.le_of_ble_eq_true rfl, Nat.le_of_ble_eq_true rfl⟩ (c_recv X hW 1 3 (by decide) rfl rfl) (As := [.int 3]) (rest := []) rfl rfl hl.1 (Nat.le_of_ble_eq_true rfl) d122_32 ⟨room_le hccq7 hc1, room_le hssq7 hs1⟩ (fun q hq => MA.mono hS.1 hq) (fun v H1 locs1 hv hz1 hz2 hSq7 => ?_)
  have hPq := hW.1
  obtain ⟨u8, rfl, fu8, hW⟩ := hv
  have hk : kp (Pm ad) _ H1 := kp_call hz1 hz2 (MA_Pm rfl)
  have fu4 := fu4.keep hk (Pm_P hPq)
  have hS := hSq7
  have hSz := hS.1
  have her := her.trans herq7
  have hc1 := room_st hccq7 hc1
  have hs1 := room_st hssq7 hs1
  refine lv_astore (pc := 35) (lv' := [(4, .ref u8), (3, .int q6.1), (2, .int q5.1), (1, .ref u4), (0, .ref (ad 3))]) hx hb d122_35 hl (by decide) rfl (fun ls hl => ?_)
  refine lv_iload_n (pc := 37) hx hb d122_37 rfl (lv_at hl 2 rfl) ?_
  refine lv_iconst (pc := 38) (v := 1) hx hb d122_38 (by decide) ?_
  refine lv_icmp_lt (pc := 39) (tgt := 46) hx hb d122_39 (by decide) (fun c39 => ?_) (fun c39 => ?_)
  · have h := jb_t c39 h
    exact kc46   q7.1.2 _ _ _ _ _ _ hW hS (lv_sub hl [] rfl) her hc1 hs1 h
  · have h := jb_f c39 h
    refine lv_iload_n (pc := 42) hx hb d122_42 rfl (lv_at hl 1 rfl) ?_
    refine lv_if_ge (pc := 43) (tgt := 51) hx hb d122_43 (by decide) (fun c43 => ?_) (fun c43 => ?_)
    · have h := jb_t c43 h
      refine lv_iload_n (pc := 51) hx hb d122_51 rfl (lv_at hl 2 rfl) ?_
      refine lv_iconst (pc := 52) (v := 1) hx hb d122_52 (by decide) ?_
      refine lv_isub (pc := 53) hx hb d122_53 ?_
      refine lv_aload_n (pc := 54) hx hb d122_54 rfl (lv_at hl 3 rfl) ?_
      obtain ⟨q9, hq9, h⟩ := jc_some h
      refine k_callV (pc := 55) (n := 0) X hS (c_js_length l ρ _ P u4 q3.1.1 q9 hW.2.2.1 hW.2.1 fu4 hq9) wd538 wd916 wd536 wd537 wd14 (by decide) ⟨rfl, rfl, Nat.le_of_ble_eq_true rfl, Nat.le_of_ble_eq_true rfl⟩ (s_recv X fu4) (As := []) (rest := [.int (q5.1 - 1)]) rfl rfl hl.1 (Nat.le_of_ble_eq_true rfl) d122_55 ⟨room_l0 hc1, room_l0 hs1⟩ (fun q hq => False.elim hq) (fun v H1 locs1 hv _ _ hSq9 => ?_)
      obtain ⟨rfl, rfl⟩ := hv
      have hS := hSq9
      have hSz := hS.1
      obtain ⟨q10, hq10, h⟩ := jc_some h
      refine k_callS (pc := 58) (n := 2) X hS (c_ma_min l ρ _ P (q5.1 - 1) q9 q10 hW.2.2.1 hW.2.1  hq10) wd351 wd932 wd350 wd17 (by decide) ⟨rfl, rfl, Nat.le_of_ble_eq_true rfl, Nat.le_of_ble_eq_true rfl⟩ (As := [.int (q5.1 - 1), .int q9]) (rest := []) rfl rfl hl.1 (Nat.le_of_ble_eq_true rfl) d122_58 ⟨room_l0 hc1, room_l0 hs1⟩ (fun q hq => False.elim hq) (fun v H1 locs1 hv _ _ hSq10 => ?_)
      obtain ⟨rfl, rfl⟩ := hv
      have hS := hSq10
      have hSz := hS.1
      refine lv_istore (pc := 61) (lv' := [(5, .int q10), (4, .ref u8), (3, .int q6.1), (2, .int q5.1), (1, .ref u4), (0, .ref (ad 3))]) hx hb d122_61 hl (by decide) rfl (fun ls hl => ?_)
      refine lv_iload (pc := 63) hx hb d122_63 (lv_at hl 0 rfl) ?_
      refine lv_iload_n (pc := 65) hx hb d122_65 rfl (lv_at hl 2 rfl) ?_
      refine lv_aload_n (pc := 66) hx hb d122_66 rfl (lv_at hl 4 rfl) ?_
      obtain ⟨q11, hq11, h⟩ := jc_some h
      refine k_callV (pc := 67) (n := 0) X hS (c_js_length l ρ _ P u4 q3.1.1 q11 hW.2.2.1 hW.2.1 fu4 hq11) wd538 wd916 wd536 wd537 wd14 (by decide) ⟨rfl, rfl, Nat.le_of_ble_eq_true rfl, Nat.le_of_ble_eq_true rfl⟩ (s_recv X fu4) (As := []) (rest := [.int q6.1, .int q10]) rfl rfl hl.1 (Nat.le_of_ble_eq_true rfl) d122_67 ⟨room_l0 hc1, room_l0 hs1⟩ (fun q hq => False.elim hq) (fun v H1 locs1 hv _ _ hSq11 => ?_)
      obtain ⟨rfl, rfl⟩ := hv
      have hS := hSq11
      have hSz := hS.1
      refine lv_iload (pc := 70) hx hb d122_70 (lv_at hl 0 rfl) ?_
      refine lv_isub (pc := 72) hx hb d122_72 ?_
      obtain ⟨q12, hq12, h⟩ := jc_some h
      refine k_callS (pc := 73) (n := 2) X hS (c_ma_min l ρ _ P q6.1 (q11 - q10) q12 hW.2.2.1 hW.2.1  hq12) wd351 wd932 wd350 wd17 (by decide) ⟨rfl, rfl, Nat.le_of_ble_eq_true rfl, Nat.le_of_ble_eq_true rfl⟩ (As := [.int q6.1, .int (q11 - q10)]) (rest := [.int q10]) rfl rfl hl.1 (Nat.le_of_ble_eq_true rfl) d122_73 ⟨room_l0 hc1, room_l0 hs1⟩ (fun q hq => False.elim hq) (fun v H1 locs1 hv _ _ hSq12 => ?_)
      obtain ⟨rfl, rfl⟩ := hv
      have hS := hSq12
      have hSz := hS.1
      refine lv_iadd (pc := 76) hx hb d122_76 ?_
      obtain ⟨v13, ev13, h⟩ := jn_ex h
      refine nm_i ev13 ?_
      refine lv_istore (pc := 77) (lv' := [(6, .int v13), (5, .int q10), (4, .ref u8), (3, .int q6.1), (2, .int q5.1), (1, .ref u4), (0, .ref (ad 3))]) hx hb d122_77 hl (by decide) rfl (fun ls hl => ?_)
      obtain ⟨r14, h, her14, hcc14, hss14⟩ := ja_some h
      refine k_newSB (pc := 79) X hS hW.2.2.1 hW.2.1 hAz wd999 wd1000 (rest := []) hl.1 (Nat.le_of_ble_eq_true rfl) rfl rfl (room_le hcc14 hc1) (room_le hss14 hs1) d122_79 d122_82 d122_83 (fun ba bb H1 locs hka hba hbb hba1 hbb1 hSB hS => ?_)
      have fu8 := fu8.new hka hba hbb
      have fu4 := fu4.new hka hba hbb
      have hnn : ∀ i, i < 46 → ¬ ab ba bb (ad i) := nn_new hW hba hbb
      have hW := hW.new hka hba hbb hba1 hbb1
      have hAa : (MA wC ad s.heap.size) ba := hAz _ (Nat.le_trans hSz hba)
      have hAb : (MA wC ad s.heap.size) bb := hAz _ (Nat.le_trans hSz hbb)
      have hSz := hS.1
      have her := her.trans her14
      have hc1 := room_st hcc14 hc1
      have hs1 := room_st hss14 hs1
      refine lv_astore (pc := 86) (lv' := [(7, .ref ba), (6, .int v13), (5, .int q10), (4, .ref u8), (3, .int q6.1), (2, .int q5.1), (1, .ref u4), (0, .ref (ad 3))]) hx hb d122_86 hl (by decide) rfl (fun ls hl => ?_)
      refine lv_aload (pc := 88) hx hb d122_88 (lv_at hl 0 rfl) ?_
      refine lv_aload_n (pc := 90) hx hb d122_90 rfl (lv_at hl 6 rfl) ?_
      refine lv_iconst (pc := 91) (v := 0) hx hb d122_91 (by decide) ?_
      refine lv_iload (pc := 92) hx hb d122_92 (lv_at hl 2 rfl) ?_
      obtain ⟨q15, rq15, hq15, h, herq15, hccq15, hssq15⟩ := jd_some h
      refine k_callV (pc := 94) (n := 2) X hS (c_js_substring l ρ _ (pe P ba bb) u4 q3.1.1 0 q10 q15 hW.2.2.1 hW.2.1 fu4 hq15) wd936 wd933 wd934 wd935 wd14 (by decide) ⟨rfl, rfl, Nat.le_of_ble_eq_true rfl, Nat.le_of_ble_eq_true rfl⟩ (s_recv X fu4) (As := [.int 0, .int q10]) (rest := [.ref ba]) rfl rfl hl.1 (Nat.le_of_ble_eq_true rfl) d122_94 ⟨room_le hccq15 hc1, room_le hssq15 hs1⟩ (fun q hq => hAz q (Nat.le_trans hS.1 hq)) (fun v H1 locs1 hv hz1 hz2 hSq15 => ?_)
      obtain ⟨u16, rfl, fu16⟩ := hv
      have hk : kp no _ H1 := kp_call hz1 hz2 (fun q hq z => absurd hq (Nat.not_lt.mpr z))
      have fu8 := fu8.keep hk no_hz
      have fu4 := fu4.keep hk no_hz
      have hSB := hSB.keep hk (fun z => z) (fun z => z)
      have hW := hW.keep hk no_hz (fun _ _ z => z)
      have hS := hSq15
      have hSz := hS.1
      have her := her.trans herq15
      have hc1 := room_st hccq15 hc1
      have hs1 := room_st hssq15 hs1
      obtain ⟨q17, rq17, hq17, h, herq17, hccq17, hssq17⟩ := jd_some h
      refine k_callV (pc := 97) (n := 1) X hS (c_sb_appS l ρ _ (pe P ba bb) ba bb (([] : TT), 16) u16 q15.1 q17 hW.2.2.1 hW.2.1 ⟨hSB, Or.inr (Or.inl rfl), Or.inr (Or.inr rfl)⟩ (isS_ab fu16) hq17) wd524 wd1001 wd522 wd523 wd13 (by decide) ⟨rfl, rfl, Nat.le_of_ble_eq_true rfl, Nat.le_of_ble_eq_true rfl⟩ (sb_recv X hSB) (As := [.ref u16]) (rest := []) rfl rfl hl.1 (Nat.le_of_ble_eq_true rfl) d122_97 ⟨room_le hccq17 hc1, room_le hssq17 hs1⟩ (fun q hq => hq.elim (fun e => e ▸ hAa) (fun z => z.elim (fun e => e ▸ hAb) (fun g => hAz q (Nat.le_trans hS.1 g)))) (fun v H1 locs1 hv hz1 hz2 hSq17 => ?_)
      obtain ⟨rfl, bb18, hb1, hb2, hSB⟩ := hv
      have hk : kp (ab ba bb) _ H1 := kp_call hz1 hz2 (fun q hq z => z.elim Or.inl (fun z => z.elim Or.inr (fun g => absurd hq (Nat.not_lt.mpr g))))
      have fu8 := fu8.sb hk hb1
      have fu4 := fu4.sb hk hb1
      have hAb : (MA wC ad s.heap.size) bb18 := hb1.elim (fun e => e ▸ hAb) (fun g => hAz _ (Nat.le_trans hS.1 g))
      have hnn0 := hnn
      have hnn : ∀ i, i < 46 → ¬ ab ba bb18 (ad i) := nn_step hnn hb1 hW
      have hW := hW.sb hk hb1 hb2 hnn0 hPp
      have hS := hSq17
      have hSz := hS.1
      have her := her.trans herq17
      have hc1 := room_st hccq17 hc1
      have hs1 := room_st hssq17 hs1
      refine lv_pop (pc := 100) hx hb d122_100 rfl ?_
      refine lv_aload (pc := 101) hx hb d122_101 (lv_at hl 0 rfl) ?_
      refine lv_aload (pc := 103) hx hb d122_103 (lv_at hl 3 rfl) ?_
      obtain ⟨q19, rq19, hq19, h, herq19, hccq19, hssq19⟩ := jd_some h
      refine k_callV (pc := 105) (n := 1) X hS (c_sb_appS l ρ _ (pe P ba bb18) ba bb18 q17.1 u8 q7.1.1 q19 hW.2.2.1 hW.2.1 ⟨hSB, Or.inr (Or.inl rfl), Or.inr (Or.inr rfl)⟩ (isS_ab fu8) hq19) wd524 wd1001 wd522 wd523 wd13 (by decide) ⟨rfl, rfl, Nat.le_of_ble_eq_true rfl, Nat.le_of_ble_eq_true rfl⟩ (sb_recv X hSB) (As := [.ref u8]) (rest := []) rfl rfl hl.1 (Nat.le_of_ble_eq_true rfl) d122_105 ⟨room_le hccq19 hc1, room_le hssq19 hs1⟩ (fun q hq => hq.elim (fun e => e ▸ hAa) (fun z => z.elim (fun e => e ▸ hAb) (fun g => hAz q (Nat.le_trans hS.1 g)))) (fun v H1 locs1 hv hz1 hz2 hSq19 => ?_)
      obtain ⟨rfl, bb20, hb1, hb2, hSB⟩ := hv
      have hk : kp (ab ba bb18) _ H1 := kp_call hz1 hz2 (fun q hq z => z.elim Or.inl (fun z => z.elim Or.inr (fun g => absurd hq (Nat.not_lt.mpr g))))
      have fu4 := fu4.sb hk hb1
      have hAb : (MA wC ad s.heap.size) bb20 := hb1.elim (fun e => e ▸ hAb) (fun g => hAz _ (Nat.le_trans hS.1 g))
      have hnn0 := hnn
      have hnn : ∀ i, i < 46 → ¬ ab ba bb20 (ad i) := nn_step hnn hb1 hW
      have hW := hW.sb hk hb1 hb2 hnn0 hPp
      have hS := hSq19
      have hSz := hS.1
      have her := her.trans herq19
      have hc1 := room_st hccq19 hc1
      have hs1 := room_st hssq19 hs1
      refine lv_pop (pc := 108) hx hb d122_108 rfl ?_
      refine lv_aload (pc := 109) hx hb d122_109 (lv_at hl 0 rfl) ?_
      refine lv_aload_n (pc := 111) hx hb d122_111 rfl (lv_at hl 6 rfl) ?_
      refine lv_iload (pc := 112) hx hb d122_112 (lv_at hl 1 rfl) ?_
      refine lv_aload_n (pc := 114) hx hb d122_114 rfl (lv_at hl 6 rfl) ?_
      obtain ⟨q21, hq21, h⟩ := jc_some h
      refine k_callV (pc := 115) (n := 0) X hS (c_js_length l ρ _ (pe P ba bb20) u4 q3.1.1 q21 hW.2.2.1 hW.2.1 fu4 hq21) wd538 wd916 wd536 wd537 wd14 (by decide) ⟨rfl, rfl, Nat.le_of_ble_eq_true rfl, Nat.le_of_ble_eq_true rfl⟩ (s_recv X fu4) (As := []) (rest := [.int v13, .ref u4, .ref ba]) rfl rfl hl.1 (Nat.le_of_ble_eq_true rfl) d122_115 ⟨room_l0 hc1, room_l0 hs1⟩ (fun q hq => False.elim hq) (fun v H1 locs1 hv _ _ hSq21 => ?_)
      obtain ⟨rfl, rfl⟩ := hv
      have hS := hSq21
      have hSz := hS.1
      obtain ⟨q22, rq22, hq22, h, herq22, hccq22, hssq22⟩ := jd_some h
      refine k_callV (pc := 118) (n := 2) X hS (c_js_substring l ρ _ (pe P ba bb20) u4 q3.1.1 v13 q21 q22 hW.2.2.1 hW.2.1 fu4 hq22) wd936 wd933 wd934 wd935 wd14 (by decide) ⟨rfl, rfl, Nat.le_of_ble_eq_true rfl, Nat.le_of_ble_eq_true rfl⟩ (s_recv X fu4) (As := [.int v13, .int q21]) (rest := [.ref ba]) rfl rfl hl.1 (Nat.le_of_ble_eq_true rfl) d122_118 ⟨room_le hccq22 hc1, room_le hssq22 hs1⟩ (fun q hq => hAz q (Nat.le_trans hS.1 hq)) (fun v H1 locs1 hv hz1 hz2 hSq22 => ?_)
      obtain ⟨u23, rfl, fu23⟩ := hv
      have hk : kp no _ H1 := kp_call hz1 hz2 (fun q hq z => absurd hq (Nat.not_lt.mpr z))
      have hSB := hSB.keep hk (fun z => z) (fun z => z)
      have hW := hW.keep hk no_hz (fun _ _ z => z)
      have hS := hSq22
      have hSz := hS.1
      have her := her.trans herq22
      have hc1 := room_st hccq22 hc1
      have hs1 := room_st hssq22 hs1
      obtain ⟨q24, rq24, hq24, h, herq24, hccq24, hssq24⟩ := jd_some h
      refine k_callV (pc := 121) (n := 1) X hS (c_sb_appS l ρ _ (pe P ba bb20) ba bb20 q19.1 u23 q22.1 q24 hW.2.2.1 hW.2.1 ⟨hSB, Or.inr (Or.inl rfl), Or.inr (Or.inr rfl)⟩ (isS_ab fu23) hq24) wd524 wd1001 wd522 wd523 wd13 (by decide) ⟨rfl, rfl, Nat.le_of_ble_eq_true rfl, Nat.le_of_ble_eq_true rfl⟩ (sb_recv X hSB) (As := [.ref u23]) (rest := []) rfl rfl hl.1 (Nat.le_of_ble_eq_true rfl) d122_121 ⟨room_le hccq24 hc1, room_le hssq24 hs1⟩ (fun q hq => hq.elim (fun e => e ▸ hAa) (fun z => z.elim (fun e => e ▸ hAb) (fun g => hAz q (Nat.le_trans hS.1 g)))) (fun v H1 locs1 hv hz1 hz2 hSq24 => ?_)
      obtain ⟨rfl, bb25, hb1, hb2, hSB⟩ := hv
      have hk : kp (ab ba bb20) _ H1 := kp_call hz1 hz2 (fun q hq z => z.elim Or.inl (fun z => z.elim Or.inr (fun g => absurd hq (Nat.not_lt.mpr g))))
      have hAb : (MA wC ad s.heap.size) bb25 := hb1.elim (fun e => e ▸ hAb) (fun g => hAz _ (Nat.le_trans hS.1 g))
      have hnn0 := hnn
      have hnn : ∀ i, i < 46 → ¬ ab ba bb25 (ad i) := nn_step hnn hb1 hW
      have hW := hW.sb hk hb1 hb2 hnn0 hPp
      have hS := hSq24
      have hSz := hS.1
      have her := her.trans herq24
      have hc1 := room_st hccq24 hc1
      have hs1 := room_st hssq24 hs1
      refine lv_pop (pc := 124) hx hb d122_124 rfl ?_
      refine lv_aload (pc := 125) hx hb d122_125 (lv_at hl 0 rfl) ?_
      obtain ⟨q26, rq26, hq26, h, herq26, hccq26, hssq26⟩ := jd_some h
      refine k_callSN (pc := 127) (n := 1) X hS (c_wf_textOrTooLong l ρ _ (pe P ba bb25) ba bb25 q24.1 q26 hW.2.2.1 hW.2.1 ⟨hSB, Or.inr (Or.inl rfl), Or.inr (Or.inr rfl)⟩ hq26) wd1004 4 rfl wd1003 wd1 (by decide) ⟨rfl, rfl, Nat.le_of_ble_eq_true rfl, Nat.le_of_ble_eq_true rfl⟩ (As := [.ref ba]) (rest := []) rfl rfl hl.1 (Nat.le_of_ble_eq_true rfl) d122_127 ⟨room_le hccq26 hc1, room_le hssq26 hs1⟩ (fun q hq => hAz q (Nat.le_trans hS.1 hq)) (fun v H1 locs1 hv hz1 hz2 hSq26 => ?_)
      obtain ⟨u27, rfl, fu27⟩ := hv
      have hk : kp no _ H1 := kp_call hz1 hz2 (fun q hq z => absurd hq (Nat.not_lt.mpr z))
      have hSB := hSB.keep hk (fun z => z) (fun z => z)
      have hW := hW.keep hk no_hz (fun _ _ z => z)
      have hS := hSq26
      have hSz := hS.1
      have her := her.trans herq26
      have hc1 := room_st hccq26 hc1
      have hs1 := room_st hssq26 hs1
      have fu27 := fu27.un
      have hW := hW.un hPp
      have her : res.1 = (q26.1, q7.1.2) := her.trans (congrArg Prod.fst (Option.some.inj h)).symm
      exact m_aret (pc := 130) hx hb hr (Or.inl ⟨_, rfl⟩) hlk hS ⟨u27, rfl, by rw [her]; exact fu27, by rw [her]; exact hW⟩ (Nat.le_trans (Nat.le_add_right _ _) hc1) (Nat.le_trans (Nat.le_add_right _ _) hs1) d122_130
    · have h := jb_f c43 h
      exact kc46   q7.1.2 _ _ _ _ _ _ hW hS (lv_sub hl [] rfl) her hc1 hs1 h
def tx_substitute_188  (st : CS) (xb : BT) : Option ((VV × CS) × Nat × Nat) := jd (f_wf_textOrTooLong xb) (fun q1 => some ((q1, st), 0, 0))
def tx_substitute_154 (K102 : CS → TT → TT → TT → Int32 → Int32 → Int32 → Int32 → BT → Option ((VV × CS) × Nat × Nat)) (st : CS) (x1 : TT) (x2 : TT) (x3 : TT) (x4 : Int32) (x5 : Int32) (x7 : Int32) (x8 : Int32) (z1 : TT) (xb : BT) : Option ((VV × CS) × Nat × Nat) := jd (f_sb_appS xb z1) (fun q3 => jc (f_js_length x2) (fun q5 => jn (x8 + q5) (fun v6 => K102 st x1 x2 x3 x4 x5 x7 v6 q3)))
def tx_substitute_149 (K102 : CS → TT → TT → TT → Int32 → Int32 → Int32 → Int32 → BT → Option ((VV × CS) × Nat × Nat)) (st : CS) (x1 : TT) (x2 : TT) (x3 : TT) (x4 : Int32) (x5 : Int32) (x7 : Int32) (x8 : Int32) (xb : BT) : Option ((VV × CS) × Nat × Nat) := tx_substitute_154 K102 st x1 x2 x3 x4 x5 x7 x8 x3 xb
def tx_substitute_102  : Nat → CS → TT → TT → TT → Int32 → Int32 → Int32 → Int32 → BT → Option ((VV × CS) × Nat × Nat)
  | 0, _, _, _, _, _, _, _, _, _ => none
  | fu + 1, st, x1, x2, x3, x4, x5, x7, x8, xb => jc (f_js_length x1) (fun q7 => jb (q7 ≤ x8) (tx_substitute_188 st xb) (jc (f_sb_len xb) (fun q8 => jb (255 < q8) (tx_substitute_188 st xb) (jc (f_tx_isAt x2 x1 x8) (fun q9 => jb (q9 = 0) (jc (f_js_charAt x1 x8) (fun q10 => jd (f_sb_appC xb q10) (fun q11 => jn (x8 + 1) (fun v13 => tx_substitute_102 fu st x1 x2 x3 x4 x5 x7 v13 q11)))) (jn (x7 + 1) (fun v14 => jb (x4 = 0) (jb (v14 = x5) (tx_substitute_149 (tx_substitute_102 fu) st x1 x2 x3 x4 x5 v14 x8 xb) (tx_substitute_154 (tx_substitute_102 fu) st x1 x2 x3 x4 x5 v14 x8 x2 xb)) (tx_substitute_149 (tx_substitute_102 fu) st x1 x2 x3 x4 x5 v14 x8 xb))))))))
def tx_substitute_62  (st : CS) (x1 : TT) (x2 : TT) (x3 : TT) (x4 : Int32) (z0 : Int32) : Option ((VV × CS) × Nat × Nat) := jb (1 ≤ z0) (jc (f_js_isEmpty x2) (fun q15 => jb (q15 = 0) (ja 2 20 (tx_substitute_102 FU st x1 x2 x3 x4 z0 0 0 (([] : TT), 16))) (jd (f_vl_ofText x1) (fun q17 => some ((q17, st), 0, 0))))) (jd (f_vl_ofError 3) (fun q19 => some ((q19, st), 0, 0)))
def tx_substitute_43  (st : CS) (x1 : TT) (x2 : TT) (x3 : TT) (z0 : Int32) : Option ((VV × CS) × Nat × Nat) := jb (z0 = 0) (jc (f_ar_whole st 3) (fun q21 => tx_substitute_62 q21.2 x1 x2 x3 z0 q21.1)) (tx_substitute_62 st x1 x2 x3 z0 1)
def f_tx_substitute (st : CS) : Option ((VV × CS) × Nat × Nat) := jd (f_ar_text st 0) (fun q22 => jd (f_ar_text q22.2 1) (fun q24 => jd (f_ar_text q24.2 2) (fun q26 => jc (f_ar_isThere q26.2 3) (fun q28 => jb (q28 = 0) (tx_substitute_43 q26.2 q22.1 q24.1 q26.1 1) (tx_substitute_43 q26.2 q22.1 q24.1 q26.1 0)))))
set_option maxHeartbeats 4000000 in
set_option maxRecDepth 100000 in
theorem c_tx_substitute (l : Launch) (ρ : RH) (ad : Nat → Nat) (H : Heap) (P : Nat → Prop) (st : CS) (res : (VV × CS) × Nat × Nat) (hW : CW ρ P ad st H) (h : f_tx_substitute st = some res) : Met l y127 (wsOf y127 b127 9 (some (.object "WordFunctions$Value"))) ({ frames := 16, cells := res.2.1, slots := res.2.2, locals := 698 } : Room) (va_Pc [.ref (ad 3)] (KP ρ H)) (mQ (fun v H1 => ∃ x : Nat, v = some (.ref x) ∧ isV ρ P H1 x res.1.1 ∧ CW ρ P ad res.1.2 H1) (MA wC ad H.size)) res.2.1 res.2.2 (MA wC ad H.size) := by
  refine m_ofW (own := "WordFunctions$Texts") (plainFor_of_name rfl) rfl (Nat.le_of_ble_eq_true rfl) fun p e s m args below meth c ls hx hb hr hlk _ X hs hl => ?_
  subst hs
  have hS : va_S (MA wC ad s.heap.size) s.heap s.heap [] := va_S.rf
  have hSz := hS.1
  have hAz : ∀ q, s.heap.size ≤ q → (MA wC ad s.heap.size) q := fun q hq => Or.inr hq
  have hAp : ∀ i, i < 46 → (MA wC ad s.heap.size) (ad i) := fun i hi => MA.in hi
  have hPp : ∀ i, i < 46 → P (ad i) := hW.1
  have hl : lv_has ls 9 [(0, .ref (ad 3))] := hl
  have kc188 : ∀ (st : CS) (xb : BT) (ba bb : Nat) (H : Heap) (locs : List Loc) (ls : Array Slot) (cells slots : Nat) (r : (VV × CS) × Nat × Nat), CW ρ (pe P ba bb) ad st H → va_S (MA wC ad s.heap.size) s.heap H locs → SB ρ H ba bb xb → (MA wC ad s.heap.size) ba → (MA wC ad s.heap.size) bb → (∀ i, i < 46 → ¬ ab ba bb (ad i)) → lv_has ls 9 [(6, .ref ba)] → res.1 = r.1 → cells + r.2.1 ≤ res.2.1 → slots + r.2.2 ≤ res.2.2 → tx_substitute_188 st xb = some r → W p l e ({ frames := 16, cells := res.2.1, slots := res.2.2, locals := 698 } : Room) s m args below meth c H locs cells slots (MQ below (mQ (fun v H1 => ∃ x : Nat, v = some (.ref x) ∧ isV ρ P H1 x res.1.1 ∧ CW ρ P ad res.1.2 H1) (MA wC ad s.heap.size)) args s res.2.1 res.2.2 (MA wC ad s.heap.size)) (F0 m 188 ls []) := by
    intro st xb ba bb H locs ls cells slots r hW hS hSB hAa hAb hnn hl her hc1 hs1 h
    have hSz := hS.1
    unfold tx_substitute_188 at h
    refine lv_aload (pc := 188) hx hb d127_188 (lv_at hl 0 rfl) ?_
    obtain ⟨q1, rq1, hq1, h, herq1, hccq1, hssq1⟩ := jd_some h
    refine k_callSN (pc := 190) (n := 1) X hS (c_wf_textOrTooLong l ρ _ (pe P ba bb) ba bb xb q1 hW.2.2.1 hW.2.1 ⟨hSB, Or.inr (Or.inl rfl), Or.inr (Or.inr rfl)⟩ hq1) wd1004 4 rfl wd1003 wd1 (by decide) ⟨rfl, rfl, Nat.le_of_ble_eq_true rfl, Nat.le_of_ble_eq_true rfl⟩ (As := [.ref ba]) (rest := []) rfl rfl hl.1 (Nat.le_of_ble_eq_true rfl) d127_190 ⟨room_le hccq1 hc1, room_le hssq1 hs1⟩ (fun q hq => hAz q (Nat.le_trans hS.1 hq)) (fun v H1 locs1 hv hz1 hz2 hSq1 => ?_)
    obtain ⟨u2, rfl, fu2⟩ := hv
    have hk : kp no _ H1 := kp_call hz1 hz2 (fun q hq z => absurd hq (Nat.not_lt.mpr z))
    have hSB := hSB.keep hk (fun z => z) (fun z => z)
    have hW := hW.keep hk no_hz (fun _ _ z => z)
    have hS := hSq1
    have hSz := hS.1
    have her := her.trans herq1
    have hc1 := room_st hccq1 hc1
    have hs1 := room_st hssq1 hs1
    have fu2 := fu2.un
    have hW := hW.un hPp
    have her : res.1 = (q1.1, st) := her.trans (congrArg Prod.fst (Option.some.inj h)).symm
    exact m_aret (pc := 193) hx hb hr (Or.inl ⟨_, rfl⟩) hlk hS ⟨u2, rfl, by rw [her]; exact fu2, by rw [her]; exact hW⟩ (Nat.le_trans (Nat.le_add_right _ _) hc1) (Nat.le_trans (Nat.le_add_right _ _) hs1) d127_193
  have kc154 : ∀ (K102 : CS → TT → TT → TT → Int32 → Int32 → Int32 → Int32 → BT → Option ((VV × CS) × Nat × Nat)) (hK102 : ∀ (st : CS) (x1 : TT) (x2 : TT) (x3 : TT) (x4 : Int32) (x5 : Int32) (x7 : Int32) (x8 : Int32) (ax1 : Nat) (ax2 : Nat) (ax3 : Nat) (xb : BT) (ba bb : Nat) (H : Heap) (locs : List Loc) (ls : Array Slot) (cells slots : Nat) (r : (VV × CS) × Nat × Nat), CW ρ (pe P ba bb) ad st H → va_S (MA wC ad s.heap.size) s.heap H locs → isS ρ (pe P ba bb) H ax1 x1 → isS ρ (pe P ba bb) H ax2 x2 → isS ρ (pe P ba bb) H ax3 x3 → SB ρ H ba bb xb → (MA wC ad s.heap.size) ba → (MA wC ad s.heap.size) bb → (∀ i, i < 46 → ¬ ab ba bb (ad i)) → lv_has ls 9 [(1, .ref ax1), (2, .ref ax2), (3, .ref ax3), (4, .int x4), (5, .int x5), (6, .ref ba), (7, .int x7), (8, .int x8)] → res.1 = r.1 → cells + r.2.1 ≤ res.2.1 → slots + r.2.2 ≤ res.2.2 → K102 st x1 x2 x3 x4 x5 x7 x8 xb = some r → W p l e ({ frames := 16, cells := res.2.1, slots := res.2.2, locals := 698 } : Room) s m args below meth c H locs cells slots (MQ below (mQ (fun v H1 => ∃ x : Nat, v = some (.ref x) ∧ isV ρ P H1 x res.1.1 ∧ CW ρ P ad res.1.2 H1) (MA wC ad s.heap.size)) args s res.2.1 res.2.2 (MA wC ad s.heap.size)) (F0 m 102 ls [])), ∀ (st : CS) (x1 : TT) (x2 : TT) (x3 : TT) (x4 : Int32) (x5 : Int32) (x7 : Int32) (x8 : Int32) (z1 : TT) (ax1 : Nat) (ax2 : Nat) (ax3 : Nat) (az1 : Nat) (xb : BT) (ba bb : Nat) (H : Heap) (locs : List Loc) (ls : Array Slot) (cells slots : Nat) (r : (VV × CS) × Nat × Nat), CW ρ (pe P ba bb) ad st H → va_S (MA wC ad s.heap.size) s.heap H locs → isS ρ (pe P ba bb) H ax1 x1 → isS ρ (pe P ba bb) H ax2 x2 → isS ρ (pe P ba bb) H ax3 x3 → isS ρ (pe P ba bb) H az1 z1 → SB ρ H ba bb xb → (MA wC ad s.heap.size) ba → (MA wC ad s.heap.size) bb → (∀ i, i < 46 → ¬ ab ba bb (ad i)) → lv_has ls 9 [(1, .ref ax1), (2, .ref ax2), (3, .ref ax3), (4, .int x4), (5, .int x5), (6, .ref ba), (7, .int x7), (8, .int x8)] → res.1 = r.1 → cells + r.2.1 ≤ res.2.1 → slots + r.2.2 ≤ res.2.2 → tx_substitute_154 K102 st x1 x2 x3 x4 x5 x7 x8 z1 xb = some r → W p l e ({ frames := 16, cells := res.2.1, slots := res.2.2, locals := 698 } : Room) s m args below meth c H locs cells slots (MQ below (mQ (fun v H1 => ∃ x : Nat, v = some (.ref x) ∧ isV ρ P H1 x res.1.1 ∧ CW ρ P ad res.1.2 H1) (MA wC ad s.heap.size)) args s res.2.1 res.2.2 (MA wC ad s.heap.size)) (F0 m 154 ls [.ref az1, .ref ba]) := by
    intro K102 hK102
    intro st x1 x2 x3 x4 x5 x7 x8 z1 ax1 ax2 ax3 az1 xb ba bb H locs ls cells slots r hW hS fax1 fax2 fax3 faz1 hSB hAa hAb hnn hl her hc1 hs1 h
    have hSz := hS.1
    unfold tx_substitute_154 at h
    obtain ⟨q3, rq3, hq3, h, herq3, hccq3, hssq3⟩ := jd_some h
    refine k_callV (pc := 154) (n := 1) X hS (c_sb_appS l ρ _ (pe P ba bb) ba bb xb az1 z1 q3 hW.2.2.1 hW.2.1 ⟨hSB, Or.inr (Or.inl rfl), Or.inr (Or.inr rfl)⟩ (isS_ab faz1) hq3) wd524 wd1001 wd522 wd523 wd13 (by decide) ⟨rfl, rfl, Nat.le_of_ble_eq_true rfl, Nat.le_of_ble_eq_true rfl⟩ (sb_recv X hSB) (As := [.ref az1]) (rest := []) rfl rfl hl.1 (Nat.le_of_ble_eq_true rfl) d127_154 ⟨room_le hccq3 hc1, room_le hssq3 hs1⟩ (fun q hq => hq.elim (fun e => e ▸ hAa) (fun z => z.elim (fun e => e ▸ hAb) (fun g => hAz q (Nat.le_trans hS.1 g)))) (fun v H1 locs1 hv hz1 hz2 hSq3 => ?_)
    obtain ⟨rfl, bb4, hb1, hb2, hSB⟩ := hv
    have hk : kp (ab ba bb) _ H1 := kp_call hz1 hz2 (fun q hq z => z.elim Or.inl (fun z => z.elim Or.inr (fun g => absurd hq (Nat.not_lt.mpr g))))
    have fax1 := fax1.sb hk hb1
    have fax2 := fax2.sb hk hb1
    have fax3 := fax3.sb hk hb1
    have hAb : (MA wC ad s.heap.size) bb4 := hb1.elim (fun e => e ▸ hAb) (fun g => hAz _ (Nat.le_trans hS.1 g))
    have hnn0 := hnn
    have hnn : ∀ i, i < 46 → ¬ ab ba bb4 (ad i) := nn_step hnn hb1 hW
    have hW := hW.sb hk hb1 hb2 hnn0 hPp
    have hS := hSq3
    have hSz := hS.1
    have her := her.trans herq3
    have hc1 := room_st hccq3 hc1
    have hs1 := room_st hssq3 hs1
    refine lv_pop (pc := 157) hx hb d127_157 rfl ?_
    refine lv_iload (pc := 158) hx hb d127_158 (lv_at hl 7 rfl) ?_
    refine lv_aload_n (pc := 160) hx hb d127_160 rfl (lv_at hl 1 rfl) ?_
    obtain ⟨q5, hq5, h⟩ := jc_some h
    refine k_callV (pc := 161) (n := 0) X hS (c_js_length l ρ _ (pe P ba bb4) ax2 x2 q5 hW.2.2.1 hW.2.1 fax2 hq5) wd538 wd916 wd536 wd537 wd14 (by decide) ⟨rfl, rfl, Nat.le_of_ble_eq_true rfl, Nat.le_of_ble_eq_true rfl⟩ (s_recv X fax2) (As := []) (rest := [.int x8]) rfl rfl hl.1 (Nat.le_of_ble_eq_true rfl) d127_161 ⟨room_l0 hc1, room_l0 hs1⟩ (fun q hq => False.elim hq) (fun v H1 locs1 hv _ _ hSq5 => ?_)
    obtain ⟨rfl, rfl⟩ := hv
    have hS := hSq5
    have hSz := hS.1
    refine lv_iadd (pc := 164) hx hb d127_164 ?_
    obtain ⟨v6, ev6, h⟩ := jn_ex h
    refine nm_i ev6 ?_
    refine lv_istore (pc := 165) (lv' := [(8, .int v6), (1, .ref ax1), (2, .ref ax2), (3, .ref ax3), (4, .int x4), (5, .int x5), (6, .ref ba), (7, .int x7)]) hx hb d127_165 hl (by decide) rfl (fun ls hl => ?_)
    refine lv_goto (pc := 167) (tgt := 102) hx hb d127_167 (by decide) ?_
    exact hK102 st x1 x2 x3 x4 x5 x7 v6 ax1 ax2 ax3 q3.1 ba bb4 _ _ _ _ _ _ hW hS fax1 fax2 fax3 hSB hAa hAb hnn (lv_sub hl [1, 2, 3, 4, 5, 6, 7, 0] rfl) her hc1 hs1 h
  have kc149 : ∀ (K102 : CS → TT → TT → TT → Int32 → Int32 → Int32 → Int32 → BT → Option ((VV × CS) × Nat × Nat)) (hK102 : ∀ (st : CS) (x1 : TT) (x2 : TT) (x3 : TT) (x4 : Int32) (x5 : Int32) (x7 : Int32) (x8 : Int32) (ax1 : Nat) (ax2 : Nat) (ax3 : Nat) (xb : BT) (ba bb : Nat) (H : Heap) (locs : List Loc) (ls : Array Slot) (cells slots : Nat) (r : (VV × CS) × Nat × Nat), CW ρ (pe P ba bb) ad st H → va_S (MA wC ad s.heap.size) s.heap H locs → isS ρ (pe P ba bb) H ax1 x1 → isS ρ (pe P ba bb) H ax2 x2 → isS ρ (pe P ba bb) H ax3 x3 → SB ρ H ba bb xb → (MA wC ad s.heap.size) ba → (MA wC ad s.heap.size) bb → (∀ i, i < 46 → ¬ ab ba bb (ad i)) → lv_has ls 9 [(1, .ref ax1), (2, .ref ax2), (3, .ref ax3), (4, .int x4), (5, .int x5), (6, .ref ba), (7, .int x7), (8, .int x8)] → res.1 = r.1 → cells + r.2.1 ≤ res.2.1 → slots + r.2.2 ≤ res.2.2 → K102 st x1 x2 x3 x4 x5 x7 x8 xb = some r → W p l e ({ frames := 16, cells := res.2.1, slots := res.2.2, locals := 698 } : Room) s m args below meth c H locs cells slots (MQ below (mQ (fun v H1 => ∃ x : Nat, v = some (.ref x) ∧ isV ρ P H1 x res.1.1 ∧ CW ρ P ad res.1.2 H1) (MA wC ad s.heap.size)) args s res.2.1 res.2.2 (MA wC ad s.heap.size)) (F0 m 102 ls [])), ∀ (st : CS) (x1 : TT) (x2 : TT) (x3 : TT) (x4 : Int32) (x5 : Int32) (x7 : Int32) (x8 : Int32) (ax1 : Nat) (ax2 : Nat) (ax3 : Nat) (xb : BT) (ba bb : Nat) (H : Heap) (locs : List Loc) (ls : Array Slot) (cells slots : Nat) (r : (VV × CS) × Nat × Nat), CW ρ (pe P ba bb) ad st H → va_S (MA wC ad s.heap.size) s.heap H locs → isS ρ (pe P ba bb) H ax1 x1 → isS ρ (pe P ba bb) H ax2 x2 → isS ρ (pe P ba bb) H ax3 x3 → SB ρ H ba bb xb → (MA wC ad s.heap.size) ba → (MA wC ad s.heap.size) bb → (∀ i, i < 46 → ¬ ab ba bb (ad i)) → lv_has ls 9 [(1, .ref ax1), (2, .ref ax2), (3, .ref ax3), (4, .int x4), (5, .int x5), (6, .ref ba), (7, .int x7), (8, .int x8)] → res.1 = r.1 → cells + r.2.1 ≤ res.2.1 → slots + r.2.2 ≤ res.2.2 → tx_substitute_149 K102 st x1 x2 x3 x4 x5 x7 x8 xb = some r → W p l e ({ frames := 16, cells := res.2.1, slots := res.2.2, locals := 698 } : Room) s m args below meth c H locs cells slots (MQ below (mQ (fun v H1 => ∃ x : Nat, v = some (.ref x) ∧ isV ρ P H1 x res.1.1 ∧ CW ρ P ad res.1.2 H1) (MA wC ad s.heap.size)) args s res.2.1 res.2.2 (MA wC ad s.heap.size)) (F0 m 149 ls [.ref ba]) := by
    intro K102 hK102
    intro st x1 x2 x3 x4 x5 x7 x8 ax1 ax2 ax3 xb ba bb H locs ls cells slots r hW hS fax1 fax2 fax3 hSB hAa hAb hnn hl her hc1 hs1 h
    have hSz := hS.1
    unfold tx_substitute_149 at h
    refine lv_aload_n (pc := 149) hx hb d127_149 rfl (lv_at hl 2 rfl) ?_
    refine lv_goto (pc := 150) (tgt := 154) hx hb d127_150 (by decide) ?_
    exact kc154 _ hK102  st x1 x2 x3 x4 x5 x7 x8 x3 ax1 ax2 ax3 ax3 xb ba bb _ _ _ _ _ _ hW hS fax1 fax2 fax3 fax3 hSB hAa hAb hnn (lv_sub hl [0, 1, 2, 3, 4, 5, 6, 7] rfl) her hc1 hs1 h
  have kc102 : ∀ (fu : Nat), ∀ (st : CS) (x1 : TT) (x2 : TT) (x3 : TT) (x4 : Int32) (x5 : Int32) (x7 : Int32) (x8 : Int32) (ax1 : Nat) (ax2 : Nat) (ax3 : Nat) (xb : BT) (ba bb : Nat) (H : Heap) (locs : List Loc) (ls : Array Slot) (cells slots : Nat) (r : (VV × CS) × Nat × Nat), CW ρ (pe P ba bb) ad st H → va_S (MA wC ad s.heap.size) s.heap H locs → isS ρ (pe P ba bb) H ax1 x1 → isS ρ (pe P ba bb) H ax2 x2 → isS ρ (pe P ba bb) H ax3 x3 → SB ρ H ba bb xb → (MA wC ad s.heap.size) ba → (MA wC ad s.heap.size) bb → (∀ i, i < 46 → ¬ ab ba bb (ad i)) → lv_has ls 9 [(1, .ref ax1), (2, .ref ax2), (3, .ref ax3), (4, .int x4), (5, .int x5), (6, .ref ba), (7, .int x7), (8, .int x8)] → res.1 = r.1 → cells + r.2.1 ≤ res.2.1 → slots + r.2.2 ≤ res.2.2 → tx_substitute_102 fu st x1 x2 x3 x4 x5 x7 x8 xb = some r → W p l e ({ frames := 16, cells := res.2.1, slots := res.2.2, locals := 698 } : Room) s m args below meth c H locs cells slots (MQ below (mQ (fun v H1 => ∃ x : Nat, v = some (.ref x) ∧ isV ρ P H1 x res.1.1 ∧ CW ρ P ad res.1.2 H1) (MA wC ad s.heap.size)) args s res.2.1 res.2.2 (MA wC ad s.heap.size)) (F0 m 102 ls []) := by
    intro  fu
    induction fu with
    | zero => intro st x1 x2 x3 x4 x5 x7 x8 ax1 ax2 ax3 xb ba bb H locs ls cells slots r hW hS fax1 fax2 fax3 hSB hAa hAb hnn hl her hc1 hs1 h; cases h
    | succ fu hK102 =>
      intro st x1 x2 x3 x4 x5 x7 x8 ax1 ax2 ax3 xb ba bb H locs ls cells slots r hW hS fax1 fax2 fax3 hSB hAa hAb hnn hl her hc1 hs1 h
      have hSz := hS.1
      unfold tx_substitute_102 at h
      refine lv_iload (pc := 102) hx hb d127_102 (lv_at hl 7 rfl) ?_
      refine lv_aload_n (pc := 104) hx hb d127_104 rfl (lv_at hl 0 rfl) ?_
      obtain ⟨q7, hq7, h⟩ := jc_some h
      refine k_callV (pc := 105) (n := 0) X hS (c_js_length l ρ _ (pe P ba bb) ax1 x1 q7 hW.2.2.1 hW.2.1 fax1 hq7) wd538 wd916 wd536 wd537 wd14 (by decide) ⟨rfl, rfl, Nat.le_of_ble_eq_true rfl, Nat.le_of_ble_eq_true rfl⟩ (s_recv X fax1) (As := []) (rest := [.int x8]) rfl rfl hl.1 (Nat.le_of_ble_eq_true rfl) d127_105 ⟨room_l0 hc1, room_l0 hs1⟩ (fun q hq => False.elim hq) (fun v H1 locs1 hv _ _ hSq7 => ?_)
      obtain ⟨rfl, rfl⟩ := hv
      have hS := hSq7
      have hSz := hS.1
      refine lv_icmp_ge (pc := 108) (tgt := 188) hx hb d127_108 (by decide) (fun c108 => ?_) (fun c108 => ?_)
      · have h := jb_t c108 h
        exact kc188   st xb ba bb _ _ _ _ _ _ hW hS hSB hAa hAb hnn (lv_sub hl [5] rfl) her hc1 hs1 h
      · have h := jb_f c108 h
        refine lv_aload (pc := 111) hx hb d127_111 (lv_at hl 5 rfl) ?_
        obtain ⟨q8, hq8, h⟩ := jc_some h
        refine k_callV (pc := 113) (n := 0) X hS (c_sb_len l ρ _ (pe P ba bb) ba bb xb q8 hW.2.2.1 hW.2.1 ⟨hSB, Or.inr (Or.inl rfl), Or.inr (Or.inr rfl)⟩ hq8) wd431 wd1012 wd430 wd2013 wd13 (by decide) ⟨rfl, rfl, Nat.le_of_ble_eq_true rfl, Nat.le_of_ble_eq_true rfl⟩ (sb_recv X hSB) (As := []) (rest := []) rfl rfl hl.1 (Nat.le_of_ble_eq_true rfl) d127_113 ⟨room_l0 hc1, room_l0 hs1⟩ (fun q hq => False.elim hq) (fun v H1 locs1 hv _ _ hSq8 => ?_)
        obtain ⟨rfl, rfl⟩ := hv
        have hS := hSq8
        have hSz := hS.1
        refine lv_sipush (pc := 116) (v := 255) hx hb d127_116 (by decide) ?_
        refine lv_icmp_gt (pc := 119) (tgt := 188) hx hb d127_119 (by decide) (fun c119 => ?_) (fun c119 => ?_)
        · have h := jb_t c119 h
          exact kc188   st xb ba bb _ _ _ _ _ _ hW hS hSB hAa hAb hnn (lv_sub hl [5] rfl) her hc1 hs1 h
        · have h := jb_f c119 h
          refine lv_aload_n (pc := 122) hx hb d127_122 rfl (lv_at hl 1 rfl) ?_
          refine lv_aload_n (pc := 123) hx hb d127_123 rfl (lv_at hl 0 rfl) ?_
          refine lv_iload (pc := 124) hx hb d127_124 (lv_at hl 7 rfl) ?_
          obtain ⟨q9, hq9, h⟩ := jc_some h
          refine k_callS (pc := 126) (n := 3) X hS (c_tx_isAt l ρ _ (pe P ba bb) ax2 x2 ax1 x1 x8 q9 hW.2.2.1 hW.2.1 fax2 fax1 hq9) wd968 wd966 wd967 wd7 (by decide) ⟨rfl, rfl, Nat.le_of_ble_eq_true rfl, Nat.le_of_ble_eq_true rfl⟩ (As := [.ref ax2, .ref ax1, .int x8]) (rest := []) rfl rfl hl.1 (Nat.le_of_ble_eq_true rfl) d127_126 ⟨room_l0 hc1, room_l0 hs1⟩ (fun q hq => False.elim hq) (fun v H1 locs1 hv _ _ hSq9 => ?_)
          obtain ⟨rfl, rfl⟩ := hv
          have hS := hSq9
          have hSz := hS.1
          refine lv_if_eq (pc := 129) (tgt := 170) hx hb d127_129 (by decide) (fun c129 => ?_) (fun c129 => ?_)
          · have h := jb_t c129 h
            refine lv_aload (pc := 170) hx hb d127_170 (lv_at hl 5 rfl) ?_
            refine lv_aload_n (pc := 172) hx hb d127_172 rfl (lv_at hl 0 rfl) ?_
            refine lv_iload (pc := 173) hx hb d127_173 (lv_at hl 7 rfl) ?_
            obtain ⟨q10, hq10, h⟩ := jc_some h
            refine k_callV (pc := 175) (n := 1) X hS (c_js_charAt l ρ _ (pe P ba bb) ax1 x1 x8 q10 hW.2.2.1 hW.2.1 fax1 hq10) wd683 wd969 wd681 wd682 wd14 (by decide) ⟨rfl, rfl, Nat.le_of_ble_eq_true rfl, Nat.le_of_ble_eq_true rfl⟩ (s_recv X fax1) (As := [.int x8]) (rest := [.ref ba]) rfl rfl hl.1 (Nat.le_of_ble_eq_true rfl) d127_175 ⟨room_l0 hc1, room_l0 hs1⟩ (fun q hq => False.elim hq) (fun v H1 locs1 hv _ _ hSq10 => ?_)
            obtain ⟨rfl, rfl⟩ := hv
            have hS := hSq10
            have hSz := hS.1
            obtain ⟨q11, rq11, hq11, h, herq11, hccq11, hssq11⟩ := jd_some h
            refine k_callV (pc := 178) (n := 1) X hS (c_sb_appC l ρ _ (pe P ba bb) ba bb xb q10 q11 hW.2.2.1 hW.2.1 ⟨hSB, Or.inr (Or.inl rfl), Or.inr (Or.inr rfl)⟩ hq11) wd316 wd1013 wd314 wd315 wd13 (by decide) ⟨rfl, rfl, Nat.le_of_ble_eq_true rfl, Nat.le_of_ble_eq_true rfl⟩ (sb_recv X hSB) (As := [.int q10]) (rest := []) rfl rfl hl.1 (Nat.le_of_ble_eq_true rfl) d127_178 ⟨room_le hccq11 hc1, room_le hssq11 hs1⟩ (fun q hq => hq.elim (fun e => e ▸ hAa) (fun z => z.elim (fun e => e ▸ hAb) (fun g => hAz q (Nat.le_trans hS.1 g)))) (fun v H1 locs1 hv hz1 hz2 hSq11 => ?_)
            obtain ⟨rfl, bb12, hb1, hb2, hSB⟩ := hv
            have hk : kp (ab ba bb) _ H1 := kp_call hz1 hz2 (fun q hq z => z.elim Or.inl (fun z => z.elim Or.inr (fun g => absurd hq (Nat.not_lt.mpr g))))
            have fax1 := fax1.sb hk hb1
            have fax2 := fax2.sb hk hb1
            have fax3 := fax3.sb hk hb1
            have hAb : (MA wC ad s.heap.size) bb12 := hb1.elim (fun e => e ▸ hAb) (fun g => hAz _ (Nat.le_trans hS.1 g))
            have hnn0 := hnn
            have hnn : ∀ i, i < 46 → ¬ ab ba bb12 (ad i) := nn_step hnn hb1 hW
            have hW := hW.sb hk hb1 hb2 hnn0 hPp
            have hS := hSq11
            have hSz := hS.1
            have her := her.trans herq11
            have hc1 := room_st hccq11 hc1
            have hs1 := room_st hssq11 hs1
            refine lv_pop (pc := 181) hx hb d127_181 rfl ?_
            obtain ⟨v13, ev13, h⟩ := jn_ex h
            refine lv_iinc (pc := 182) (v := v13) (lv' := [(8, .int v13), (1, .ref ax1), (2, .ref ax2), (3, .ref ax3), (4, .int x4), (5, .int x5), (6, .ref ba), (7, .int x7)]) hx hb d127_182 hl (k := 7) rfl (by rw [ev13]; rfl) (by decide) rfl (fun ls hl => ?_)
            refine lv_goto (pc := 185) (tgt := 102) hx hb d127_185 (by decide) ?_
            exact hK102 st x1 x2 x3 x4 x5 x7 v13 ax1 ax2 ax3 q11.1 ba bb12 _ _ _ _ _ _ hW hS fax1 fax2 fax3 hSB hAa hAb hnn (lv_sub hl [1, 2, 3, 4, 5, 6, 7, 0] rfl) her hc1 hs1 h
          · have h := jb_f c129 h
            obtain ⟨v14, ev14, h⟩ := jn_ex h
            refine lv_iinc (pc := 132) (v := v14) (lv' := [(7, .int v14), (1, .ref ax1), (2, .ref ax2), (3, .ref ax3), (4, .int x4), (5, .int x5), (6, .ref ba), (8, .int x8)]) hx hb d127_132 hl (k := 6) rfl (by rw [ev14]; rfl) (by decide) rfl (fun ls hl => ?_)
            refine lv_aload (pc := 135) hx hb d127_135 (lv_at hl 6 rfl) ?_
            refine lv_iload (pc := 137) hx hb d127_137 (lv_at hl 4 rfl) ?_
            refine lv_if_ne (pc := 139) (tgt := 149) hx hb d127_139 (by decide) (fun c139 => ?_) (fun c139 => ?_)
            · have h := jb_f c139 h
              exact kc149 _ hK102  st x1 x2 x3 x4 x5 v14 x8 ax1 ax2 ax3 xb ba bb _ _ _ _ _ _ hW hS fax1 fax2 fax3 hSB hAa hAb hnn (lv_sub hl [1, 2, 3, 4, 5, 6, 0, 7] rfl) her hc1 hs1 h
            · have h := jb_t c139 h
              refine lv_iload (pc := 142) hx hb d127_142 (lv_at hl 0 rfl) ?_
              refine lv_iload (pc := 144) hx hb d127_144 (lv_at hl 5 rfl) ?_
              refine lv_icmp_ne (pc := 146) (tgt := 153) hx hb d127_146 (by decide) (fun c146 => ?_) (fun c146 => ?_)
              · have h := jb_f c146 h
                refine lv_aload_n (pc := 153) hx hb d127_153 rfl (lv_at hl 2 rfl) ?_
                exact kc154 _ hK102  st x1 x2 x3 x4 x5 v14 x8 x2 ax1 ax2 ax3 ax2 xb ba bb _ _ _ _ _ _ hW hS fax1 fax2 fax3 fax2 hSB hAa hAb hnn (lv_sub hl [1, 2, 3, 4, 5, 6, 0, 7] rfl) her hc1 hs1 h
              · have h := jb_t c146 h
                exact kc149 _ hK102  st x1 x2 x3 x4 x5 v14 x8 ax1 ax2 ax3 xb ba bb _ _ _ _ _ _ hW hS fax1 fax2 fax3 hSB hAa hAb hnn (lv_sub hl [1, 2, 3, 4, 5, 6, 0, 7] rfl) her hc1 hs1 h
  have kc62 : ∀ (st : CS) (x1 : TT) (x2 : TT) (x3 : TT) (x4 : Int32) (z0 : Int32) (ax1 : Nat) (ax2 : Nat) (ax3 : Nat) (H : Heap) (locs : List Loc) (ls : Array Slot) (cells slots : Nat) (r : (VV × CS) × Nat × Nat), CW ρ P ad st H → va_S (MA wC ad s.heap.size) s.heap H locs → isS ρ P H ax1 x1 → isS ρ P H ax2 x2 → isS ρ P H ax3 x3 → lv_has ls 9 [(1, .ref ax1), (2, .ref ax2), (3, .ref ax3), (4, .int x4)] → res.1 = r.1 → cells + r.2.1 ≤ res.2.1 → slots + r.2.2 ≤ res.2.2 → tx_substitute_62 st x1 x2 x3 x4 z0 = some r → W p l e ({ frames := 16, cells := res.2.1, slots := res.2.2, locals := 698 } : Room) s m args below meth c H locs cells slots (MQ below (mQ (fun v H1 => ∃ x : Nat, v = some (.ref x) ∧ isV ρ P H1 x res.1.1 ∧ CW ρ P ad res.1.2 H1) (MA wC ad s.heap.size)) args s res.2.1 res.2.2 (MA wC ad s.heap.size)) (F0 m 62 ls [.int z0]) := by
    intro st x1 x2 x3 x4 z0 ax1 ax2 ax3 H locs ls cells slots r hW hS fax1 fax2 fax3 hl her hc1 hs1 h
    have hSz := hS.1
    unfold tx_substitute_62 at h
    refine lv_istore (pc := 62) (lv' := [(5, .int z0), (1, .ref ax1), (2, .ref ax2), (3, .ref ax3), (4, .int x4)]) hx hb d127_62 hl (by decide) rfl (fun ls hl => ?_)
    refine lv_iload (pc := 64) hx hb d127_64 (lv_at hl 0 rfl) ?_
    refine lv_iconst (pc := 66) (v := 1) hx hb d127_66 (by decide) ?_
    refine lv_icmp_ge (pc := 67) (tgt := 75) hx hb d127_67 (by decide) (fun c67 => ?_) (fun c67 => ?_)
    · have h := jb_t c67 h
      refine lv_aload_n (pc := 75) hx hb d127_75 rfl (lv_at hl 2 rfl) ?_
      obtain ⟨q15, hq15, h⟩ := jc_some h
      refine k_callV (pc := 76) (n := 0) X hS (c_js_isEmpty l ρ _ P ax2 x2 q15 hW.2.2.1 hW.2.1 fax2 hq15) wd782 wd1011 wd780 wd781 wd14 (by decide) ⟨rfl, rfl, Nat.le_of_ble_eq_true rfl, Nat.le_of_ble_eq_true rfl⟩ (s_recv X fax2) (As := []) (rest := []) rfl rfl hl.1 (Nat.le_of_ble_eq_true rfl) d127_76 ⟨room_l0 hc1, room_l0 hs1⟩ (fun q hq => False.elim hq) (fun v H1 locs1 hv _ _ hSq15 => ?_)
      obtain ⟨rfl, rfl⟩ := hv
      have hS := hSq15
      have hSz := hS.1
      refine lv_if_eq (pc := 79) (tgt := 87) hx hb d127_79 (by decide) (fun c79 => ?_) (fun c79 => ?_)
      · have h := jb_t c79 h
        obtain ⟨r16, h, her16, hcc16, hss16⟩ := ja_some h
        refine k_newSB (pc := 87) X hS hW.2.2.1 hW.2.1 hAz wd999 wd1000 (rest := []) hl.1 (Nat.le_of_ble_eq_true rfl) rfl rfl (room_le hcc16 hc1) (room_le hss16 hs1) d127_87 d127_90 d127_91 (fun ba bb H1 locs hka hba hbb hba1 hbb1 hSB hS => ?_)
        have fax1 := fax1.new hka hba hbb
        have fax2 := fax2.new hka hba hbb
        have fax3 := fax3.new hka hba hbb
        have hnn : ∀ i, i < 46 → ¬ ab ba bb (ad i) := nn_new hW hba hbb
        have hW := hW.new hka hba hbb hba1 hbb1
        have hAa : (MA wC ad s.heap.size) ba := hAz _ (Nat.le_trans hSz hba)
        have hAb : (MA wC ad s.heap.size) bb := hAz _ (Nat.le_trans hSz hbb)
        have hSz := hS.1
        have her := her.trans her16
        have hc1 := room_st hcc16 hc1
        have hs1 := room_st hss16 hs1
        refine lv_astore (pc := 94) (lv' := [(6, .ref ba), (5, .int z0), (1, .ref ax1), (2, .ref ax2), (3, .ref ax3), (4, .int x4)]) hx hb d127_94 hl (by decide) rfl (fun ls hl => ?_)
        refine lv_iconst (pc := 96) (v := 0) hx hb d127_96 (by decide) ?_
        refine lv_istore (pc := 97) (lv' := [(7, .int 0), (6, .ref ba), (5, .int z0), (1, .ref ax1), (2, .ref ax2), (3, .ref ax3), (4, .int x4)]) hx hb d127_97 hl (by decide) rfl (fun ls hl => ?_)
        refine lv_iconst (pc := 99) (v := 0) hx hb d127_99 (by decide) ?_
        refine lv_istore (pc := 100) (lv' := [(8, .int 0), (7, .int 0), (6, .ref ba), (5, .int z0), (1, .ref ax1), (2, .ref ax2), (3, .ref ax3), (4, .int x4)]) hx hb d127_100 hl (by decide) rfl (fun ls hl => ?_)
        exact kc102  FU st x1 x2 x3 x4 z0 0 0 ax1 ax2 ax3 (([] : TT), 16) ba bb _ _ _ _ _ _ hW hS fax1 fax2 fax3 hSB hAa hAb hnn (lv_sub hl [4, 5, 6, 7, 3, 2, 1, 0] rfl) her hc1 hs1 h
      · have h := jb_f c79 h
        refine lv_aload_n (pc := 82) hx hb d127_82 rfl (lv_at hl 1 rfl) ?_
        obtain ⟨q17, rq17, hq17, h, herq17, hccq17, hssq17⟩ := jd_some h
        refine k_callS (pc := 83) (n := 1) X hS (c_vl_ofText l ρ _ P ax1 x1 q17 hW.2.2.1 hW.2.1 fax1 hq17) wd658 wd956 wd657 wd4 (by decide) ⟨rfl, rfl, Nat.le_of_ble_eq_true rfl, Nat.le_of_ble_eq_true rfl⟩ (As := [.ref ax1]) (rest := []) rfl rfl hl.1 (Nat.le_of_ble_eq_true rfl) d127_83 ⟨room_le hccq17 hc1, room_le hssq17 hs1⟩ (fun q hq => hAz q (Nat.le_trans hS.1 hq)) (fun v H1 locs1 hv hz1 hz2 hSq17 => ?_)
        obtain ⟨u18, rfl, fu18⟩ := hv
        have hk : kp no _ H1 := kp_call hz1 hz2 (fun q hq z => absurd hq (Nat.not_lt.mpr z))
        have hW := hW.keep hk no_hz (fun _ _ z => z)
        have hS := hSq17
        have hSz := hS.1
        have her := her.trans herq17
        have hc1 := room_st hccq17 hc1
        have hs1 := room_st hssq17 hs1
        have her : res.1 = (q17.1, st) := her.trans (congrArg Prod.fst (Option.some.inj h)).symm
        exact m_aret (pc := 86) hx hb hr (Or.inl ⟨_, rfl⟩) hlk hS ⟨u18, rfl, by rw [her]; exact fu18, by rw [her]; exact hW⟩ (Nat.le_trans (Nat.le_add_right _ _) hc1) (Nat.le_trans (Nat.le_add_right _ _) hs1) d127_86
    · have h := jb_f c67 h
      refine lv_iconst (pc := 70) (v := 3) hx hb d127_70 (by decide) ?_
      obtain ⟨q19, rq19, hq19, h, herq19, hccq19, hssq19⟩ := jd_some h
      refine k_callS (pc := 71) (n := 1) X hS (c_vl_ofError l ρ _ P 3 q19 hW.2.2.1 hW.2.1  hq19) wd651 wd931 wd650 wd4 (by decide) ⟨rfl, rfl, Nat.le_of_ble_eq_true rfl, Nat.le_of_ble_eq_true rfl⟩ (As := [.int 3]) (rest := []) rfl rfl hl.1 (Nat.le_of_ble_eq_true rfl) d127_71 ⟨room_le hccq19 hc1, room_le hssq19 hs1⟩ (fun q hq => hAz q (Nat.le_trans hS.1 hq)) (fun v H1 locs1 hv hz1 hz2 hSq19 => ?_)
      obtain ⟨u20, rfl, fu20⟩ := hv
      have hk : kp no _ H1 := kp_call hz1 hz2 (fun q hq z => absurd hq (Nat.not_lt.mpr z))
      have hW := hW.keep hk no_hz (fun _ _ z => z)
      have hS := hSq19
      have hSz := hS.1
      have her := her.trans herq19
      have hc1 := room_st hccq19 hc1
      have hs1 := room_st hssq19 hs1
      have her : res.1 = (q19.1, st) := her.trans (congrArg Prod.fst (Option.some.inj h)).symm
      exact m_aret (pc := 74) hx hb hr (Or.inl ⟨_, rfl⟩) hlk hS ⟨u20, rfl, by rw [her]; exact fu20, by rw [her]; exact hW⟩ (Nat.le_trans (Nat.le_add_right _ _) hc1) (Nat.le_trans (Nat.le_add_right _ _) hs1) d127_74
  have kc43 : ∀ (st : CS) (x1 : TT) (x2 : TT) (x3 : TT) (z0 : Int32) (ax1 : Nat) (ax2 : Nat) (ax3 : Nat) (H : Heap) (locs : List Loc) (ls : Array Slot) (cells slots : Nat) (r : (VV × CS) × Nat × Nat), CW ρ P ad st H → va_S (MA wC ad s.heap.size) s.heap H locs → isS ρ P H ax1 x1 → isS ρ P H ax2 x2 → isS ρ P H ax3 x3 → lv_has ls 9 [(0, .ref (ad 3)), (1, .ref ax1), (2, .ref ax2), (3, .ref ax3)] → res.1 = r.1 → cells + r.2.1 ≤ res.2.1 → slots + r.2.2 ≤ res.2.2 → tx_substitute_43 st x1 x2 x3 z0 = some r → W p l e ({ frames := 16, cells := res.2.1, slots := res.2.2, locals := 698 } : Room) s m args below meth c H locs cells slots (MQ below (mQ (fun v H1 => ∃ x : Nat, v = some (.ref x) ∧ isV ρ P H1 x res.1.1 ∧ CW ρ P ad res.1.2 H1) (MA wC ad s.heap.size)) args s res.2.1 res.2.2 (MA wC ad s.heap.size)) (F0 m 43 ls [.int z0]) := by
    intro st x1 x2 x3 z0 ax1 ax2 ax3 H locs ls cells slots r hW hS fax1 fax2 fax3 hl her hc1 hs1 h
    have hSz := hS.1
    unfold tx_substitute_43 at h
    refine lv_istore (pc := 43) (lv' := [(4, .int z0), (0, .ref (ad 3)), (1, .ref ax1), (2, .ref ax2), (3, .ref ax3)]) hx hb d127_43 hl (by decide) rfl (fun ls hl => ?_)
    refine lv_iload (pc := 45) hx hb d127_45 (lv_at hl 0 rfl) ?_
    refine lv_if_eq (pc := 47) (tgt := 54) hx hb d127_47 (by decide) (fun c47 => ?_) (fun c47 => ?_)
    · have h := jb_t c47 h
      refine lv_aload_n (pc := 54) hx hb d127_54 rfl (lv_at hl 1 rfl) ?_
      refine c_getK (pc := 55) X hW 3 0 5 1 (C := "WordFunctions$Texts") (T := T5) (N := 2) (by decide) rfl rfl rfl rfl tin5 rfl wd196 rfl rfl d127_55 ?_
      refine lv_iconst (pc := 58) (v := 3) hx hb d127_58 (by decide) ?_
      obtain ⟨q21, hq21, h⟩ := jc_some h
      refine k_callV (pc := 59) (n := 1) X hS (c_ar_whole l ρ ad _ P st 3 q21 hW  hq21) wd762 wd961 wd760 wd761 wd3 (by decide) ⟨rfl, rfl, Nat.le_of_ble_eq_true rfl, Nat.le_of_ble_eq_true rfl⟩ (c_recv X hW 1 3 (by decide) rfl rfl) (As := [.int 3]) (rest := []) rfl rfl hl.1 (Nat.le_of_ble_eq_true rfl) d127_59 ⟨room_l0 hc1, room_l0 hs1⟩ (fun q hq => MA.mono hS.1 hq) (fun v H1 locs1 hv hz1 hz2 hSq21 => ?_)
      have hPq := hW.1
      obtain ⟨rfl, hW⟩ := hv
      have hk : kp (Pm ad) _ H1 := kp_call hz1 hz2 (MA_Pm rfl)
      have fax1 := fax1.keep hk (Pm_P hPq)
      have fax2 := fax2.keep hk (Pm_P hPq)
      have fax3 := fax3.keep hk (Pm_P hPq)
      have hS := hSq21
      have hSz := hS.1
      exact kc62   q21.2 x1 x2 x3 z0 q21.1 ax1 ax2 ax3 _ _ _ _ _ _ hW hS fax1 fax2 fax3 (lv_sub hl [2, 3, 4, 0] rfl) her hc1 hs1 h
    · have h := jb_f c47 h
      refine lv_iconst (pc := 50) (v := 1) hx hb d127_50 (by decide) ?_
      refine lv_goto (pc := 51) (tgt := 62) hx hb d127_51 (by decide) ?_
      exact kc62   st x1 x2 x3 z0 1 ax1 ax2 ax3 _ _ _ _ _ _ hW hS fax1 fax2 fax3 (lv_sub hl [2, 3, 4, 0] rfl) her hc1 hs1 h
  have her : res.1 = res.1 := rfl
  have hc1 : 0 + res.2.1 ≤ res.2.1 := Nat.le_of_eq (Nat.zero_add _)
  have hs1 : 0 + res.2.2 ≤ res.2.2 := Nat.le_of_eq (Nat.zero_add _)
  unfold f_tx_substitute at h
  refine lv_aload_n (pc := 0) hx hb d127_0 rfl (lv_at hl 0 rfl) ?_
  refine c_getK (pc := 1) X hW 3 0 5 1 (C := "WordFunctions$Texts") (T := T5) (N := 2) (by decide) rfl rfl rfl rfl tin5 rfl wd196 rfl rfl d127_1 ?_
  refine lv_iconst (pc := 4) (v := 0) hx hb d127_4 (by decide) ?_
  obtain ⟨q22, rq22, hq22, h, herq22, hccq22, hssq22⟩ := jd_some h
  refine k_callV (pc := 5) (n := 1) X hS (c_ar_text l ρ ad _ P st 0 q22 hW  hq22) wd868 wd865 wd866 wd867 wd3 (by decide) ⟨rfl, rfl, Nat.le_of_ble_eq_true rfl, Nat.le_of_ble_eq_true rfl⟩ (c_recv X hW 1 3 (by decide) rfl rfl) (As := [.int 0]) (rest := []) rfl rfl hl.1 (Nat.le_of_ble_eq_true rfl) d127_5 ⟨room_le hccq22 hc1, room_le hssq22 hs1⟩ (fun q hq => MA.mono hS.1 hq) (fun v H1 locs1 hv hz1 hz2 hSq22 => ?_)
  have hPq := hW.1
  obtain ⟨u23, rfl, fu23, hW⟩ := hv
  have hS := hSq22
  have hSz := hS.1
  have her := her.trans herq22
  have hc1 := room_st hccq22 hc1
  have hs1 := room_st hssq22 hs1
  refine lv_astore_n (pc := 8) (lv' := [(1, .ref u23), (0, .ref (ad 3))]) hx hb d127_8 rfl hl (by decide) rfl (fun ls hl => ?_)
  refine lv_aload_n (pc := 9) hx hb d127_9 rfl (lv_at hl 1 rfl) ?_
  refine c_getK (pc := 10) X hW 3 0 5 1 (C := "WordFunctions$Texts") (T := T5) (N := 2) (by decide) rfl rfl rfl rfl tin5 rfl wd196 rfl rfl d127_10 ?_
  refine lv_iconst (pc := 13) (v := 1) hx hb d127_13 (by decide) ?_
  obtain ⟨q24, rq24, hq24, h, herq24, hccq24, hssq24⟩ := jd_some h
  refine k_callV (pc := 14) (n := 1) X hS (c_ar_text l ρ ad _ P q22.1.2 1 q24 hW  hq24) wd868 wd865 wd866 wd867 wd3 (by decide) ⟨rfl, rfl, Nat.le_of_ble_eq_true rfl, Nat.le_of_ble_eq_true rfl⟩ (c_recv X hW 1 3 (by decide) rfl rfl) (As := [.int 1]) (rest := []) rfl rfl hl.1 (Nat.le_of_ble_eq_true rfl) d127_14 ⟨room_le hccq24 hc1, room_le hssq24 hs1⟩ (fun q hq => MA.mono hS.1 hq) (fun v H1 locs1 hv hz1 hz2 hSq24 => ?_)
  have hPq := hW.1
  obtain ⟨u25, rfl, fu25, hW⟩ := hv
  have hk : kp (Pm ad) _ H1 := kp_call hz1 hz2 (MA_Pm rfl)
  have fu23 := fu23.keep hk (Pm_P hPq)
  have hS := hSq24
  have hSz := hS.1
  have her := her.trans herq24
  have hc1 := room_st hccq24 hc1
  have hs1 := room_st hssq24 hs1
  refine lv_astore_n (pc := 17) (lv' := [(2, .ref u25), (1, .ref u23), (0, .ref (ad 3))]) hx hb d127_17 rfl hl (by decide) rfl (fun ls hl => ?_)
  refine lv_aload_n (pc := 18) hx hb d127_18 rfl (lv_at hl 2 rfl) ?_
  refine c_getK (pc := 19) X hW 3 0 5 1 (C := "WordFunctions$Texts") (T := T5) (N := 2) (by decide) rfl rfl rfl rfl tin5 rfl wd196 rfl rfl d127_19 ?_
  refine lv_iconst (pc := 22) (v := 2) hx hb d127_22 (by decide) ?_
  obtain ⟨q26, rq26, hq26, h, herq26, hccq26, hssq26⟩ := jd_some h
  refine k_callV (pc := 23) (n := 1) X hS (c_ar_text l ρ ad _ P q24.1.2 2 q26 hW  hq26) wd868 wd865 wd866 wd867 wd3 (by decide) ⟨rfl, rfl, Nat.le_of_ble_eq_true rfl, Nat.le_of_ble_eq_true rfl⟩ (c_recv X hW 1 3 (by decide) rfl rfl) (As := [.int 2]) (rest := []) rfl rfl hl.1 (Nat.le_of_ble_eq_true rfl) d127_23 ⟨room_le hccq26 hc1, room_le hssq26 hs1⟩ (fun q hq => MA.mono hS.1 hq) (fun v H1 locs1 hv hz1 hz2 hSq26 => ?_)
  have hPq := hW.1
  obtain ⟨u27, rfl, fu27, hW⟩ := hv
  have hk : kp (Pm ad) _ H1 := kp_call hz1 hz2 (MA_Pm rfl)
  have fu25 := fu25.keep hk (Pm_P hPq)
  have fu23 := fu23.keep hk (Pm_P hPq)
  have hS := hSq26
  have hSz := hS.1
  have her := her.trans herq26
  have hc1 := room_st hccq26 hc1
  have hs1 := room_st hssq26 hs1
  refine lv_astore_n (pc := 26) (lv' := [(3, .ref u27), (2, .ref u25), (1, .ref u23), (0, .ref (ad 3))]) hx hb d127_26 rfl hl (by decide) rfl (fun ls hl => ?_)
  refine lv_aload_n (pc := 27) hx hb d127_27 rfl (lv_at hl 3 rfl) ?_
  refine c_getK (pc := 28) X hW 3 0 5 1 (C := "WordFunctions$Texts") (T := T5) (N := 2) (by decide) rfl rfl rfl rfl tin5 rfl wd196 rfl rfl d127_28 ?_
  refine lv_iconst (pc := 31) (v := 3) hx hb d127_31 (by decide) ?_
  obtain ⟨q28, hq28, h⟩ := jc_some h
  refine k_callV (pc := 32) (n := 1) X hS (c_ar_isThere l ρ ad _ P q26.1.2 3 q28 hW  hq28) wd758 wd1010 wd756 wd757 wd3 (by decide) ⟨rfl, rfl, Nat.le_of_ble_eq_true rfl, Nat.le_of_ble_eq_true rfl⟩ (c_recv X hW 1 3 (by decide) rfl rfl) (As := [.int 3]) (rest := []) rfl rfl hl.1 (Nat.le_of_ble_eq_true rfl) d127_32 ⟨room_l0 hc1, room_l0 hs1⟩ (fun q hq => False.elim hq) (fun v H1 locs1 hv _ _ hSq28 => ?_)
  obtain ⟨rfl, rfl⟩ := hv
  have hS := hSq28
  have hSz := hS.1
  refine lv_if_ne (pc := 35) (tgt := 42) hx hb d127_35 (by decide) (fun c35 => ?_) (fun c35 => ?_)
  · have h := jb_f c35 h
    refine lv_iconst (pc := 42) (v := 0) hx hb d127_42 (by decide) ?_
    exact kc43   q26.1.2 q22.1.1 q24.1.1 q26.1.1 0 u23 u25 u27 _ _ _ _ _ _ hW hS fu23 fu25 fu27 (lv_sub hl [3, 2, 1, 0] rfl) her hc1 hs1 h
  · have h := jb_t c35 h
    refine lv_iconst (pc := 38) (v := 1) hx hb d127_38 (by decide) ?_
    refine lv_goto (pc := 39) (tgt := 43) hx hb d127_39 (by decide) ?_
    exact kc43   q26.1.2 q22.1.1 q24.1.1 q26.1.1 1 u23 u25 u27 _ _ _ _ _ _ hW hS fu23 fu25 fu27 (lv_sub hl [3, 2, 1, 0] rfl) her hc1 hs1 h
def tx_repeat_67  : Nat → CS → TT → Int32 → Int32 → BT → Option ((VV × CS) × Nat × Nat)
  | 0, _, _, _, _, _ => none
  | fu + 1, st, x1, x3, x5, xb => jb (x3 ≤ x5) (jd (f_wf_textOrTooLong xb) (fun q1 => some ((q1, st), 0, 0))) (jd (f_sb_appS xb x1) (fun q3 => jn (x5 + 1) (fun v5 => tx_repeat_67 fu st x1 x3 v5 q3)))
def tx_repeat_54  (st : CS) (x1 : TT) (z0 : Int32) : Option ((VV × CS) × Nat × Nat) := ja 2 20 (tx_repeat_67 FU st x1 z0 0 (([] : TT), 16))
def tx_repeat_37  (st : CS) : Option ((VV × CS) × Nat × Nat) := jd (f_vl_ofError 3) (fun q7 => some ((q7, st), 0, 0))
def f_tx_repeat (st : CS) : Option ((VV × CS) × Nat × Nat) := jd (f_ar_text st 0) (fun q9 => jc (f_ar_whole q9.2 1) (fun q11 => jb (q11.1 < 0) (tx_repeat_37 q11.2) (jc (f_js_length q9.1) (fun q12 => jb ((lg_cmp (q11.1.toInt64 * q12.toInt64) (255 : Int64)) ≤ 0) (jc (f_js_isEmpty q9.1) (fun q13 => jb (q13 = 0) (tx_repeat_54 q11.2 q9.1 q11.1) (tx_repeat_54 q11.2 q9.1 0))) (tx_repeat_37 q11.2)))))
set_option maxHeartbeats 4000000 in
set_option maxRecDepth 100000 in
theorem c_tx_repeat (l : Launch) (ρ : RH) (ad : Nat → Nat) (H : Heap) (P : Nat → Prop) (st : CS) (res : (VV × CS) × Nat × Nat) (hW : CW ρ P ad st H) (h : f_tx_repeat st = some res) : Met l y121 (wsOf y121 b121 6 (some (.object "WordFunctions$Value"))) ({ frames := 16, cells := res.2.1, slots := res.2.2, locals := 698 } : Room) (va_Pc [.ref (ad 3)] (KP ρ H)) (mQ (fun v H1 => ∃ x : Nat, v = some (.ref x) ∧ isV ρ P H1 x res.1.1 ∧ CW ρ P ad res.1.2 H1) (MA wC ad H.size)) res.2.1 res.2.2 (MA wC ad H.size) := by
  refine m_ofW (own := "WordFunctions$Texts") (plainFor_of_name rfl) rfl (Nat.le_of_ble_eq_true rfl) fun p e s m args below meth c ls hx hb hr hlk _ X hs hl => ?_
  subst hs
  have hS : va_S (MA wC ad s.heap.size) s.heap s.heap [] := va_S.rf
  have hSz := hS.1
  have hAz : ∀ q, s.heap.size ≤ q → (MA wC ad s.heap.size) q := fun q hq => Or.inr hq
  have hAp : ∀ i, i < 46 → (MA wC ad s.heap.size) (ad i) := fun i hi => MA.in hi
  have hPp : ∀ i, i < 46 → P (ad i) := hW.1
  have hl : lv_has ls 6 [(0, .ref (ad 3))] := hl
  have kc67 : ∀ (fu : Nat), ∀ (st : CS) (x1 : TT) (x3 : Int32) (x5 : Int32) (ax1 : Nat) (xb : BT) (ba bb : Nat) (H : Heap) (locs : List Loc) (ls : Array Slot) (cells slots : Nat) (r : (VV × CS) × Nat × Nat), CW ρ (pe P ba bb) ad st H → va_S (MA wC ad s.heap.size) s.heap H locs → isS ρ (pe P ba bb) H ax1 x1 → SB ρ H ba bb xb → (MA wC ad s.heap.size) ba → (MA wC ad s.heap.size) bb → (∀ i, i < 46 → ¬ ab ba bb (ad i)) → lv_has ls 6 [(1, .ref ax1), (3, .int x3), (4, .ref ba), (5, .int x5)] → res.1 = r.1 → cells + r.2.1 ≤ res.2.1 → slots + r.2.2 ≤ res.2.2 → tx_repeat_67 fu st x1 x3 x5 xb = some r → W p l e ({ frames := 16, cells := res.2.1, slots := res.2.2, locals := 698 } : Room) s m args below meth c H locs cells slots (MQ below (mQ (fun v H1 => ∃ x : Nat, v = some (.ref x) ∧ isV ρ P H1 x res.1.1 ∧ CW ρ P ad res.1.2 H1) (MA wC ad s.heap.size)) args s res.2.1 res.2.2 (MA wC ad s.heap.size)) (F0 m 67 ls []) := by
    intro  fu
    induction fu with
    | zero => intro st x1 x3 x5 ax1 xb ba bb H locs ls cells slots r hW hS fax1 hSB hAa hAb hnn hl her hc1 hs1 h; cases h
    | succ fu hK67 =>
      intro st x1 x3 x5 ax1 xb ba bb H locs ls cells slots r hW hS fax1 hSB hAa hAb hnn hl her hc1 hs1 h
      have hSz := hS.1
      unfold tx_repeat_67 at h
      refine lv_iload (pc := 67) hx hb d121_67 (lv_at hl 3 rfl) ?_
      refine lv_iload_n (pc := 69) hx hb d121_69 rfl (lv_at hl 1 rfl) ?_
      refine lv_icmp_ge (pc := 70) (tgt := 86) hx hb d121_70 (by decide) (fun c70 => ?_) (fun c70 => ?_)
      · have h := jb_t c70 h
        refine lv_aload (pc := 86) hx hb d121_86 (lv_at hl 2 rfl) ?_
        obtain ⟨q1, rq1, hq1, h, herq1, hccq1, hssq1⟩ := jd_some h
        refine k_callSN (pc := 88) (n := 1) X hS (c_wf_textOrTooLong l ρ _ (pe P ba bb) ba bb xb q1 hW.2.2.1 hW.2.1 ⟨hSB, Or.inr (Or.inl rfl), Or.inr (Or.inr rfl)⟩ hq1) wd1004 4 rfl wd1003 wd1 (by decide) ⟨rfl, rfl, Nat.le_of_ble_eq_true rfl, Nat.le_of_ble_eq_true rfl⟩ (As := [.ref ba]) (rest := []) rfl rfl hl.1 (Nat.le_of_ble_eq_true rfl) d121_88 ⟨room_le hccq1 hc1, room_le hssq1 hs1⟩ (fun q hq => hAz q (Nat.le_trans hS.1 hq)) (fun v H1 locs1 hv hz1 hz2 hSq1 => ?_)
        obtain ⟨u2, rfl, fu2⟩ := hv
        have hk : kp no _ H1 := kp_call hz1 hz2 (fun q hq z => absurd hq (Nat.not_lt.mpr z))
        have hSB := hSB.keep hk (fun z => z) (fun z => z)
        have hW := hW.keep hk no_hz (fun _ _ z => z)
        have hS := hSq1
        have hSz := hS.1
        have her := her.trans herq1
        have hc1 := room_st hccq1 hc1
        have hs1 := room_st hssq1 hs1
        have fu2 := fu2.un
        have hW := hW.un hPp
        have her : res.1 = (q1.1, st) := her.trans (congrArg Prod.fst (Option.some.inj h)).symm
        exact m_aret (pc := 91) hx hb hr (Or.inl ⟨_, rfl⟩) hlk hS ⟨u2, rfl, by rw [her]; exact fu2, by rw [her]; exact hW⟩ (Nat.le_trans (Nat.le_add_right _ _) hc1) (Nat.le_trans (Nat.le_add_right _ _) hs1) d121_91
      · have h := jb_f c70 h
        refine lv_aload (pc := 73) hx hb d121_73 (lv_at hl 2 rfl) ?_
        refine lv_aload_n (pc := 75) hx hb d121_75 rfl (lv_at hl 0 rfl) ?_
        obtain ⟨q3, rq3, hq3, h, herq3, hccq3, hssq3⟩ := jd_some h
        refine k_callV (pc := 76) (n := 1) X hS (c_sb_appS l ρ _ (pe P ba bb) ba bb xb ax1 x1 q3 hW.2.2.1 hW.2.1 ⟨hSB, Or.inr (Or.inl rfl), Or.inr (Or.inr rfl)⟩ (isS_ab fax1) hq3) wd524 wd1001 wd522 wd523 wd13 (by decide) ⟨rfl, rfl, Nat.le_of_ble_eq_true rfl, Nat.le_of_ble_eq_true rfl⟩ (sb_recv X hSB) (As := [.ref ax1]) (rest := []) rfl rfl hl.1 (Nat.le_of_ble_eq_true rfl) d121_76 ⟨room_le hccq3 hc1, room_le hssq3 hs1⟩ (fun q hq => hq.elim (fun e => e ▸ hAa) (fun z => z.elim (fun e => e ▸ hAb) (fun g => hAz q (Nat.le_trans hS.1 g)))) (fun v H1 locs1 hv hz1 hz2 hSq3 => ?_)
        obtain ⟨rfl, bb4, hb1, hb2, hSB⟩ := hv
        have hk : kp (ab ba bb) _ H1 := kp_call hz1 hz2 (fun q hq z => z.elim Or.inl (fun z => z.elim Or.inr (fun g => absurd hq (Nat.not_lt.mpr g))))
        have fax1 := fax1.sb hk hb1
        have hAb : (MA wC ad s.heap.size) bb4 := hb1.elim (fun e => e ▸ hAb) (fun g => hAz _ (Nat.le_trans hS.1 g))
        have hnn0 := hnn
        have hnn : ∀ i, i < 46 → ¬ ab ba bb4 (ad i) := nn_step hnn hb1 hW
        have hW := hW.sb hk hb1 hb2 hnn0 hPp
        have hS := hSq3
        have hSz := hS.1
        have her := her.trans herq3
        have hc1 := room_st hccq3 hc1
        have hs1 := room_st hssq3 hs1
        refine lv_pop (pc := 79) hx hb d121_79 rfl ?_
        obtain ⟨v5, ev5, h⟩ := jn_ex h
        refine lv_iinc (pc := 80) (v := v5) (lv' := [(5, .int v5), (1, .ref ax1), (3, .int x3), (4, .ref ba)]) hx hb d121_80 hl (k := 3) rfl (by rw [ev5]; rfl) (by decide) rfl (fun ls hl => ?_)
        refine lv_goto (pc := 83) (tgt := 67) hx hb d121_83 (by decide) ?_
        exact hK67 st x1 x3 v5 ax1 q3.1 ba bb4 _ _ _ _ _ _ hW hS fax1 hSB hAa hAb hnn (lv_sub hl [1, 2, 3, 0] rfl) her hc1 hs1 h
  have kc54 : ∀ (st : CS) (x1 : TT) (z0 : Int32) (ax1 : Nat) (H : Heap) (locs : List Loc) (ls : Array Slot) (cells slots : Nat) (r : (VV × CS) × Nat × Nat), CW ρ P ad st H → va_S (MA wC ad s.heap.size) s.heap H locs → isS ρ P H ax1 x1 → lv_has ls 6 [(1, .ref ax1)] → res.1 = r.1 → cells + r.2.1 ≤ res.2.1 → slots + r.2.2 ≤ res.2.2 → tx_repeat_54 st x1 z0 = some r → W p l e ({ frames := 16, cells := res.2.1, slots := res.2.2, locals := 698 } : Room) s m args below meth c H locs cells slots (MQ below (mQ (fun v H1 => ∃ x : Nat, v = some (.ref x) ∧ isV ρ P H1 x res.1.1 ∧ CW ρ P ad res.1.2 H1) (MA wC ad s.heap.size)) args s res.2.1 res.2.2 (MA wC ad s.heap.size)) (F0 m 54 ls [.int z0]) := by
    intro st x1 z0 ax1 H locs ls cells slots r hW hS fax1 hl her hc1 hs1 h
    have hSz := hS.1
    unfold tx_repeat_54 at h
    refine lv_istore_n (pc := 54) (lv' := [(3, .int z0), (1, .ref ax1)]) hx hb d121_54 rfl hl (by decide) rfl (fun ls hl => ?_)
    obtain ⟨r6, h, her6, hcc6, hss6⟩ := ja_some h
    refine k_newSB (pc := 55) X hS hW.2.2.1 hW.2.1 hAz wd999 wd1000 (rest := []) hl.1 (Nat.le_of_ble_eq_true rfl) rfl rfl (room_le hcc6 hc1) (room_le hss6 hs1) d121_55 d121_58 d121_59 (fun ba bb H1 locs hka hba hbb hba1 hbb1 hSB hS => ?_)
    have fax1 := fax1.new hka hba hbb
    have hnn : ∀ i, i < 46 → ¬ ab ba bb (ad i) := nn_new hW hba hbb
    have hW := hW.new hka hba hbb hba1 hbb1
    have hAa : (MA wC ad s.heap.size) ba := hAz _ (Nat.le_trans hSz hba)
    have hAb : (MA wC ad s.heap.size) bb := hAz _ (Nat.le_trans hSz hbb)
    have hSz := hS.1
    have her := her.trans her6
    have hc1 := room_st hcc6 hc1
    have hs1 := room_st hss6 hs1
    refine lv_astore (pc := 62) (lv' := [(4, .ref ba), (3, .int z0), (1, .ref ax1)]) hx hb d121_62 hl (by decide) rfl (fun ls hl => ?_)
    refine lv_iconst (pc := 64) (v := 0) hx hb d121_64 (by decide) ?_
    refine lv_istore (pc := 65) (lv' := [(5, .int 0), (4, .ref ba), (3, .int z0), (1, .ref ax1)]) hx hb d121_65 hl (by decide) rfl (fun ls hl => ?_)
    exact kc67  FU st x1 z0 0 ax1 (([] : TT), 16) ba bb _ _ _ _ _ _ hW hS fax1 hSB hAa hAb hnn (lv_sub hl [3, 2, 1, 0] rfl) her hc1 hs1 h
  have kc37 : ∀ (st : CS) (H : Heap) (locs : List Loc) (ls : Array Slot) (cells slots : Nat) (r : (VV × CS) × Nat × Nat), CW ρ P ad st H → va_S (MA wC ad s.heap.size) s.heap H locs → lv_has ls 6 [] → res.1 = r.1 → cells + r.2.1 ≤ res.2.1 → slots + r.2.2 ≤ res.2.2 → tx_repeat_37 st = some r → W p l e ({ frames := 16, cells := res.2.1, slots := res.2.2, locals := 698 } : Room) s m args below meth c H locs cells slots (MQ below (mQ (fun v H1 => ∃ x : Nat, v = some (.ref x) ∧ isV ρ P H1 x res.1.1 ∧ CW ρ P ad res.1.2 H1) (MA wC ad s.heap.size)) args s res.2.1 res.2.2 (MA wC ad s.heap.size)) (F0 m 37 ls []) := by
    intro st H locs ls cells slots r hW hS hl her hc1 hs1 h
    have hSz := hS.1
    unfold tx_repeat_37 at h
    refine lv_iconst (pc := 37) (v := 3) hx hb d121_37 (by decide) ?_
    obtain ⟨q7, rq7, hq7, h, herq7, hccq7, hssq7⟩ := jd_some h
    refine k_callS (pc := 38) (n := 1) X hS (c_vl_ofError l ρ _ P 3 q7 hW.2.2.1 hW.2.1  hq7) wd651 wd931 wd650 wd4 (by decide) ⟨rfl, rfl, Nat.le_of_ble_eq_true rfl, Nat.le_of_ble_eq_true rfl⟩ (As := [.int 3]) (rest := []) rfl rfl hl.1 (Nat.le_of_ble_eq_true rfl) d121_38 ⟨room_le hccq7 hc1, room_le hssq7 hs1⟩ (fun q hq => hAz q (Nat.le_trans hS.1 hq)) (fun v H1 locs1 hv hz1 hz2 hSq7 => ?_)
    obtain ⟨u8, rfl, fu8⟩ := hv
    have hk : kp no _ H1 := kp_call hz1 hz2 (fun q hq z => absurd hq (Nat.not_lt.mpr z))
    have hW := hW.keep hk no_hz (fun _ _ z => z)
    have hS := hSq7
    have hSz := hS.1
    have her := her.trans herq7
    have hc1 := room_st hccq7 hc1
    have hs1 := room_st hssq7 hs1
    have her : res.1 = (q7.1, st) := her.trans (congrArg Prod.fst (Option.some.inj h)).symm
    exact m_aret (pc := 41) hx hb hr (Or.inl ⟨_, rfl⟩) hlk hS ⟨u8, rfl, by rw [her]; exact fu8, by rw [her]; exact hW⟩ (Nat.le_trans (Nat.le_add_right _ _) hc1) (Nat.le_trans (Nat.le_add_right _ _) hs1) d121_41
  have her : res.1 = res.1 := rfl
  have hc1 : 0 + res.2.1 ≤ res.2.1 := Nat.le_of_eq (Nat.zero_add _)
  have hs1 : 0 + res.2.2 ≤ res.2.2 := Nat.le_of_eq (Nat.zero_add _)
  unfold f_tx_repeat at h
  refine lv_aload_n (pc := 0) hx hb d121_0 rfl (lv_at hl 0 rfl) ?_
  refine c_getK (pc := 1) X hW 3 0 5 1 (C := "WordFunctions$Texts") (T := T5) (N := 2) (by decide) rfl rfl rfl rfl tin5 rfl wd196 rfl rfl d121_1 ?_
  refine lv_iconst (pc := 4) (v := 0) hx hb d121_4 (by decide) ?_
  obtain ⟨q9, rq9, hq9, h, herq9, hccq9, hssq9⟩ := jd_some h
  refine k_callV (pc := 5) (n := 1) X hS (c_ar_text l ρ ad _ P st 0 q9 hW  hq9) wd868 wd865 wd866 wd867 wd3 (by decide) ⟨rfl, rfl, Nat.le_of_ble_eq_true rfl, Nat.le_of_ble_eq_true rfl⟩ (c_recv X hW 1 3 (by decide) rfl rfl) (As := [.int 0]) (rest := []) rfl rfl hl.1 (Nat.le_of_ble_eq_true rfl) d121_5 ⟨room_le hccq9 hc1, room_le hssq9 hs1⟩ (fun q hq => MA.mono hS.1 hq) (fun v H1 locs1 hv hz1 hz2 hSq9 => ?_)
  have hPq := hW.1
  obtain ⟨u10, rfl, fu10, hW⟩ := hv
  have hS := hSq9
  have hSz := hS.1
  have her := her.trans herq9
  have hc1 := room_st hccq9 hc1
  have hs1 := room_st hssq9 hs1
  refine lv_astore_n (pc := 8) (lv' := [(1, .ref u10), (0, .ref (ad 3))]) hx hb d121_8 rfl hl (by decide) rfl (fun ls hl => ?_)
  refine lv_aload_n (pc := 9) hx hb d121_9 rfl (lv_at hl 1 rfl) ?_
  refine c_getK (pc := 10) X hW 3 0 5 1 (C := "WordFunctions$Texts") (T := T5) (N := 2) (by decide) rfl rfl rfl rfl tin5 rfl wd196 rfl rfl d121_10 ?_
  refine lv_iconst (pc := 13) (v := 1) hx hb d121_13 (by decide) ?_
  obtain ⟨q11, hq11, h⟩ := jc_some h
  refine k_callV (pc := 14) (n := 1) X hS (c_ar_whole l ρ ad _ P q9.1.2 1 q11 hW  hq11) wd762 wd961 wd760 wd761 wd3 (by decide) ⟨rfl, rfl, Nat.le_of_ble_eq_true rfl, Nat.le_of_ble_eq_true rfl⟩ (c_recv X hW 1 3 (by decide) rfl rfl) (As := [.int 1]) (rest := []) rfl rfl hl.1 (Nat.le_of_ble_eq_true rfl) d121_14 ⟨room_l0 hc1, room_l0 hs1⟩ (fun q hq => MA.mono hS.1 hq) (fun v H1 locs1 hv hz1 hz2 hSq11 => ?_)
  have hPq := hW.1
  obtain ⟨rfl, hW⟩ := hv
  have hk : kp (Pm ad) _ H1 := kp_call hz1 hz2 (MA_Pm rfl)
  have fu10 := fu10.keep hk (Pm_P hPq)
  have hS := hSq11
  have hSz := hS.1
  refine lv_istore_n (pc := 17) (lv' := [(2, .int q11.1), (1, .ref u10), (0, .ref (ad 3))]) hx hb d121_17 rfl hl (by decide) rfl (fun ls hl => ?_)
  refine lv_iload_n (pc := 18) hx hb d121_18 rfl (lv_at hl 0 rfl) ?_
  refine lv_if_lt (pc := 19) (tgt := 37) hx hb d121_19 (by decide) (fun c19 => ?_) (fun c19 => ?_)
  · have h := jb_t c19 h
    exact kc37   q11.2 _ _ _ _ _ _ hW hS (lv_sub hl [] rfl) her hc1 hs1 h
  · have h := jb_f c19 h
    refine lv_iload_n (pc := 22) hx hb d121_22 rfl (lv_at hl 0 rfl) ?_
    refine lv_i2l (pc := 23) hx hb d121_23 rfl ?_
    refine lv_aload_n (pc := 24) hx hb d121_24 rfl (lv_at hl 1 rfl) ?_
    obtain ⟨q12, hq12, h⟩ := jc_some h
    refine k_callV (pc := 25) (n := 0) X hS (c_js_length l ρ _ P u10 q9.1.1 q12 hW.2.2.1 hW.2.1 fu10 hq12) wd538 wd916 wd536 wd537 wd14 (by decide) ⟨rfl, rfl, Nat.le_of_ble_eq_true rfl, Nat.le_of_ble_eq_true rfl⟩ (s_recv X fu10) (As := []) (rest := [.long q11.1.toInt64]) rfl rfl hl.1 (Nat.le_of_ble_eq_true rfl) d121_25 ⟨room_l0 hc1, room_l0 hs1⟩ (fun q hq => False.elim hq) (fun v H1 locs1 hv _ _ hSq12 => ?_)
    obtain ⟨rfl, rfl⟩ := hv
    have hS := hSq12
    have hSz := hS.1
    refine lv_i2l (pc := 28) hx hb d121_28 rfl ?_
    refine lv_lmul (pc := 29) hx hb d121_29 ?_
    refine lv_ldc2 (pc := 30) hx hb X.1.2.2.2.1 (X.ts wd1018) d121_30 ?_
    refine W.lcmp (pc := 33) hx hb d121_33 ?_
    refine lv_if_le (pc := 34) (tgt := 42) hx hb d121_34 (by decide) (fun c34 => ?_) (fun c34 => ?_)
    · have h := jb_t c34 h
      refine lv_aload_n (pc := 42) hx hb d121_42 rfl (lv_at hl 1 rfl) ?_
      obtain ⟨q13, hq13, h⟩ := jc_some h
      refine k_callV (pc := 43) (n := 0) X hS (c_js_isEmpty l ρ _ P u10 q9.1.1 q13 hW.2.2.1 hW.2.1 fu10 hq13) wd782 wd1011 wd780 wd781 wd14 (by decide) ⟨rfl, rfl, Nat.le_of_ble_eq_true rfl, Nat.le_of_ble_eq_true rfl⟩ (s_recv X fu10) (As := []) (rest := []) rfl rfl hl.1 (Nat.le_of_ble_eq_true rfl) d121_43 ⟨room_l0 hc1, room_l0 hs1⟩ (fun q hq => False.elim hq) (fun v H1 locs1 hv _ _ hSq13 => ?_)
      obtain ⟨rfl, rfl⟩ := hv
      have hS := hSq13
      have hSz := hS.1
      refine lv_if_eq (pc := 46) (tgt := 53) hx hb d121_46 (by decide) (fun c46 => ?_) (fun c46 => ?_)
      · have h := jb_t c46 h
        refine lv_iload_n (pc := 53) hx hb d121_53 rfl (lv_at hl 0 rfl) ?_
        exact kc54   q11.2 q9.1.1 q11.1 u10 _ _ _ _ _ _ hW hS fu10 (lv_sub hl [1] rfl) her hc1 hs1 h
      · have h := jb_f c46 h
        refine lv_iconst (pc := 49) (v := 0) hx hb d121_49 (by decide) ?_
        refine lv_goto (pc := 50) (tgt := 54) hx hb d121_50 (by decide) ?_
        exact kc54   q11.2 q9.1.1 0 u10 _ _ _ _ _ _ hW hS fu10 (lv_sub hl [1] rfl) her hc1 hs1 h
    · have h := jb_f c34 h
      exact kc37   q11.2 _ _ _ _ _ _ hW hS (lv_sub hl [] rfl) her hc1 hs1 h
def tx_sized_55 (K20 : CS → Int32 → TT → Int32 → BT → Option ((VV × CS) × Nat × Nat)) (st : CS) (x1 : Int32) (x2 : TT) (x4 : Int32) (z1 : Int32) (xb : BT) : Option ((VV × CS) × Nat × Nat) := jd (f_sb_appC xb z1) (fun q1 => jn (x4 + 1) (fun v3 => K20 st x1 x2 v3 q1))
def tx_sized_20  : Nat → CS → Int32 → TT → Int32 → BT → Option ((VV × CS) × Nat × Nat)
  | 0, _, _, _, _, _ => none
  | fu + 1, st, x1, x2, x4, xb => jc (f_js_length x2) (fun q4 => jb (q4 ≤ x4) (jd (f_wf_textOrTooLong xb) (fun q5 => some ((q5, st), 0, 0))) (jc (f_js_charAt x2 x4) (fun q7 => jb (x1 = 0) (jc (f_wf_small q7) (fun q8 => tx_sized_55 (tx_sized_20 fu) st x1 x2 x4 q8 xb)) (jc (f_wf_great q7) (fun q9 => tx_sized_55 (tx_sized_20 fu) st x1 x2 x4 q9 xb)))))
def f_tx_sized (st : CS) (p0 : Int32) : Option ((VV × CS) × Nat × Nat) := jd (f_ar_text st 0) (fun q10 => ja 2 20 (tx_sized_20 FU q10.2 p0 q10.1 0 (([] : TT), 16)))
set_option maxHeartbeats 4000000 in
set_option maxRecDepth 100000 in
theorem c_tx_sized (l : Launch) (ρ : RH) (ad : Nat → Nat) (H : Heap) (P : Nat → Prop) (st : CS) (p0 : Int32) (res : (VV × CS) × Nat × Nat) (hW : CW ρ P ad st H) (h : f_tx_sized st p0 = some res) : Met l y126 (wsOf y126 b126 6 (some (.object "WordFunctions$Value"))) ({ frames := 16, cells := res.2.1, slots := res.2.2, locals := 693 } : Room) (va_Pc [.ref (ad 3), .int p0] (KP ρ H)) (mQ (fun v H1 => ∃ x : Nat, v = some (.ref x) ∧ isV ρ P H1 x res.1.1 ∧ CW ρ P ad res.1.2 H1) (MA wC ad H.size)) res.2.1 res.2.2 (MA wC ad H.size) := by
  refine m_ofW (own := "WordFunctions$Texts") (plainFor_of_name rfl) rfl (Nat.le_of_ble_eq_true rfl) fun p e s m args below meth c ls hx hb hr hlk _ X hs hl => ?_
  subst hs
  have hS : va_S (MA wC ad s.heap.size) s.heap s.heap [] := va_S.rf
  have hSz := hS.1
  have hAz : ∀ q, s.heap.size ≤ q → (MA wC ad s.heap.size) q := fun q hq => Or.inr hq
  have hAp : ∀ i, i < 46 → (MA wC ad s.heap.size) (ad i) := fun i hi => MA.in hi
  have hPp : ∀ i, i < 46 → P (ad i) := hW.1
  have hl : lv_has ls 6 [(0, .ref (ad 3)), (1, .int p0)] := hl
  have kc55 : ∀ (K20 : CS → Int32 → TT → Int32 → BT → Option ((VV × CS) × Nat × Nat)) (hK20 : ∀ (st : CS) (x1 : Int32) (x2 : TT) (x4 : Int32) (ax2 : Nat) (xb : BT) (ba bb : Nat) (H : Heap) (locs : List Loc) (ls : Array Slot) (cells slots : Nat) (r : (VV × CS) × Nat × Nat), CW ρ (pe P ba bb) ad st H → va_S (MA wC ad s.heap.size) s.heap H locs → isS ρ (pe P ba bb) H ax2 x2 → SB ρ H ba bb xb → (MA wC ad s.heap.size) ba → (MA wC ad s.heap.size) bb → (∀ i, i < 46 → ¬ ab ba bb (ad i)) → lv_has ls 6 [(1, .int x1), (2, .ref ax2), (3, .ref ba), (4, .int x4)] → res.1 = r.1 → cells + r.2.1 ≤ res.2.1 → slots + r.2.2 ≤ res.2.2 → K20 st x1 x2 x4 xb = some r → W p l e ({ frames := 16, cells := res.2.1, slots := res.2.2, locals := 693 } : Room) s m args below meth c H locs cells slots (MQ below (mQ (fun v H1 => ∃ x : Nat, v = some (.ref x) ∧ isV ρ P H1 x res.1.1 ∧ CW ρ P ad res.1.2 H1) (MA wC ad s.heap.size)) args s res.2.1 res.2.2 (MA wC ad s.heap.size)) (F0 m 20 ls [])), ∀ (st : CS) (x1 : Int32) (x2 : TT) (x4 : Int32) (z1 : Int32) (ax2 : Nat) (xb : BT) (ba bb : Nat) (H : Heap) (locs : List Loc) (ls : Array Slot) (cells slots : Nat) (r : (VV × CS) × Nat × Nat), CW ρ (pe P ba bb) ad st H → va_S (MA wC ad s.heap.size) s.heap H locs → isS ρ (pe P ba bb) H ax2 x2 → SB ρ H ba bb xb → (MA wC ad s.heap.size) ba → (MA wC ad s.heap.size) bb → (∀ i, i < 46 → ¬ ab ba bb (ad i)) → lv_has ls 6 [(1, .int x1), (2, .ref ax2), (3, .ref ba), (4, .int x4)] → res.1 = r.1 → cells + r.2.1 ≤ res.2.1 → slots + r.2.2 ≤ res.2.2 → tx_sized_55 K20 st x1 x2 x4 z1 xb = some r → W p l e ({ frames := 16, cells := res.2.1, slots := res.2.2, locals := 693 } : Room) s m args below meth c H locs cells slots (MQ below (mQ (fun v H1 => ∃ x : Nat, v = some (.ref x) ∧ isV ρ P H1 x res.1.1 ∧ CW ρ P ad res.1.2 H1) (MA wC ad s.heap.size)) args s res.2.1 res.2.2 (MA wC ad s.heap.size)) (F0 m 55 ls [.int z1, .ref ba]) := by
    intro K20 hK20
    intro st x1 x2 x4 z1 ax2 xb ba bb H locs ls cells slots r hW hS fax2 hSB hAa hAb hnn hl her hc1 hs1 h
    have hSz := hS.1
    unfold tx_sized_55 at h
    obtain ⟨q1, rq1, hq1, h, herq1, hccq1, hssq1⟩ := jd_some h
    refine k_callV (pc := 55) (n := 1) X hS (c_sb_appC l ρ _ (pe P ba bb) ba bb xb z1 q1 hW.2.2.1 hW.2.1 ⟨hSB, Or.inr (Or.inl rfl), Or.inr (Or.inr rfl)⟩ hq1) wd316 wd1013 wd314 wd315 wd13 (by decide) ⟨rfl, rfl, Nat.le_of_ble_eq_true rfl, Nat.le_of_ble_eq_true rfl⟩ (sb_recv X hSB) (As := [.int z1]) (rest := []) rfl rfl hl.1 (Nat.le_of_ble_eq_true rfl) d126_55 ⟨room_le hccq1 hc1, room_le hssq1 hs1⟩ (fun q hq => hq.elim (fun e => e ▸ hAa) (fun z => z.elim (fun e => e ▸ hAb) (fun g => hAz q (Nat.le_trans hS.1 g)))) (fun v H1 locs1 hv hz1 hz2 hSq1 => ?_)
    obtain ⟨rfl, bb2, hb1, hb2, hSB⟩ := hv
    have hk : kp (ab ba bb) _ H1 := kp_call hz1 hz2 (fun q hq z => z.elim Or.inl (fun z => z.elim Or.inr (fun g => absurd hq (Nat.not_lt.mpr g))))
    have fax2 := fax2.sb hk hb1
    have hAb : (MA wC ad s.heap.size) bb2 := hb1.elim (fun e => e ▸ hAb) (fun g => hAz _ (Nat.le_trans hS.1 g))
    have hnn0 := hnn
    have hnn : ∀ i, i < 46 → ¬ ab ba bb2 (ad i) := nn_step hnn hb1 hW
    have hW := hW.sb hk hb1 hb2 hnn0 hPp
    have hS := hSq1
    have hSz := hS.1
    have her := her.trans herq1
    have hc1 := room_st hccq1 hc1
    have hs1 := room_st hssq1 hs1
    refine lv_pop (pc := 58) hx hb d126_58 rfl ?_
    obtain ⟨v3, ev3, h⟩ := jn_ex h
    refine lv_iinc (pc := 59) (v := v3) (lv' := [(4, .int v3), (1, .int x1), (2, .ref ax2), (3, .ref ba)]) hx hb d126_59 hl (k := 3) rfl (by rw [ev3]; rfl) (by decide) rfl (fun ls hl => ?_)
    refine lv_goto (pc := 62) (tgt := 20) hx hb d126_62 (by decide) ?_
    exact hK20 st x1 x2 v3 ax2 q1.1 ba bb2 _ _ _ _ _ _ hW hS fax2 hSB hAa hAb hnn (lv_sub hl [1, 2, 3, 0] rfl) her hc1 hs1 h
  have kc20 : ∀ (fu : Nat), ∀ (st : CS) (x1 : Int32) (x2 : TT) (x4 : Int32) (ax2 : Nat) (xb : BT) (ba bb : Nat) (H : Heap) (locs : List Loc) (ls : Array Slot) (cells slots : Nat) (r : (VV × CS) × Nat × Nat), CW ρ (pe P ba bb) ad st H → va_S (MA wC ad s.heap.size) s.heap H locs → isS ρ (pe P ba bb) H ax2 x2 → SB ρ H ba bb xb → (MA wC ad s.heap.size) ba → (MA wC ad s.heap.size) bb → (∀ i, i < 46 → ¬ ab ba bb (ad i)) → lv_has ls 6 [(1, .int x1), (2, .ref ax2), (3, .ref ba), (4, .int x4)] → res.1 = r.1 → cells + r.2.1 ≤ res.2.1 → slots + r.2.2 ≤ res.2.2 → tx_sized_20 fu st x1 x2 x4 xb = some r → W p l e ({ frames := 16, cells := res.2.1, slots := res.2.2, locals := 693 } : Room) s m args below meth c H locs cells slots (MQ below (mQ (fun v H1 => ∃ x : Nat, v = some (.ref x) ∧ isV ρ P H1 x res.1.1 ∧ CW ρ P ad res.1.2 H1) (MA wC ad s.heap.size)) args s res.2.1 res.2.2 (MA wC ad s.heap.size)) (F0 m 20 ls []) := by
    intro  fu
    induction fu with
    | zero => intro st x1 x2 x4 ax2 xb ba bb H locs ls cells slots r hW hS fax2 hSB hAa hAb hnn hl her hc1 hs1 h; cases h
    | succ fu hK20 =>
      intro st x1 x2 x4 ax2 xb ba bb H locs ls cells slots r hW hS fax2 hSB hAa hAb hnn hl her hc1 hs1 h
      have hSz := hS.1
      unfold tx_sized_20 at h
      refine lv_iload (pc := 20) hx hb d126_20 (lv_at hl 3 rfl) ?_
      refine lv_aload_n (pc := 22) hx hb d126_22 rfl (lv_at hl 1 rfl) ?_
      obtain ⟨q4, hq4, h⟩ := jc_some h
      refine k_callV (pc := 23) (n := 0) X hS (c_js_length l ρ _ (pe P ba bb) ax2 x2 q4 hW.2.2.1 hW.2.1 fax2 hq4) wd538 wd916 wd536 wd537 wd14 (by decide) ⟨rfl, rfl, Nat.le_of_ble_eq_true rfl, Nat.le_of_ble_eq_true rfl⟩ (s_recv X fax2) (As := []) (rest := [.int x4]) rfl rfl hl.1 (Nat.le_of_ble_eq_true rfl) d126_23 ⟨room_l0 hc1, room_l0 hs1⟩ (fun q hq => False.elim hq) (fun v H1 locs1 hv _ _ hSq4 => ?_)
      obtain ⟨rfl, rfl⟩ := hv
      have hS := hSq4
      have hSz := hS.1
      refine lv_icmp_ge (pc := 26) (tgt := 65) hx hb d126_26 (by decide) (fun c26 => ?_) (fun c26 => ?_)
      · have h := jb_t c26 h
        refine lv_aload_n (pc := 65) hx hb d126_65 rfl (lv_at hl 2 rfl) ?_
        obtain ⟨q5, rq5, hq5, h, herq5, hccq5, hssq5⟩ := jd_some h
        refine k_callSN (pc := 66) (n := 1) X hS (c_wf_textOrTooLong l ρ _ (pe P ba bb) ba bb xb q5 hW.2.2.1 hW.2.1 ⟨hSB, Or.inr (Or.inl rfl), Or.inr (Or.inr rfl)⟩ hq5) wd1004 4 rfl wd1003 wd1 (by decide) ⟨rfl, rfl, Nat.le_of_ble_eq_true rfl, Nat.le_of_ble_eq_true rfl⟩ (As := [.ref ba]) (rest := []) rfl rfl hl.1 (Nat.le_of_ble_eq_true rfl) d126_66 ⟨room_le hccq5 hc1, room_le hssq5 hs1⟩ (fun q hq => hAz q (Nat.le_trans hS.1 hq)) (fun v H1 locs1 hv hz1 hz2 hSq5 => ?_)
        obtain ⟨u6, rfl, fu6⟩ := hv
        have hk : kp no _ H1 := kp_call hz1 hz2 (fun q hq z => absurd hq (Nat.not_lt.mpr z))
        have hSB := hSB.keep hk (fun z => z) (fun z => z)
        have hW := hW.keep hk no_hz (fun _ _ z => z)
        have hS := hSq5
        have hSz := hS.1
        have her := her.trans herq5
        have hc1 := room_st hccq5 hc1
        have hs1 := room_st hssq5 hs1
        have fu6 := fu6.un
        have hW := hW.un hPp
        have her : res.1 = (q5.1, st) := her.trans (congrArg Prod.fst (Option.some.inj h)).symm
        exact m_aret (pc := 69) hx hb hr (Or.inl ⟨_, rfl⟩) hlk hS ⟨u6, rfl, by rw [her]; exact fu6, by rw [her]; exact hW⟩ (Nat.le_trans (Nat.le_add_right _ _) hc1) (Nat.le_trans (Nat.le_add_right _ _) hs1) d126_69
      · have h := jb_f c26 h
        refine lv_aload_n (pc := 29) hx hb d126_29 rfl (lv_at hl 1 rfl) ?_
        refine lv_iload (pc := 30) hx hb d126_30 (lv_at hl 3 rfl) ?_
        obtain ⟨q7, hq7, h⟩ := jc_some h
        refine k_callV (pc := 32) (n := 1) X hS (c_js_charAt l ρ _ (pe P ba bb) ax2 x2 x4 q7 hW.2.2.1 hW.2.1 fax2 hq7) wd683 wd969 wd681 wd682 wd14 (by decide) ⟨rfl, rfl, Nat.le_of_ble_eq_true rfl, Nat.le_of_ble_eq_true rfl⟩ (s_recv X fax2) (As := [.int x4]) (rest := []) rfl rfl hl.1 (Nat.le_of_ble_eq_true rfl) d126_32 ⟨room_l0 hc1, room_l0 hs1⟩ (fun q hq => False.elim hq) (fun v H1 locs1 hv _ _ hSq7 => ?_)
        obtain ⟨rfl, rfl⟩ := hv
        have hS := hSq7
        have hSz := hS.1
        refine lv_istore (pc := 35) (lv' := [(5, .int q7), (1, .int x1), (2, .ref ax2), (3, .ref ba), (4, .int x4)]) hx hb d126_35 hl (by decide) rfl (fun ls hl => ?_)
        refine lv_aload_n (pc := 37) hx hb d126_37 rfl (lv_at hl 3 rfl) ?_
        refine lv_iload_n (pc := 38) hx hb d126_38 rfl (lv_at hl 1 rfl) ?_
        refine lv_if_eq (pc := 39) (tgt := 50) hx hb d126_39 (by decide) (fun c39 => ?_) (fun c39 => ?_)
        · have h := jb_t c39 h
          refine lv_iload (pc := 50) hx hb d126_50 (lv_at hl 0 rfl) ?_
          obtain ⟨q8, hq8, h⟩ := jc_some h
          refine k_callSN (pc := 52) (n := 1) X hS (c_wf_small l ρ _ (pe P ba bb) q7 q8 hW.2.2.1 hW.2.1  hq8) wd1026 6 rfl wd1025 wd1 (by decide) ⟨rfl, rfl, Nat.le_of_ble_eq_true rfl, Nat.le_of_ble_eq_true rfl⟩ (As := [.int q7]) (rest := [.ref ba]) rfl rfl hl.1 (Nat.le_of_ble_eq_true rfl) d126_52 ⟨room_l0 hc1, room_l0 hs1⟩ (fun q hq => False.elim hq) (fun v H1 locs1 hv _ _ hSq8 => ?_)
          obtain ⟨rfl, rfl⟩ := hv
          have hS := hSq8
          have hSz := hS.1
          exact kc55 _ hK20  st x1 x2 x4 q8 ax2 xb ba bb _ _ _ _ _ _ hW hS fax2 hSB hAa hAb hnn (lv_sub hl [1, 2, 3, 4] rfl) her hc1 hs1 h
        · have h := jb_f c39 h
          refine lv_iload (pc := 42) hx hb d126_42 (lv_at hl 0 rfl) ?_
          obtain ⟨q9, hq9, h⟩ := jc_some h
          refine k_callSN (pc := 44) (n := 1) X hS (c_wf_great l ρ _ (pe P ba bb) q7 q9 hW.2.2.1 hW.2.1  hq9) wd985 5 rfl wd984 wd1 (by decide) ⟨rfl, rfl, Nat.le_of_ble_eq_true rfl, Nat.le_of_ble_eq_true rfl⟩ (As := [.int q7]) (rest := [.ref ba]) rfl rfl hl.1 (Nat.le_of_ble_eq_true rfl) d126_44 ⟨room_l0 hc1, room_l0 hs1⟩ (fun q hq => False.elim hq) (fun v H1 locs1 hv _ _ hSq9 => ?_)
          obtain ⟨rfl, rfl⟩ := hv
          have hS := hSq9
          have hSz := hS.1
          refine lv_goto (pc := 47) (tgt := 55) hx hb d126_47 (by decide) ?_
          exact kc55 _ hK20  st x1 x2 x4 q9 ax2 xb ba bb _ _ _ _ _ _ hW hS fax2 hSB hAa hAb hnn (lv_sub hl [1, 2, 3, 4] rfl) her hc1 hs1 h
  have her : res.1 = res.1 := rfl
  have hc1 : 0 + res.2.1 ≤ res.2.1 := Nat.le_of_eq (Nat.zero_add _)
  have hs1 : 0 + res.2.2 ≤ res.2.2 := Nat.le_of_eq (Nat.zero_add _)
  unfold f_tx_sized at h
  refine lv_aload_n (pc := 0) hx hb d126_0 rfl (lv_at hl 0 rfl) ?_
  refine c_getK (pc := 1) X hW 3 0 5 1 (C := "WordFunctions$Texts") (T := T5) (N := 2) (by decide) rfl rfl rfl rfl tin5 rfl wd196 rfl rfl d126_1 ?_
  refine lv_iconst (pc := 4) (v := 0) hx hb d126_4 (by decide) ?_
  obtain ⟨q10, rq10, hq10, h, herq10, hccq10, hssq10⟩ := jd_some h
  refine k_callV (pc := 5) (n := 1) X hS (c_ar_text l ρ ad _ P st 0 q10 hW  hq10) wd868 wd865 wd866 wd867 wd3 (by decide) ⟨rfl, rfl, Nat.le_of_ble_eq_true rfl, Nat.le_of_ble_eq_true rfl⟩ (c_recv X hW 1 3 (by decide) rfl rfl) (As := [.int 0]) (rest := []) rfl rfl hl.1 (Nat.le_of_ble_eq_true rfl) d126_5 ⟨room_le hccq10 hc1, room_le hssq10 hs1⟩ (fun q hq => MA.mono hS.1 hq) (fun v H1 locs1 hv hz1 hz2 hSq10 => ?_)
  have hPq := hW.1
  obtain ⟨u11, rfl, fu11, hW⟩ := hv
  have hS := hSq10
  have hSz := hS.1
  have her := her.trans herq10
  have hc1 := room_st hccq10 hc1
  have hs1 := room_st hssq10 hs1
  refine lv_astore_n (pc := 8) (lv' := [(2, .ref u11), (0, .ref (ad 3)), (1, .int p0)]) hx hb d126_8 rfl hl (by decide) rfl (fun ls hl => ?_)
  obtain ⟨r12, h, her12, hcc12, hss12⟩ := ja_some h
  refine k_newSB (pc := 9) X hS hW.2.2.1 hW.2.1 hAz wd999 wd1000 (rest := []) hl.1 (Nat.le_of_ble_eq_true rfl) rfl rfl (room_le hcc12 hc1) (room_le hss12 hs1) d126_9 d126_12 d126_13 (fun ba bb H1 locs hka hba hbb hba1 hbb1 hSB hS => ?_)
  have fu11 := fu11.new hka hba hbb
  have hnn : ∀ i, i < 46 → ¬ ab ba bb (ad i) := nn_new hW hba hbb
  have hW := hW.new hka hba hbb hba1 hbb1
  have hAa : (MA wC ad s.heap.size) ba := hAz _ (Nat.le_trans hSz hba)
  have hAb : (MA wC ad s.heap.size) bb := hAz _ (Nat.le_trans hSz hbb)
  have hSz := hS.1
  have her := her.trans her12
  have hc1 := room_st hcc12 hc1
  have hs1 := room_st hss12 hs1
  refine lv_astore_n (pc := 16) (lv' := [(3, .ref ba), (2, .ref u11), (0, .ref (ad 3)), (1, .int p0)]) hx hb d126_16 rfl hl (by decide) rfl (fun ls hl => ?_)
  refine lv_iconst (pc := 17) (v := 0) hx hb d126_17 (by decide) ?_
  refine lv_istore (pc := 18) (lv' := [(4, .int 0), (3, .ref ba), (2, .ref u11), (0, .ref (ad 3)), (1, .int p0)]) hx hb d126_18 hl (by decide) rfl (fun ls hl => ?_)
  exact kc20  FU q10.1.2 p0 q10.1.1 0 u11 (([] : TT), 16) ba bb _ _ _ _ _ _ hW hS fu11 hSB hAa hAb hnn (lv_sub hl [4, 2, 1, 0] rfl) her hc1 hs1 h
def tx_proper_57 (K22 : CS → TT → Int32 → Int32 → BT → Option ((VV × CS) × Nat × Nat)) (st : CS) (x1 : TT) (x4 : Int32) (x5 : Int32) (z1 : Int32) (xb : BT) : Option ((VV × CS) × Nat × Nat) := jd (f_sb_appC xb z1) (fun q1 => jc (f_wf_isLetter x5) (fun q3 => jn (x4 + 1) (fun v4 => K22 st x1 q3 v4 q1)))
def tx_proper_22  : Nat → CS → TT → Int32 → Int32 → BT → Option ((VV × CS) × Nat × Nat)
  | 0, _, _, _, _, _ => none
  | fu + 1, st, x1, x3, x4, xb => jc (f_js_length x1) (fun q5 => jb (q5 ≤ x4) (jd (f_wf_textOrTooLong xb) (fun q6 => some ((q6, st), 0, 0))) (jc (f_js_charAt x1 x4) (fun q8 => jb (x3 = 0) (jc (f_wf_great q8) (fun q9 => tx_proper_57 (tx_proper_22 fu) st x1 x4 q8 q9 xb)) (jc (f_wf_small q8) (fun q10 => tx_proper_57 (tx_proper_22 fu) st x1 x4 q8 q10 xb)))))
def f_tx_proper (st : CS) : Option ((VV × CS) × Nat × Nat) := jd (f_ar_text st 0) (fun q11 => ja 2 20 (tx_proper_22 FU q11.2 q11.1 0 0 (([] : TT), 16)))
set_option maxHeartbeats 4000000 in
set_option maxRecDepth 100000 in
theorem c_tx_proper (l : Launch) (ρ : RH) (ad : Nat → Nat) (H : Heap) (P : Nat → Prop) (st : CS) (res : (VV × CS) × Nat × Nat) (hW : CW ρ P ad st H) (h : f_tx_proper st = some res) : Met l y120 (wsOf y120 b120 6 (some (.object "WordFunctions$Value"))) ({ frames := 16, cells := res.2.1, slots := res.2.2, locals := 693 } : Room) (va_Pc [.ref (ad 3)] (KP ρ H)) (mQ (fun v H1 => ∃ x : Nat, v = some (.ref x) ∧ isV ρ P H1 x res.1.1 ∧ CW ρ P ad res.1.2 H1) (MA wC ad H.size)) res.2.1 res.2.2 (MA wC ad H.size) := by
  refine m_ofW (own := "WordFunctions$Texts") (plainFor_of_name rfl) rfl (Nat.le_of_ble_eq_true rfl) fun p e s m args below meth c ls hx hb hr hlk _ X hs hl => ?_
  subst hs
  have hS : va_S (MA wC ad s.heap.size) s.heap s.heap [] := va_S.rf
  have hSz := hS.1
  have hAz : ∀ q, s.heap.size ≤ q → (MA wC ad s.heap.size) q := fun q hq => Or.inr hq
  have hAp : ∀ i, i < 46 → (MA wC ad s.heap.size) (ad i) := fun i hi => MA.in hi
  have hPp : ∀ i, i < 46 → P (ad i) := hW.1
  have hl : lv_has ls 6 [(0, .ref (ad 3))] := hl
  have kc57 : ∀ (K22 : CS → TT → Int32 → Int32 → BT → Option ((VV × CS) × Nat × Nat)) (hK22 : ∀ (st : CS) (x1 : TT) (x3 : Int32) (x4 : Int32) (ax1 : Nat) (xb : BT) (ba bb : Nat) (H : Heap) (locs : List Loc) (ls : Array Slot) (cells slots : Nat) (r : (VV × CS) × Nat × Nat), CW ρ (pe P ba bb) ad st H → va_S (MA wC ad s.heap.size) s.heap H locs → isS ρ (pe P ba bb) H ax1 x1 → SB ρ H ba bb xb → (MA wC ad s.heap.size) ba → (MA wC ad s.heap.size) bb → (∀ i, i < 46 → ¬ ab ba bb (ad i)) → lv_has ls 6 [(1, .ref ax1), (2, .ref ba), (3, .int x3), (4, .int x4)] → res.1 = r.1 → cells + r.2.1 ≤ res.2.1 → slots + r.2.2 ≤ res.2.2 → K22 st x1 x3 x4 xb = some r → W p l e ({ frames := 16, cells := res.2.1, slots := res.2.2, locals := 693 } : Room) s m args below meth c H locs cells slots (MQ below (mQ (fun v H1 => ∃ x : Nat, v = some (.ref x) ∧ isV ρ P H1 x res.1.1 ∧ CW ρ P ad res.1.2 H1) (MA wC ad s.heap.size)) args s res.2.1 res.2.2 (MA wC ad s.heap.size)) (F0 m 22 ls [])), ∀ (st : CS) (x1 : TT) (x4 : Int32) (x5 : Int32) (z1 : Int32) (ax1 : Nat) (xb : BT) (ba bb : Nat) (H : Heap) (locs : List Loc) (ls : Array Slot) (cells slots : Nat) (r : (VV × CS) × Nat × Nat), CW ρ (pe P ba bb) ad st H → va_S (MA wC ad s.heap.size) s.heap H locs → isS ρ (pe P ba bb) H ax1 x1 → SB ρ H ba bb xb → (MA wC ad s.heap.size) ba → (MA wC ad s.heap.size) bb → (∀ i, i < 46 → ¬ ab ba bb (ad i)) → lv_has ls 6 [(1, .ref ax1), (2, .ref ba), (4, .int x4), (5, .int x5)] → res.1 = r.1 → cells + r.2.1 ≤ res.2.1 → slots + r.2.2 ≤ res.2.2 → tx_proper_57 K22 st x1 x4 x5 z1 xb = some r → W p l e ({ frames := 16, cells := res.2.1, slots := res.2.2, locals := 693 } : Room) s m args below meth c H locs cells slots (MQ below (mQ (fun v H1 => ∃ x : Nat, v = some (.ref x) ∧ isV ρ P H1 x res.1.1 ∧ CW ρ P ad res.1.2 H1) (MA wC ad s.heap.size)) args s res.2.1 res.2.2 (MA wC ad s.heap.size)) (F0 m 57 ls [.int z1, .ref ba]) := by
    intro K22 hK22
    intro st x1 x4 x5 z1 ax1 xb ba bb H locs ls cells slots r hW hS fax1 hSB hAa hAb hnn hl her hc1 hs1 h
    have hSz := hS.1
    unfold tx_proper_57 at h
    obtain ⟨q1, rq1, hq1, h, herq1, hccq1, hssq1⟩ := jd_some h
    refine k_callV (pc := 57) (n := 1) X hS (c_sb_appC l ρ _ (pe P ba bb) ba bb xb z1 q1 hW.2.2.1 hW.2.1 ⟨hSB, Or.inr (Or.inl rfl), Or.inr (Or.inr rfl)⟩ hq1) wd316 wd1013 wd314 wd315 wd13 (by decide) ⟨rfl, rfl, Nat.le_of_ble_eq_true rfl, Nat.le_of_ble_eq_true rfl⟩ (sb_recv X hSB) (As := [.int z1]) (rest := []) rfl rfl hl.1 (Nat.le_of_ble_eq_true rfl) d120_57 ⟨room_le hccq1 hc1, room_le hssq1 hs1⟩ (fun q hq => hq.elim (fun e => e ▸ hAa) (fun z => z.elim (fun e => e ▸ hAb) (fun g => hAz q (Nat.le_trans hS.1 g)))) (fun v H1 locs1 hv hz1 hz2 hSq1 => ?_)
    obtain ⟨rfl, bb2, hb1, hb2, hSB⟩ := hv
    have hk : kp (ab ba bb) _ H1 := kp_call hz1 hz2 (fun q hq z => z.elim Or.inl (fun z => z.elim Or.inr (fun g => absurd hq (Nat.not_lt.mpr g))))
    have fax1 := fax1.sb hk hb1
    have hAb : (MA wC ad s.heap.size) bb2 := hb1.elim (fun e => e ▸ hAb) (fun g => hAz _ (Nat.le_trans hS.1 g))
    have hnn0 := hnn
    have hnn : ∀ i, i < 46 → ¬ ab ba bb2 (ad i) := nn_step hnn hb1 hW
    have hW := hW.sb hk hb1 hb2 hnn0 hPp
    have hS := hSq1
    have hSz := hS.1
    have her := her.trans herq1
    have hc1 := room_st hccq1 hc1
    have hs1 := room_st hssq1 hs1
    refine lv_pop (pc := 60) hx hb d120_60 rfl ?_
    refine lv_iload (pc := 61) hx hb d120_61 (lv_at hl 3 rfl) ?_
    obtain ⟨q3, hq3, h⟩ := jc_some h
    refine k_callSN (pc := 63) (n := 1) X hS (c_wf_isLetter l ρ _ (pe P ba bb2) x5 q3 hW.2.2.1 hW.2.1  hq3) wd1033 7 rfl wd1032 wd1 (by decide) ⟨rfl, rfl, Nat.le_of_ble_eq_true rfl, Nat.le_of_ble_eq_true rfl⟩ (As := [.int x5]) (rest := []) rfl rfl hl.1 (Nat.le_of_ble_eq_true rfl) d120_63 ⟨room_l0 hc1, room_l0 hs1⟩ (fun q hq => False.elim hq) (fun v H1 locs1 hv _ _ hSq3 => ?_)
    obtain ⟨rfl, rfl⟩ := hv
    have hS := hSq3
    have hSz := hS.1
    refine lv_istore_n (pc := 66) (lv' := [(3, .int q3), (1, .ref ax1), (2, .ref ba), (4, .int x4), (5, .int x5)]) hx hb d120_66 rfl hl (by decide) rfl (fun ls hl => ?_)
    obtain ⟨v4, ev4, h⟩ := jn_ex h
    refine lv_iinc (pc := 67) (v := v4) (lv' := [(4, .int v4), (3, .int q3), (1, .ref ax1), (2, .ref ba), (5, .int x5)]) hx hb d120_67 hl (k := 3) rfl (by rw [ev4]; rfl) (by decide) rfl (fun ls hl => ?_)
    refine lv_goto (pc := 70) (tgt := 22) hx hb d120_70 (by decide) ?_
    exact hK22 st x1 q3 v4 ax1 q1.1 ba bb2 _ _ _ _ _ _ hW hS fax1 hSB hAa hAb hnn (lv_sub hl [2, 3, 1, 0] rfl) her hc1 hs1 h
  have kc22 : ∀ (fu : Nat), ∀ (st : CS) (x1 : TT) (x3 : Int32) (x4 : Int32) (ax1 : Nat) (xb : BT) (ba bb : Nat) (H : Heap) (locs : List Loc) (ls : Array Slot) (cells slots : Nat) (r : (VV × CS) × Nat × Nat), CW ρ (pe P ba bb) ad st H → va_S (MA wC ad s.heap.size) s.heap H locs → isS ρ (pe P ba bb) H ax1 x1 → SB ρ H ba bb xb → (MA wC ad s.heap.size) ba → (MA wC ad s.heap.size) bb → (∀ i, i < 46 → ¬ ab ba bb (ad i)) → lv_has ls 6 [(1, .ref ax1), (2, .ref ba), (3, .int x3), (4, .int x4)] → res.1 = r.1 → cells + r.2.1 ≤ res.2.1 → slots + r.2.2 ≤ res.2.2 → tx_proper_22 fu st x1 x3 x4 xb = some r → W p l e ({ frames := 16, cells := res.2.1, slots := res.2.2, locals := 693 } : Room) s m args below meth c H locs cells slots (MQ below (mQ (fun v H1 => ∃ x : Nat, v = some (.ref x) ∧ isV ρ P H1 x res.1.1 ∧ CW ρ P ad res.1.2 H1) (MA wC ad s.heap.size)) args s res.2.1 res.2.2 (MA wC ad s.heap.size)) (F0 m 22 ls []) := by
    intro  fu
    induction fu with
    | zero => intro st x1 x3 x4 ax1 xb ba bb H locs ls cells slots r hW hS fax1 hSB hAa hAb hnn hl her hc1 hs1 h; cases h
    | succ fu hK22 =>
      intro st x1 x3 x4 ax1 xb ba bb H locs ls cells slots r hW hS fax1 hSB hAa hAb hnn hl her hc1 hs1 h
      have hSz := hS.1
      unfold tx_proper_22 at h
      refine lv_iload (pc := 22) hx hb d120_22 (lv_at hl 3 rfl) ?_
      refine lv_aload_n (pc := 24) hx hb d120_24 rfl (lv_at hl 0 rfl) ?_
      obtain ⟨q5, hq5, h⟩ := jc_some h
      refine k_callV (pc := 25) (n := 0) X hS (c_js_length l ρ _ (pe P ba bb) ax1 x1 q5 hW.2.2.1 hW.2.1 fax1 hq5) wd538 wd916 wd536 wd537 wd14 (by decide) ⟨rfl, rfl, Nat.le_of_ble_eq_true rfl, Nat.le_of_ble_eq_true rfl⟩ (s_recv X fax1) (As := []) (rest := [.int x4]) rfl rfl hl.1 (Nat.le_of_ble_eq_true rfl) d120_25 ⟨room_l0 hc1, room_l0 hs1⟩ (fun q hq => False.elim hq) (fun v H1 locs1 hv _ _ hSq5 => ?_)
      obtain ⟨rfl, rfl⟩ := hv
      have hS := hSq5
      have hSz := hS.1
      refine lv_icmp_ge (pc := 28) (tgt := 73) hx hb d120_28 (by decide) (fun c28 => ?_) (fun c28 => ?_)
      · have h := jb_t c28 h
        refine lv_aload_n (pc := 73) hx hb d120_73 rfl (lv_at hl 1 rfl) ?_
        obtain ⟨q6, rq6, hq6, h, herq6, hccq6, hssq6⟩ := jd_some h
        refine k_callSN (pc := 74) (n := 1) X hS (c_wf_textOrTooLong l ρ _ (pe P ba bb) ba bb xb q6 hW.2.2.1 hW.2.1 ⟨hSB, Or.inr (Or.inl rfl), Or.inr (Or.inr rfl)⟩ hq6) wd1004 4 rfl wd1003 wd1 (by decide) ⟨rfl, rfl, Nat.le_of_ble_eq_true rfl, Nat.le_of_ble_eq_true rfl⟩ (As := [.ref ba]) (rest := []) rfl rfl hl.1 (Nat.le_of_ble_eq_true rfl) d120_74 ⟨room_le hccq6 hc1, room_le hssq6 hs1⟩ (fun q hq => hAz q (Nat.le_trans hS.1 hq)) (fun v H1 locs1 hv hz1 hz2 hSq6 => ?_)
        obtain ⟨u7, rfl, fu7⟩ := hv
        have hk : kp no _ H1 := kp_call hz1 hz2 (fun q hq z => absurd hq (Nat.not_lt.mpr z))
        have hSB := hSB.keep hk (fun z => z) (fun z => z)
        have hW := hW.keep hk no_hz (fun _ _ z => z)
        have hS := hSq6
        have hSz := hS.1
        have her := her.trans herq6
        have hc1 := room_st hccq6 hc1
        have hs1 := room_st hssq6 hs1
        have fu7 := fu7.un
        have hW := hW.un hPp
        have her : res.1 = (q6.1, st) := her.trans (congrArg Prod.fst (Option.some.inj h)).symm
        exact m_aret (pc := 77) hx hb hr (Or.inl ⟨_, rfl⟩) hlk hS ⟨u7, rfl, by rw [her]; exact fu7, by rw [her]; exact hW⟩ (Nat.le_trans (Nat.le_add_right _ _) hc1) (Nat.le_trans (Nat.le_add_right _ _) hs1) d120_77
      · have h := jb_f c28 h
        refine lv_aload_n (pc := 31) hx hb d120_31 rfl (lv_at hl 0 rfl) ?_
        refine lv_iload (pc := 32) hx hb d120_32 (lv_at hl 3 rfl) ?_
        obtain ⟨q8, hq8, h⟩ := jc_some h
        refine k_callV (pc := 34) (n := 1) X hS (c_js_charAt l ρ _ (pe P ba bb) ax1 x1 x4 q8 hW.2.2.1 hW.2.1 fax1 hq8) wd683 wd969 wd681 wd682 wd14 (by decide) ⟨rfl, rfl, Nat.le_of_ble_eq_true rfl, Nat.le_of_ble_eq_true rfl⟩ (s_recv X fax1) (As := [.int x4]) (rest := []) rfl rfl hl.1 (Nat.le_of_ble_eq_true rfl) d120_34 ⟨room_l0 hc1, room_l0 hs1⟩ (fun q hq => False.elim hq) (fun v H1 locs1 hv _ _ hSq8 => ?_)
        obtain ⟨rfl, rfl⟩ := hv
        have hS := hSq8
        have hSz := hS.1
        refine lv_istore (pc := 37) (lv' := [(5, .int q8), (1, .ref ax1), (2, .ref ba), (3, .int x3), (4, .int x4)]) hx hb d120_37 hl (by decide) rfl (fun ls hl => ?_)
        refine lv_aload_n (pc := 39) hx hb d120_39 rfl (lv_at hl 2 rfl) ?_
        refine lv_iload_n (pc := 40) hx hb d120_40 rfl (lv_at hl 3 rfl) ?_
        refine lv_if_eq (pc := 41) (tgt := 52) hx hb d120_41 (by decide) (fun c41 => ?_) (fun c41 => ?_)
        · have h := jb_t c41 h
          refine lv_iload (pc := 52) hx hb d120_52 (lv_at hl 0 rfl) ?_
          obtain ⟨q9, hq9, h⟩ := jc_some h
          refine k_callSN (pc := 54) (n := 1) X hS (c_wf_great l ρ _ (pe P ba bb) q8 q9 hW.2.2.1 hW.2.1  hq9) wd985 5 rfl wd984 wd1 (by decide) ⟨rfl, rfl, Nat.le_of_ble_eq_true rfl, Nat.le_of_ble_eq_true rfl⟩ (As := [.int q8]) (rest := [.ref ba]) rfl rfl hl.1 (Nat.le_of_ble_eq_true rfl) d120_54 ⟨room_l0 hc1, room_l0 hs1⟩ (fun q hq => False.elim hq) (fun v H1 locs1 hv _ _ hSq9 => ?_)
          obtain ⟨rfl, rfl⟩ := hv
          have hS := hSq9
          have hSz := hS.1
          exact kc57 _ hK22  st x1 x4 q8 q9 ax1 xb ba bb _ _ _ _ _ _ hW hS fax1 hSB hAa hAb hnn (lv_sub hl [1, 2, 4, 0] rfl) her hc1 hs1 h
        · have h := jb_f c41 h
          refine lv_iload (pc := 44) hx hb d120_44 (lv_at hl 0 rfl) ?_
          obtain ⟨q10, hq10, h⟩ := jc_some h
          refine k_callSN (pc := 46) (n := 1) X hS (c_wf_small l ρ _ (pe P ba bb) q8 q10 hW.2.2.1 hW.2.1  hq10) wd1026 6 rfl wd1025 wd1 (by decide) ⟨rfl, rfl, Nat.le_of_ble_eq_true rfl, Nat.le_of_ble_eq_true rfl⟩ (As := [.int q8]) (rest := [.ref ba]) rfl rfl hl.1 (Nat.le_of_ble_eq_true rfl) d120_46 ⟨room_l0 hc1, room_l0 hs1⟩ (fun q hq => False.elim hq) (fun v H1 locs1 hv _ _ hSq10 => ?_)
          obtain ⟨rfl, rfl⟩ := hv
          have hS := hSq10
          have hSz := hS.1
          refine lv_goto (pc := 49) (tgt := 57) hx hb d120_49 (by decide) ?_
          exact kc57 _ hK22  st x1 x4 q8 q10 ax1 xb ba bb _ _ _ _ _ _ hW hS fax1 hSB hAa hAb hnn (lv_sub hl [1, 2, 4, 0] rfl) her hc1 hs1 h
  have her : res.1 = res.1 := rfl
  have hc1 : 0 + res.2.1 ≤ res.2.1 := Nat.le_of_eq (Nat.zero_add _)
  have hs1 : 0 + res.2.2 ≤ res.2.2 := Nat.le_of_eq (Nat.zero_add _)
  unfold f_tx_proper at h
  refine lv_aload_n (pc := 0) hx hb d120_0 rfl (lv_at hl 0 rfl) ?_
  refine c_getK (pc := 1) X hW 3 0 5 1 (C := "WordFunctions$Texts") (T := T5) (N := 2) (by decide) rfl rfl rfl rfl tin5 rfl wd196 rfl rfl d120_1 ?_
  refine lv_iconst (pc := 4) (v := 0) hx hb d120_4 (by decide) ?_
  obtain ⟨q11, rq11, hq11, h, herq11, hccq11, hssq11⟩ := jd_some h
  refine k_callV (pc := 5) (n := 1) X hS (c_ar_text l ρ ad _ P st 0 q11 hW  hq11) wd868 wd865 wd866 wd867 wd3 (by decide) ⟨rfl, rfl, Nat.le_of_ble_eq_true rfl, Nat.le_of_ble_eq_true rfl⟩ (c_recv X hW 1 3 (by decide) rfl rfl) (As := [.int 0]) (rest := []) rfl rfl hl.1 (Nat.le_of_ble_eq_true rfl) d120_5 ⟨room_le hccq11 hc1, room_le hssq11 hs1⟩ (fun q hq => MA.mono hS.1 hq) (fun v H1 locs1 hv hz1 hz2 hSq11 => ?_)
  have hPq := hW.1
  obtain ⟨u12, rfl, fu12, hW⟩ := hv
  have hS := hSq11
  have hSz := hS.1
  have her := her.trans herq11
  have hc1 := room_st hccq11 hc1
  have hs1 := room_st hssq11 hs1
  refine lv_astore_n (pc := 8) (lv' := [(1, .ref u12), (0, .ref (ad 3))]) hx hb d120_8 rfl hl (by decide) rfl (fun ls hl => ?_)
  obtain ⟨r13, h, her13, hcc13, hss13⟩ := ja_some h
  refine k_newSB (pc := 9) X hS hW.2.2.1 hW.2.1 hAz wd999 wd1000 (rest := []) hl.1 (Nat.le_of_ble_eq_true rfl) rfl rfl (room_le hcc13 hc1) (room_le hss13 hs1) d120_9 d120_12 d120_13 (fun ba bb H1 locs hka hba hbb hba1 hbb1 hSB hS => ?_)
  have fu12 := fu12.new hka hba hbb
  have hnn : ∀ i, i < 46 → ¬ ab ba bb (ad i) := nn_new hW hba hbb
  have hW := hW.new hka hba hbb hba1 hbb1
  have hAa : (MA wC ad s.heap.size) ba := hAz _ (Nat.le_trans hSz hba)
  have hAb : (MA wC ad s.heap.size) bb := hAz _ (Nat.le_trans hSz hbb)
  have hSz := hS.1
  have her := her.trans her13
  have hc1 := room_st hcc13 hc1
  have hs1 := room_st hss13 hs1
  refine lv_astore_n (pc := 16) (lv' := [(2, .ref ba), (1, .ref u12), (0, .ref (ad 3))]) hx hb d120_16 rfl hl (by decide) rfl (fun ls hl => ?_)
  refine lv_iconst (pc := 17) (v := 0) hx hb d120_17 (by decide) ?_
  refine lv_istore_n (pc := 18) (lv' := [(3, .int 0), (2, .ref ba), (1, .ref u12), (0, .ref (ad 3))]) hx hb d120_18 rfl hl (by decide) rfl (fun ls hl => ?_)
  refine lv_iconst (pc := 19) (v := 0) hx hb d120_19 (by decide) ?_
  refine lv_istore (pc := 20) (lv' := [(4, .int 0), (3, .int 0), (2, .ref ba), (1, .ref u12), (0, .ref (ad 3))]) hx hb d120_20 hl (by decide) rfl (fun ls hl => ?_)
  exact kc22  FU q11.1.2 q11.1.1 0 0 u12 (([] : TT), 16) ba bb _ _ _ _ _ _ hW hS fu12 hSB hAa hAb hnn (lv_sub hl [3, 2, 1, 0] rfl) her hc1 hs1 h
def tx_trim_83 (K22 : CS → TT → Int32 → Int32 → BT → Option ((VV × CS) × Nat × Nat)) (st : CS) (x1 : TT) (x4 : Int32) (z0 : Int32) (xb : BT) : Option ((VV × CS) × Nat × Nat) := jn (x4 + 1) (fun v1 => K22 st x1 z0 v1 xb)
def tx_trim_71 (K22 : CS → TT → Int32 → Int32 → BT → Option ((VV × CS) × Nat × Nat)) (st : CS) (x1 : TT) (x4 : Int32) (x5 : Int32) (xb : BT) : Option ((VV × CS) × Nat × Nat) := jb (x5 = 32) (tx_trim_83 K22 st x1 x4 1 xb) (tx_trim_83 K22 st x1 x4 0 xb)
def tx_trim_64 (K22 : CS → TT → Int32 → Int32 → BT → Option ((VV × CS) × Nat × Nat)) (st : CS) (x1 : TT) (x4 : Int32) (x5 : Int32) (xb : BT) : Option ((VV × CS) × Nat × Nat) := jd (f_sb_appC xb x5) (fun q2 => tx_trim_71 K22 st x1 x4 x5 q2)
def tx_trim_22  : Nat → CS → TT → Int32 → Int32 → BT → Option ((VV × CS) × Nat × Nat)
  | 0, _, _, _, _, _ => none
  | fu + 1, st, x1, x3, x4, xb => jc (f_js_length x1) (fun q4 => jb (q4 ≤ x4) (jd (f_wf_textOrTooLong xb) (fun q5 => some ((q5, st), 0, 0))) (jc (f_js_charAt x1 x4) (fun q7 => jb (q7 = 32) (tx_trim_71 (tx_trim_22 fu) st x1 x4 q7 xb) (jb (x3 = 0) (tx_trim_64 (tx_trim_22 fu) st x1 x4 q7 xb) (jc (f_sb_len xb) (fun q8 => jb (q8 ≤ 0) (tx_trim_64 (tx_trim_22 fu) st x1 x4 q7 xb) (jd (f_sb_appC xb 32) (fun q9 => tx_trim_64 (tx_trim_22 fu) st x1 x4 q7 q9))))))))
def f_tx_trim (st : CS) : Option ((VV × CS) × Nat × Nat) := jd (f_ar_text st 0) (fun q11 => ja 2 20 (tx_trim_22 FU q11.2 q11.1 0 0 (([] : TT), 16)))
set_option maxHeartbeats 4000000 in
set_option maxRecDepth 100000 in
theorem c_tx_trim (l : Launch) (ρ : RH) (ad : Nat → Nat) (H : Heap) (P : Nat → Prop) (st : CS) (res : (VV × CS) × Nat × Nat) (hW : CW ρ P ad st H) (h : f_tx_trim st = some res) : Met l y128 (wsOf y128 b128 6 (some (.object "WordFunctions$Value"))) ({ frames := 16, cells := res.2.1, slots := res.2.2, locals := 693 } : Room) (va_Pc [.ref (ad 3)] (KP ρ H)) (mQ (fun v H1 => ∃ x : Nat, v = some (.ref x) ∧ isV ρ P H1 x res.1.1 ∧ CW ρ P ad res.1.2 H1) (MA wC ad H.size)) res.2.1 res.2.2 (MA wC ad H.size) := by
  refine m_ofW (own := "WordFunctions$Texts") (plainFor_of_name rfl) rfl (Nat.le_of_ble_eq_true rfl) fun p e s m args below meth c ls hx hb hr hlk _ X hs hl => ?_
  subst hs
  have hS : va_S (MA wC ad s.heap.size) s.heap s.heap [] := va_S.rf
  have hSz := hS.1
  have hAz : ∀ q, s.heap.size ≤ q → (MA wC ad s.heap.size) q := fun q hq => Or.inr hq
  have hAp : ∀ i, i < 46 → (MA wC ad s.heap.size) (ad i) := fun i hi => MA.in hi
  have hPp : ∀ i, i < 46 → P (ad i) := hW.1
  have hl : lv_has ls 6 [(0, .ref (ad 3))] := hl
  have kc83 : ∀ (K22 : CS → TT → Int32 → Int32 → BT → Option ((VV × CS) × Nat × Nat)) (hK22 : ∀ (st : CS) (x1 : TT) (x3 : Int32) (x4 : Int32) (ax1 : Nat) (xb : BT) (ba bb : Nat) (H : Heap) (locs : List Loc) (ls : Array Slot) (cells slots : Nat) (r : (VV × CS) × Nat × Nat), CW ρ (pe P ba bb) ad st H → va_S (MA wC ad s.heap.size) s.heap H locs → isS ρ (pe P ba bb) H ax1 x1 → SB ρ H ba bb xb → (MA wC ad s.heap.size) ba → (MA wC ad s.heap.size) bb → (∀ i, i < 46 → ¬ ab ba bb (ad i)) → lv_has ls 6 [(1, .ref ax1), (2, .ref ba), (3, .int x3), (4, .int x4)] → res.1 = r.1 → cells + r.2.1 ≤ res.2.1 → slots + r.2.2 ≤ res.2.2 → K22 st x1 x3 x4 xb = some r → W p l e ({ frames := 16, cells := res.2.1, slots := res.2.2, locals := 693 } : Room) s m args below meth c H locs cells slots (MQ below (mQ (fun v H1 => ∃ x : Nat, v = some (.ref x) ∧ isV ρ P H1 x res.1.1 ∧ CW ρ P ad res.1.2 H1) (MA wC ad s.heap.size)) args s res.2.1 res.2.2 (MA wC ad s.heap.size)) (F0 m 22 ls [])), ∀ (st : CS) (x1 : TT) (x4 : Int32) (z0 : Int32) (ax1 : Nat) (xb : BT) (ba bb : Nat) (H : Heap) (locs : List Loc) (ls : Array Slot) (cells slots : Nat) (r : (VV × CS) × Nat × Nat), CW ρ (pe P ba bb) ad st H → va_S (MA wC ad s.heap.size) s.heap H locs → isS ρ (pe P ba bb) H ax1 x1 → SB ρ H ba bb xb → (MA wC ad s.heap.size) ba → (MA wC ad s.heap.size) bb → (∀ i, i < 46 → ¬ ab ba bb (ad i)) → lv_has ls 6 [(1, .ref ax1), (2, .ref ba), (4, .int x4)] → res.1 = r.1 → cells + r.2.1 ≤ res.2.1 → slots + r.2.2 ≤ res.2.2 → tx_trim_83 K22 st x1 x4 z0 xb = some r → W p l e ({ frames := 16, cells := res.2.1, slots := res.2.2, locals := 693 } : Room) s m args below meth c H locs cells slots (MQ below (mQ (fun v H1 => ∃ x : Nat, v = some (.ref x) ∧ isV ρ P H1 x res.1.1 ∧ CW ρ P ad res.1.2 H1) (MA wC ad s.heap.size)) args s res.2.1 res.2.2 (MA wC ad s.heap.size)) (F0 m 83 ls [.int z0]) := by
    intro K22 hK22
    intro st x1 x4 z0 ax1 xb ba bb H locs ls cells slots r hW hS fax1 hSB hAa hAb hnn hl her hc1 hs1 h
    have hSz := hS.1
    unfold tx_trim_83 at h
    refine lv_istore_n (pc := 83) (lv' := [(3, .int z0), (1, .ref ax1), (2, .ref ba), (4, .int x4)]) hx hb d128_83 rfl hl (by decide) rfl (fun ls hl => ?_)
    obtain ⟨v1, ev1, h⟩ := jn_ex h
    refine lv_iinc (pc := 84) (v := v1) (lv' := [(4, .int v1), (3, .int z0), (1, .ref ax1), (2, .ref ba)]) hx hb d128_84 hl (k := 3) rfl (by rw [ev1]; rfl) (by decide) rfl (fun ls hl => ?_)
    refine lv_goto (pc := 87) (tgt := 22) hx hb d128_87 (by decide) ?_
    exact hK22 st x1 z0 v1 ax1 xb ba bb _ _ _ _ _ _ hW hS fax1 hSB hAa hAb hnn (lv_sub hl [2, 3, 1, 0] rfl) her hc1 hs1 h
  have kc71 : ∀ (K22 : CS → TT → Int32 → Int32 → BT → Option ((VV × CS) × Nat × Nat)) (hK22 : ∀ (st : CS) (x1 : TT) (x3 : Int32) (x4 : Int32) (ax1 : Nat) (xb : BT) (ba bb : Nat) (H : Heap) (locs : List Loc) (ls : Array Slot) (cells slots : Nat) (r : (VV × CS) × Nat × Nat), CW ρ (pe P ba bb) ad st H → va_S (MA wC ad s.heap.size) s.heap H locs → isS ρ (pe P ba bb) H ax1 x1 → SB ρ H ba bb xb → (MA wC ad s.heap.size) ba → (MA wC ad s.heap.size) bb → (∀ i, i < 46 → ¬ ab ba bb (ad i)) → lv_has ls 6 [(1, .ref ax1), (2, .ref ba), (3, .int x3), (4, .int x4)] → res.1 = r.1 → cells + r.2.1 ≤ res.2.1 → slots + r.2.2 ≤ res.2.2 → K22 st x1 x3 x4 xb = some r → W p l e ({ frames := 16, cells := res.2.1, slots := res.2.2, locals := 693 } : Room) s m args below meth c H locs cells slots (MQ below (mQ (fun v H1 => ∃ x : Nat, v = some (.ref x) ∧ isV ρ P H1 x res.1.1 ∧ CW ρ P ad res.1.2 H1) (MA wC ad s.heap.size)) args s res.2.1 res.2.2 (MA wC ad s.heap.size)) (F0 m 22 ls [])), ∀ (st : CS) (x1 : TT) (x4 : Int32) (x5 : Int32) (ax1 : Nat) (xb : BT) (ba bb : Nat) (H : Heap) (locs : List Loc) (ls : Array Slot) (cells slots : Nat) (r : (VV × CS) × Nat × Nat), CW ρ (pe P ba bb) ad st H → va_S (MA wC ad s.heap.size) s.heap H locs → isS ρ (pe P ba bb) H ax1 x1 → SB ρ H ba bb xb → (MA wC ad s.heap.size) ba → (MA wC ad s.heap.size) bb → (∀ i, i < 46 → ¬ ab ba bb (ad i)) → lv_has ls 6 [(1, .ref ax1), (2, .ref ba), (4, .int x4), (5, .int x5)] → res.1 = r.1 → cells + r.2.1 ≤ res.2.1 → slots + r.2.2 ≤ res.2.2 → tx_trim_71 K22 st x1 x4 x5 xb = some r → W p l e ({ frames := 16, cells := res.2.1, slots := res.2.2, locals := 693 } : Room) s m args below meth c H locs cells slots (MQ below (mQ (fun v H1 => ∃ x : Nat, v = some (.ref x) ∧ isV ρ P H1 x res.1.1 ∧ CW ρ P ad res.1.2 H1) (MA wC ad s.heap.size)) args s res.2.1 res.2.2 (MA wC ad s.heap.size)) (F0 m 71 ls []) := by
    intro K22 hK22
    intro st x1 x4 x5 ax1 xb ba bb H locs ls cells slots r hW hS fax1 hSB hAa hAb hnn hl her hc1 hs1 h
    have hSz := hS.1
    unfold tx_trim_71 at h
    refine lv_iload (pc := 71) hx hb d128_71 (lv_at hl 3 rfl) ?_
    refine lv_bipush (pc := 73) (v := 32) hx hb d128_73 (by decide) ?_
    refine lv_icmp_ne (pc := 75) (tgt := 82) hx hb d128_75 (by decide) (fun c75 => ?_) (fun c75 => ?_)
    · have h := jb_f c75 h
      refine lv_iconst (pc := 82) (v := 0) hx hb d128_82 (by decide) ?_
      exact kc83 _ hK22  st x1 x4 0 ax1 xb ba bb _ _ _ _ _ _ hW hS fax1 hSB hAa hAb hnn (lv_sub hl [0, 1, 2] rfl) her hc1 hs1 h
    · have h := jb_t c75 h
      refine lv_iconst (pc := 78) (v := 1) hx hb d128_78 (by decide) ?_
      refine lv_goto (pc := 79) (tgt := 83) hx hb d128_79 (by decide) ?_
      exact kc83 _ hK22  st x1 x4 1 ax1 xb ba bb _ _ _ _ _ _ hW hS fax1 hSB hAa hAb hnn (lv_sub hl [0, 1, 2] rfl) her hc1 hs1 h
  have kc64 : ∀ (K22 : CS → TT → Int32 → Int32 → BT → Option ((VV × CS) × Nat × Nat)) (hK22 : ∀ (st : CS) (x1 : TT) (x3 : Int32) (x4 : Int32) (ax1 : Nat) (xb : BT) (ba bb : Nat) (H : Heap) (locs : List Loc) (ls : Array Slot) (cells slots : Nat) (r : (VV × CS) × Nat × Nat), CW ρ (pe P ba bb) ad st H → va_S (MA wC ad s.heap.size) s.heap H locs → isS ρ (pe P ba bb) H ax1 x1 → SB ρ H ba bb xb → (MA wC ad s.heap.size) ba → (MA wC ad s.heap.size) bb → (∀ i, i < 46 → ¬ ab ba bb (ad i)) → lv_has ls 6 [(1, .ref ax1), (2, .ref ba), (3, .int x3), (4, .int x4)] → res.1 = r.1 → cells + r.2.1 ≤ res.2.1 → slots + r.2.2 ≤ res.2.2 → K22 st x1 x3 x4 xb = some r → W p l e ({ frames := 16, cells := res.2.1, slots := res.2.2, locals := 693 } : Room) s m args below meth c H locs cells slots (MQ below (mQ (fun v H1 => ∃ x : Nat, v = some (.ref x) ∧ isV ρ P H1 x res.1.1 ∧ CW ρ P ad res.1.2 H1) (MA wC ad s.heap.size)) args s res.2.1 res.2.2 (MA wC ad s.heap.size)) (F0 m 22 ls [])), ∀ (st : CS) (x1 : TT) (x4 : Int32) (x5 : Int32) (ax1 : Nat) (xb : BT) (ba bb : Nat) (H : Heap) (locs : List Loc) (ls : Array Slot) (cells slots : Nat) (r : (VV × CS) × Nat × Nat), CW ρ (pe P ba bb) ad st H → va_S (MA wC ad s.heap.size) s.heap H locs → isS ρ (pe P ba bb) H ax1 x1 → SB ρ H ba bb xb → (MA wC ad s.heap.size) ba → (MA wC ad s.heap.size) bb → (∀ i, i < 46 → ¬ ab ba bb (ad i)) → lv_has ls 6 [(1, .ref ax1), (2, .ref ba), (4, .int x4), (5, .int x5)] → res.1 = r.1 → cells + r.2.1 ≤ res.2.1 → slots + r.2.2 ≤ res.2.2 → tx_trim_64 K22 st x1 x4 x5 xb = some r → W p l e ({ frames := 16, cells := res.2.1, slots := res.2.2, locals := 693 } : Room) s m args below meth c H locs cells slots (MQ below (mQ (fun v H1 => ∃ x : Nat, v = some (.ref x) ∧ isV ρ P H1 x res.1.1 ∧ CW ρ P ad res.1.2 H1) (MA wC ad s.heap.size)) args s res.2.1 res.2.2 (MA wC ad s.heap.size)) (F0 m 64 ls []) := by
    intro K22 hK22
    intro st x1 x4 x5 ax1 xb ba bb H locs ls cells slots r hW hS fax1 hSB hAa hAb hnn hl her hc1 hs1 h
    have hSz := hS.1
    unfold tx_trim_64 at h
    refine lv_aload_n (pc := 64) hx hb d128_64 rfl (lv_at hl 1 rfl) ?_
    refine lv_iload (pc := 65) hx hb d128_65 (lv_at hl 3 rfl) ?_
    obtain ⟨q2, rq2, hq2, h, herq2, hccq2, hssq2⟩ := jd_some h
    refine k_callV (pc := 67) (n := 1) X hS (c_sb_appC l ρ _ (pe P ba bb) ba bb xb x5 q2 hW.2.2.1 hW.2.1 ⟨hSB, Or.inr (Or.inl rfl), Or.inr (Or.inr rfl)⟩ hq2) wd316 wd1013 wd314 wd315 wd13 (by decide) ⟨rfl, rfl, Nat.le_of_ble_eq_true rfl, Nat.le_of_ble_eq_true rfl⟩ (sb_recv X hSB) (As := [.int x5]) (rest := []) rfl rfl hl.1 (Nat.le_of_ble_eq_true rfl) d128_67 ⟨room_le hccq2 hc1, room_le hssq2 hs1⟩ (fun q hq => hq.elim (fun e => e ▸ hAa) (fun z => z.elim (fun e => e ▸ hAb) (fun g => hAz q (Nat.le_trans hS.1 g)))) (fun v H1 locs1 hv hz1 hz2 hSq2 => ?_)
    obtain ⟨rfl, bb3, hb1, hb2, hSB⟩ := hv
    have hk : kp (ab ba bb) _ H1 := kp_call hz1 hz2 (fun q hq z => z.elim Or.inl (fun z => z.elim Or.inr (fun g => absurd hq (Nat.not_lt.mpr g))))
    have fax1 := fax1.sb hk hb1
    have hAb : (MA wC ad s.heap.size) bb3 := hb1.elim (fun e => e ▸ hAb) (fun g => hAz _ (Nat.le_trans hS.1 g))
    have hnn0 := hnn
    have hnn : ∀ i, i < 46 → ¬ ab ba bb3 (ad i) := nn_step hnn hb1 hW
    have hW := hW.sb hk hb1 hb2 hnn0 hPp
    have hS := hSq2
    have hSz := hS.1
    have her := her.trans herq2
    have hc1 := room_st hccq2 hc1
    have hs1 := room_st hssq2 hs1
    refine lv_pop (pc := 70) hx hb d128_70 rfl ?_
    exact kc71 _ hK22  st x1 x4 x5 ax1 q2.1 ba bb3 _ _ _ _ _ _ hW hS fax1 hSB hAa hAb hnn (lv_sub hl [0, 1, 2, 3] rfl) her hc1 hs1 h
  have kc22 : ∀ (fu : Nat), ∀ (st : CS) (x1 : TT) (x3 : Int32) (x4 : Int32) (ax1 : Nat) (xb : BT) (ba bb : Nat) (H : Heap) (locs : List Loc) (ls : Array Slot) (cells slots : Nat) (r : (VV × CS) × Nat × Nat), CW ρ (pe P ba bb) ad st H → va_S (MA wC ad s.heap.size) s.heap H locs → isS ρ (pe P ba bb) H ax1 x1 → SB ρ H ba bb xb → (MA wC ad s.heap.size) ba → (MA wC ad s.heap.size) bb → (∀ i, i < 46 → ¬ ab ba bb (ad i)) → lv_has ls 6 [(1, .ref ax1), (2, .ref ba), (3, .int x3), (4, .int x4)] → res.1 = r.1 → cells + r.2.1 ≤ res.2.1 → slots + r.2.2 ≤ res.2.2 → tx_trim_22 fu st x1 x3 x4 xb = some r → W p l e ({ frames := 16, cells := res.2.1, slots := res.2.2, locals := 693 } : Room) s m args below meth c H locs cells slots (MQ below (mQ (fun v H1 => ∃ x : Nat, v = some (.ref x) ∧ isV ρ P H1 x res.1.1 ∧ CW ρ P ad res.1.2 H1) (MA wC ad s.heap.size)) args s res.2.1 res.2.2 (MA wC ad s.heap.size)) (F0 m 22 ls []) := by
    intro  fu
    induction fu with
    | zero => intro st x1 x3 x4 ax1 xb ba bb H locs ls cells slots r hW hS fax1 hSB hAa hAb hnn hl her hc1 hs1 h; cases h
    | succ fu hK22 =>
      intro st x1 x3 x4 ax1 xb ba bb H locs ls cells slots r hW hS fax1 hSB hAa hAb hnn hl her hc1 hs1 h
      have hSz := hS.1
      unfold tx_trim_22 at h
      refine lv_iload (pc := 22) hx hb d128_22 (lv_at hl 3 rfl) ?_
      refine lv_aload_n (pc := 24) hx hb d128_24 rfl (lv_at hl 0 rfl) ?_
      obtain ⟨q4, hq4, h⟩ := jc_some h
      refine k_callV (pc := 25) (n := 0) X hS (c_js_length l ρ _ (pe P ba bb) ax1 x1 q4 hW.2.2.1 hW.2.1 fax1 hq4) wd538 wd916 wd536 wd537 wd14 (by decide) ⟨rfl, rfl, Nat.le_of_ble_eq_true rfl, Nat.le_of_ble_eq_true rfl⟩ (s_recv X fax1) (As := []) (rest := [.int x4]) rfl rfl hl.1 (Nat.le_of_ble_eq_true rfl) d128_25 ⟨room_l0 hc1, room_l0 hs1⟩ (fun q hq => False.elim hq) (fun v H1 locs1 hv _ _ hSq4 => ?_)
      obtain ⟨rfl, rfl⟩ := hv
      have hS := hSq4
      have hSz := hS.1
      refine lv_icmp_ge (pc := 28) (tgt := 90) hx hb d128_28 (by decide) (fun c28 => ?_) (fun c28 => ?_)
      · have h := jb_t c28 h
        refine lv_aload_n (pc := 90) hx hb d128_90 rfl (lv_at hl 1 rfl) ?_
        obtain ⟨q5, rq5, hq5, h, herq5, hccq5, hssq5⟩ := jd_some h
        refine k_callSN (pc := 91) (n := 1) X hS (c_wf_textOrTooLong l ρ _ (pe P ba bb) ba bb xb q5 hW.2.2.1 hW.2.1 ⟨hSB, Or.inr (Or.inl rfl), Or.inr (Or.inr rfl)⟩ hq5) wd1004 4 rfl wd1003 wd1 (by decide) ⟨rfl, rfl, Nat.le_of_ble_eq_true rfl, Nat.le_of_ble_eq_true rfl⟩ (As := [.ref ba]) (rest := []) rfl rfl hl.1 (Nat.le_of_ble_eq_true rfl) d128_91 ⟨room_le hccq5 hc1, room_le hssq5 hs1⟩ (fun q hq => hAz q (Nat.le_trans hS.1 hq)) (fun v H1 locs1 hv hz1 hz2 hSq5 => ?_)
        obtain ⟨u6, rfl, fu6⟩ := hv
        have hk : kp no _ H1 := kp_call hz1 hz2 (fun q hq z => absurd hq (Nat.not_lt.mpr z))
        have hSB := hSB.keep hk (fun z => z) (fun z => z)
        have hW := hW.keep hk no_hz (fun _ _ z => z)
        have hS := hSq5
        have hSz := hS.1
        have her := her.trans herq5
        have hc1 := room_st hccq5 hc1
        have hs1 := room_st hssq5 hs1
        have fu6 := fu6.un
        have hW := hW.un hPp
        have her : res.1 = (q5.1, st) := her.trans (congrArg Prod.fst (Option.some.inj h)).symm
        exact m_aret (pc := 94) hx hb hr (Or.inl ⟨_, rfl⟩) hlk hS ⟨u6, rfl, by rw [her]; exact fu6, by rw [her]; exact hW⟩ (Nat.le_trans (Nat.le_add_right _ _) hc1) (Nat.le_trans (Nat.le_add_right _ _) hs1) d128_94
      · have h := jb_f c28 h
        refine lv_aload_n (pc := 31) hx hb d128_31 rfl (lv_at hl 0 rfl) ?_
        refine lv_iload (pc := 32) hx hb d128_32 (lv_at hl 3 rfl) ?_
        obtain ⟨q7, hq7, h⟩ := jc_some h
        refine k_callV (pc := 34) (n := 1) X hS (c_js_charAt l ρ _ (pe P ba bb) ax1 x1 x4 q7 hW.2.2.1 hW.2.1 fax1 hq7) wd683 wd969 wd681 wd682 wd14 (by decide) ⟨rfl, rfl, Nat.le_of_ble_eq_true rfl, Nat.le_of_ble_eq_true rfl⟩ (s_recv X fax1) (As := [.int x4]) (rest := []) rfl rfl hl.1 (Nat.le_of_ble_eq_true rfl) d128_34 ⟨room_l0 hc1, room_l0 hs1⟩ (fun q hq => False.elim hq) (fun v H1 locs1 hv _ _ hSq7 => ?_)
        obtain ⟨rfl, rfl⟩ := hv
        have hS := hSq7
        have hSz := hS.1
        refine lv_istore (pc := 37) (lv' := [(5, .int q7), (1, .ref ax1), (2, .ref ba), (3, .int x3), (4, .int x4)]) hx hb d128_37 hl (by decide) rfl (fun ls hl => ?_)
        refine lv_iload (pc := 39) hx hb d128_39 (lv_at hl 0 rfl) ?_
        refine lv_bipush (pc := 41) (v := 32) hx hb d128_41 (by decide) ?_
        refine lv_icmp_eq (pc := 43) (tgt := 71) hx hb d128_43 (by decide) (fun c43 => ?_) (fun c43 => ?_)
        · have h := jb_t c43 h
          exact kc71 _ hK22  st x1 x4 q7 ax1 xb ba bb _ _ _ _ _ _ hW hS fax1 hSB hAa hAb hnn (lv_sub hl [1, 2, 4, 0] rfl) her hc1 hs1 h
        · have h := jb_f c43 h
          refine lv_iload_n (pc := 46) hx hb d128_46 rfl (lv_at hl 3 rfl) ?_
          refine lv_if_eq (pc := 47) (tgt := 64) hx hb d128_47 (by decide) (fun c47 => ?_) (fun c47 => ?_)
          · have h := jb_t c47 h
            exact kc64 _ hK22  st x1 x4 q7 ax1 xb ba bb _ _ _ _ _ _ hW hS fax1 hSB hAa hAb hnn (lv_sub hl [1, 2, 4, 0] rfl) her hc1 hs1 h
          · have h := jb_f c47 h
            refine lv_aload_n (pc := 50) hx hb d128_50 rfl (lv_at hl 2 rfl) ?_
            obtain ⟨q8, hq8, h⟩ := jc_some h
            refine k_callV (pc := 51) (n := 0) X hS (c_sb_len l ρ _ (pe P ba bb) ba bb xb q8 hW.2.2.1 hW.2.1 ⟨hSB, Or.inr (Or.inl rfl), Or.inr (Or.inr rfl)⟩ hq8) wd431 wd1012 wd430 wd2013 wd13 (by decide) ⟨rfl, rfl, Nat.le_of_ble_eq_true rfl, Nat.le_of_ble_eq_true rfl⟩ (sb_recv X hSB) (As := []) (rest := []) rfl rfl hl.1 (Nat.le_of_ble_eq_true rfl) d128_51 ⟨room_l0 hc1, room_l0 hs1⟩ (fun q hq => False.elim hq) (fun v H1 locs1 hv _ _ hSq8 => ?_)
            obtain ⟨rfl, rfl⟩ := hv
            have hS := hSq8
            have hSz := hS.1
            refine lv_if_le (pc := 54) (tgt := 64) hx hb d128_54 (by decide) (fun c54 => ?_) (fun c54 => ?_)
            · have h := jb_t c54 h
              exact kc64 _ hK22  st x1 x4 q7 ax1 xb ba bb _ _ _ _ _ _ hW hS fax1 hSB hAa hAb hnn (lv_sub hl [1, 2, 4, 0] rfl) her hc1 hs1 h
            · have h := jb_f c54 h
              refine lv_aload_n (pc := 57) hx hb d128_57 rfl (lv_at hl 2 rfl) ?_
              refine lv_bipush (pc := 58) (v := 32) hx hb d128_58 (by decide) ?_
              obtain ⟨q9, rq9, hq9, h, herq9, hccq9, hssq9⟩ := jd_some h
              refine k_callV (pc := 60) (n := 1) X hS (c_sb_appC l ρ _ (pe P ba bb) ba bb xb 32 q9 hW.2.2.1 hW.2.1 ⟨hSB, Or.inr (Or.inl rfl), Or.inr (Or.inr rfl)⟩ hq9) wd316 wd1013 wd314 wd315 wd13 (by decide) ⟨rfl, rfl, Nat.le_of_ble_eq_true rfl, Nat.le_of_ble_eq_true rfl⟩ (sb_recv X hSB) (As := [.int 32]) (rest := []) rfl rfl hl.1 (Nat.le_of_ble_eq_true rfl) d128_60 ⟨room_le hccq9 hc1, room_le hssq9 hs1⟩ (fun q hq => hq.elim (fun e => e ▸ hAa) (fun z => z.elim (fun e => e ▸ hAb) (fun g => hAz q (Nat.le_trans hS.1 g)))) (fun v H1 locs1 hv hz1 hz2 hSq9 => ?_)
              obtain ⟨rfl, bb10, hb1, hb2, hSB⟩ := hv
              have hk : kp (ab ba bb) _ H1 := kp_call hz1 hz2 (fun q hq z => z.elim Or.inl (fun z => z.elim Or.inr (fun g => absurd hq (Nat.not_lt.mpr g))))
              have fax1 := fax1.sb hk hb1
              have hAb : (MA wC ad s.heap.size) bb10 := hb1.elim (fun e => e ▸ hAb) (fun g => hAz _ (Nat.le_trans hS.1 g))
              have hnn0 := hnn
              have hnn : ∀ i, i < 46 → ¬ ab ba bb10 (ad i) := nn_step hnn hb1 hW
              have hW := hW.sb hk hb1 hb2 hnn0 hPp
              have hS := hSq9
              have hSz := hS.1
              have her := her.trans herq9
              have hc1 := room_st hccq9 hc1
              have hs1 := room_st hssq9 hs1
              refine lv_pop (pc := 63) hx hb d128_63 rfl ?_
              exact kc64 _ hK22  st x1 x4 q7 ax1 q9.1 ba bb10 _ _ _ _ _ _ hW hS fax1 hSB hAa hAb hnn (lv_sub hl [1, 2, 4, 0] rfl) her hc1 hs1 h
  have her : res.1 = res.1 := rfl
  have hc1 : 0 + res.2.1 ≤ res.2.1 := Nat.le_of_eq (Nat.zero_add _)
  have hs1 : 0 + res.2.2 ≤ res.2.2 := Nat.le_of_eq (Nat.zero_add _)
  unfold f_tx_trim at h
  refine lv_aload_n (pc := 0) hx hb d128_0 rfl (lv_at hl 0 rfl) ?_
  refine c_getK (pc := 1) X hW 3 0 5 1 (C := "WordFunctions$Texts") (T := T5) (N := 2) (by decide) rfl rfl rfl rfl tin5 rfl wd196 rfl rfl d128_1 ?_
  refine lv_iconst (pc := 4) (v := 0) hx hb d128_4 (by decide) ?_
  obtain ⟨q11, rq11, hq11, h, herq11, hccq11, hssq11⟩ := jd_some h
  refine k_callV (pc := 5) (n := 1) X hS (c_ar_text l ρ ad _ P st 0 q11 hW  hq11) wd868 wd865 wd866 wd867 wd3 (by decide) ⟨rfl, rfl, Nat.le_of_ble_eq_true rfl, Nat.le_of_ble_eq_true rfl⟩ (c_recv X hW 1 3 (by decide) rfl rfl) (As := [.int 0]) (rest := []) rfl rfl hl.1 (Nat.le_of_ble_eq_true rfl) d128_5 ⟨room_le hccq11 hc1, room_le hssq11 hs1⟩ (fun q hq => MA.mono hS.1 hq) (fun v H1 locs1 hv hz1 hz2 hSq11 => ?_)
  have hPq := hW.1
  obtain ⟨u12, rfl, fu12, hW⟩ := hv
  have hS := hSq11
  have hSz := hS.1
  have her := her.trans herq11
  have hc1 := room_st hccq11 hc1
  have hs1 := room_st hssq11 hs1
  refine lv_astore_n (pc := 8) (lv' := [(1, .ref u12), (0, .ref (ad 3))]) hx hb d128_8 rfl hl (by decide) rfl (fun ls hl => ?_)
  obtain ⟨r13, h, her13, hcc13, hss13⟩ := ja_some h
  refine k_newSB (pc := 9) X hS hW.2.2.1 hW.2.1 hAz wd999 wd1000 (rest := []) hl.1 (Nat.le_of_ble_eq_true rfl) rfl rfl (room_le hcc13 hc1) (room_le hss13 hs1) d128_9 d128_12 d128_13 (fun ba bb H1 locs hka hba hbb hba1 hbb1 hSB hS => ?_)
  have fu12 := fu12.new hka hba hbb
  have hnn : ∀ i, i < 46 → ¬ ab ba bb (ad i) := nn_new hW hba hbb
  have hW := hW.new hka hba hbb hba1 hbb1
  have hAa : (MA wC ad s.heap.size) ba := hAz _ (Nat.le_trans hSz hba)
  have hAb : (MA wC ad s.heap.size) bb := hAz _ (Nat.le_trans hSz hbb)
  have hSz := hS.1
  have her := her.trans her13
  have hc1 := room_st hcc13 hc1
  have hs1 := room_st hss13 hs1
  refine lv_astore_n (pc := 16) (lv' := [(2, .ref ba), (1, .ref u12), (0, .ref (ad 3))]) hx hb d128_16 rfl hl (by decide) rfl (fun ls hl => ?_)
  refine lv_iconst (pc := 17) (v := 0) hx hb d128_17 (by decide) ?_
  refine lv_istore_n (pc := 18) (lv' := [(3, .int 0), (2, .ref ba), (1, .ref u12), (0, .ref (ad 3))]) hx hb d128_18 rfl hl (by decide) rfl (fun ls hl => ?_)
  refine lv_iconst (pc := 19) (v := 0) hx hb d128_19 (by decide) ?_
  refine lv_istore (pc := 20) (lv' := [(4, .int 0), (3, .int 0), (2, .ref ba), (1, .ref u12), (0, .ref (ad 3))]) hx hb d128_20 hl (by decide) rfl (fun ls hl => ?_)
  exact kc22  FU q11.1.2 q11.1.1 0 0 u12 (([] : TT), 16) ba bb _ _ _ _ _ _ hW hS fu12 hSB hAa hAb hnn (lv_sub hl [3, 2, 1, 0] rfl) her hc1 hs1 h
def tx_roman_91 (K35 : CS → Int32 → Int32 → BT → Option ((VV × CS) × Nat × Nat)) (K55 : CS → Int32 → Int32 → Int32 → BT → Option ((VV × CS) × Nat × Nat)) (st : CS) (x1 : Int32) (x3 : Int32) (x4 : Int32) (xb : BT) : Option ((VV × CS) × Nat × Nat) := jg (inb x3 13) (jn (x1 - (ZT11.getD x3.toNatClampNeg 0)) (fun v2 => K55 st v2 x3 x4 xb))
def tx_roman_55 (K35 : CS → Int32 → Int32 → BT → Option ((VV × CS) × Nat × Nat)) : Nat → CS → Int32 → Int32 → Int32 → BT → Option ((VV × CS) × Nat × Nat)
  | 0, _, _, _, _, _ => none
  | fu + 1, st, x1, x3, x4, xb => jg (inb x3 13) (jb (x1 < (ZT11.getD x3.toNatClampNeg 0)) (jn (x3 + 1) (fun v4 => K35 st x1 v4 xb)) (jc (f_js_charAt TX12 (2 * x3)) (fun q5 => jd (f_sb_appC xb q5) (fun q6 => jb (x4 = 32) (tx_roman_91 K35 (tx_roman_55 K35 fu) st x1 x3 x4 q6) (jd (f_sb_appC q6 x4) (fun q8 => tx_roman_91 K35 (tx_roman_55 K35 fu) st x1 x3 x4 q8))))))
def tx_roman_35  : Nat → CS → Int32 → Int32 → BT → Option ((VV × CS) × Nat × Nat)
  | 0, _, _, _, _ => none
  | fu + 1, st, x1, x3, xb => jb (13 ≤ x3) (jd (f_wf_textOrTooLong xb) (fun q10 => some ((q10, st), 0, 0))) (jc (f_js_charAt TX12 ((2 * x3) + 1)) (fun q12 => tx_roman_55 (tx_roman_35 fu) FU st x1 x3 q12 xb))
def tx_roman_20  (st : CS) : Option ((VV × CS) × Nat × Nat) := jd (f_vl_ofError 3) (fun q13 => some ((q13, st), 0, 0))
def f_tx_roman (st : CS) : Option ((VV × CS) × Nat × Nat) := jc (f_ar_whole st 0) (fun q15 => jb (q15.1 < 0) (tx_roman_20 q15.2) (jb (q15.1 ≤ 3999) (ja 2 20 (tx_roman_35 FU q15.2 q15.1 0 (([] : TT), 16))) (tx_roman_20 q15.2)))
set_option maxHeartbeats 4000000 in
set_option maxRecDepth 100000 in
theorem c_tx_roman (l : Launch) (ρ : RH) (ad : Nat → Nat) (H : Heap) (P : Nat → Prop) (st : CS) (res : (VV × CS) × Nat × Nat) (hW : CW ρ P ad st H) (h : f_tx_roman st = some res) : Met l y123 (wsOf y123 b123 5 (some (.object "WordFunctions$Value"))) ({ frames := 16, cells := res.2.1, slots := res.2.2, locals := 698 } : Room) (va_Pc [.ref (ad 3)] (KP ρ H)) (mQ (fun v H1 => ∃ x : Nat, v = some (.ref x) ∧ isV ρ P H1 x res.1.1 ∧ CW ρ P ad res.1.2 H1) (MA wC ad H.size)) res.2.1 res.2.2 (MA wC ad H.size) := by
  refine m_ofW (own := "WordFunctions$Texts") (plainFor_of_name rfl) rfl (Nat.le_of_ble_eq_true rfl) fun p e s m args below meth c ls hx hb hr hlk _ X hs hl => ?_
  subst hs
  have hS : va_S (MA wC ad s.heap.size) s.heap s.heap [] := va_S.rf
  have hSz := hS.1
  have hAz : ∀ q, s.heap.size ≤ q → (MA wC ad s.heap.size) q := fun q hq => Or.inr hq
  have hAp : ∀ i, i < 46 → (MA wC ad s.heap.size) (ad i) := fun i hi => MA.in hi
  have hPp : ∀ i, i < 46 → P (ad i) := hW.1
  have hl : lv_has ls 5 [(0, .ref (ad 3))] := hl
  have kc91 : ∀ (K35 : CS → Int32 → Int32 → BT → Option ((VV × CS) × Nat × Nat)) (hK35 : ∀ (st : CS) (x1 : Int32) (x3 : Int32) (xb : BT) (ba bb : Nat) (H : Heap) (locs : List Loc) (ls : Array Slot) (cells slots : Nat) (r : (VV × CS) × Nat × Nat), CW ρ (pe P ba bb) ad st H → va_S (MA wC ad s.heap.size) s.heap H locs → SB ρ H ba bb xb → (MA wC ad s.heap.size) ba → (MA wC ad s.heap.size) bb → (∀ i, i < 46 → ¬ ab ba bb (ad i)) → lv_has ls 5 [(1, .int x1), (2, .ref ba), (3, .int x3)] → res.1 = r.1 → cells + r.2.1 ≤ res.2.1 → slots + r.2.2 ≤ res.2.2 → K35 st x1 x3 xb = some r → W p l e ({ frames := 16, cells := res.2.1, slots := res.2.2, locals := 698 } : Room) s m args below meth c H locs cells slots (MQ below (mQ (fun v H1 => ∃ x : Nat, v = some (.ref x) ∧ isV ρ P H1 x res.1.1 ∧ CW ρ P ad res.1.2 H1) (MA wC ad s.heap.size)) args s res.2.1 res.2.2 (MA wC ad s.heap.size)) (F0 m 35 ls [])) (K55 : CS → Int32 → Int32 → Int32 → BT → Option ((VV × CS) × Nat × Nat)) (hK55 : ∀ (st : CS) (x1 : Int32) (x3 : Int32) (x4 : Int32) (xb : BT) (ba bb : Nat) (H : Heap) (locs : List Loc) (ls : Array Slot) (cells slots : Nat) (r : (VV × CS) × Nat × Nat), CW ρ (pe P ba bb) ad st H → va_S (MA wC ad s.heap.size) s.heap H locs → SB ρ H ba bb xb → (MA wC ad s.heap.size) ba → (MA wC ad s.heap.size) bb → (∀ i, i < 46 → ¬ ab ba bb (ad i)) → lv_has ls 5 [(1, .int x1), (2, .ref ba), (3, .int x3), (4, .int x4)] → res.1 = r.1 → cells + r.2.1 ≤ res.2.1 → slots + r.2.2 ≤ res.2.2 → K55 st x1 x3 x4 xb = some r → W p l e ({ frames := 16, cells := res.2.1, slots := res.2.2, locals := 698 } : Room) s m args below meth c H locs cells slots (MQ below (mQ (fun v H1 => ∃ x : Nat, v = some (.ref x) ∧ isV ρ P H1 x res.1.1 ∧ CW ρ P ad res.1.2 H1) (MA wC ad s.heap.size)) args s res.2.1 res.2.2 (MA wC ad s.heap.size)) (F0 m 55 ls [])), ∀ (st : CS) (x1 : Int32) (x3 : Int32) (x4 : Int32) (xb : BT) (ba bb : Nat) (H : Heap) (locs : List Loc) (ls : Array Slot) (cells slots : Nat) (r : (VV × CS) × Nat × Nat), CW ρ (pe P ba bb) ad st H → va_S (MA wC ad s.heap.size) s.heap H locs → SB ρ H ba bb xb → (MA wC ad s.heap.size) ba → (MA wC ad s.heap.size) bb → (∀ i, i < 46 → ¬ ab ba bb (ad i)) → lv_has ls 5 [(1, .int x1), (2, .ref ba), (3, .int x3), (4, .int x4)] → res.1 = r.1 → cells + r.2.1 ≤ res.2.1 → slots + r.2.2 ≤ res.2.2 → tx_roman_91 K35 K55 st x1 x3 x4 xb = some r → W p l e ({ frames := 16, cells := res.2.1, slots := res.2.2, locals := 698 } : Room) s m args below meth c H locs cells slots (MQ below (mQ (fun v H1 => ∃ x : Nat, v = some (.ref x) ∧ isV ρ P H1 x res.1.1 ∧ CW ρ P ad res.1.2 H1) (MA wC ad s.heap.size)) args s res.2.1 res.2.2 (MA wC ad s.heap.size)) (F0 m 91 ls []) := by
    intro K35 hK35 K55 hK55
    intro st x1 x3 x4 xb ba bb H locs ls cells slots r hW hS hSB hAa hAb hnn hl her hc1 hs1 h
    have hSz := hS.1
    unfold tx_roman_91 at h
    refine lv_iload_n (pc := 91) hx hb d123_91 rfl (lv_at hl 0 rfl) ?_
    refine c_gets (pc := 92) X 11 (hW.2.2.1.2.2.1 11 _ rfl).1 rfl rfl wd1086 d123_92 ?_
    refine lv_iload_n (pc := 95) hx hb d123_95 rfl (lv_at hl 2 rfl) ?_
    obtain ⟨g1, h⟩ := jg_some h
    refine c_tald (pc := 96) X 11 (hW.2.2.1.2.2.1 11 _ rfl) (n := 13) rfl (by decide) g1 d123_96 ?_
    refine lv_isub (pc := 97) hx hb d123_97 ?_
    obtain ⟨v2, ev2, h⟩ := jn_ex h
    refine nm_i ev2 ?_
    refine lv_istore_n (pc := 98) (lv' := [(1, .int v2), (2, .ref ba), (3, .int x3), (4, .int x4)]) hx hb d123_98 rfl hl (by decide) rfl (fun ls hl => ?_)
    refine lv_goto (pc := 99) (tgt := 55) hx hb d123_99 (by decide) ?_
    exact hK55 st v2 x3 x4 xb ba bb _ _ _ _ _ _ hW hS hSB hAa hAb hnn (lv_sub hl [0, 1, 2, 3] rfl) her hc1 hs1 h
  have kc55 : ∀ (K35 : CS → Int32 → Int32 → BT → Option ((VV × CS) × Nat × Nat)) (hK35 : ∀ (st : CS) (x1 : Int32) (x3 : Int32) (xb : BT) (ba bb : Nat) (H : Heap) (locs : List Loc) (ls : Array Slot) (cells slots : Nat) (r : (VV × CS) × Nat × Nat), CW ρ (pe P ba bb) ad st H → va_S (MA wC ad s.heap.size) s.heap H locs → SB ρ H ba bb xb → (MA wC ad s.heap.size) ba → (MA wC ad s.heap.size) bb → (∀ i, i < 46 → ¬ ab ba bb (ad i)) → lv_has ls 5 [(1, .int x1), (2, .ref ba), (3, .int x3)] → res.1 = r.1 → cells + r.2.1 ≤ res.2.1 → slots + r.2.2 ≤ res.2.2 → K35 st x1 x3 xb = some r → W p l e ({ frames := 16, cells := res.2.1, slots := res.2.2, locals := 698 } : Room) s m args below meth c H locs cells slots (MQ below (mQ (fun v H1 => ∃ x : Nat, v = some (.ref x) ∧ isV ρ P H1 x res.1.1 ∧ CW ρ P ad res.1.2 H1) (MA wC ad s.heap.size)) args s res.2.1 res.2.2 (MA wC ad s.heap.size)) (F0 m 35 ls [])) (fu : Nat), ∀ (st : CS) (x1 : Int32) (x3 : Int32) (x4 : Int32) (xb : BT) (ba bb : Nat) (H : Heap) (locs : List Loc) (ls : Array Slot) (cells slots : Nat) (r : (VV × CS) × Nat × Nat), CW ρ (pe P ba bb) ad st H → va_S (MA wC ad s.heap.size) s.heap H locs → SB ρ H ba bb xb → (MA wC ad s.heap.size) ba → (MA wC ad s.heap.size) bb → (∀ i, i < 46 → ¬ ab ba bb (ad i)) → lv_has ls 5 [(1, .int x1), (2, .ref ba), (3, .int x3), (4, .int x4)] → res.1 = r.1 → cells + r.2.1 ≤ res.2.1 → slots + r.2.2 ≤ res.2.2 → tx_roman_55 K35 fu st x1 x3 x4 xb = some r → W p l e ({ frames := 16, cells := res.2.1, slots := res.2.2, locals := 698 } : Room) s m args below meth c H locs cells slots (MQ below (mQ (fun v H1 => ∃ x : Nat, v = some (.ref x) ∧ isV ρ P H1 x res.1.1 ∧ CW ρ P ad res.1.2 H1) (MA wC ad s.heap.size)) args s res.2.1 res.2.2 (MA wC ad s.heap.size)) (F0 m 55 ls []) := by
    intro K35 hK35 fu
    induction fu with
    | zero => intro st x1 x3 x4 xb ba bb H locs ls cells slots r hW hS hSB hAa hAb hnn hl her hc1 hs1 h; cases h
    | succ fu hK55 =>
      intro st x1 x3 x4 xb ba bb H locs ls cells slots r hW hS hSB hAa hAb hnn hl her hc1 hs1 h
      have hSz := hS.1
      unfold tx_roman_55 at h
      refine lv_iload_n (pc := 55) hx hb d123_55 rfl (lv_at hl 0 rfl) ?_
      refine c_gets (pc := 56) X 11 (hW.2.2.1.2.2.1 11 _ rfl).1 rfl rfl wd1086 d123_56 ?_
      refine lv_iload_n (pc := 59) hx hb d123_59 rfl (lv_at hl 2 rfl) ?_
      obtain ⟨g3, h⟩ := jg_some h
      refine c_tald (pc := 60) X 11 (hW.2.2.1.2.2.1 11 _ rfl) (n := 13) rfl (by decide) g3 d123_60 ?_
      refine lv_icmp_lt (pc := 61) (tgt := 102) hx hb d123_61 (by decide) (fun c61 => ?_) (fun c61 => ?_)
      · have h := jb_t c61 h
        obtain ⟨v4, ev4, h⟩ := jn_ex h
        refine lv_iinc (pc := 102) (v := v4) (lv' := [(3, .int v4), (1, .int x1), (2, .ref ba), (4, .int x4)]) hx hb d123_102 hl (k := 2) rfl (by rw [ev4]; rfl) (by decide) rfl (fun ls hl => ?_)
        refine lv_goto (pc := 105) (tgt := 35) hx hb d123_105 (by decide) ?_
        exact hK35 st x1 v4 xb ba bb _ _ _ _ _ _ hW hS hSB hAa hAb hnn (lv_sub hl [1, 2, 0] rfl) her hc1 hs1 h
      · have h := jb_f c61 h
        refine lv_aload_n (pc := 64) hx hb d123_64 rfl (lv_at hl 1 rfl) ?_
        refine c_ldcS (pc := 65) (t := TX12) X hW.2.2.1 12 rfl rfl d123_65 (fun f_rS_ρ_12_ => ?_)
        refine lv_iconst (pc := 67) (v := 2) hx hb d123_67 (by decide) ?_
        refine lv_iload_n (pc := 68) hx hb d123_68 rfl (lv_at hl 2 rfl) ?_
        refine lv_imul (pc := 69) hx hb d123_69 ?_
        obtain ⟨q5, hq5, h⟩ := jc_some h
        refine k_callV (pc := 70) (n := 1) X hS (c_js_charAt l ρ _ (pe P ba bb) (rS ρ 12) TX12 (2 * x3) q5 hW.2.2.1 hW.2.1 f_rS_ρ_12_ hq5) wd683 wd969 wd681 wd682 wd14 (by decide) ⟨rfl, rfl, Nat.le_of_ble_eq_true rfl, Nat.le_of_ble_eq_true rfl⟩ (s_recv X f_rS_ρ_12_) (As := [.int (2 * x3)]) (rest := [.ref ba]) rfl rfl hl.1 (Nat.le_of_ble_eq_true rfl) d123_70 ⟨room_l0 hc1, room_l0 hs1⟩ (fun q hq => False.elim hq) (fun v H1 locs1 hv _ _ hSq5 => ?_)
        obtain ⟨rfl, rfl⟩ := hv
        have hS := hSq5
        have hSz := hS.1
        obtain ⟨q6, rq6, hq6, h, herq6, hccq6, hssq6⟩ := jd_some h
        refine k_callV (pc := 73) (n := 1) X hS (c_sb_appC l ρ _ (pe P ba bb) ba bb xb q5 q6 hW.2.2.1 hW.2.1 ⟨hSB, Or.inr (Or.inl rfl), Or.inr (Or.inr rfl)⟩ hq6) wd316 wd1013 wd314 wd315 wd13 (by decide) ⟨rfl, rfl, Nat.le_of_ble_eq_true rfl, Nat.le_of_ble_eq_true rfl⟩ (sb_recv X hSB) (As := [.int q5]) (rest := []) rfl rfl hl.1 (Nat.le_of_ble_eq_true rfl) d123_73 ⟨room_le hccq6 hc1, room_le hssq6 hs1⟩ (fun q hq => hq.elim (fun e => e ▸ hAa) (fun z => z.elim (fun e => e ▸ hAb) (fun g => hAz q (Nat.le_trans hS.1 g)))) (fun v H1 locs1 hv hz1 hz2 hSq6 => ?_)
        obtain ⟨rfl, bb7, hb1, hb2, hSB⟩ := hv
        have hk : kp (ab ba bb) _ H1 := kp_call hz1 hz2 (fun q hq z => z.elim Or.inl (fun z => z.elim Or.inr (fun g => absurd hq (Nat.not_lt.mpr g))))
        have hAb : (MA wC ad s.heap.size) bb7 := hb1.elim (fun e => e ▸ hAb) (fun g => hAz _ (Nat.le_trans hS.1 g))
        have hnn0 := hnn
        have hnn : ∀ i, i < 46 → ¬ ab ba bb7 (ad i) := nn_step hnn hb1 hW
        have hW := hW.sb hk hb1 hb2 hnn0 hPp
        have hS := hSq6
        have hSz := hS.1
        have her := her.trans herq6
        have hc1 := room_st hccq6 hc1
        have hs1 := room_st hssq6 hs1
        refine lv_pop (pc := 76) hx hb d123_76 rfl ?_
        refine lv_iload (pc := 77) hx hb d123_77 (lv_at hl 3 rfl) ?_
        refine lv_bipush (pc := 79) (v := 32) hx hb d123_79 (by decide) ?_
        refine lv_icmp_eq (pc := 81) (tgt := 91) hx hb d123_81 (by decide) (fun c81 => ?_) (fun c81 => ?_)
        · have h := jb_t c81 h
          exact kc91 _ hK35 _ hK55  st x1 x3 x4 q6.1 ba bb7 _ _ _ _ _ _ hW hS hSB hAa hAb hnn (lv_sub hl [0, 1, 2, 3] rfl) her hc1 hs1 h
        · have h := jb_f c81 h
          refine lv_aload_n (pc := 84) hx hb d123_84 rfl (lv_at hl 1 rfl) ?_
          refine lv_iload (pc := 85) hx hb d123_85 (lv_at hl 3 rfl) ?_
          obtain ⟨q8, rq8, hq8, h, herq8, hccq8, hssq8⟩ := jd_some h
          refine k_callV (pc := 87) (n := 1) X hS (c_sb_appC l ρ _ (pe P ba bb7) ba bb7 q6.1 x4 q8 hW.2.2.1 hW.2.1 ⟨hSB, Or.inr (Or.inl rfl), Or.inr (Or.inr rfl)⟩ hq8) wd316 wd1013 wd314 wd315 wd13 (by decide) ⟨rfl, rfl, Nat.le_of_ble_eq_true rfl, Nat.le_of_ble_eq_true rfl⟩ (sb_recv X hSB) (As := [.int x4]) (rest := []) rfl rfl hl.1 (Nat.le_of_ble_eq_true rfl) d123_87 ⟨room_le hccq8 hc1, room_le hssq8 hs1⟩ (fun q hq => hq.elim (fun e => e ▸ hAa) (fun z => z.elim (fun e => e ▸ hAb) (fun g => hAz q (Nat.le_trans hS.1 g)))) (fun v H1 locs1 hv hz1 hz2 hSq8 => ?_)
          obtain ⟨rfl, bb9, hb1, hb2, hSB⟩ := hv
          have hk : kp (ab ba bb7) _ H1 := kp_call hz1 hz2 (fun q hq z => z.elim Or.inl (fun z => z.elim Or.inr (fun g => absurd hq (Nat.not_lt.mpr g))))
          have hAb : (MA wC ad s.heap.size) bb9 := hb1.elim (fun e => e ▸ hAb) (fun g => hAz _ (Nat.le_trans hS.1 g))
          have hnn0 := hnn
          have hnn : ∀ i, i < 46 → ¬ ab ba bb9 (ad i) := nn_step hnn hb1 hW
          have hW := hW.sb hk hb1 hb2 hnn0 hPp
          have hS := hSq8
          have hSz := hS.1
          have her := her.trans herq8
          have hc1 := room_st hccq8 hc1
          have hs1 := room_st hssq8 hs1
          refine lv_pop (pc := 90) hx hb d123_90 rfl ?_
          exact kc91 _ hK35 _ hK55  st x1 x3 x4 q8.1 ba bb9 _ _ _ _ _ _ hW hS hSB hAa hAb hnn (lv_sub hl [0, 1, 2, 3] rfl) her hc1 hs1 h
  have kc35 : ∀ (fu : Nat), ∀ (st : CS) (x1 : Int32) (x3 : Int32) (xb : BT) (ba bb : Nat) (H : Heap) (locs : List Loc) (ls : Array Slot) (cells slots : Nat) (r : (VV × CS) × Nat × Nat), CW ρ (pe P ba bb) ad st H → va_S (MA wC ad s.heap.size) s.heap H locs → SB ρ H ba bb xb → (MA wC ad s.heap.size) ba → (MA wC ad s.heap.size) bb → (∀ i, i < 46 → ¬ ab ba bb (ad i)) → lv_has ls 5 [(1, .int x1), (2, .ref ba), (3, .int x3)] → res.1 = r.1 → cells + r.2.1 ≤ res.2.1 → slots + r.2.2 ≤ res.2.2 → tx_roman_35 fu st x1 x3 xb = some r → W p l e ({ frames := 16, cells := res.2.1, slots := res.2.2, locals := 698 } : Room) s m args below meth c H locs cells slots (MQ below (mQ (fun v H1 => ∃ x : Nat, v = some (.ref x) ∧ isV ρ P H1 x res.1.1 ∧ CW ρ P ad res.1.2 H1) (MA wC ad s.heap.size)) args s res.2.1 res.2.2 (MA wC ad s.heap.size)) (F0 m 35 ls []) := by
    intro  fu
    induction fu with
    | zero => intro st x1 x3 xb ba bb H locs ls cells slots r hW hS hSB hAa hAb hnn hl her hc1 hs1 h; cases h
    | succ fu hK35 =>
      intro st x1 x3 xb ba bb H locs ls cells slots r hW hS hSB hAa hAb hnn hl her hc1 hs1 h
      have hSz := hS.1
      unfold tx_roman_35 at h
      refine lv_iload_n (pc := 35) hx hb d123_35 rfl (lv_at hl 2 rfl) ?_
      refine c_gets (pc := 36) X 11 (hW.2.2.1.2.2.1 11 _ rfl).1 rfl rfl wd1086 d123_36 ?_
      refine c_tlen (pc := 39) (v := 13) X 11 (hW.2.2.1.2.2.1 11 _ rfl) rfl d123_39 ?_
      refine lv_icmp_ge (pc := 40) (tgt := 108) hx hb d123_40 (by decide) (fun c40 => ?_) (fun c40 => ?_)
      · have h := jb_t c40 h
        refine lv_aload_n (pc := 108) hx hb d123_108 rfl (lv_at hl 1 rfl) ?_
        obtain ⟨q10, rq10, hq10, h, herq10, hccq10, hssq10⟩ := jd_some h
        refine k_callSN (pc := 109) (n := 1) X hS (c_wf_textOrTooLong l ρ _ (pe P ba bb) ba bb xb q10 hW.2.2.1 hW.2.1 ⟨hSB, Or.inr (Or.inl rfl), Or.inr (Or.inr rfl)⟩ hq10) wd1004 4 rfl wd1003 wd1 (by decide) ⟨rfl, rfl, Nat.le_of_ble_eq_true rfl, Nat.le_of_ble_eq_true rfl⟩ (As := [.ref ba]) (rest := []) rfl rfl hl.1 (Nat.le_of_ble_eq_true rfl) d123_109 ⟨room_le hccq10 hc1, room_le hssq10 hs1⟩ (fun q hq => hAz q (Nat.le_trans hS.1 hq)) (fun v H1 locs1 hv hz1 hz2 hSq10 => ?_)
        obtain ⟨u11, rfl, fu11⟩ := hv
        have hk : kp no _ H1 := kp_call hz1 hz2 (fun q hq z => absurd hq (Nat.not_lt.mpr z))
        have hSB := hSB.keep hk (fun z => z) (fun z => z)
        have hW := hW.keep hk no_hz (fun _ _ z => z)
        have hS := hSq10
        have hSz := hS.1
        have her := her.trans herq10
        have hc1 := room_st hccq10 hc1
        have hs1 := room_st hssq10 hs1
        have fu11 := fu11.un
        have hW := hW.un hPp
        have her : res.1 = (q10.1, st) := her.trans (congrArg Prod.fst (Option.some.inj h)).symm
        exact m_aret (pc := 112) hx hb hr (Or.inl ⟨_, rfl⟩) hlk hS ⟨u11, rfl, by rw [her]; exact fu11, by rw [her]; exact hW⟩ (Nat.le_trans (Nat.le_add_right _ _) hc1) (Nat.le_trans (Nat.le_add_right _ _) hs1) d123_112
      · have h := jb_f c40 h
        refine c_ldcS (pc := 43) (t := TX12) X hW.2.2.1 12 rfl rfl d123_43 (fun f_rS_ρ_12_ => ?_)
        refine lv_iconst (pc := 45) (v := 2) hx hb d123_45 (by decide) ?_
        refine lv_iload_n (pc := 46) hx hb d123_46 rfl (lv_at hl 2 rfl) ?_
        refine lv_imul (pc := 47) hx hb d123_47 ?_
        refine lv_iconst (pc := 48) (v := 1) hx hb d123_48 (by decide) ?_
        refine lv_iadd (pc := 49) hx hb d123_49 ?_
        obtain ⟨q12, hq12, h⟩ := jc_some h
        refine k_callV (pc := 50) (n := 1) X hS (c_js_charAt l ρ _ (pe P ba bb) (rS ρ 12) TX12 ((2 * x3) + 1) q12 hW.2.2.1 hW.2.1 f_rS_ρ_12_ hq12) wd683 wd969 wd681 wd682 wd14 (by decide) ⟨rfl, rfl, Nat.le_of_ble_eq_true rfl, Nat.le_of_ble_eq_true rfl⟩ (s_recv X f_rS_ρ_12_) (As := [.int ((2 * x3) + 1)]) (rest := []) rfl rfl hl.1 (Nat.le_of_ble_eq_true rfl) d123_50 ⟨room_l0 hc1, room_l0 hs1⟩ (fun q hq => False.elim hq) (fun v H1 locs1 hv _ _ hSq12 => ?_)
        obtain ⟨rfl, rfl⟩ := hv
        have hS := hSq12
        have hSz := hS.1
        refine lv_istore (pc := 53) (lv' := [(4, .int q12), (1, .int x1), (2, .ref ba), (3, .int x3)]) hx hb d123_53 hl (by decide) rfl (fun ls hl => ?_)
        exact kc55 _ hK35 FU st x1 x3 q12 xb ba bb _ _ _ _ _ _ hW hS hSB hAa hAb hnn (lv_sub hl [1, 2, 3, 0] rfl) her hc1 hs1 h
  have kc20 : ∀ (st : CS) (H : Heap) (locs : List Loc) (ls : Array Slot) (cells slots : Nat) (r : (VV × CS) × Nat × Nat), CW ρ P ad st H → va_S (MA wC ad s.heap.size) s.heap H locs → lv_has ls 5 [] → res.1 = r.1 → cells + r.2.1 ≤ res.2.1 → slots + r.2.2 ≤ res.2.2 → tx_roman_20 st = some r → W p l e ({ frames := 16, cells := res.2.1, slots := res.2.2, locals := 698 } : Room) s m args below meth c H locs cells slots (MQ below (mQ (fun v H1 => ∃ x : Nat, v = some (.ref x) ∧ isV ρ P H1 x res.1.1 ∧ CW ρ P ad res.1.2 H1) (MA wC ad s.heap.size)) args s res.2.1 res.2.2 (MA wC ad s.heap.size)) (F0 m 20 ls []) := by
    intro st H locs ls cells slots r hW hS hl her hc1 hs1 h
    have hSz := hS.1
    unfold tx_roman_20 at h
    refine lv_iconst (pc := 20) (v := 3) hx hb d123_20 (by decide) ?_
    obtain ⟨q13, rq13, hq13, h, herq13, hccq13, hssq13⟩ := jd_some h
    refine k_callS (pc := 21) (n := 1) X hS (c_vl_ofError l ρ _ P 3 q13 hW.2.2.1 hW.2.1  hq13) wd651 wd931 wd650 wd4 (by decide) ⟨rfl, rfl, Nat.le_of_ble_eq_true rfl, Nat.le_of_ble_eq_true rfl⟩ (As := [.int 3]) (rest := []) rfl rfl hl.1 (Nat.le_of_ble_eq_true rfl) d123_21 ⟨room_le hccq13 hc1, room_le hssq13 hs1⟩ (fun q hq => hAz q (Nat.le_trans hS.1 hq)) (fun v H1 locs1 hv hz1 hz2 hSq13 => ?_)
    obtain ⟨u14, rfl, fu14⟩ := hv
    have hk : kp no _ H1 := kp_call hz1 hz2 (fun q hq z => absurd hq (Nat.not_lt.mpr z))
    have hW := hW.keep hk no_hz (fun _ _ z => z)
    have hS := hSq13
    have hSz := hS.1
    have her := her.trans herq13
    have hc1 := room_st hccq13 hc1
    have hs1 := room_st hssq13 hs1
    have her : res.1 = (q13.1, st) := her.trans (congrArg Prod.fst (Option.some.inj h)).symm
    exact m_aret (pc := 24) hx hb hr (Or.inl ⟨_, rfl⟩) hlk hS ⟨u14, rfl, by rw [her]; exact fu14, by rw [her]; exact hW⟩ (Nat.le_trans (Nat.le_add_right _ _) hc1) (Nat.le_trans (Nat.le_add_right _ _) hs1) d123_24
  have her : res.1 = res.1 := rfl
  have hc1 : 0 + res.2.1 ≤ res.2.1 := Nat.le_of_eq (Nat.zero_add _)
  have hs1 : 0 + res.2.2 ≤ res.2.2 := Nat.le_of_eq (Nat.zero_add _)
  unfold f_tx_roman at h
  refine lv_aload_n (pc := 0) hx hb d123_0 rfl (lv_at hl 0 rfl) ?_
  refine c_getK (pc := 1) X hW 3 0 5 1 (C := "WordFunctions$Texts") (T := T5) (N := 2) (by decide) rfl rfl rfl rfl tin5 rfl wd196 rfl rfl d123_1 ?_
  refine lv_iconst (pc := 4) (v := 0) hx hb d123_4 (by decide) ?_
  obtain ⟨q15, hq15, h⟩ := jc_some h
  refine k_callV (pc := 5) (n := 1) X hS (c_ar_whole l ρ ad _ P st 0 q15 hW  hq15) wd762 wd961 wd760 wd761 wd3 (by decide) ⟨rfl, rfl, Nat.le_of_ble_eq_true rfl, Nat.le_of_ble_eq_true rfl⟩ (c_recv X hW 1 3 (by decide) rfl rfl) (As := [.int 0]) (rest := []) rfl rfl hl.1 (Nat.le_of_ble_eq_true rfl) d123_5 ⟨room_l0 hc1, room_l0 hs1⟩ (fun q hq => MA.mono hS.1 hq) (fun v H1 locs1 hv hz1 hz2 hSq15 => ?_)
  have hPq := hW.1
  obtain ⟨rfl, hW⟩ := hv
  have hS := hSq15
  have hSz := hS.1
  refine lv_istore_n (pc := 8) (lv' := [(1, .int q15.1), (0, .ref (ad 3))]) hx hb d123_8 rfl hl (by decide) rfl (fun ls hl => ?_)
  refine lv_iload_n (pc := 9) hx hb d123_9 rfl (lv_at hl 0 rfl) ?_
  refine lv_if_lt (pc := 10) (tgt := 20) hx hb d123_10 (by decide) (fun c10 => ?_) (fun c10 => ?_)
  · have h := jb_t c10 h
    exact kc20   q15.2 _ _ _ _ _ _ hW hS (lv_sub hl [] rfl) her hc1 hs1 h
  · have h := jb_f c10 h
    refine lv_iload_n (pc := 13) hx hb d123_13 rfl (lv_at hl 0 rfl) ?_
    refine lv_sipush (pc := 14) (v := 3999) hx hb d123_14 (by decide) ?_
    refine lv_icmp_le (pc := 17) (tgt := 25) hx hb d123_17 (by decide) (fun c17 => ?_) (fun c17 => ?_)
    · have h := jb_t c17 h
      obtain ⟨r16, h, her16, hcc16, hss16⟩ := ja_some h
      refine k_newSB (pc := 25) X hS hW.2.2.1 hW.2.1 hAz wd999 wd1000 (rest := []) hl.1 (Nat.le_of_ble_eq_true rfl) rfl rfl (room_le hcc16 hc1) (room_le hss16 hs1) d123_25 d123_28 d123_29 (fun ba bb H1 locs hka hba hbb hba1 hbb1 hSB hS => ?_)
      have hnn : ∀ i, i < 46 → ¬ ab ba bb (ad i) := nn_new hW hba hbb
      have hW := hW.new hka hba hbb hba1 hbb1
      have hAa : (MA wC ad s.heap.size) ba := hAz _ (Nat.le_trans hSz hba)
      have hAb : (MA wC ad s.heap.size) bb := hAz _ (Nat.le_trans hSz hbb)
      have hSz := hS.1
      have her := her.trans her16
      have hc1 := room_st hcc16 hc1
      have hs1 := room_st hss16 hs1
      refine lv_astore_n (pc := 32) (lv' := [(2, .ref ba), (1, .int q15.1), (0, .ref (ad 3))]) hx hb d123_32 rfl hl (by decide) rfl (fun ls hl => ?_)
      refine lv_iconst (pc := 33) (v := 0) hx hb d123_33 (by decide) ?_
      refine lv_istore_n (pc := 34) (lv' := [(3, .int 0), (2, .ref ba), (1, .int q15.1), (0, .ref (ad 3))]) hx hb d123_34 rfl hl (by decide) rfl (fun ls hl => ?_)
      exact kc35  FU q15.2 q15.1 0 (([] : TT), 16) ba bb _ _ _ _ _ _ hW hS hSB hAa hAb hnn (lv_sub hl [2, 1, 0] rfl) her hc1 hs1 h
    · have h := jb_f c17 h
      exact kc20   q15.2 _ _ _ _ _ _ hW hS (lv_sub hl [] rfl) her hc1 hs1 h
def f_tx_of (st : CS) (p0 : Int32) : Option ((VV × CS) × Nat × Nat) := jb (p0 = 66) (jd (f_ar_text st 0) (fun q1 => jc (f_js_length q1.1) (fun q3 => jd (f_vl_ofNumber (FP.i2d q3)) (fun q4 => some ((q4, q1.2), 0, 0))))) (jb (p0 = 67) (jd (f_tx_side st 0) (fun q6 => some ((q6.1, q6.2), 0, 0))) (jb (p0 = 68) (jd (f_tx_side st 1) (fun q8 => some ((q8.1, q8.2), 0, 0))) (jb (p0 = 69) (jd (f_tx_middle st) (fun q10 => some ((q10.1, q10.2), 0, 0))) (jb (p0 = 70) (jd (f_tx_find st) (fun q12 => some ((q12.1, q12.2), 0, 0))) (jb (p0 = 71) (jd (f_tx_search st) (fun q14 => some ((q14.1, q14.2), 0, 0))) (jb (p0 = 72) (jd (f_tx_replace st) (fun q16 => some ((q16.1, q16.2), 0, 0))) (jb (p0 = 73) (jd (f_tx_substitute st) (fun q18 => some ((q18.1, q18.2), 0, 0))) (jb (p0 = 74) (jd (f_tx_repeat st) (fun q20 => some ((q20.1, q20.2), 0, 0))) (jb (p0 = 75) (jd (f_tx_sized st 1) (fun q22 => some ((q22.1, q22.2), 0, 0))) (jb (p0 = 76) (jd (f_tx_sized st 0) (fun q24 => some ((q24.1, q24.2), 0, 0))) (jb (p0 = 77) (jd (f_tx_proper st) (fun q26 => some ((q26.1, q26.2), 0, 0))) (jb (p0 = 78) (jd (f_tx_trim st) (fun q28 => some ((q28.1, q28.2), 0, 0))) (jb (p0 = 79) (jd (f_tx_concatenate st) (fun q30 => some ((q30.1, q30.2), 0, 0))) (jb (p0 = 80) (jd (f_tx_join st) (fun q32 => some ((q32.1, q32.2), 0, 0))) (jb (p0 = 81) (jd (f_tx_exact st) (fun q34 => some ((q34.1, q34.2), 0, 0))) (jb (p0 = 82) (jd (f_tx_character st) (fun q36 => some ((q36.1, q36.2), 0, 0))) (jb (p0 = 83) (jd (f_tx_code st) (fun q38 => some ((q38.1, q38.2), 0, 0))) (jb (p0 = 84) (jd (f_tx_decimal st) (fun q40 => some ((q40.1, q40.2), 0, 0))) (jb (p0 = 85) (jd (f_tx_decimal st) (fun q42 => some ((q42.1, q42.2), 0, 0))) (jb (p0 = 86) (jd (f_tx_decimal st) (fun q44 => some ((q44.1, q44.2), 0, 0))) (jb (p0 = 87) (jd (f_tx_roman st) (fun q46 => some ((q46.1, q46.2), 0, 0))) (jb (p0 = 88) (jd (f_tx_base st) (fun q48 => some ((q48.1, q48.2), 0, 0))) (jd (f_tx_decimal st) (fun q50 => some ((q50.1, q50.2), 0, 0)))))))))))))))))))))))))
set_option maxHeartbeats 4000000 in
set_option maxRecDepth 100000 in
theorem c_tx_of (l : Launch) (ρ : RH) (ad : Nat → Nat) (H : Heap) (P : Nat → Prop) (st : CS) (p0 : Int32) (res : (VV × CS) × Nat × Nat) (hW : CW ρ P ad st H) (h : f_tx_of st p0 = some res) : Met l y119 (wsOf y119 b119 2 (some (.object "WordFunctions$Value"))) ({ frames := 18, cells := res.2.1, slots := res.2.2, locals := 750 } : Room) (va_Pc [.ref (ad 3), .int p0] (KP ρ H)) (mQ (fun v H1 => ∃ x : Nat, v = some (.ref x) ∧ isV ρ P H1 x res.1.1 ∧ CW ρ P ad res.1.2 H1) (MA wC ad H.size)) res.2.1 res.2.2 (MA wC ad H.size) := by
  refine m_ofW (own := "WordFunctions$Texts") (plainFor_of_name rfl) rfl (Nat.le_of_ble_eq_true rfl) fun p e s m args below meth c ls hx hb hr hlk _ X hs hl => ?_
  subst hs
  have hS : va_S (MA wC ad s.heap.size) s.heap s.heap [] := va_S.rf
  have hSz := hS.1
  have hAz : ∀ q, s.heap.size ≤ q → (MA wC ad s.heap.size) q := fun q hq => Or.inr hq
  have hAp : ∀ i, i < 46 → (MA wC ad s.heap.size) (ad i) := fun i hi => MA.in hi
  have hPp : ∀ i, i < 46 → P (ad i) := hW.1
  have hl : lv_has ls 2 [(0, .ref (ad 3)), (1, .int p0)] := hl
  have her : res.1 = res.1 := rfl
  have hc1 : 0 + res.2.1 ≤ res.2.1 := Nat.le_of_eq (Nat.zero_add _)
  have hs1 : 0 + res.2.2 ≤ res.2.2 := Nat.le_of_eq (Nat.zero_add _)
  unfold f_tx_of at h
  refine lv_iload_n (pc := 0) hx hb d119_0 rfl (lv_at hl 1 rfl) ?_
  by_cases c1_66 : p0 = 66
  · have h := jb_t c1_66 h
    refine lv_tableIn (pc := 1) (off := 107) (tgt := 108) hx hb d119_1 (by rw [c1_66]; decide) (by rw [c1_66]; decide) (by rw [c1_66]; rfl) (by decide) ?_
    refine lv_aload_n (pc := 108) hx hb d119_108 rfl (lv_at hl 0 rfl) ?_
    refine c_getK (pc := 109) X hW 3 0 5 1 (C := "WordFunctions$Texts") (T := T5) (N := 2) (by decide) rfl rfl rfl rfl tin5 rfl wd196 rfl rfl d119_109 ?_
    refine lv_iconst (pc := 112) (v := 0) hx hb d119_112 (by decide) ?_
    obtain ⟨q1, rq1, hq1, h, herq1, hccq1, hssq1⟩ := jd_some h
    refine k_callV (pc := 113) (n := 1) X hS (c_ar_text l ρ ad _ P st 0 q1 hW  hq1) wd868 wd865 wd866 wd867 wd3 (by decide) ⟨rfl, rfl, Nat.le_of_ble_eq_true rfl, Nat.le_of_ble_eq_true rfl⟩ (c_recv X hW 1 3 (by decide) rfl rfl) (As := [.int 0]) (rest := []) rfl rfl hl.1 (Nat.le_of_ble_eq_true rfl) d119_113 ⟨room_le hccq1 hc1, room_le hssq1 hs1⟩ (fun q hq => MA.mono hS.1 hq) (fun v H1 locs1 hv hz1 hz2 hSq1 => ?_)
    have hPq := hW.1
    obtain ⟨u2, rfl, fu2, hW⟩ := hv
    have hS := hSq1
    have hSz := hS.1
    have her := her.trans herq1
    have hc1 := room_st hccq1 hc1
    have hs1 := room_st hssq1 hs1
    obtain ⟨q3, hq3, h⟩ := jc_some h
    refine k_callV (pc := 116) (n := 0) X hS (c_js_length l ρ _ P u2 q1.1.1 q3 hW.2.2.1 hW.2.1 fu2 hq3) wd538 wd916 wd536 wd537 wd14 (by decide) ⟨rfl, rfl, Nat.le_of_ble_eq_true rfl, Nat.le_of_ble_eq_true rfl⟩ (s_recv X fu2) (As := []) (rest := []) rfl rfl hl.1 (Nat.le_of_ble_eq_true rfl) d119_116 ⟨room_l0 hc1, room_l0 hs1⟩ (fun q hq => False.elim hq) (fun v H1 locs1 hv _ _ hSq3 => ?_)
    obtain ⟨rfl, rfl⟩ := hv
    have hS := hSq3
    have hSz := hS.1
    refine lv_i2d (pc := 119) hx hb d119_119 ?_
    obtain ⟨q4, rq4, hq4, h, herq4, hccq4, hssq4⟩ := jd_some h
    refine k_callS (pc := 120) (n := 1) X hS (c_vl_ofNumber l ρ _ P (FP.i2d q3) q4 hW.2.2.1 hW.2.1  hq4) wd642 wd917 wd641 wd4 (by decide) ⟨rfl, rfl, Nat.le_of_ble_eq_true rfl, Nat.le_of_ble_eq_true rfl⟩ (As := [.double (FP.i2d q3)]) (rest := []) rfl rfl hl.1 (Nat.le_of_ble_eq_true rfl) d119_120 ⟨room_le hccq4 hc1, room_le hssq4 hs1⟩ (fun q hq => hAz q (Nat.le_trans hS.1 hq)) (fun v H1 locs1 hv hz1 hz2 hSq4 => ?_)
    obtain ⟨u5, rfl, fu5⟩ := hv
    have hk : kp no _ H1 := kp_call hz1 hz2 (fun q hq z => absurd hq (Nat.not_lt.mpr z))
    have hW := hW.keep hk no_hz (fun _ _ z => z)
    have hS := hSq4
    have hSz := hS.1
    have her := her.trans herq4
    have hc1 := room_st hccq4 hc1
    have hs1 := room_st hssq4 hs1
    have her : res.1 = (q4.1, q1.1.2) := her.trans (congrArg Prod.fst (Option.some.inj h)).symm
    exact m_aret (pc := 123) hx hb hr (Or.inl ⟨_, rfl⟩) hlk hS ⟨u5, rfl, by rw [her]; exact fu5, by rw [her]; exact hW⟩ (Nat.le_trans (Nat.le_add_right _ _) hc1) (Nat.le_trans (Nat.le_add_right _ _) hs1) d119_123
  have h := jb_f c1_66 h
  by_cases c1_67 : p0 = 67
  · have h := jb_t c1_67 h
    refine lv_tableIn (pc := 1) (off := 123) (tgt := 124) hx hb d119_1 (by rw [c1_67]; decide) (by rw [c1_67]; decide) (by rw [c1_67]; rfl) (by decide) ?_
    refine lv_aload_n (pc := 124) hx hb d119_124 rfl (lv_at hl 0 rfl) ?_
    refine lv_iconst (pc := 125) (v := 0) hx hb d119_125 (by decide) ?_
    obtain ⟨q6, rq6, hq6, h, herq6, hccq6, hssq6⟩ := jd_some h
    refine k_callV (pc := 126) (n := 1) X hS (c_tx_side l ρ ad _ P st 0 q6 hW  hq6) wd921 wd918 wd920 sl125 wd7 (by decide) ⟨rfl, rfl, Nat.le_of_ble_eq_true rfl, Nat.le_of_ble_eq_true rfl⟩ (c_recv X hW 3 5 (by decide) rfl rfl) (As := [.int 0]) (rest := []) rfl rfl hl.1 (Nat.le_of_ble_eq_true rfl) d119_126 ⟨room_le hccq6 hc1, room_le hssq6 hs1⟩ (fun q hq => MA.mono hS.1 hq) (fun v H1 locs1 hv hz1 hz2 hSq6 => ?_)
    have hPq := hW.1
    obtain ⟨u7, rfl, fu7, hW⟩ := hv
    have hS := hSq6
    have hSz := hS.1
    have her := her.trans herq6
    have hc1 := room_st hccq6 hc1
    have hs1 := room_st hssq6 hs1
    have her : res.1 = (q6.1.1, q6.1.2) := her.trans (congrArg Prod.fst (Option.some.inj h)).symm
    exact m_aret (pc := 129) hx hb hr (Or.inl ⟨_, rfl⟩) hlk hS ⟨u7, rfl, by rw [her]; exact fu7, by rw [her]; exact hW⟩ (Nat.le_trans (Nat.le_add_right _ _) hc1) (Nat.le_trans (Nat.le_add_right _ _) hs1) d119_129
  have h := jb_f c1_67 h
  by_cases c1_68 : p0 = 68
  · have h := jb_t c1_68 h
    refine lv_tableIn (pc := 1) (off := 129) (tgt := 130) hx hb d119_1 (by rw [c1_68]; decide) (by rw [c1_68]; decide) (by rw [c1_68]; rfl) (by decide) ?_
    refine lv_aload_n (pc := 130) hx hb d119_130 rfl (lv_at hl 0 rfl) ?_
    refine lv_iconst (pc := 131) (v := 1) hx hb d119_131 (by decide) ?_
    obtain ⟨q8, rq8, hq8, h, herq8, hccq8, hssq8⟩ := jd_some h
    refine k_callV (pc := 132) (n := 1) X hS (c_tx_side l ρ ad _ P st 1 q8 hW  hq8) wd921 wd918 wd920 sl125 wd7 (by decide) ⟨rfl, rfl, Nat.le_of_ble_eq_true rfl, Nat.le_of_ble_eq_true rfl⟩ (c_recv X hW 3 5 (by decide) rfl rfl) (As := [.int 1]) (rest := []) rfl rfl hl.1 (Nat.le_of_ble_eq_true rfl) d119_132 ⟨room_le hccq8 hc1, room_le hssq8 hs1⟩ (fun q hq => MA.mono hS.1 hq) (fun v H1 locs1 hv hz1 hz2 hSq8 => ?_)
    have hPq := hW.1
    obtain ⟨u9, rfl, fu9, hW⟩ := hv
    have hS := hSq8
    have hSz := hS.1
    have her := her.trans herq8
    have hc1 := room_st hccq8 hc1
    have hs1 := room_st hssq8 hs1
    have her : res.1 = (q8.1.1, q8.1.2) := her.trans (congrArg Prod.fst (Option.some.inj h)).symm
    exact m_aret (pc := 135) hx hb hr (Or.inl ⟨_, rfl⟩) hlk hS ⟨u9, rfl, by rw [her]; exact fu9, by rw [her]; exact hW⟩ (Nat.le_trans (Nat.le_add_right _ _) hc1) (Nat.le_trans (Nat.le_add_right _ _) hs1) d119_135
  have h := jb_f c1_68 h
  by_cases c1_69 : p0 = 69
  · have h := jb_t c1_69 h
    refine lv_tableIn (pc := 1) (off := 135) (tgt := 136) hx hb d119_1 (by rw [c1_69]; decide) (by rw [c1_69]; decide) (by rw [c1_69]; rfl) (by decide) ?_
    refine lv_aload_n (pc := 136) hx hb d119_136 rfl (lv_at hl 0 rfl) ?_
    obtain ⟨q10, rq10, hq10, h, herq10, hccq10, hssq10⟩ := jd_some h
    refine k_callV (pc := 137) (n := 0) X hS (c_tx_middle l ρ ad _ P st  q10 hW  hq10) wd960 wd957 wd959 sl118 wd7 (by decide) ⟨rfl, rfl, Nat.le_of_ble_eq_true rfl, Nat.le_of_ble_eq_true rfl⟩ (c_recv X hW 3 5 (by decide) rfl rfl) (As := []) (rest := []) rfl rfl hl.1 (Nat.le_of_ble_eq_true rfl) d119_137 ⟨room_le hccq10 hc1, room_le hssq10 hs1⟩ (fun q hq => MA.mono hS.1 hq) (fun v H1 locs1 hv hz1 hz2 hSq10 => ?_)
    have hPq := hW.1
    obtain ⟨u11, rfl, fu11, hW⟩ := hv
    have hS := hSq10
    have hSz := hS.1
    have her := her.trans herq10
    have hc1 := room_st hccq10 hc1
    have hs1 := room_st hssq10 hs1
    have her : res.1 = (q10.1.1, q10.1.2) := her.trans (congrArg Prod.fst (Option.some.inj h)).symm
    exact m_aret (pc := 140) hx hb hr (Or.inl ⟨_, rfl⟩) hlk hS ⟨u11, rfl, by rw [her]; exact fu11, by rw [her]; exact hW⟩ (Nat.le_trans (Nat.le_add_right _ _) hc1) (Nat.le_trans (Nat.le_add_right _ _) hs1) d119_140
  have h := jb_f c1_69 h
  by_cases c1_70 : p0 = 70
  · have h := jb_t c1_70 h
    refine lv_tableIn (pc := 1) (off := 140) (tgt := 141) hx hb d119_1 (by rw [c1_70]; decide) (by rw [c1_70]; decide) (by rw [c1_70]; rfl) (by decide) ?_
    refine lv_aload_n (pc := 141) hx hb d119_141 rfl (lv_at hl 0 rfl) ?_
    obtain ⟨q12, rq12, hq12, h, herq12, hccq12, hssq12⟩ := jd_some h
    refine k_callV (pc := 142) (n := 0) X hS (c_tx_find l ρ ad _ P st  q12 hW  hq12) wd965 wd962 wd964 sl115 wd7 (by decide) ⟨rfl, rfl, Nat.le_of_ble_eq_true rfl, Nat.le_of_ble_eq_true rfl⟩ (c_recv X hW 3 5 (by decide) rfl rfl) (As := []) (rest := []) rfl rfl hl.1 (Nat.le_of_ble_eq_true rfl) d119_142 ⟨room_le hccq12 hc1, room_le hssq12 hs1⟩ (fun q hq => MA.mono hS.1 hq) (fun v H1 locs1 hv hz1 hz2 hSq12 => ?_)
    have hPq := hW.1
    obtain ⟨u13, rfl, fu13, hW⟩ := hv
    have hS := hSq12
    have hSz := hS.1
    have her := her.trans herq12
    have hc1 := room_st hccq12 hc1
    have hs1 := room_st hssq12 hs1
    have her : res.1 = (q12.1.1, q12.1.2) := her.trans (congrArg Prod.fst (Option.some.inj h)).symm
    exact m_aret (pc := 145) hx hb hr (Or.inl ⟨_, rfl⟩) hlk hS ⟨u13, rfl, by rw [her]; exact fu13, by rw [her]; exact hW⟩ (Nat.le_trans (Nat.le_add_right _ _) hc1) (Nat.le_trans (Nat.le_add_right _ _) hs1) d119_145
  have h := jb_f c1_70 h
  by_cases c1_71 : p0 = 71
  · have h := jb_t c1_71 h
    refine lv_tableIn (pc := 1) (off := 145) (tgt := 146) hx hb d119_1 (by rw [c1_71]; decide) (by rw [c1_71]; decide) (by rw [c1_71]; rfl) (by decide) ?_
    refine lv_aload_n (pc := 146) hx hb d119_146 rfl (lv_at hl 0 rfl) ?_
    obtain ⟨q14, rq14, hq14, h, herq14, hccq14, hssq14⟩ := jd_some h
    refine k_callV (pc := 147) (n := 0) X hS (c_tx_search l ρ ad _ P st  q14 hW  hq14) wd973 wd970 wd972 sl124 wd7 (by decide) ⟨rfl, rfl, Nat.le_of_ble_eq_true rfl, Nat.le_of_ble_eq_true rfl⟩ (c_recv X hW 3 5 (by decide) rfl rfl) (As := []) (rest := []) rfl rfl hl.1 (Nat.le_of_ble_eq_true rfl) d119_147 ⟨room_le hccq14 hc1, room_le hssq14 hs1⟩ (fun q hq => MA.mono hS.1 hq) (fun v H1 locs1 hv hz1 hz2 hSq14 => ?_)
    have hPq := hW.1
    obtain ⟨u15, rfl, fu15, hW⟩ := hv
    have hS := hSq14
    have hSz := hS.1
    have her := her.trans herq14
    have hc1 := room_st hccq14 hc1
    have hs1 := room_st hssq14 hs1
    have her : res.1 = (q14.1.1, q14.1.2) := her.trans (congrArg Prod.fst (Option.some.inj h)).symm
    exact m_aret (pc := 150) hx hb hr (Or.inl ⟨_, rfl⟩) hlk hS ⟨u15, rfl, by rw [her]; exact fu15, by rw [her]; exact hW⟩ (Nat.le_trans (Nat.le_add_right _ _) hc1) (Nat.le_trans (Nat.le_add_right _ _) hs1) d119_150
  have h := jb_f c1_71 h
  by_cases c1_72 : p0 = 72
  · have h := jb_t c1_72 h
    refine lv_tableIn (pc := 1) (off := 150) (tgt := 151) hx hb d119_1 (by rw [c1_72]; decide) (by rw [c1_72]; decide) (by rw [c1_72]; rfl) (by decide) ?_
    refine lv_aload_n (pc := 151) hx hb d119_151 rfl (lv_at hl 0 rfl) ?_
    obtain ⟨q16, rq16, hq16, h, herq16, hccq16, hssq16⟩ := jd_some h
    refine k_callV (pc := 152) (n := 0) X hS (c_tx_replace l ρ ad _ P st  q16 hW  hq16) wd998 wd995 wd997 sl122 wd7 (by decide) ⟨rfl, rfl, Nat.le_of_ble_eq_true rfl, Nat.le_of_ble_eq_true rfl⟩ (c_recv X hW 3 5 (by decide) rfl rfl) (As := []) (rest := []) rfl rfl hl.1 (Nat.le_of_ble_eq_true rfl) d119_152 ⟨room_le hccq16 hc1, room_le hssq16 hs1⟩ (fun q hq => MA.mono hS.1 hq) (fun v H1 locs1 hv hz1 hz2 hSq16 => ?_)
    have hPq := hW.1
    obtain ⟨u17, rfl, fu17, hW⟩ := hv
    have hS := hSq16
    have hSz := hS.1
    have her := her.trans herq16
    have hc1 := room_st hccq16 hc1
    have hs1 := room_st hssq16 hs1
    have her : res.1 = (q16.1.1, q16.1.2) := her.trans (congrArg Prod.fst (Option.some.inj h)).symm
    exact m_aret (pc := 155) hx hb hr (Or.inl ⟨_, rfl⟩) hlk hS ⟨u17, rfl, by rw [her]; exact fu17, by rw [her]; exact hW⟩ (Nat.le_trans (Nat.le_add_right _ _) hc1) (Nat.le_trans (Nat.le_add_right _ _) hs1) d119_155
  have h := jb_f c1_72 h
  by_cases c1_73 : p0 = 73
  · have h := jb_t c1_73 h
    refine lv_tableIn (pc := 1) (off := 155) (tgt := 156) hx hb d119_1 (by rw [c1_73]; decide) (by rw [c1_73]; decide) (by rw [c1_73]; rfl) (by decide) ?_
    refine lv_aload_n (pc := 156) hx hb d119_156 rfl (lv_at hl 0 rfl) ?_
    obtain ⟨q18, rq18, hq18, h, herq18, hccq18, hssq18⟩ := jd_some h
    refine k_callV (pc := 157) (n := 0) X hS (c_tx_substitute l ρ ad _ P st  q18 hW  hq18) wd1009 wd1006 wd1008 sl127 wd7 (by decide) ⟨rfl, rfl, Nat.le_of_ble_eq_true rfl, Nat.le_of_ble_eq_true rfl⟩ (c_recv X hW 3 5 (by decide) rfl rfl) (As := []) (rest := []) rfl rfl hl.1 (Nat.le_of_ble_eq_true rfl) d119_157 ⟨room_le hccq18 hc1, room_le hssq18 hs1⟩ (fun q hq => MA.mono hS.1 hq) (fun v H1 locs1 hv hz1 hz2 hSq18 => ?_)
    have hPq := hW.1
    obtain ⟨u19, rfl, fu19, hW⟩ := hv
    have hS := hSq18
    have hSz := hS.1
    have her := her.trans herq18
    have hc1 := room_st hccq18 hc1
    have hs1 := room_st hssq18 hs1
    have her : res.1 = (q18.1.1, q18.1.2) := her.trans (congrArg Prod.fst (Option.some.inj h)).symm
    exact m_aret (pc := 160) hx hb hr (Or.inl ⟨_, rfl⟩) hlk hS ⟨u19, rfl, by rw [her]; exact fu19, by rw [her]; exact hW⟩ (Nat.le_trans (Nat.le_add_right _ _) hc1) (Nat.le_trans (Nat.le_add_right _ _) hs1) d119_160
  have h := jb_f c1_73 h
  by_cases c1_74 : p0 = 74
  · have h := jb_t c1_74 h
    refine lv_tableIn (pc := 1) (off := 160) (tgt := 161) hx hb d119_1 (by rw [c1_74]; decide) (by rw [c1_74]; decide) (by rw [c1_74]; rfl) (by decide) ?_
    refine lv_aload_n (pc := 161) hx hb d119_161 rfl (lv_at hl 0 rfl) ?_
    obtain ⟨q20, rq20, hq20, h, herq20, hccq20, hssq20⟩ := jd_some h
    refine k_callV (pc := 162) (n := 0) X hS (c_tx_repeat l ρ ad _ P st  q20 hW  hq20) wd1017 wd1014 wd1016 sl121 wd7 (by decide) ⟨rfl, rfl, Nat.le_of_ble_eq_true rfl, Nat.le_of_ble_eq_true rfl⟩ (c_recv X hW 3 5 (by decide) rfl rfl) (As := []) (rest := []) rfl rfl hl.1 (Nat.le_of_ble_eq_true rfl) d119_162 ⟨room_le hccq20 hc1, room_le hssq20 hs1⟩ (fun q hq => MA.mono hS.1 hq) (fun v H1 locs1 hv hz1 hz2 hSq20 => ?_)
    have hPq := hW.1
    obtain ⟨u21, rfl, fu21, hW⟩ := hv
    have hS := hSq20
    have hSz := hS.1
    have her := her.trans herq20
    have hc1 := room_st hccq20 hc1
    have hs1 := room_st hssq20 hs1
    have her : res.1 = (q20.1.1, q20.1.2) := her.trans (congrArg Prod.fst (Option.some.inj h)).symm
    exact m_aret (pc := 165) hx hb hr (Or.inl ⟨_, rfl⟩) hlk hS ⟨u21, rfl, by rw [her]; exact fu21, by rw [her]; exact hW⟩ (Nat.le_trans (Nat.le_add_right _ _) hc1) (Nat.le_trans (Nat.le_add_right _ _) hs1) d119_165
  have h := jb_f c1_74 h
  by_cases c1_75 : p0 = 75
  · have h := jb_t c1_75 h
    refine lv_tableIn (pc := 1) (off := 165) (tgt := 166) hx hb d119_1 (by rw [c1_75]; decide) (by rw [c1_75]; decide) (by rw [c1_75]; rfl) (by decide) ?_
    refine lv_aload_n (pc := 166) hx hb d119_166 rfl (lv_at hl 0 rfl) ?_
    refine lv_iconst (pc := 167) (v := 1) hx hb d119_167 (by decide) ?_
    obtain ⟨q22, rq22, hq22, h, herq22, hccq22, hssq22⟩ := jd_some h
    refine k_callV (pc := 168) (n := 1) X hS (c_tx_sized l ρ ad _ P st 1 q22 hW  hq22) wd1022 wd1019 wd1021 sl126 wd7 (by decide) ⟨rfl, rfl, Nat.le_of_ble_eq_true rfl, Nat.le_of_ble_eq_true rfl⟩ (c_recv X hW 3 5 (by decide) rfl rfl) (As := [.int 1]) (rest := []) rfl rfl hl.1 (Nat.le_of_ble_eq_true rfl) d119_168 ⟨room_le hccq22 hc1, room_le hssq22 hs1⟩ (fun q hq => MA.mono hS.1 hq) (fun v H1 locs1 hv hz1 hz2 hSq22 => ?_)
    have hPq := hW.1
    obtain ⟨u23, rfl, fu23, hW⟩ := hv
    have hS := hSq22
    have hSz := hS.1
    have her := her.trans herq22
    have hc1 := room_st hccq22 hc1
    have hs1 := room_st hssq22 hs1
    have her : res.1 = (q22.1.1, q22.1.2) := her.trans (congrArg Prod.fst (Option.some.inj h)).symm
    exact m_aret (pc := 171) hx hb hr (Or.inl ⟨_, rfl⟩) hlk hS ⟨u23, rfl, by rw [her]; exact fu23, by rw [her]; exact hW⟩ (Nat.le_trans (Nat.le_add_right _ _) hc1) (Nat.le_trans (Nat.le_add_right _ _) hs1) d119_171
  have h := jb_f c1_75 h
  by_cases c1_76 : p0 = 76
  · have h := jb_t c1_76 h
    refine lv_tableIn (pc := 1) (off := 171) (tgt := 172) hx hb d119_1 (by rw [c1_76]; decide) (by rw [c1_76]; decide) (by rw [c1_76]; rfl) (by decide) ?_
    refine lv_aload_n (pc := 172) hx hb d119_172 rfl (lv_at hl 0 rfl) ?_
    refine lv_iconst (pc := 173) (v := 0) hx hb d119_173 (by decide) ?_
    obtain ⟨q24, rq24, hq24, h, herq24, hccq24, hssq24⟩ := jd_some h
    refine k_callV (pc := 174) (n := 1) X hS (c_tx_sized l ρ ad _ P st 0 q24 hW  hq24) wd1022 wd1019 wd1021 sl126 wd7 (by decide) ⟨rfl, rfl, Nat.le_of_ble_eq_true rfl, Nat.le_of_ble_eq_true rfl⟩ (c_recv X hW 3 5 (by decide) rfl rfl) (As := [.int 0]) (rest := []) rfl rfl hl.1 (Nat.le_of_ble_eq_true rfl) d119_174 ⟨room_le hccq24 hc1, room_le hssq24 hs1⟩ (fun q hq => MA.mono hS.1 hq) (fun v H1 locs1 hv hz1 hz2 hSq24 => ?_)
    have hPq := hW.1
    obtain ⟨u25, rfl, fu25, hW⟩ := hv
    have hS := hSq24
    have hSz := hS.1
    have her := her.trans herq24
    have hc1 := room_st hccq24 hc1
    have hs1 := room_st hssq24 hs1
    have her : res.1 = (q24.1.1, q24.1.2) := her.trans (congrArg Prod.fst (Option.some.inj h)).symm
    exact m_aret (pc := 177) hx hb hr (Or.inl ⟨_, rfl⟩) hlk hS ⟨u25, rfl, by rw [her]; exact fu25, by rw [her]; exact hW⟩ (Nat.le_trans (Nat.le_add_right _ _) hc1) (Nat.le_trans (Nat.le_add_right _ _) hs1) d119_177
  have h := jb_f c1_76 h
  by_cases c1_77 : p0 = 77
  · have h := jb_t c1_77 h
    refine lv_tableIn (pc := 1) (off := 177) (tgt := 178) hx hb d119_1 (by rw [c1_77]; decide) (by rw [c1_77]; decide) (by rw [c1_77]; rfl) (by decide) ?_
    refine lv_aload_n (pc := 178) hx hb d119_178 rfl (lv_at hl 0 rfl) ?_
    obtain ⟨q26, rq26, hq26, h, herq26, hccq26, hssq26⟩ := jd_some h
    refine k_callV (pc := 179) (n := 0) X hS (c_tx_proper l ρ ad _ P st  q26 hW  hq26) wd1030 wd1027 wd1029 sl120 wd7 (by decide) ⟨rfl, rfl, Nat.le_of_ble_eq_true rfl, Nat.le_of_ble_eq_true rfl⟩ (c_recv X hW 3 5 (by decide) rfl rfl) (As := []) (rest := []) rfl rfl hl.1 (Nat.le_of_ble_eq_true rfl) d119_179 ⟨room_le hccq26 hc1, room_le hssq26 hs1⟩ (fun q hq => MA.mono hS.1 hq) (fun v H1 locs1 hv hz1 hz2 hSq26 => ?_)
    have hPq := hW.1
    obtain ⟨u27, rfl, fu27, hW⟩ := hv
    have hS := hSq26
    have hSz := hS.1
    have her := her.trans herq26
    have hc1 := room_st hccq26 hc1
    have hs1 := room_st hssq26 hs1
    have her : res.1 = (q26.1.1, q26.1.2) := her.trans (congrArg Prod.fst (Option.some.inj h)).symm
    exact m_aret (pc := 182) hx hb hr (Or.inl ⟨_, rfl⟩) hlk hS ⟨u27, rfl, by rw [her]; exact fu27, by rw [her]; exact hW⟩ (Nat.le_trans (Nat.le_add_right _ _) hc1) (Nat.le_trans (Nat.le_add_right _ _) hs1) d119_182
  have h := jb_f c1_77 h
  by_cases c1_78 : p0 = 78
  · have h := jb_t c1_78 h
    refine lv_tableIn (pc := 1) (off := 182) (tgt := 183) hx hb d119_1 (by rw [c1_78]; decide) (by rw [c1_78]; decide) (by rw [c1_78]; rfl) (by decide) ?_
    refine lv_aload_n (pc := 183) hx hb d119_183 rfl (lv_at hl 0 rfl) ?_
    obtain ⟨q28, rq28, hq28, h, herq28, hccq28, hssq28⟩ := jd_some h
    refine k_callV (pc := 184) (n := 0) X hS (c_tx_trim l ρ ad _ P st  q28 hW  hq28) wd1037 wd1034 wd1036 sl128 wd7 (by decide) ⟨rfl, rfl, Nat.le_of_ble_eq_true rfl, Nat.le_of_ble_eq_true rfl⟩ (c_recv X hW 3 5 (by decide) rfl rfl) (As := []) (rest := []) rfl rfl hl.1 (Nat.le_of_ble_eq_true rfl) d119_184 ⟨room_le hccq28 hc1, room_le hssq28 hs1⟩ (fun q hq => MA.mono hS.1 hq) (fun v H1 locs1 hv hz1 hz2 hSq28 => ?_)
    have hPq := hW.1
    obtain ⟨u29, rfl, fu29, hW⟩ := hv
    have hS := hSq28
    have hSz := hS.1
    have her := her.trans herq28
    have hc1 := room_st hccq28 hc1
    have hs1 := room_st hssq28 hs1
    have her : res.1 = (q28.1.1, q28.1.2) := her.trans (congrArg Prod.fst (Option.some.inj h)).symm
    exact m_aret (pc := 187) hx hb hr (Or.inl ⟨_, rfl⟩) hlk hS ⟨u29, rfl, by rw [her]; exact fu29, by rw [her]; exact hW⟩ (Nat.le_trans (Nat.le_add_right _ _) hc1) (Nat.le_trans (Nat.le_add_right _ _) hs1) d119_187
  have h := jb_f c1_78 h
  by_cases c1_79 : p0 = 79
  · have h := jb_t c1_79 h
    refine lv_tableIn (pc := 1) (off := 187) (tgt := 188) hx hb d119_1 (by rw [c1_79]; decide) (by rw [c1_79]; decide) (by rw [c1_79]; rfl) (by decide) ?_
    refine lv_aload_n (pc := 188) hx hb d119_188 rfl (lv_at hl 0 rfl) ?_
    obtain ⟨q30, rq30, hq30, h, herq30, hccq30, hssq30⟩ := jd_some h
    refine k_callV (pc := 189) (n := 0) X hS (c_tx_concatenate l ρ ad _ P st  q30 hW  hq30) wd1041 wd1038 wd1040 sl111 wd7 (by decide) ⟨rfl, rfl, Nat.le_of_ble_eq_true rfl, Nat.le_of_ble_eq_true rfl⟩ (c_recv X hW 3 5 (by decide) rfl rfl) (As := []) (rest := []) rfl rfl hl.1 (Nat.le_of_ble_eq_true rfl) d119_189 ⟨room_le hccq30 hc1, room_le hssq30 hs1⟩ (fun q hq => MA.mono hS.1 hq) (fun v H1 locs1 hv hz1 hz2 hSq30 => ?_)
    have hPq := hW.1
    obtain ⟨u31, rfl, fu31, hW⟩ := hv
    have hS := hSq30
    have hSz := hS.1
    have her := her.trans herq30
    have hc1 := room_st hccq30 hc1
    have hs1 := room_st hssq30 hs1
    have her : res.1 = (q30.1.1, q30.1.2) := her.trans (congrArg Prod.fst (Option.some.inj h)).symm
    exact m_aret (pc := 192) hx hb hr (Or.inl ⟨_, rfl⟩) hlk hS ⟨u31, rfl, by rw [her]; exact fu31, by rw [her]; exact hW⟩ (Nat.le_trans (Nat.le_add_right _ _) hc1) (Nat.le_trans (Nat.le_add_right _ _) hs1) d119_192
  have h := jb_f c1_79 h
  by_cases c1_80 : p0 = 80
  · have h := jb_t c1_80 h
    refine lv_tableIn (pc := 1) (off := 192) (tgt := 193) hx hb d119_1 (by rw [c1_80]; decide) (by rw [c1_80]; decide) (by rw [c1_80]; rfl) (by decide) ?_
    refine lv_aload_n (pc := 193) hx hb d119_193 rfl (lv_at hl 0 rfl) ?_
    obtain ⟨q32, rq32, hq32, h, herq32, hccq32, hssq32⟩ := jd_some h
    refine k_callV (pc := 194) (n := 0) X hS (c_tx_join l ρ ad _ P st  q32 hW  hq32) wd1048 wd1045 wd1047 sl117 wd7 (by decide) ⟨rfl, rfl, Nat.le_of_ble_eq_true rfl, Nat.le_of_ble_eq_true rfl⟩ (c_recv X hW 3 5 (by decide) rfl rfl) (As := []) (rest := []) rfl rfl hl.1 (Nat.le_of_ble_eq_true rfl) d119_194 ⟨room_le hccq32 hc1, room_le hssq32 hs1⟩ (fun q hq => MA.mono hS.1 hq) (fun v H1 locs1 hv hz1 hz2 hSq32 => ?_)
    have hPq := hW.1
    obtain ⟨u33, rfl, fu33, hW⟩ := hv
    have hS := hSq32
    have hSz := hS.1
    have her := her.trans herq32
    have hc1 := room_st hccq32 hc1
    have hs1 := room_st hssq32 hs1
    have her : res.1 = (q32.1.1, q32.1.2) := her.trans (congrArg Prod.fst (Option.some.inj h)).symm
    exact m_aret (pc := 197) hx hb hr (Or.inl ⟨_, rfl⟩) hlk hS ⟨u33, rfl, by rw [her]; exact fu33, by rw [her]; exact hW⟩ (Nat.le_trans (Nat.le_add_right _ _) hc1) (Nat.le_trans (Nat.le_add_right _ _) hs1) d119_197
  have h := jb_f c1_80 h
  by_cases c1_81 : p0 = 81
  · have h := jb_t c1_81 h
    refine lv_tableIn (pc := 1) (off := 197) (tgt := 198) hx hb d119_1 (by rw [c1_81]; decide) (by rw [c1_81]; decide) (by rw [c1_81]; rfl) (by decide) ?_
    refine lv_aload_n (pc := 198) hx hb d119_198 rfl (lv_at hl 0 rfl) ?_
    obtain ⟨q34, rq34, hq34, h, herq34, hccq34, hssq34⟩ := jd_some h
    refine k_callV (pc := 199) (n := 0) X hS (c_tx_exact l ρ ad _ P st  q34 hW  hq34) wd1064 wd1061 wd1063 sl114 wd7 (by decide) ⟨rfl, rfl, Nat.le_of_ble_eq_true rfl, Nat.le_of_ble_eq_true rfl⟩ (c_recv X hW 3 5 (by decide) rfl rfl) (As := []) (rest := []) rfl rfl hl.1 (Nat.le_of_ble_eq_true rfl) d119_199 ⟨room_le hccq34 hc1, room_le hssq34 hs1⟩ (fun q hq => MA.mono hS.1 hq) (fun v H1 locs1 hv hz1 hz2 hSq34 => ?_)
    have hPq := hW.1
    obtain ⟨u35, rfl, fu35, hW⟩ := hv
    have hS := hSq34
    have hSz := hS.1
    have her := her.trans herq34
    have hc1 := room_st hccq34 hc1
    have hs1 := room_st hssq34 hs1
    have her : res.1 = (q34.1.1, q34.1.2) := her.trans (congrArg Prod.fst (Option.some.inj h)).symm
    exact m_aret (pc := 202) hx hb hr (Or.inl ⟨_, rfl⟩) hlk hS ⟨u35, rfl, by rw [her]; exact fu35, by rw [her]; exact hW⟩ (Nat.le_trans (Nat.le_add_right _ _) hc1) (Nat.le_trans (Nat.le_add_right _ _) hs1) d119_202
  have h := jb_f c1_81 h
  by_cases c1_82 : p0 = 82
  · have h := jb_t c1_82 h
    refine lv_tableIn (pc := 1) (off := 202) (tgt := 203) hx hb d119_1 (by rw [c1_82]; decide) (by rw [c1_82]; decide) (by rw [c1_82]; rfl) (by decide) ?_
    refine lv_aload_n (pc := 203) hx hb d119_203 rfl (lv_at hl 0 rfl) ?_
    obtain ⟨q36, rq36, hq36, h, herq36, hccq36, hssq36⟩ := jd_some h
    refine k_callV (pc := 204) (n := 0) X hS (c_tx_character l ρ ad _ P st  q36 hW  hq36) wd1077 wd1074 wd1076 sl109 wd7 (by decide) ⟨rfl, rfl, Nat.le_of_ble_eq_true rfl, Nat.le_of_ble_eq_true rfl⟩ (c_recv X hW 3 5 (by decide) rfl rfl) (As := []) (rest := []) rfl rfl hl.1 (Nat.le_of_ble_eq_true rfl) d119_204 ⟨room_le hccq36 hc1, room_le hssq36 hs1⟩ (fun q hq => MA.mono hS.1 hq) (fun v H1 locs1 hv hz1 hz2 hSq36 => ?_)
    have hPq := hW.1
    obtain ⟨u37, rfl, fu37, hW⟩ := hv
    have hS := hSq36
    have hSz := hS.1
    have her := her.trans herq36
    have hc1 := room_st hccq36 hc1
    have hs1 := room_st hssq36 hs1
    have her : res.1 = (q36.1.1, q36.1.2) := her.trans (congrArg Prod.fst (Option.some.inj h)).symm
    exact m_aret (pc := 207) hx hb hr (Or.inl ⟨_, rfl⟩) hlk hS ⟨u37, rfl, by rw [her]; exact fu37, by rw [her]; exact hW⟩ (Nat.le_trans (Nat.le_add_right _ _) hc1) (Nat.le_trans (Nat.le_add_right _ _) hs1) d119_207
  have h := jb_f c1_82 h
  by_cases c1_83 : p0 = 83
  · have h := jb_t c1_83 h
    refine lv_tableIn (pc := 1) (off := 207) (tgt := 208) hx hb d119_1 (by rw [c1_83]; decide) (by rw [c1_83]; decide) (by rw [c1_83]; rfl) (by decide) ?_
    refine lv_aload_n (pc := 208) hx hb d119_208 rfl (lv_at hl 0 rfl) ?_
    obtain ⟨q38, rq38, hq38, h, herq38, hccq38, hssq38⟩ := jd_some h
    refine k_callV (pc := 209) (n := 0) X hS (c_tx_code l ρ ad _ P st  q38 hW  hq38) wd1081 wd1078 wd1080 sl110 wd7 (by decide) ⟨rfl, rfl, Nat.le_of_ble_eq_true rfl, Nat.le_of_ble_eq_true rfl⟩ (c_recv X hW 3 5 (by decide) rfl rfl) (As := []) (rest := []) rfl rfl hl.1 (Nat.le_of_ble_eq_true rfl) d119_209 ⟨room_le hccq38 hc1, room_le hssq38 hs1⟩ (fun q hq => MA.mono hS.1 hq) (fun v H1 locs1 hv hz1 hz2 hSq38 => ?_)
    have hPq := hW.1
    obtain ⟨u39, rfl, fu39, hW⟩ := hv
    have hS := hSq38
    have hSz := hS.1
    have her := her.trans herq38
    have hc1 := room_st hccq38 hc1
    have hs1 := room_st hssq38 hs1
    have her : res.1 = (q38.1.1, q38.1.2) := her.trans (congrArg Prod.fst (Option.some.inj h)).symm
    exact m_aret (pc := 212) hx hb hr (Or.inl ⟨_, rfl⟩) hlk hS ⟨u39, rfl, by rw [her]; exact fu39, by rw [her]; exact hW⟩ (Nat.le_trans (Nat.le_add_right _ _) hc1) (Nat.le_trans (Nat.le_add_right _ _) hs1) d119_212
  have h := jb_f c1_83 h
  by_cases c1_84 : p0 = 84
  · have h := jb_t c1_84 h
    refine lv_tableIn (pc := 1) (off := 222) (tgt := 223) hx hb d119_1 (by rw [c1_84]; decide) (by rw [c1_84]; decide) (by rw [c1_84]; rfl) (by decide) ?_
    refine lv_aload_n (pc := 223) hx hb d119_223 rfl (lv_at hl 0 rfl) ?_
    obtain ⟨q40, rq40, hq40, h, herq40, hccq40, hssq40⟩ := jd_some h
    refine k_callV (pc := 224) (n := 0) X hS (c_tx_decimal l ρ ad _ P st  q40 hW  hq40) wd1101 wd1098 wd1100 sl112 wd7 (by decide) ⟨rfl, rfl, Nat.le_of_ble_eq_true rfl, Nat.le_of_ble_eq_true rfl⟩ (c_recv X hW 3 5 (by decide) rfl rfl) (As := []) (rest := []) rfl rfl hl.1 (Nat.le_of_ble_eq_true rfl) d119_224 ⟨room_le hccq40 hc1, room_le hssq40 hs1⟩ (fun q hq => MA.mono hS.1 hq) (fun v H1 locs1 hv hz1 hz2 hSq40 => ?_)
    have hPq := hW.1
    obtain ⟨u41, rfl, fu41, hW⟩ := hv
    have hS := hSq40
    have hSz := hS.1
    have her := her.trans herq40
    have hc1 := room_st hccq40 hc1
    have hs1 := room_st hssq40 hs1
    have her : res.1 = (q40.1.1, q40.1.2) := her.trans (congrArg Prod.fst (Option.some.inj h)).symm
    exact m_aret (pc := 227) hx hb hr (Or.inl ⟨_, rfl⟩) hlk hS ⟨u41, rfl, by rw [her]; exact fu41, by rw [her]; exact hW⟩ (Nat.le_trans (Nat.le_add_right _ _) hc1) (Nat.le_trans (Nat.le_add_right _ _) hs1) d119_227
  have h := jb_f c1_84 h
  by_cases c1_85 : p0 = 85
  · have h := jb_t c1_85 h
    refine lv_tableIn (pc := 1) (off := 222) (tgt := 223) hx hb d119_1 (by rw [c1_85]; decide) (by rw [c1_85]; decide) (by rw [c1_85]; rfl) (by decide) ?_
    refine lv_aload_n (pc := 223) hx hb d119_223 rfl (lv_at hl 0 rfl) ?_
    obtain ⟨q42, rq42, hq42, h, herq42, hccq42, hssq42⟩ := jd_some h
    refine k_callV (pc := 224) (n := 0) X hS (c_tx_decimal l ρ ad _ P st  q42 hW  hq42) wd1101 wd1098 wd1100 sl112 wd7 (by decide) ⟨rfl, rfl, Nat.le_of_ble_eq_true rfl, Nat.le_of_ble_eq_true rfl⟩ (c_recv X hW 3 5 (by decide) rfl rfl) (As := []) (rest := []) rfl rfl hl.1 (Nat.le_of_ble_eq_true rfl) d119_224 ⟨room_le hccq42 hc1, room_le hssq42 hs1⟩ (fun q hq => MA.mono hS.1 hq) (fun v H1 locs1 hv hz1 hz2 hSq42 => ?_)
    have hPq := hW.1
    obtain ⟨u43, rfl, fu43, hW⟩ := hv
    have hS := hSq42
    have hSz := hS.1
    have her := her.trans herq42
    have hc1 := room_st hccq42 hc1
    have hs1 := room_st hssq42 hs1
    have her : res.1 = (q42.1.1, q42.1.2) := her.trans (congrArg Prod.fst (Option.some.inj h)).symm
    exact m_aret (pc := 227) hx hb hr (Or.inl ⟨_, rfl⟩) hlk hS ⟨u43, rfl, by rw [her]; exact fu43, by rw [her]; exact hW⟩ (Nat.le_trans (Nat.le_add_right _ _) hc1) (Nat.le_trans (Nat.le_add_right _ _) hs1) d119_227
  have h := jb_f c1_85 h
  by_cases c1_86 : p0 = 86
  · have h := jb_t c1_86 h
    refine lv_tableIn (pc := 1) (off := 222) (tgt := 223) hx hb d119_1 (by rw [c1_86]; decide) (by rw [c1_86]; decide) (by rw [c1_86]; rfl) (by decide) ?_
    refine lv_aload_n (pc := 223) hx hb d119_223 rfl (lv_at hl 0 rfl) ?_
    obtain ⟨q44, rq44, hq44, h, herq44, hccq44, hssq44⟩ := jd_some h
    refine k_callV (pc := 224) (n := 0) X hS (c_tx_decimal l ρ ad _ P st  q44 hW  hq44) wd1101 wd1098 wd1100 sl112 wd7 (by decide) ⟨rfl, rfl, Nat.le_of_ble_eq_true rfl, Nat.le_of_ble_eq_true rfl⟩ (c_recv X hW 3 5 (by decide) rfl rfl) (As := []) (rest := []) rfl rfl hl.1 (Nat.le_of_ble_eq_true rfl) d119_224 ⟨room_le hccq44 hc1, room_le hssq44 hs1⟩ (fun q hq => MA.mono hS.1 hq) (fun v H1 locs1 hv hz1 hz2 hSq44 => ?_)
    have hPq := hW.1
    obtain ⟨u45, rfl, fu45, hW⟩ := hv
    have hS := hSq44
    have hSz := hS.1
    have her := her.trans herq44
    have hc1 := room_st hccq44 hc1
    have hs1 := room_st hssq44 hs1
    have her : res.1 = (q44.1.1, q44.1.2) := her.trans (congrArg Prod.fst (Option.some.inj h)).symm
    exact m_aret (pc := 227) hx hb hr (Or.inl ⟨_, rfl⟩) hlk hS ⟨u45, rfl, by rw [her]; exact fu45, by rw [her]; exact hW⟩ (Nat.le_trans (Nat.le_add_right _ _) hc1) (Nat.le_trans (Nat.le_add_right _ _) hs1) d119_227
  have h := jb_f c1_86 h
  by_cases c1_87 : p0 = 87
  · have h := jb_t c1_87 h
    refine lv_tableIn (pc := 1) (off := 212) (tgt := 213) hx hb d119_1 (by rw [c1_87]; decide) (by rw [c1_87]; decide) (by rw [c1_87]; rfl) (by decide) ?_
    refine lv_aload_n (pc := 213) hx hb d119_213 rfl (lv_at hl 0 rfl) ?_
    obtain ⟨q46, rq46, hq46, h, herq46, hccq46, hssq46⟩ := jd_some h
    refine k_callV (pc := 214) (n := 0) X hS (c_tx_roman l ρ ad _ P st  q46 hW  hq46) wd1085 wd1082 wd1084 sl123 wd7 (by decide) ⟨rfl, rfl, Nat.le_of_ble_eq_true rfl, Nat.le_of_ble_eq_true rfl⟩ (c_recv X hW 3 5 (by decide) rfl rfl) (As := []) (rest := []) rfl rfl hl.1 (Nat.le_of_ble_eq_true rfl) d119_214 ⟨room_le hccq46 hc1, room_le hssq46 hs1⟩ (fun q hq => MA.mono hS.1 hq) (fun v H1 locs1 hv hz1 hz2 hSq46 => ?_)
    have hPq := hW.1
    obtain ⟨u47, rfl, fu47, hW⟩ := hv
    have hS := hSq46
    have hSz := hS.1
    have her := her.trans herq46
    have hc1 := room_st hccq46 hc1
    have hs1 := room_st hssq46 hs1
    have her : res.1 = (q46.1.1, q46.1.2) := her.trans (congrArg Prod.fst (Option.some.inj h)).symm
    exact m_aret (pc := 217) hx hb hr (Or.inl ⟨_, rfl⟩) hlk hS ⟨u47, rfl, by rw [her]; exact fu47, by rw [her]; exact hW⟩ (Nat.le_trans (Nat.le_add_right _ _) hc1) (Nat.le_trans (Nat.le_add_right _ _) hs1) d119_217
  have h := jb_f c1_87 h
  by_cases c1_88 : p0 = 88
  · have h := jb_t c1_88 h
    refine lv_tableIn (pc := 1) (off := 217) (tgt := 218) hx hb d119_1 (by rw [c1_88]; decide) (by rw [c1_88]; decide) (by rw [c1_88]; rfl) (by decide) ?_
    refine lv_aload_n (pc := 218) hx hb d119_218 rfl (lv_at hl 0 rfl) ?_
    obtain ⟨q48, rq48, hq48, h, herq48, hccq48, hssq48⟩ := jd_some h
    refine k_callV (pc := 219) (n := 0) X hS (c_tx_base l ρ ad _ P st  q48 hW  hq48) wd1092 wd1089 wd1091 sl108 wd7 (by decide) ⟨rfl, rfl, Nat.le_of_ble_eq_true rfl, Nat.le_of_ble_eq_true rfl⟩ (c_recv X hW 3 5 (by decide) rfl rfl) (As := []) (rest := []) rfl rfl hl.1 (Nat.le_of_ble_eq_true rfl) d119_219 ⟨room_le hccq48 hc1, room_le hssq48 hs1⟩ (fun q hq => MA.mono hS.1 hq) (fun v H1 locs1 hv hz1 hz2 hSq48 => ?_)
    have hPq := hW.1
    obtain ⟨u49, rfl, fu49, hW⟩ := hv
    have hS := hSq48
    have hSz := hS.1
    have her := her.trans herq48
    have hc1 := room_st hccq48 hc1
    have hs1 := room_st hssq48 hs1
    have her : res.1 = (q48.1.1, q48.1.2) := her.trans (congrArg Prod.fst (Option.some.inj h)).symm
    exact m_aret (pc := 222) hx hb hr (Or.inl ⟨_, rfl⟩) hlk hS ⟨u49, rfl, by rw [her]; exact fu49, by rw [her]; exact hW⟩ (Nat.le_trans (Nat.le_add_right _ _) hc1) (Nat.le_trans (Nat.le_add_right _ _) hs1) d119_222
  have h := jb_f c1_88 h
  refine lv_tableOut (pc := 1) (tgt := 223) hx hb d119_1 (sw_out 23 (by decide) (by
    intro i hi
    match i, hi with
    | 0, _ => exact fun z => c1_66 (Int32.toInt_inj.mp (by rw [z]; decide))
    | 1, _ => exact fun z => c1_67 (Int32.toInt_inj.mp (by rw [z]; decide))
    | 2, _ => exact fun z => c1_68 (Int32.toInt_inj.mp (by rw [z]; decide))
    | 3, _ => exact fun z => c1_69 (Int32.toInt_inj.mp (by rw [z]; decide))
    | 4, _ => exact fun z => c1_70 (Int32.toInt_inj.mp (by rw [z]; decide))
    | 5, _ => exact fun z => c1_71 (Int32.toInt_inj.mp (by rw [z]; decide))
    | 6, _ => exact fun z => c1_72 (Int32.toInt_inj.mp (by rw [z]; decide))
    | 7, _ => exact fun z => c1_73 (Int32.toInt_inj.mp (by rw [z]; decide))
    | 8, _ => exact fun z => c1_74 (Int32.toInt_inj.mp (by rw [z]; decide))
    | 9, _ => exact fun z => c1_75 (Int32.toInt_inj.mp (by rw [z]; decide))
    | 10, _ => exact fun z => c1_76 (Int32.toInt_inj.mp (by rw [z]; decide))
    | 11, _ => exact fun z => c1_77 (Int32.toInt_inj.mp (by rw [z]; decide))
    | 12, _ => exact fun z => c1_78 (Int32.toInt_inj.mp (by rw [z]; decide))
    | 13, _ => exact fun z => c1_79 (Int32.toInt_inj.mp (by rw [z]; decide))
    | 14, _ => exact fun z => c1_80 (Int32.toInt_inj.mp (by rw [z]; decide))
    | 15, _ => exact fun z => c1_81 (Int32.toInt_inj.mp (by rw [z]; decide))
    | 16, _ => exact fun z => c1_82 (Int32.toInt_inj.mp (by rw [z]; decide))
    | 17, _ => exact fun z => c1_83 (Int32.toInt_inj.mp (by rw [z]; decide))
    | 18, _ => exact fun z => c1_84 (Int32.toInt_inj.mp (by rw [z]; decide))
    | 19, _ => exact fun z => c1_85 (Int32.toInt_inj.mp (by rw [z]; decide))
    | 20, _ => exact fun z => c1_86 (Int32.toInt_inj.mp (by rw [z]; decide))
    | 21, _ => exact fun z => c1_87 (Int32.toInt_inj.mp (by rw [z]; decide))
    | 22, _ => exact fun z => c1_88 (Int32.toInt_inj.mp (by rw [z]; decide))
    | i + 23, q => exact absurd q (by omega))) (by decide) ?_
  refine lv_aload_n (pc := 223) hx hb d119_223 rfl (lv_at hl 0 rfl) ?_
  obtain ⟨q50, rq50, hq50, h, herq50, hccq50, hssq50⟩ := jd_some h
  refine k_callV (pc := 224) (n := 0) X hS (c_tx_decimal l ρ ad _ P st  q50 hW  hq50) wd1101 wd1098 wd1100 sl112 wd7 (by decide) ⟨rfl, rfl, Nat.le_of_ble_eq_true rfl, Nat.le_of_ble_eq_true rfl⟩ (c_recv X hW 3 5 (by decide) rfl rfl) (As := []) (rest := []) rfl rfl hl.1 (Nat.le_of_ble_eq_true rfl) d119_224 ⟨room_le hccq50 hc1, room_le hssq50 hs1⟩ (fun q hq => MA.mono hS.1 hq) (fun v H1 locs1 hv hz1 hz2 hSq50 => ?_)
  have hPq := hW.1
  obtain ⟨u51, rfl, fu51, hW⟩ := hv
  have hS := hSq50
  have hSz := hS.1
  have her := her.trans herq50
  have hc1 := room_st hccq50 hc1
  have hs1 := room_st hssq50 hs1
  have her : res.1 = (q50.1.1, q50.1.2) := her.trans (congrArg Prod.fst (Option.some.inj h)).symm
  exact m_aret (pc := 227) hx hb hr (Or.inl ⟨_, rfl⟩) hlk hS ⟨u51, rfl, by rw [her]; exact fu51, by rw [her]; exact hW⟩ (Nat.le_trans (Nat.le_add_right _ _) hc1) (Nat.le_trans (Nat.le_add_right _ _) hs1) d119_227
