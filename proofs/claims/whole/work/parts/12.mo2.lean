abbrev b185 : ByteArray := prog_13_method_59_code
theorem d185_0 : decode b185 0 = .ok ((.aload_n 0), 1) := by decide +kernel
theorem d185_1 : decode b185 1 = .ok ((.iconst 0), 1) := by decide +kernel
theorem d185_2 : decode b185 2 = .ok ((.invokevirtual 268), 3) := by decide +kernel
theorem d185_5 : decode b185 5 = .ok ((.aload_n 0), 1) := by decide +kernel
theorem d185_6 : decode b185 6 = .ok ((.invokevirtual 271), 3) := by decide +kernel
theorem d185_9 : decode b185 9 = .ok ((.aload_n 0), 1) := by decide +kernel
theorem d185_10 : decode b185 10 = .ok ((.iconst 1), 1) := by decide +kernel
theorem d185_11 : decode b185 11 = .ok ((.invokevirtual 209), 3) := by decide +kernel
theorem d185_14 : decode b185 14 = .ok ((.istore_n 1), 1) := by decide +kernel
theorem d185_15 : decode b185 15 = .ok ((.iconst 0), 1) := by decide +kernel
theorem d185_16 : decode b185 16 = .ok ((.istore_n 2), 1) := by decide +kernel
theorem d185_17 : decode b185 17 = .ok ((.iconst 2), 1) := by decide +kernel
theorem d185_18 : decode b185 18 = .ok ((.istore_n 3), 1) := by decide +kernel
theorem d185_19 : decode b185 19 = .ok ((.iload_n 3), 1) := by decide +kernel
theorem d185_20 : decode b185 20 = .ok ((.aload_n 0), 1) := by decide +kernel
theorem d185_21 : decode b185 21 = .ok ((.getfield 123), 3) := by decide +kernel
theorem d185_24 : decode b185 24 = .ok ((.if_icmp .ge 111), 3) := by decide +kernel
theorem d185_27 : decode b185 27 = .ok ((.iconst 0), 1) := by decide +kernel
theorem d185_28 : decode b185 28 = .ok ((.istore 4), 2) := by decide +kernel
theorem d185_30 : decode b185 30 = .ok ((.iload 4), 2) := by decide +kernel
theorem d185_32 : decode b185 32 = .ok ((.aload_n 0), 1) := by decide +kernel
theorem d185_33 : decode b185 33 = .ok ((.iload_n 3), 1) := by decide +kernel
theorem d185_34 : decode b185 34 = .ok ((.invokevirtual 312), 3) := by decide +kernel
theorem d185_37 : decode b185 37 = .ok ((.aload_n 0), 1) := by decide +kernel
theorem d185_38 : decode b185 38 = .ok ((.iload_n 3), 1) := by decide +kernel
theorem d185_39 : decode b185 39 = .ok ((.invokevirtual 315), 3) := by decide +kernel
theorem d185_42 : decode b185 42 = .ok (.imul, 1) := by decide +kernel
theorem d185_43 : decode b185 43 = .ok ((.if_icmp .ge 86), 3) := by decide +kernel
theorem d185_46 : decode b185 46 = .ok ((.aload_n 0), 1) := by decide +kernel
theorem d185_47 : decode b185 47 = .ok ((.aload_n 0), 1) := by decide +kernel
theorem d185_48 : decode b185 48 = .ok ((.iload_n 3), 1) := by decide +kernel
theorem d185_49 : decode b185 49 = .ok ((.invokevirtual 146), 3) := by decide +kernel
theorem d185_52 : decode b185 52 = .ok ((.ifCond .eq 9), 3) := by decide +kernel
theorem d185_55 : decode b185 55 = .ok ((.sipush 512), 3) := by decide +kernel
theorem d185_58 : decode b185 58 = .ok ((.goto 12), 3) := by decide +kernel
theorem d185_61 : decode b185 61 = .ok ((.aload_n 0), 1) := by decide +kernel
theorem d185_62 : decode b185 62 = .ok ((.getfield 26), 3) := by decide +kernel
theorem d185_65 : decode b185 65 = .ok ((.iload_n 3), 1) := by decide +kernel
theorem d185_66 : decode b185 66 = .ok (.iaload, 1) := by decide +kernel
theorem d185_67 : decode b185 67 = .ok ((.iload 4), 2) := by decide +kernel
theorem d185_69 : decode b185 69 = .ok (.iadd, 1) := by decide +kernel
theorem d185_70 : decode b185 70 = .ok ((.invokevirtual 164), 3) := by decide +kernel
theorem d185_73 : decode b185 73 = .ok ((.aload_n 0), 1) := by decide +kernel
theorem d185_74 : decode b185 74 = .ok ((.invokevirtual 240), 3) := by decide +kernel
theorem d185_77 : decode b185 77 = .ok ((.iload_n 1), 1) := by decide +kernel
theorem d185_78 : decode b185 78 = .ok ((.ifCond .eq 13), 3) := by decide +kernel
theorem d185_81 : decode b185 81 = .ok ((.aload_n 0), 1) := by decide +kernel
theorem d185_82 : decode b185 82 = .ok ((.getfield 157), 3) := by decide +kernel
theorem d185_85 : decode b185 85 = .ok ((.ifCond .ne 6), 3) := by decide +kernel
theorem d185_88 : decode b185 88 = .ok ((.goto 35), 3) := by decide +kernel
theorem d185_91 : decode b185 91 = .ok ((.iload_n 2), 1) := by decide +kernel
theorem d185_92 : decode b185 92 = .ok ((.ifCond .eq 16), 3) := by decide +kernel
theorem d185_95 : decode b185 95 = .ok ((.aload_n 0), 1) := by decide +kernel
theorem d185_96 : decode b185 96 = .ok ((.aload_n 0), 1) := by decide +kernel
theorem d185_97 : decode b185 97 = .ok ((.getfield 58), 3) := by decide +kernel
theorem d185_100 : decode b185 100 = .ok ((.iconst 0), 1) := by decide +kernel
theorem d185_101 : decode b185 101 = .ok ((.aload_n 0), 1) := by decide +kernel
theorem d185_102 : decode b185 102 = .ok ((.getfield 243), 3) := by decide +kernel
theorem d185_105 : decode b185 105 = .ok ((.invokevirtual 280), 3) := by decide +kernel
theorem d185_108 : decode b185 108 = .ok ((.aload_n 0), 1) := by decide +kernel
theorem d185_109 : decode b185 109 = .ok ((.aload_n 0), 1) := by decide +kernel
theorem d185_110 : decode b185 110 = .ok ((.getfield 55), 3) := by decide +kernel
theorem d185_113 : decode b185 113 = .ok ((.iconst 0), 1) := by decide +kernel
theorem d185_114 : decode b185 114 = .ok ((.aload_n 0), 1) := by decide +kernel
theorem d185_115 : decode b185 115 = .ok ((.getfield 157), 3) := by decide +kernel
theorem d185_118 : decode b185 118 = .ok ((.invokevirtual 280), 3) := by decide +kernel
theorem d185_121 : decode b185 121 = .ok ((.iconst 1), 1) := by decide +kernel
theorem d185_122 : decode b185 122 = .ok ((.istore_n 2), 1) := by decide +kernel
theorem d185_123 : decode b185 123 = .ok ((.iinc 4 1), 3) := by decide +kernel
theorem d185_126 : decode b185 126 = .ok ((.goto (-96)), 3) := by decide +kernel
theorem d185_129 : decode b185 129 = .ok ((.iinc 3 1), 3) := by decide +kernel
theorem d185_132 : decode b185 132 = .ok ((.goto (-113)), 3) := by decide +kernel
theorem d185_135 : decode b185 135 = .ok ((.aload_n 0), 1) := by decide +kernel
theorem d185_136 : decode b185 136 = .ok ((.invokevirtual 284), 3) := by decide +kernel
theorem d185_139 : decode b185 139 = .ok (.return_, 1) := by decide +kernel
abbrev b169 : ByteArray := prog_13_method_60_code
theorem d169_0 : decode b169 0 = .ok ((.aload_n 0), 1) := by decide +kernel
theorem d169_1 : decode b169 1 = .ok ((.iconst 0), 1) := by decide +kernel
theorem d169_2 : decode b169 2 = .ok ((.invokevirtual 268), 3) := by decide +kernel
theorem d169_5 : decode b169 5 = .ok ((.aload_n 0), 1) := by decide +kernel
theorem d169_6 : decode b169 6 = .ok ((.invokevirtual 271), 3) := by decide +kernel
theorem d169_9 : decode b169 9 = .ok ((.aload_n 0), 1) := by decide +kernel
theorem d169_10 : decode b169 10 = .ok ((.iconst 1), 1) := by decide +kernel
theorem d169_11 : decode b169 11 = .ok ((.invokevirtual 268), 3) := by decide +kernel
theorem d169_14 : decode b169 14 = .ok ((.aload_n 0), 1) := by decide +kernel
theorem d169_15 : decode b169 15 = .ok ((.aload_n 0), 1) := by decide +kernel
theorem d169_16 : decode b169 16 = .ok ((.getfield 157), 3) := by decide +kernel
theorem d169_19 : decode b169 19 = .ok ((.aload_n 0), 1) := by decide +kernel
theorem d169_20 : decode b169 20 = .ok ((.getfield 243), 3) := by decide +kernel
theorem d169_23 : decode b169 23 = .ok ((.if_icmp .ne 31), 3) := by decide +kernel
theorem d169_26 : decode b169 26 = .ok ((.aload_n 0), 1) := by decide +kernel
theorem d169_27 : decode b169 27 = .ok ((.aload_n 0), 1) := by decide +kernel
theorem d169_28 : decode b169 28 = .ok ((.getfield 58), 3) := by decide +kernel
theorem d169_31 : decode b169 31 = .ok ((.aload_n 0), 1) := by decide +kernel
theorem d169_32 : decode b169 32 = .ok ((.getfield 243), 3) := by decide +kernel
theorem d169_35 : decode b169 35 = .ok ((.aload_n 0), 1) := by decide +kernel
theorem d169_36 : decode b169 36 = .ok ((.getfield 55), 3) := by decide +kernel
theorem d169_39 : decode b169 39 = .ok ((.aload_n 0), 1) := by decide +kernel
theorem d169_40 : decode b169 40 = .ok ((.getfield 157), 3) := by decide +kernel
theorem d169_43 : decode b169 43 = .ok ((.iconst 0), 1) := by decide +kernel
theorem d169_44 : decode b169 44 = .ok ((.invokevirtual 301), 3) := by decide +kernel
theorem d169_47 : decode b169 47 = .ok ((.ifCond .eq 7), 3) := by decide +kernel
theorem d169_50 : decode b169 50 = .ok ((.iconst 1), 1) := by decide +kernel
theorem d169_51 : decode b169 51 = .ok ((.goto 4), 3) := by decide +kernel
theorem d169_54 : decode b169 54 = .ok ((.iconst 0), 1) := by decide +kernel
theorem d169_55 : decode b169 55 = .ok ((.invokevirtual 318), 3) := by decide +kernel
theorem d169_58 : decode b169 58 = .ok (.return_, 1) := by decide +kernel
abbrev b152 : ByteArray := prog_13_method_61_code
theorem d152_0 : decode b152 0 = .ok ((.iload_n 1), 1) := by decide +kernel
theorem d152_1 : decode b152 1 = .ok ((.ifCond .eq 32), 3) := by decide +kernel
theorem d152_4 : decode b152 4 = .ok ((.aload_n 0), 1) := by decide +kernel
theorem d152_5 : decode b152 5 = .ok ((.iconst 0), 1) := by decide +kernel
theorem d152_6 : decode b152 6 = .ok ((.invokevirtual 268), 3) := by decide +kernel
theorem d152_9 : decode b152 9 = .ok ((.aload_n 0), 1) := by decide +kernel
theorem d152_10 : decode b152 10 = .ok ((.getfield 157), 3) := by decide +kernel
theorem d152_13 : decode b152 13 = .ok ((.ifCond .ne 8), 3) := by decide +kernel
theorem d152_16 : decode b152 16 = .ok ((.aload_n 0), 1) := by decide +kernel
theorem d152_17 : decode b152 17 = .ok ((.iconst 3), 1) := by decide +kernel
theorem d152_18 : decode b152 18 = .ok ((.invokevirtual 176), 3) := by decide +kernel
theorem d152_21 : decode b152 21 = .ok ((.aload_n 0), 1) := by decide +kernel
theorem d152_22 : decode b152 22 = .ok ((.aload_n 0), 1) := by decide +kernel
theorem d152_23 : decode b152 23 = .ok ((.getfield 55), 3) := by decide +kernel
theorem d152_26 : decode b152 26 = .ok ((.iconst 0), 1) := by decide +kernel
theorem d152_27 : decode b152 27 = .ok (.iaload, 1) := by decide +kernel
theorem d152_28 : decode b152 28 = .ok (.i2d, 1) := by decide +kernel
theorem d152_29 : decode b152 29 = .ok ((.invokevirtual 305), 3) := by decide +kernel
theorem d152_32 : decode b152 32 = .ok (.return_, 1) := by decide +kernel
theorem d152_33 : decode b152 33 = .ok ((.aload_n 0), 1) := by decide +kernel
theorem d152_34 : decode b152 34 = .ok ((.iconst 0), 1) := by decide +kernel
theorem d152_35 : decode b152 35 = .ok ((.invokevirtual 206), 3) := by decide +kernel
theorem d152_38 : decode b152 38 = .ok ((.istore_n 2), 1) := by decide +kernel
theorem d152_39 : decode b152 39 = .ok ((.iload_n 2), 1) := by decide +kernel
theorem d152_40 : decode b152 40 = .ok ((.iconst 1), 1) := by decide +kernel
theorem d152_41 : decode b152 41 = .ok ((.if_icmp .lt 10), 3) := by decide +kernel
theorem d152_44 : decode b152 44 = .ok ((.iload_n 2), 1) := by decide +kernel
theorem d152_45 : decode b152 45 = .ok ((.sipush 255), 3) := by decide +kernel
theorem d152_48 : decode b152 48 = .ok ((.if_icmp .le 8), 3) := by decide +kernel
theorem d152_51 : decode b152 51 = .ok ((.aload_n 0), 1) := by decide +kernel
theorem d152_52 : decode b152 52 = .ok ((.iconst 3), 1) := by decide +kernel
theorem d152_53 : decode b152 53 = .ok ((.invokevirtual 176), 3) := by decide +kernel
theorem d152_56 : decode b152 56 = .ok ((.aload_n 0), 1) := by decide +kernel
theorem d152_57 : decode b152 57 = .ok ((.iload_n 2), 1) := by decide +kernel
theorem d152_58 : decode b152 58 = .ok ((.invokevirtual 256), 3) := by decide +kernel
theorem d152_61 : decode b152 61 = .ok ((.aload_n 0), 1) := by decide +kernel
theorem d152_62 : decode b152 62 = .ok ((.invokevirtual 284), 3) := by decide +kernel
theorem d152_65 : decode b152 65 = .ok (.return_, 1) := by decide +kernel
abbrev b214 : ByteArray := prog_13_method_63_code
theorem d214_0 : decode b214 0 = .ok ((.iload_n 1), 1) := by decide +kernel
theorem d214_1 : decode b214 1 = .ok ((.bipush 9), 2) := by decide +kernel
theorem d214_3 : decode b214 3 = .ok ((.if_icmp .eq 8), 3) := by decide +kernel
theorem d214_6 : decode b214 6 = .ok ((.iload_n 1), 1) := by decide +kernel
theorem d214_7 : decode b214 7 = .ok ((.iconst 4), 1) := by decide +kernel
theorem d214_8 : decode b214 8 = .ok ((.if_icmp .ne 8), 3) := by decide +kernel
theorem d214_11 : decode b214 11 = .ok ((.aload_n 0), 1) := by decide +kernel
theorem d214_12 : decode b214 12 = .ok ((.iload_n 2), 1) := by decide +kernel
theorem d214_13 : decode b214 13 = .ok ((.invokevirtual 256), 3) := by decide +kernel
theorem d214_16 : decode b214 16 = .ok ((.iload_n 1), 1) := by decide +kernel
theorem d214_17 : decode b214 17 = .ok ((.bipush 9), 2) := by decide +kernel
theorem d214_19 : decode b214 19 = .ok ((.if_icmp .ne 9), 3) := by decide +kernel
theorem d214_22 : decode b214 22 = .ok ((.aload_n 0), 1) := by decide +kernel
theorem d214_23 : decode b214 23 = .ok ((.iload 4), 2) := by decide +kernel
theorem d214_25 : decode b214 25 = .ok ((.invokevirtual 256), 3) := by decide +kernel
theorem d214_28 : decode b214 28 = .ok ((.iload_n 1), 1) := by decide +kernel
theorem d214_29 : decode b214 29 = .ok ((.iconst 3), 1) := by decide +kernel
theorem d214_30 : decode b214 30 = .ok ((.if_icmp .le 14), 3) := by decide +kernel
theorem d214_33 : decode b214 33 = .ok ((.iload_n 1), 1) := by decide +kernel
theorem d214_34 : decode b214 34 = .ok ((.bipush 9), 2) := by decide +kernel
theorem d214_36 : decode b214 36 = .ok ((.if_icmp .ge 8), 3) := by decide +kernel
theorem d214_39 : decode b214 39 = .ok ((.aload_n 0), 1) := by decide +kernel
theorem d214_40 : decode b214 40 = .ok ((.iload_n 3), 1) := by decide +kernel
theorem d214_41 : decode b214 41 = .ok ((.invokevirtual 256), 3) := by decide +kernel
theorem d214_44 : decode b214 44 = .ok ((.iload_n 1), 1) := by decide +kernel
theorem d214_45 : decode b214 45 = .ok ((.iconst 5), 1) := by decide +kernel
theorem d214_46 : decode b214 46 = .ok (.irem, 1) := by decide +kernel
theorem d214_47 : decode b214 47 = .ok ((.istore 5), 2) := by decide +kernel
theorem d214_49 : decode b214 49 = .ok ((.iload 5), 2) := by decide +kernel
theorem d214_51 : decode b214 51 = .ok ((.ifCond .le 20), 3) := by decide +kernel
theorem d214_54 : decode b214 54 = .ok ((.iload 5), 2) := by decide +kernel
theorem d214_56 : decode b214 56 = .ok ((.iconst 4), 1) := by decide +kernel
theorem d214_57 : decode b214 57 = .ok ((.if_icmp .ge 14), 3) := by decide +kernel
theorem d214_60 : decode b214 60 = .ok ((.aload_n 0), 1) := by decide +kernel
theorem d214_61 : decode b214 61 = .ok ((.iload_n 2), 1) := by decide +kernel
theorem d214_62 : decode b214 62 = .ok ((.invokevirtual 256), 3) := by decide +kernel
theorem d214_65 : decode b214 65 = .ok ((.iinc 5 (-1)), 3) := by decide +kernel
theorem d214_68 : decode b214 68 = .ok ((.goto (-19)), 3) := by decide +kernel
theorem d214_71 : decode b214 71 = .ok (.return_, 1) := by decide +kernel
abbrev b213 : ByteArray := prog_13_method_62_code
theorem d213_0 : decode b213 0 = .ok ((.aload_n 0), 1) := by decide +kernel
theorem d213_1 : decode b213 1 = .ok ((.iconst 0), 1) := by decide +kernel
theorem d213_2 : decode b213 2 = .ok ((.invokevirtual 206), 3) := by decide +kernel
theorem d213_5 : decode b213 5 = .ok ((.istore_n 1), 1) := by decide +kernel
theorem d213_6 : decode b213 6 = .ok ((.iload_n 1), 1) := by decide +kernel
theorem d213_7 : decode b213 7 = .ok ((.ifCond .lt 10), 3) := by decide +kernel
theorem d213_10 : decode b213 10 = .ok ((.iload_n 1), 1) := by decide +kernel
theorem d213_11 : decode b213 11 = .ok ((.sipush 3999), 3) := by decide +kernel
theorem d213_14 : decode b213 14 = .ok ((.if_icmp .le 8), 3) := by decide +kernel
theorem d213_17 : decode b213 17 = .ok ((.aload_n 0), 1) := by decide +kernel
theorem d213_18 : decode b213 18 = .ok ((.iconst 3), 1) := by decide +kernel
theorem d213_19 : decode b213 19 = .ok ((.invokevirtual 176), 3) := by decide +kernel
theorem d213_22 : decode b213 22 = .ok ((.aload_n 0), 1) := by decide +kernel
theorem d213_23 : decode b213 23 = .ok ((.getfield 143), 3) := by decide +kernel
theorem d213_26 : decode b213 26 = .ok ((.ifCond .eq 4), 3) := by decide +kernel
theorem d213_29 : decode b213 29 = .ok (.return_, 1) := by decide +kernel
theorem d213_30 : decode b213 30 = .ok ((.aload_n 0), 1) := by decide +kernel
theorem d213_31 : decode b213 31 = .ok ((.iload_n 1), 1) := by decide +kernel
theorem d213_32 : decode b213 32 = .ok ((.sipush 1000), 3) := by decide +kernel
theorem d213_35 : decode b213 35 = .ok (.idiv, 1) := by decide +kernel
theorem d213_36 : decode b213 36 = .ok ((.bipush 77), 2) := by decide +kernel
theorem d213_38 : decode b213 38 = .ok ((.bipush 77), 2) := by decide +kernel
theorem d213_40 : decode b213 40 = .ok ((.bipush 77), 2) := by decide +kernel
theorem d213_42 : decode b213 42 = .ok ((.invokevirtual 322), 3) := by decide +kernel
theorem d213_45 : decode b213 45 = .ok ((.aload_n 0), 1) := by decide +kernel
theorem d213_46 : decode b213 46 = .ok ((.iload_n 1), 1) := by decide +kernel
theorem d213_47 : decode b213 47 = .ok ((.bipush 100), 2) := by decide +kernel
theorem d213_49 : decode b213 49 = .ok (.idiv, 1) := by decide +kernel
theorem d213_50 : decode b213 50 = .ok ((.bipush 10), 2) := by decide +kernel
theorem d213_52 : decode b213 52 = .ok (.irem, 1) := by decide +kernel
theorem d213_53 : decode b213 53 = .ok ((.bipush 67), 2) := by decide +kernel
theorem d213_55 : decode b213 55 = .ok ((.bipush 68), 2) := by decide +kernel
theorem d213_57 : decode b213 57 = .ok ((.bipush 77), 2) := by decide +kernel
theorem d213_59 : decode b213 59 = .ok ((.invokevirtual 322), 3) := by decide +kernel
theorem d213_62 : decode b213 62 = .ok ((.aload_n 0), 1) := by decide +kernel
theorem d213_63 : decode b213 63 = .ok ((.iload_n 1), 1) := by decide +kernel
theorem d213_64 : decode b213 64 = .ok ((.bipush 10), 2) := by decide +kernel
theorem d213_66 : decode b213 66 = .ok (.idiv, 1) := by decide +kernel
theorem d213_67 : decode b213 67 = .ok ((.bipush 10), 2) := by decide +kernel
theorem d213_69 : decode b213 69 = .ok (.irem, 1) := by decide +kernel
theorem d213_70 : decode b213 70 = .ok ((.bipush 88), 2) := by decide +kernel
theorem d213_72 : decode b213 72 = .ok ((.bipush 76), 2) := by decide +kernel
theorem d213_74 : decode b213 74 = .ok ((.bipush 67), 2) := by decide +kernel
theorem d213_76 : decode b213 76 = .ok ((.invokevirtual 322), 3) := by decide +kernel
theorem d213_79 : decode b213 79 = .ok ((.aload_n 0), 1) := by decide +kernel
theorem d213_80 : decode b213 80 = .ok ((.iload_n 1), 1) := by decide +kernel
theorem d213_81 : decode b213 81 = .ok ((.bipush 10), 2) := by decide +kernel
theorem d213_83 : decode b213 83 = .ok (.irem, 1) := by decide +kernel
theorem d213_84 : decode b213 84 = .ok ((.bipush 73), 2) := by decide +kernel
theorem d213_86 : decode b213 86 = .ok ((.bipush 86), 2) := by decide +kernel
theorem d213_88 : decode b213 88 = .ok ((.bipush 88), 2) := by decide +kernel
theorem d213_90 : decode b213 90 = .ok ((.invokevirtual 322), 3) := by decide +kernel
theorem d213_93 : decode b213 93 = .ok ((.aload_n 0), 1) := by decide +kernel
theorem d213_94 : decode b213 94 = .ok ((.invokevirtual 284), 3) := by decide +kernel
theorem d213_97 : decode b213 97 = .ok (.return_, 1) := by decide +kernel
abbrev b164 : ByteArray := prog_13_method_65_code
theorem d164_0 : decode b164 0 = .ok ((.aload_n 0), 1) := by decide +kernel
theorem d164_1 : decode b164 1 = .ok ((.iconst 0), 1) := by decide +kernel
theorem d164_2 : decode b164 2 = .ok ((.invokevirtual 268), 3) := by decide +kernel
theorem d164_5 : decode b164 5 = .ok ((.aload_n 0), 1) := by decide +kernel
theorem d164_6 : decode b164 6 = .ok ((.invokevirtual 271), 3) := by decide +kernel
theorem d164_9 : decode b164 9 = .ok ((.aload_n 0), 1) := by decide +kernel
theorem d164_10 : decode b164 10 = .ok ((.iconst 1), 1) := by decide +kernel
theorem d164_11 : decode b164 11 = .ok ((.invokevirtual 206), 3) := by decide +kernel
theorem d164_14 : decode b164 14 = .ok ((.istore_n 1), 1) := by decide +kernel
theorem d164_15 : decode b164 15 = .ok ((.iload_n 1), 1) := by decide +kernel
theorem d164_16 : decode b164 16 = .ok ((.iconst 2), 1) := by decide +kernel
theorem d164_17 : decode b164 17 = .ok ((.if_icmp .lt 9), 3) := by decide +kernel
theorem d164_20 : decode b164 20 = .ok ((.iload_n 1), 1) := by decide +kernel
theorem d164_21 : decode b164 21 = .ok ((.bipush 36), 2) := by decide +kernel
theorem d164_23 : decode b164 23 = .ok ((.if_icmp .le 9), 3) := by decide +kernel
theorem d164_26 : decode b164 26 = .ok ((.aload_n 0), 1) := by decide +kernel
theorem d164_27 : decode b164 27 = .ok ((.bipush 6), 2) := by decide +kernel
theorem d164_29 : decode b164 29 = .ok ((.invokevirtual 176), 3) := by decide +kernel
theorem d164_32 : decode b164 32 = .ok ((.lconst 0), 1) := by decide +kernel
theorem d164_33 : decode b164 33 = .ok ((.lstore_n 2), 1) := by decide +kernel
theorem d164_34 : decode b164 34 = .ok ((.iconst 0), 1) := by decide +kernel
theorem d164_35 : decode b164 35 = .ok ((.istore 4), 2) := by decide +kernel
theorem d164_37 : decode b164 37 = .ok ((.iload 4), 2) := by decide +kernel
theorem d164_39 : decode b164 39 = .ok ((.aload_n 0), 1) := by decide +kernel
theorem d164_40 : decode b164 40 = .ok ((.getfield 243), 3) := by decide +kernel
theorem d164_43 : decode b164 43 = .ok ((.if_icmp .ge 108), 3) := by decide +kernel
theorem d164_46 : decode b164 46 = .ok ((.aload_n 0), 1) := by decide +kernel
theorem d164_47 : decode b164 47 = .ok ((.getfield 143), 3) := by decide +kernel
theorem d164_50 : decode b164 50 = .ok ((.ifCond .ne 101), 3) := by decide +kernel
theorem d164_53 : decode b164 53 = .ok ((.aload_n 0), 1) := by decide +kernel
theorem d164_54 : decode b164 54 = .ok ((.getfield 58), 3) := by decide +kernel
theorem d164_57 : decode b164 57 = .ok ((.iload 4), 2) := by decide +kernel
theorem d164_59 : decode b164 59 = .ok (.iaload, 1) := by decide +kernel
theorem d164_60 : decode b164 60 = .ok ((.invokestatic 291), 3) := by decide +kernel
theorem d164_63 : decode b164 63 = .ok ((.istore 5), 2) := by decide +kernel
theorem d164_65 : decode b164 65 = .ok ((.iload 5), 2) := by decide +kernel
theorem d164_67 : decode b164 67 = .ok ((.invokestatic 167), 3) := by decide +kernel
theorem d164_70 : decode b164 70 = .ok ((.ifCond .eq 11), 3) := by decide +kernel
theorem d164_73 : decode b164 73 = .ok ((.iload 5), 2) := by decide +kernel
theorem d164_75 : decode b164 75 = .ok ((.bipush 48), 2) := by decide +kernel
theorem d164_77 : decode b164 77 = .ok (.isub, 1) := by decide +kernel
theorem d164_78 : decode b164 78 = .ok ((.goto 30), 3) := by decide +kernel
theorem d164_81 : decode b164 81 = .ok ((.iload 5), 2) := by decide +kernel
theorem d164_83 : decode b164 83 = .ok ((.bipush 65), 2) := by decide +kernel
theorem d164_85 : decode b164 85 = .ok ((.if_icmp .lt 21), 3) := by decide +kernel
theorem d164_88 : decode b164 88 = .ok ((.iload 5), 2) := by decide +kernel
theorem d164_90 : decode b164 90 = .ok ((.bipush 90), 2) := by decide +kernel
theorem d164_92 : decode b164 92 = .ok ((.if_icmp .gt 14), 3) := by decide +kernel
theorem d164_95 : decode b164 95 = .ok ((.iload 5), 2) := by decide +kernel
theorem d164_97 : decode b164 97 = .ok ((.bipush 65), 2) := by decide +kernel
theorem d164_99 : decode b164 99 = .ok (.isub, 1) := by decide +kernel
theorem d164_100 : decode b164 100 = .ok ((.bipush 10), 2) := by decide +kernel
theorem d164_102 : decode b164 102 = .ok (.iadd, 1) := by decide +kernel
theorem d164_103 : decode b164 103 = .ok ((.goto 5), 3) := by decide +kernel
theorem d164_106 : decode b164 106 = .ok ((.bipush 99), 2) := by decide +kernel
theorem d164_108 : decode b164 108 = .ok ((.istore 6), 2) := by decide +kernel
theorem d164_110 : decode b164 110 = .ok ((.iload 6), 2) := by decide +kernel
theorem d164_112 : decode b164 112 = .ok ((.iload_n 1), 1) := by decide +kernel
theorem d164_113 : decode b164 113 = .ok ((.if_icmp .lt 9), 3) := by decide +kernel
theorem d164_116 : decode b164 116 = .ok ((.aload_n 0), 1) := by decide +kernel
theorem d164_117 : decode b164 117 = .ok ((.bipush 6), 2) := by decide +kernel
theorem d164_119 : decode b164 119 = .ok ((.invokevirtual 176), 3) := by decide +kernel
theorem d164_122 : decode b164 122 = .ok ((.iload_n 1), 1) := by decide +kernel
theorem d164_123 : decode b164 123 = .ok (.i2l, 1) := by decide +kernel
theorem d164_124 : decode b164 124 = .ok ((.lload_n 2), 1) := by decide +kernel
theorem d164_125 : decode b164 125 = .ok (.lmul, 1) := by decide +kernel
theorem d164_126 : decode b164 126 = .ok ((.iload 6), 2) := by decide +kernel
theorem d164_128 : decode b164 128 = .ok (.i2l, 1) := by decide +kernel
theorem d164_129 : decode b164 129 = .ok (.ladd, 1) := by decide +kernel
theorem d164_130 : decode b164 130 = .ok ((.lstore_n 2), 1) := by decide +kernel
theorem d164_131 : decode b164 131 = .ok ((.lload_n 2), 1) := by decide +kernel
theorem d164_132 : decode b164 132 = .ok ((.ldc2_w 326), 3) := by decide +kernel
theorem d164_135 : decode b164 135 = .ok (.lcmp, 1) := by decide +kernel
theorem d164_136 : decode b164 136 = .ok ((.ifCond .le 9), 3) := by decide +kernel
theorem d164_139 : decode b164 139 = .ok ((.aload_n 0), 1) := by decide +kernel
theorem d164_140 : decode b164 140 = .ok ((.bipush 6), 2) := by decide +kernel
theorem d164_142 : decode b164 142 = .ok ((.invokevirtual 176), 3) := by decide +kernel
theorem d164_145 : decode b164 145 = .ok ((.iinc 4 1), 3) := by decide +kernel
theorem d164_148 : decode b164 148 = .ok ((.goto (-111)), 3) := by decide +kernel
theorem d164_151 : decode b164 151 = .ok ((.aload_n 0), 1) := by decide +kernel
theorem d164_152 : decode b164 152 = .ok ((.lload_n 2), 1) := by decide +kernel
theorem d164_153 : decode b164 153 = .ok (.l2d, 1) := by decide +kernel
theorem d164_154 : decode b164 154 = .ok ((.invokevirtual 305), 3) := by decide +kernel
theorem d164_157 : decode b164 157 = .ok (.return_, 1) := by decide +kernel
abbrev b243 : ByteArray := prog_13_method_102_code
theorem d243_0 : decode b243 0 = .ok ((.iload_n 1), 1) := by decide +kernel
theorem d243_1 : decode b243 1 = .ok ((.tableswitch 256 66 88 #[107, 124, 124, 142, 149, 149, 167, 174, 181, 188, 188, 188, 196, 203, 210, 217, 224, 224, 256, 256, 256, 242, 249]), 107) := by decide +kernel
theorem d243_108 : decode b243 108 = .ok ((.aload_n 0), 1) := by decide +kernel
theorem d243_109 : decode b243 109 = .ok ((.iconst 0), 1) := by decide +kernel
theorem d243_110 : decode b243 110 = .ok ((.invokevirtual 268), 3) := by decide +kernel
theorem d243_113 : decode b243 113 = .ok ((.aload_n 0), 1) := by decide +kernel
theorem d243_114 : decode b243 114 = .ok ((.aload_n 0), 1) := by decide +kernel
theorem d243_115 : decode b243 115 = .ok ((.getfield 157), 3) := by decide +kernel
theorem d243_118 : decode b243 118 = .ok (.i2d, 1) := by decide +kernel
theorem d243_119 : decode b243 119 = .ok ((.invokevirtual 305), 3) := by decide +kernel
theorem d243_122 : decode b243 122 = .ok ((.goto 139), 3) := by decide +kernel
theorem d243_125 : decode b243 125 = .ok ((.aload_n 0), 1) := by decide +kernel
theorem d243_126 : decode b243 126 = .ok ((.iload_n 1), 1) := by decide +kernel
theorem d243_127 : decode b243 127 = .ok ((.bipush 68), 2) := by decide +kernel
theorem d243_129 : decode b243 129 = .ok ((.if_icmp .ne 7), 3) := by decide +kernel
theorem d243_132 : decode b243 132 = .ok ((.iconst 1), 1) := by decide +kernel
theorem d243_133 : decode b243 133 = .ok ((.goto 4), 3) := by decide +kernel
theorem d243_136 : decode b243 136 = .ok ((.iconst 0), 1) := by decide +kernel
theorem d243_137 : decode b243 137 = .ok ((.invokevirtual 488), 3) := by decide +kernel
theorem d243_140 : decode b243 140 = .ok ((.goto 121), 3) := by decide +kernel
theorem d243_143 : decode b243 143 = .ok ((.aload_n 0), 1) := by decide +kernel
theorem d243_144 : decode b243 144 = .ok ((.invokevirtual 491), 3) := by decide +kernel
theorem d243_147 : decode b243 147 = .ok ((.goto 114), 3) := by decide +kernel
theorem d243_150 : decode b243 150 = .ok ((.aload_n 0), 1) := by decide +kernel
theorem d243_151 : decode b243 151 = .ok ((.iload_n 1), 1) := by decide +kernel
theorem d243_152 : decode b243 152 = .ok ((.bipush 71), 2) := by decide +kernel
theorem d243_154 : decode b243 154 = .ok ((.if_icmp .ne 7), 3) := by decide +kernel
theorem d243_157 : decode b243 157 = .ok ((.iconst 1), 1) := by decide +kernel
theorem d243_158 : decode b243 158 = .ok ((.goto 4), 3) := by decide +kernel
theorem d243_161 : decode b243 161 = .ok ((.iconst 0), 1) := by decide +kernel
theorem d243_162 : decode b243 162 = .ok ((.invokevirtual 494), 3) := by decide +kernel
theorem d243_165 : decode b243 165 = .ok ((.goto 96), 3) := by decide +kernel
theorem d243_168 : decode b243 168 = .ok ((.aload_n 0), 1) := by decide +kernel
theorem d243_169 : decode b243 169 = .ok ((.invokevirtual 497), 3) := by decide +kernel
theorem d243_172 : decode b243 172 = .ok ((.goto 89), 3) := by decide +kernel
theorem d243_175 : decode b243 175 = .ok ((.aload_n 0), 1) := by decide +kernel
theorem d243_176 : decode b243 176 = .ok ((.invokevirtual 500), 3) := by decide +kernel
theorem d243_179 : decode b243 179 = .ok ((.goto 82), 3) := by decide +kernel
theorem d243_182 : decode b243 182 = .ok ((.aload_n 0), 1) := by decide +kernel
theorem d243_183 : decode b243 183 = .ok ((.invokevirtual 503), 3) := by decide +kernel
theorem d243_186 : decode b243 186 = .ok ((.goto 75), 3) := by decide +kernel
theorem d243_189 : decode b243 189 = .ok ((.aload_n 0), 1) := by decide +kernel
theorem d243_190 : decode b243 190 = .ok ((.iload_n 1), 1) := by decide +kernel
theorem d243_191 : decode b243 191 = .ok ((.invokevirtual 506), 3) := by decide +kernel
theorem d243_194 : decode b243 194 = .ok ((.goto 67), 3) := by decide +kernel
theorem d243_197 : decode b243 197 = .ok ((.aload_n 0), 1) := by decide +kernel
theorem d243_198 : decode b243 198 = .ok ((.invokevirtual 508), 3) := by decide +kernel
theorem d243_201 : decode b243 201 = .ok ((.goto 60), 3) := by decide +kernel
theorem d243_204 : decode b243 204 = .ok ((.aload_n 0), 1) := by decide +kernel
theorem d243_205 : decode b243 205 = .ok ((.invokevirtual 511), 3) := by decide +kernel
theorem d243_208 : decode b243 208 = .ok ((.goto 53), 3) := by decide +kernel
theorem d243_211 : decode b243 211 = .ok ((.aload_n 0), 1) := by decide +kernel
theorem d243_212 : decode b243 212 = .ok ((.invokevirtual 514), 3) := by decide +kernel
theorem d243_215 : decode b243 215 = .ok ((.goto 46), 3) := by decide +kernel
theorem d243_218 : decode b243 218 = .ok ((.aload_n 0), 1) := by decide +kernel
theorem d243_219 : decode b243 219 = .ok ((.invokevirtual 517), 3) := by decide +kernel
theorem d243_222 : decode b243 222 = .ok ((.goto 39), 3) := by decide +kernel
theorem d243_225 : decode b243 225 = .ok ((.aload_n 0), 1) := by decide +kernel
theorem d243_226 : decode b243 226 = .ok ((.iload_n 1), 1) := by decide +kernel
theorem d243_227 : decode b243 227 = .ok ((.bipush 83), 2) := by decide +kernel
theorem d243_229 : decode b243 229 = .ok ((.if_icmp .ne 7), 3) := by decide +kernel
theorem d243_232 : decode b243 232 = .ok ((.iconst 1), 1) := by decide +kernel
theorem d243_233 : decode b243 233 = .ok ((.goto 4), 3) := by decide +kernel
theorem d243_236 : decode b243 236 = .ok ((.iconst 0), 1) := by decide +kernel
theorem d243_237 : decode b243 237 = .ok ((.invokevirtual 520), 3) := by decide +kernel
theorem d243_240 : decode b243 240 = .ok ((.goto 21), 3) := by decide +kernel
theorem d243_243 : decode b243 243 = .ok ((.aload_n 0), 1) := by decide +kernel
theorem d243_244 : decode b243 244 = .ok ((.invokevirtual 523), 3) := by decide +kernel
theorem d243_247 : decode b243 247 = .ok ((.goto 14), 3) := by decide +kernel
theorem d243_250 : decode b243 250 = .ok ((.aload_n 0), 1) := by decide +kernel
theorem d243_251 : decode b243 251 = .ok ((.invokevirtual 525), 3) := by decide +kernel
theorem d243_254 : decode b243 254 = .ok ((.goto 7), 3) := by decide +kernel
theorem d243_257 : decode b243 257 = .ok ((.aload_n 0), 1) := by decide +kernel
theorem d243_258 : decode b243 258 = .ok ((.invokevirtual 528), 3) := by decide +kernel
theorem d243_261 : decode b243 261 = .ok (.return_, 1) := by decide +kernel
abbrev b238 : ByteArray := prog_13_method_66_code
theorem d238_0 : decode b238 0 = .ok ((.aload_n 0), 1) := by decide +kernel
theorem d238_1 : decode b238 1 = .ok ((.iload_n 1), 1) := by decide +kernel
theorem d238_2 : decode b238 2 = .ok ((.invokevirtual 183), 3) := by decide +kernel
theorem d238_5 : decode b238 5 = .ok ((.aload_n 0), 1) := by decide +kernel
theorem d238_6 : decode b238 6 = .ok ((.invokevirtual 271), 3) := by decide +kernel
theorem d238_9 : decode b238 9 = .ok ((.aload_n 0), 1) := by decide +kernel
theorem d238_10 : decode b238 10 = .ok ((.getfield 150), 3) := by decide +kernel
theorem d238_13 : decode b238 13 = .ok ((.iconst 4), 1) := by decide +kernel
theorem d238_14 : decode b238 14 = .ok ((.if_icmp .ne 12), 3) := by decide +kernel
theorem d238_17 : decode b238 17 = .ok ((.aload_n 0), 1) := by decide +kernel
theorem d238_18 : decode b238 18 = .ok ((.aload_n 0), 1) := by decide +kernel
theorem d238_19 : decode b238 19 = .ok ((.getfield 153), 3) := by decide +kernel
theorem d238_22 : decode b238 22 = .ok (.d2i, 1) := by decide +kernel
theorem d238_23 : decode b238 23 = .ok ((.invokevirtual 176), 3) := by decide +kernel
theorem d238_26 : decode b238 26 = .ok ((.aload_n 0), 1) := by decide +kernel
theorem d238_27 : decode b238 27 = .ok ((.aload_n 0), 1) := by decide +kernel
theorem d238_28 : decode b238 28 = .ok ((.getfield 150), 3) := by decide +kernel
theorem d238_31 : decode b238 31 = .ok ((.ifCond .ne 7), 3) := by decide +kernel
theorem d238_34 : decode b238 34 = .ok ((.iconst 1), 1) := by decide +kernel
theorem d238_35 : decode b238 35 = .ok ((.goto 7), 3) := by decide +kernel
theorem d238_38 : decode b238 38 = .ok ((.aload_n 0), 1) := by decide +kernel
theorem d238_39 : decode b238 39 = .ok ((.getfield 150), 3) := by decide +kernel
theorem d238_42 : decode b238 42 = .ok ((.putfield 328), 3) := by decide +kernel
theorem d238_45 : decode b238 45 = .ok ((.aload_n 0), 1) := by decide +kernel
theorem d238_46 : decode b238 46 = .ok ((.aload_n 0), 1) := by decide +kernel
theorem d238_47 : decode b238 47 = .ok ((.getfield 153), 3) := by decide +kernel
theorem d238_50 : decode b238 50 = .ok ((.putfield 331), 3) := by decide +kernel
theorem d238_53 : decode b238 53 = .ok ((.aload_n 0), 1) := by decide +kernel
theorem d238_54 : decode b238 54 = .ok ((.iconst 0), 1) := by decide +kernel
theorem d238_55 : decode b238 55 = .ok ((.putfield 334), 3) := by decide +kernel
theorem d238_58 : decode b238 58 = .ok ((.iconst 0), 1) := by decide +kernel
theorem d238_59 : decode b238 59 = .ok ((.istore_n 2), 1) := by decide +kernel
theorem d238_60 : decode b238 60 = .ok ((.iload_n 2), 1) := by decide +kernel
theorem d238_61 : decode b238 61 = .ok ((.aload_n 0), 1) := by decide +kernel
theorem d238_62 : decode b238 62 = .ok ((.getfield 243), 3) := by decide +kernel
theorem d238_65 : decode b238 65 = .ok ((.if_icmp .ge 47), 3) := by decide +kernel
theorem d238_68 : decode b238 68 = .ok ((.aload_n 0), 1) := by decide +kernel
theorem d238_69 : decode b238 69 = .ok ((.aload_n 0), 1) := by decide +kernel
theorem d238_70 : decode b238 70 = .ok ((.getfield 334), 3) := by decide +kernel
theorem d238_73 : decode b238 73 = .ok ((.ifCond .ne 25), 3) := by decide +kernel
theorem d238_76 : decode b238 76 = .ok ((.aload_n 0), 1) := by decide +kernel
theorem d238_77 : decode b238 77 = .ok ((.getfield 58), 3) := by decide +kernel
theorem d238_80 : decode b238 80 = .ok ((.iload_n 2), 1) := by decide +kernel
theorem d238_81 : decode b238 81 = .ok (.iaload, 1) := by decide +kernel
theorem d238_82 : decode b238 82 = .ok ((.bipush 63), 2) := by decide +kernel
theorem d238_84 : decode b238 84 = .ok ((.if_icmp .eq 14), 3) := by decide +kernel
theorem d238_87 : decode b238 87 = .ok ((.aload_n 0), 1) := by decide +kernel
theorem d238_88 : decode b238 88 = .ok ((.getfield 58), 3) := by decide +kernel
theorem d238_91 : decode b238 91 = .ok ((.iload_n 2), 1) := by decide +kernel
theorem d238_92 : decode b238 92 = .ok (.iaload, 1) := by decide +kernel
theorem d238_93 : decode b238 93 = .ok ((.bipush 42), 2) := by decide +kernel
theorem d238_95 : decode b238 95 = .ok ((.if_icmp .ne 7), 3) := by decide +kernel
theorem d238_98 : decode b238 98 = .ok ((.iconst 1), 1) := by decide +kernel
theorem d238_99 : decode b238 99 = .ok ((.goto 4), 3) := by decide +kernel
theorem d238_102 : decode b238 102 = .ok ((.iconst 0), 1) := by decide +kernel
theorem d238_103 : decode b238 103 = .ok ((.putfield 334), 3) := by decide +kernel
theorem d238_106 : decode b238 106 = .ok ((.iinc 2 1), 3) := by decide +kernel
theorem d238_109 : decode b238 109 = .ok ((.goto (-49)), 3) := by decide +kernel
theorem d238_112 : decode b238 112 = .ok (.return_, 1) := by decide +kernel
abbrev b190 : ByteArray := prog_13_method_67_code
theorem d190_0 : decode b190 0 = .ok ((.aload_n 0), 1) := by decide +kernel
theorem d190_1 : decode b190 1 = .ok ((.getfield 150), 3) := by decide +kernel
theorem d190_4 : decode b190 4 = .ok ((.iconst 2), 1) := by decide +kernel
theorem d190_5 : decode b190 5 = .ok ((.if_icmp .eq 37), 3) := by decide +kernel
theorem d190_8 : decode b190 8 = .ok ((.aload_n 0), 1) := by decide +kernel
theorem d190_9 : decode b190 9 = .ok ((.getfield 153), 3) := by decide +kernel
theorem d190_12 : decode b190 12 = .ok ((.aload_n 0), 1) := by decide +kernel
theorem d190_13 : decode b190 13 = .ok ((.getfield 331), 3) := by decide +kernel
theorem d190_16 : decode b190 16 = .ok ((.dcmp .g), 1) := by decide +kernel
theorem d190_17 : decode b190 17 = .ok ((.ifCond .ge 7), 3) := by decide +kernel
theorem d190_20 : decode b190 20 = .ok ((.iconst (-1)), 1) := by decide +kernel
theorem d190_21 : decode b190 21 = .ok ((.goto 20), 3) := by decide +kernel
theorem d190_24 : decode b190 24 = .ok ((.aload_n 0), 1) := by decide +kernel
theorem d190_25 : decode b190 25 = .ok ((.getfield 153), 3) := by decide +kernel
theorem d190_28 : decode b190 28 = .ok ((.aload_n 0), 1) := by decide +kernel
theorem d190_29 : decode b190 29 = .ok ((.getfield 331), 3) := by decide +kernel
theorem d190_32 : decode b190 32 = .ok ((.dcmp .l), 1) := by decide +kernel
theorem d190_33 : decode b190 33 = .ok ((.ifCond .le 7), 3) := by decide +kernel
theorem d190_36 : decode b190 36 = .ok ((.iconst 1), 1) := by decide +kernel
theorem d190_37 : decode b190 37 = .ok ((.goto 4), 3) := by decide +kernel
theorem d190_40 : decode b190 40 = .ok ((.iconst 0), 1) := by decide +kernel
theorem d190_41 : decode b190 41 = .ok (.ireturn, 1) := by decide +kernel
theorem d190_42 : decode b190 42 = .ok ((.iconst 0), 1) := by decide +kernel
theorem d190_43 : decode b190 43 = .ok ((.istore_n 1), 1) := by decide +kernel
theorem d190_44 : decode b190 44 = .ok ((.iload_n 1), 1) := by decide +kernel
theorem d190_45 : decode b190 45 = .ok ((.aload_n 0), 1) := by decide +kernel
theorem d190_46 : decode b190 46 = .ok ((.getfield 157), 3) := by decide +kernel
theorem d190_49 : decode b190 49 = .ok ((.if_icmp .ge 58), 3) := by decide +kernel
theorem d190_52 : decode b190 52 = .ok ((.iload_n 1), 1) := by decide +kernel
theorem d190_53 : decode b190 53 = .ok ((.aload_n 0), 1) := by decide +kernel
theorem d190_54 : decode b190 54 = .ok ((.getfield 243), 3) := by decide +kernel
theorem d190_57 : decode b190 57 = .ok ((.if_icmp .ge 50), 3) := by decide +kernel
theorem d190_60 : decode b190 60 = .ok ((.aload_n 0), 1) := by decide +kernel
theorem d190_61 : decode b190 61 = .ok ((.getfield 55), 3) := by decide +kernel
theorem d190_64 : decode b190 64 = .ok ((.iload_n 1), 1) := by decide +kernel
theorem d190_65 : decode b190 65 = .ok (.iaload, 1) := by decide +kernel
theorem d190_66 : decode b190 66 = .ok ((.invokestatic 291), 3) := by decide +kernel
theorem d190_69 : decode b190 69 = .ok ((.aload_n 0), 1) := by decide +kernel
theorem d190_70 : decode b190 70 = .ok ((.getfield 58), 3) := by decide +kernel
theorem d190_73 : decode b190 73 = .ok ((.iload_n 1), 1) := by decide +kernel
theorem d190_74 : decode b190 74 = .ok (.iaload, 1) := by decide +kernel
theorem d190_75 : decode b190 75 = .ok ((.invokestatic 291), 3) := by decide +kernel
theorem d190_78 : decode b190 78 = .ok ((.if_icmp .eq 23), 3) := by decide +kernel
theorem d190_81 : decode b190 81 = .ok ((.aload_n 0), 1) := by decide +kernel
theorem d190_82 : decode b190 82 = .ok ((.getfield 55), 3) := by decide +kernel
theorem d190_85 : decode b190 85 = .ok ((.iload_n 1), 1) := by decide +kernel
theorem d190_86 : decode b190 86 = .ok (.iaload, 1) := by decide +kernel
theorem d190_87 : decode b190 87 = .ok ((.invokestatic 291), 3) := by decide +kernel
theorem d190_90 : decode b190 90 = .ok ((.aload_n 0), 1) := by decide +kernel
theorem d190_91 : decode b190 91 = .ok ((.getfield 58), 3) := by decide +kernel
theorem d190_94 : decode b190 94 = .ok ((.iload_n 1), 1) := by decide +kernel
theorem d190_95 : decode b190 95 = .ok (.iaload, 1) := by decide +kernel
theorem d190_96 : decode b190 96 = .ok ((.invokestatic 291), 3) := by decide +kernel
theorem d190_99 : decode b190 99 = .ok (.isub, 1) := by decide +kernel
theorem d190_100 : decode b190 100 = .ok (.ireturn, 1) := by decide +kernel
theorem d190_101 : decode b190 101 = .ok ((.iinc 1 1), 3) := by decide +kernel
theorem d190_104 : decode b190 104 = .ok ((.goto (-60)), 3) := by decide +kernel
theorem d190_107 : decode b190 107 = .ok ((.aload_n 0), 1) := by decide +kernel
theorem d190_108 : decode b190 108 = .ok ((.getfield 157), 3) := by decide +kernel
theorem d190_111 : decode b190 111 = .ok ((.aload_n 0), 1) := by decide +kernel
theorem d190_112 : decode b190 112 = .ok ((.getfield 243), 3) := by decide +kernel
theorem d190_115 : decode b190 115 = .ok (.isub, 1) := by decide +kernel
theorem d190_116 : decode b190 116 = .ok (.ireturn, 1) := by decide +kernel
abbrev b172 : ByteArray := prog_13_method_68_code
theorem d172_0 : decode b172 0 = .ok ((.iconst (-1)), 1) := by decide +kernel
theorem d172_1 : decode b172 1 = .ok ((.istore 6), 2) := by decide +kernel
theorem d172_3 : decode b172 3 = .ok ((.iconst 0), 1) := by decide +kernel
theorem d172_4 : decode b172 4 = .ok ((.istore 7), 2) := by decide +kernel
theorem d172_6 : decode b172 6 = .ok ((.iload 7), 2) := by decide +kernel
theorem d172_8 : decode b172 8 = .ok ((.iload 4), 2) := by decide +kernel
theorem d172_10 : decode b172 10 = .ok ((.if_icmp .ge 159), 3) := by decide +kernel
theorem d172_13 : decode b172 13 = .ok ((.aload_n 0), 1) := by decide +kernel
theorem d172_14 : decode b172 14 = .ok ((.aload_n 0), 1) := by decide +kernel
theorem d172_15 : decode b172 15 = .ok ((.iload_n 1), 1) := by decide +kernel
theorem d172_16 : decode b172 16 = .ok ((.invokevirtual 146), 3) := by decide +kernel
theorem d172_19 : decode b172 19 = .ok ((.ifCond .eq 9), 3) := by decide +kernel
theorem d172_22 : decode b172 22 = .ok ((.sipush 512), 3) := by decide +kernel
theorem d172_25 : decode b172 25 = .ok ((.goto 16), 3) := by decide +kernel
theorem d172_28 : decode b172 28 = .ok ((.aload_n 0), 1) := by decide +kernel
theorem d172_29 : decode b172 29 = .ok ((.getfield 26), 3) := by decide +kernel
theorem d172_32 : decode b172 32 = .ok ((.iload_n 1), 1) := by decide +kernel
theorem d172_33 : decode b172 33 = .ok (.iaload, 1) := by decide +kernel
theorem d172_34 : decode b172 34 = .ok ((.iload_n 2), 1) := by decide +kernel
theorem d172_35 : decode b172 35 = .ok (.iadd, 1) := by decide +kernel
theorem d172_36 : decode b172 36 = .ok ((.iload_n 3), 1) := by decide +kernel
theorem d172_37 : decode b172 37 = .ok ((.iload 7), 2) := by decide +kernel
theorem d172_39 : decode b172 39 = .ok (.imul, 1) := by decide +kernel
theorem d172_40 : decode b172 40 = .ok (.iadd, 1) := by decide +kernel
theorem d172_41 : decode b172 41 = .ok ((.invokevirtual 164), 3) := by decide +kernel
theorem d172_44 : decode b172 44 = .ok ((.aload_n 0), 1) := by decide +kernel
theorem d172_45 : decode b172 45 = .ok ((.getfield 150), 3) := by decide +kernel
theorem d172_48 : decode b172 48 = .ok ((.aload_n 0), 1) := by decide +kernel
theorem d172_49 : decode b172 49 = .ok ((.getfield 328), 3) := by decide +kernel
theorem d172_52 : decode b172 52 = .ok ((.if_icmp .eq 6), 3) := by decide +kernel
theorem d172_55 : decode b172 55 = .ok ((.goto 108), 3) := by decide +kernel
theorem d172_58 : decode b172 58 = .ok ((.iload 5), 2) := by decide +kernel
theorem d172_60 : decode b172 60 = .ok ((.ifCond .le 18), 3) := by decide +kernel
theorem d172_63 : decode b172 63 = .ok ((.aload_n 0), 1) := by decide +kernel
theorem d172_64 : decode b172 64 = .ok ((.invokevirtual 337), 3) := by decide +kernel
theorem d172_67 : decode b172 67 = .ok ((.ifCond .gt 7), 3) := by decide +kernel
theorem d172_70 : decode b172 70 = .ok ((.iconst 1), 1) := by decide +kernel
theorem d172_71 : decode b172 71 = .ok ((.goto 71), 3) := by decide +kernel
theorem d172_74 : decode b172 74 = .ok ((.iconst 0), 1) := by decide +kernel
theorem d172_75 : decode b172 75 = .ok ((.goto 67), 3) := by decide +kernel
theorem d172_78 : decode b172 78 = .ok ((.iload 5), 2) := by decide +kernel
theorem d172_80 : decode b172 80 = .ok ((.ifCond .ge 18), 3) := by decide +kernel
theorem d172_83 : decode b172 83 = .ok ((.aload_n 0), 1) := by decide +kernel
theorem d172_84 : decode b172 84 = .ok ((.invokevirtual 337), 3) := by decide +kernel
theorem d172_87 : decode b172 87 = .ok ((.ifCond .lt 7), 3) := by decide +kernel
theorem d172_90 : decode b172 90 = .ok ((.iconst 1), 1) := by decide +kernel
theorem d172_91 : decode b172 91 = .ok ((.goto 51), 3) := by decide +kernel
theorem d172_94 : decode b172 94 = .ok ((.iconst 0), 1) := by decide +kernel
theorem d172_95 : decode b172 95 = .ok ((.goto 47), 3) := by decide +kernel
theorem d172_98 : decode b172 98 = .ok ((.aload_n 0), 1) := by decide +kernel
theorem d172_99 : decode b172 99 = .ok ((.getfield 334), 3) := by decide +kernel
theorem d172_102 : decode b172 102 = .ok ((.ifCond .eq 28), 3) := by decide +kernel
theorem d172_105 : decode b172 105 = .ok ((.aload_n 0), 1) := by decide +kernel
theorem d172_106 : decode b172 106 = .ok ((.aload_n 0), 1) := by decide +kernel
theorem d172_107 : decode b172 107 = .ok ((.getfield 58), 3) := by decide +kernel
theorem d172_110 : decode b172 110 = .ok ((.aload_n 0), 1) := by decide +kernel
theorem d172_111 : decode b172 111 = .ok ((.getfield 243), 3) := by decide +kernel
theorem d172_114 : decode b172 114 = .ok ((.aload_n 0), 1) := by decide +kernel
theorem d172_115 : decode b172 115 = .ok ((.getfield 55), 3) := by decide +kernel
theorem d172_118 : decode b172 118 = .ok ((.aload_n 0), 1) := by decide +kernel
theorem d172_119 : decode b172 119 = .ok ((.getfield 157), 3) := by decide +kernel
theorem d172_122 : decode b172 122 = .ok ((.iconst 0), 1) := by decide +kernel
theorem d172_123 : decode b172 123 = .ok ((.iconst 1), 1) := by decide +kernel
theorem d172_124 : decode b172 124 = .ok ((.invokevirtual 297), 3) := by decide +kernel
theorem d172_127 : decode b172 127 = .ok ((.goto 15), 3) := by decide +kernel
theorem d172_130 : decode b172 130 = .ok ((.aload_n 0), 1) := by decide +kernel
theorem d172_131 : decode b172 131 = .ok ((.invokevirtual 337), 3) := by decide +kernel
theorem d172_134 : decode b172 134 = .ok ((.ifCond .ne 7), 3) := by decide +kernel
theorem d172_137 : decode b172 137 = .ok ((.iconst 1), 1) := by decide +kernel
theorem d172_138 : decode b172 138 = .ok ((.goto 4), 3) := by decide +kernel
theorem d172_141 : decode b172 141 = .ok ((.iconst 0), 1) := by decide +kernel
theorem d172_142 : decode b172 142 = .ok ((.istore 8), 2) := by decide +kernel
theorem d172_144 : decode b172 144 = .ok ((.iload 8), 2) := by decide +kernel
theorem d172_146 : decode b172 146 = .ok ((.ifCond .eq 17), 3) := by decide +kernel
theorem d172_149 : decode b172 149 = .ok ((.iload 5), 2) := by decide +kernel
theorem d172_151 : decode b172 151 = .ok ((.ifCond .ne 8), 3) := by decide +kernel
theorem d172_154 : decode b172 154 = .ok ((.iload 6), 2) := by decide +kernel
theorem d172_156 : decode b172 156 = .ok ((.ifCond .ge 7), 3) := by decide +kernel
theorem d172_159 : decode b172 159 = .ok ((.iload 7), 2) := by decide +kernel
theorem d172_161 : decode b172 161 = .ok ((.istore 6), 2) := by decide +kernel
theorem d172_163 : decode b172 163 = .ok ((.iinc 7 1), 3) := by decide +kernel
theorem d172_166 : decode b172 166 = .ok ((.goto (-160)), 3) := by decide +kernel
theorem d172_169 : decode b172 169 = .ok ((.iload 6), 2) := by decide +kernel
theorem d172_171 : decode b172 171 = .ok (.ireturn, 1) := by decide +kernel
abbrev b192 : ByteArray := prog_13_method_70_code
theorem d192_0 : decode b192 0 = .ok ((.aload_n 0), 1) := by decide +kernel
theorem d192_1 : decode b192 1 = .ok ((.iconst 0), 1) := by decide +kernel
theorem d192_2 : decode b192 2 = .ok ((.invokevirtual 341), 3) := by decide +kernel
theorem d192_5 : decode b192 5 = .ok ((.aload_n 0), 1) := by decide +kernel
theorem d192_6 : decode b192 6 = .ok ((.iconst 2), 1) := by decide +kernel
theorem d192_7 : decode b192 7 = .ok ((.invokevirtual 206), 3) := by decide +kernel
theorem d192_10 : decode b192 10 = .ok ((.istore_n 2), 1) := by decide +kernel
theorem d192_11 : decode b192 11 = .ok ((.aload_n 0), 1) := by decide +kernel
theorem d192_12 : decode b192 12 = .ok ((.iconst 3), 1) := by decide +kernel
theorem d192_13 : decode b192 13 = .ok ((.iconst 1), 1) := by decide +kernel
theorem d192_14 : decode b192 14 = .ok ((.invokevirtual 344), 3) := by decide +kernel
theorem d192_17 : decode b192 17 = .ok ((.istore_n 3), 1) := by decide +kernel
theorem d192_18 : decode b192 18 = .ok ((.iload_n 2), 1) := by decide +kernel
theorem d192_19 : decode b192 19 = .ok ((.iconst 1), 1) := by decide +kernel
theorem d192_20 : decode b192 20 = .ok ((.if_icmp .ge 11), 3) := by decide +kernel
theorem d192_23 : decode b192 23 = .ok ((.aload_n 0), 1) := by decide +kernel
theorem d192_24 : decode b192 24 = .ok ((.iconst 3), 1) := by decide +kernel
theorem d192_25 : decode b192 25 = .ok ((.invokevirtual 176), 3) := by decide +kernel
theorem d192_28 : decode b192 28 = .ok ((.goto 29), 3) := by decide +kernel
theorem d192_31 : decode b192 31 = .ok ((.iload_n 2), 1) := by decide +kernel
theorem d192_32 : decode b192 32 = .ok ((.iload_n 1), 1) := by decide +kernel
theorem d192_33 : decode b192 33 = .ok ((.ifCond .eq 11), 3) := by decide +kernel
theorem d192_36 : decode b192 36 = .ok ((.aload_n 0), 1) := by decide +kernel
theorem d192_37 : decode b192 37 = .ok ((.iconst 1), 1) := by decide +kernel
theorem d192_38 : decode b192 38 = .ok ((.invokevirtual 312), 3) := by decide +kernel
theorem d192_41 : decode b192 41 = .ok ((.goto 8), 3) := by decide +kernel
theorem d192_44 : decode b192 44 = .ok ((.aload_n 0), 1) := by decide +kernel
theorem d192_45 : decode b192 45 = .ok ((.iconst 1), 1) := by decide +kernel
theorem d192_46 : decode b192 46 = .ok ((.invokevirtual 315), 3) := by decide +kernel
theorem d192_49 : decode b192 49 = .ok ((.if_icmp .le 8), 3) := by decide +kernel
theorem d192_52 : decode b192 52 = .ok ((.aload_n 0), 1) := by decide +kernel
theorem d192_53 : decode b192 53 = .ok ((.iconst 4), 1) := by decide +kernel
theorem d192_54 : decode b192 54 = .ok ((.invokevirtual 176), 3) := by decide +kernel
theorem d192_57 : decode b192 57 = .ok ((.aload_n 0), 1) := by decide +kernel
theorem d192_58 : decode b192 58 = .ok ((.getfield 143), 3) := by decide +kernel
theorem d192_61 : decode b192 61 = .ok ((.ifCond .eq 4), 3) := by decide +kernel
theorem d192_64 : decode b192 64 = .ok (.return_, 1) := by decide +kernel
theorem d192_65 : decode b192 65 = .ok ((.aload_n 0), 1) := by decide +kernel
theorem d192_66 : decode b192 66 = .ok ((.iconst 1), 1) := by decide +kernel
theorem d192_67 : decode b192 67 = .ok ((.iconst 0), 1) := by decide +kernel
theorem d192_68 : decode b192 68 = .ok ((.iload_n 1), 1) := by decide +kernel
theorem d192_69 : decode b192 69 = .ok ((.ifCond .eq 7), 3) := by decide +kernel
theorem d192_72 : decode b192 72 = .ok ((.iconst 1), 1) := by decide +kernel
theorem d192_73 : decode b192 73 = .ok ((.goto 8), 3) := by decide +kernel
theorem d192_76 : decode b192 76 = .ok ((.aload_n 0), 1) := by decide +kernel
theorem d192_77 : decode b192 77 = .ok ((.iconst 1), 1) := by decide +kernel
theorem d192_78 : decode b192 78 = .ok ((.invokevirtual 315), 3) := by decide +kernel
theorem d192_81 : decode b192 81 = .ok ((.iload_n 1), 1) := by decide +kernel
theorem d192_82 : decode b192 82 = .ok ((.ifCond .eq 11), 3) := by decide +kernel
theorem d192_85 : decode b192 85 = .ok ((.aload_n 0), 1) := by decide +kernel
theorem d192_86 : decode b192 86 = .ok ((.iconst 1), 1) := by decide +kernel
theorem d192_87 : decode b192 87 = .ok ((.invokevirtual 315), 3) := by decide +kernel
theorem d192_90 : decode b192 90 = .ok ((.goto 8), 3) := by decide +kernel
theorem d192_93 : decode b192 93 = .ok ((.aload_n 0), 1) := by decide +kernel
theorem d192_94 : decode b192 94 = .ok ((.iconst 1), 1) := by decide +kernel
theorem d192_95 : decode b192 95 = .ok ((.invokevirtual 312), 3) := by decide +kernel
theorem d192_98 : decode b192 98 = .ok ((.iload_n 3), 1) := by decide +kernel
theorem d192_99 : decode b192 99 = .ok ((.ifCond .eq 7), 3) := by decide +kernel
theorem d192_102 : decode b192 102 = .ok ((.iconst 1), 1) := by decide +kernel
theorem d192_103 : decode b192 103 = .ok ((.goto 4), 3) := by decide +kernel
theorem d192_106 : decode b192 106 = .ok ((.iconst 0), 1) := by decide +kernel
theorem d192_107 : decode b192 107 = .ok ((.invokevirtual 347), 3) := by decide +kernel
theorem d192_110 : decode b192 110 = .ok ((.istore 4), 2) := by decide +kernel
theorem d192_112 : decode b192 112 = .ok ((.iload 4), 2) := by decide +kernel
theorem d192_114 : decode b192 114 = .ok ((.ifCond .ge 12), 3) := by decide +kernel
theorem d192_117 : decode b192 117 = .ok ((.aload_n 0), 1) := by decide +kernel
theorem d192_118 : decode b192 118 = .ok ((.bipush 7), 2) := by decide +kernel
theorem d192_120 : decode b192 120 = .ok ((.invokevirtual 176), 3) := by decide +kernel
theorem d192_123 : decode b192 123 = .ok ((.goto 36), 3) := by decide +kernel
theorem d192_126 : decode b192 126 = .ok ((.aload_n 0), 1) := by decide +kernel
theorem d192_127 : decode b192 127 = .ok ((.aload_n 0), 1) := by decide +kernel
theorem d192_128 : decode b192 128 = .ok ((.iconst 1), 1) := by decide +kernel
theorem d192_129 : decode b192 129 = .ok ((.iload_n 1), 1) := by decide +kernel
theorem d192_130 : decode b192 130 = .ok ((.ifCond .eq 9), 3) := by decide +kernel
theorem d192_133 : decode b192 133 = .ok ((.iload_n 2), 1) := by decide +kernel
theorem d192_134 : decode b192 134 = .ok ((.iconst 1), 1) := by decide +kernel
theorem d192_135 : decode b192 135 = .ok (.isub, 1) := by decide +kernel
theorem d192_136 : decode b192 136 = .ok ((.goto 5), 3) := by decide +kernel
theorem d192_139 : decode b192 139 = .ok ((.iload 4), 2) := by decide +kernel
theorem d192_141 : decode b192 141 = .ok ((.iload_n 1), 1) := by decide +kernel
theorem d192_142 : decode b192 142 = .ok ((.ifCond .eq 8), 3) := by decide +kernel
theorem d192_145 : decode b192 145 = .ok ((.iload 4), 2) := by decide +kernel
theorem d192_147 : decode b192 147 = .ok ((.goto 6), 3) := by decide +kernel
theorem d192_150 : decode b192 150 = .ok ((.iload_n 2), 1) := by decide +kernel
theorem d192_151 : decode b192 151 = .ok ((.iconst 1), 1) := by decide +kernel
theorem d192_152 : decode b192 152 = .ok (.isub, 1) := by decide +kernel
theorem d192_153 : decode b192 153 = .ok ((.invokevirtual 160), 3) := by decide +kernel
theorem d192_156 : decode b192 156 = .ok ((.invokevirtual 351), 3) := by decide +kernel
theorem d192_159 : decode b192 159 = .ok (.return_, 1) := by decide +kernel
abbrev b193 : ByteArray := prog_13_method_71_code
theorem d193_0 : decode b193 0 = .ok ((.aload_n 0), 1) := by decide +kernel
theorem d193_1 : decode b193 1 = .ok ((.iconst 0), 1) := by decide +kernel
theorem d193_2 : decode b193 2 = .ok ((.invokevirtual 341), 3) := by decide +kernel
theorem d193_5 : decode b193 5 = .ok ((.aload_n 0), 1) := by decide +kernel
theorem d193_6 : decode b193 6 = .ok ((.getfield 143), 3) := by decide +kernel
theorem d193_9 : decode b193 9 = .ok ((.ifCond .eq 4), 3) := by decide +kernel
theorem d193_12 : decode b193 12 = .ok (.return_, 1) := by decide +kernel
theorem d193_13 : decode b193 13 = .ok ((.aload_n 0), 1) := by decide +kernel
theorem d193_14 : decode b193 14 = .ok ((.iconst 1), 1) := by decide +kernel
theorem d193_15 : decode b193 15 = .ok ((.invokevirtual 312), 3) := by decide +kernel
theorem d193_18 : decode b193 18 = .ok ((.istore_n 1), 1) := by decide +kernel
theorem d193_19 : decode b193 19 = .ok ((.aload_n 0), 1) := by decide +kernel
theorem d193_20 : decode b193 20 = .ok ((.iconst 1), 1) := by decide +kernel
theorem d193_21 : decode b193 21 = .ok ((.invokevirtual 315), 3) := by decide +kernel
theorem d193_24 : decode b193 24 = .ok ((.istore_n 2), 1) := by decide +kernel
theorem d193_25 : decode b193 25 = .ok ((.aload_n 0), 1) := by decide +kernel
theorem d193_26 : decode b193 26 = .ok ((.getfield 123), 3) := by decide +kernel
theorem d193_29 : decode b193 29 = .ok ((.iconst 2), 1) := by decide +kernel
theorem d193_30 : decode b193 30 = .ok ((.if_icmp .le 64), 3) := by decide +kernel
theorem d193_33 : decode b193 33 = .ok ((.aload_n 0), 1) := by decide +kernel
theorem d193_34 : decode b193 34 = .ok ((.iconst 2), 1) := by decide +kernel
theorem d193_35 : decode b193 35 = .ok ((.invokevirtual 146), 3) := by decide +kernel
theorem d193_38 : decode b193 38 = .ok ((.ifCond .ne 56), 3) := by decide +kernel
theorem d193_41 : decode b193 41 = .ok ((.aload_n 0), 1) := by decide +kernel
theorem d193_42 : decode b193 42 = .ok ((.iconst 1), 1) := by decide +kernel
theorem d193_43 : decode b193 43 = .ok ((.iconst 0), 1) := by decide +kernel
theorem d193_44 : decode b193 44 = .ok ((.iconst 1), 1) := by decide +kernel
theorem d193_45 : decode b193 45 = .ok ((.iload_n 1), 1) := by decide +kernel
theorem d193_46 : decode b193 46 = .ok ((.iload_n 2), 1) := by decide +kernel
theorem d193_47 : decode b193 47 = .ok (.imul, 1) := by decide +kernel
theorem d193_48 : decode b193 48 = .ok ((.iconst 1), 1) := by decide +kernel
theorem d193_49 : decode b193 49 = .ok ((.invokevirtual 347), 3) := by decide +kernel
theorem d193_52 : decode b193 52 = .ok ((.istore_n 3), 1) := by decide +kernel
theorem d193_53 : decode b193 53 = .ok ((.iload_n 3), 1) := by decide +kernel
theorem d193_54 : decode b193 54 = .ok ((.ifCond .lt 18), 3) := by decide +kernel
theorem d193_57 : decode b193 57 = .ok ((.iload_n 3), 1) := by decide +kernel
theorem d193_58 : decode b193 58 = .ok ((.aload_n 0), 1) := by decide +kernel
theorem d193_59 : decode b193 59 = .ok ((.iconst 2), 1) := by decide +kernel
theorem d193_60 : decode b193 60 = .ok ((.invokevirtual 312), 3) := by decide +kernel
theorem d193_63 : decode b193 63 = .ok ((.aload_n 0), 1) := by decide +kernel
theorem d193_64 : decode b193 64 = .ok ((.iconst 2), 1) := by decide +kernel
theorem d193_65 : decode b193 65 = .ok ((.invokevirtual 315), 3) := by decide +kernel
theorem d193_68 : decode b193 68 = .ok (.imul, 1) := by decide +kernel
theorem d193_69 : decode b193 69 = .ok ((.if_icmp .lt 12), 3) := by decide +kernel
theorem d193_72 : decode b193 72 = .ok ((.aload_n 0), 1) := by decide +kernel
theorem d193_73 : decode b193 73 = .ok ((.bipush 7), 2) := by decide +kernel
theorem d193_75 : decode b193 75 = .ok ((.invokevirtual 176), 3) := by decide +kernel
theorem d193_78 : decode b193 78 = .ok ((.goto 15), 3) := by decide +kernel
theorem d193_81 : decode b193 81 = .ok ((.aload_n 0), 1) := by decide +kernel
theorem d193_82 : decode b193 82 = .ok ((.aload_n 0), 1) := by decide +kernel
theorem d193_83 : decode b193 83 = .ok ((.getfield 26), 3) := by decide +kernel
theorem d193_86 : decode b193 86 = .ok ((.iconst 2), 1) := by decide +kernel
theorem d193_87 : decode b193 87 = .ok (.iaload, 1) := by decide +kernel
theorem d193_88 : decode b193 88 = .ok ((.iload_n 3), 1) := by decide +kernel
theorem d193_89 : decode b193 89 = .ok (.iadd, 1) := by decide +kernel
theorem d193_90 : decode b193 90 = .ok ((.invokevirtual 351), 3) := by decide +kernel
theorem d193_93 : decode b193 93 = .ok (.return_, 1) := by decide +kernel
theorem d193_94 : decode b193 94 = .ok ((.aload_n 0), 1) := by decide +kernel
theorem d193_95 : decode b193 95 = .ok ((.iconst 1), 1) := by decide +kernel
theorem d193_96 : decode b193 96 = .ok ((.iconst 0), 1) := by decide +kernel
theorem d193_97 : decode b193 97 = .ok ((.iload_n 2), 1) := by decide +kernel
theorem d193_98 : decode b193 98 = .ok ((.iload_n 1), 1) := by decide +kernel
theorem d193_99 : decode b193 99 = .ok ((.if_icmp .le 7), 3) := by decide +kernel
theorem d193_102 : decode b193 102 = .ok ((.iconst 1), 1) := by decide +kernel
theorem d193_103 : decode b193 103 = .ok ((.goto 4), 3) := by decide +kernel
theorem d193_106 : decode b193 106 = .ok ((.iload_n 2), 1) := by decide +kernel
theorem d193_107 : decode b193 107 = .ok ((.iload_n 2), 1) := by decide +kernel
theorem d193_108 : decode b193 108 = .ok ((.iload_n 1), 1) := by decide +kernel
theorem d193_109 : decode b193 109 = .ok ((.if_icmp .le 7), 3) := by decide +kernel
theorem d193_112 : decode b193 112 = .ok ((.iload_n 2), 1) := by decide +kernel
theorem d193_113 : decode b193 113 = .ok ((.goto 4), 3) := by decide +kernel
theorem d193_116 : decode b193 116 = .ok ((.iload_n 1), 1) := by decide +kernel
theorem d193_117 : decode b193 117 = .ok ((.iconst 1), 1) := by decide +kernel
theorem d193_118 : decode b193 118 = .ok ((.invokevirtual 347), 3) := by decide +kernel
theorem d193_121 : decode b193 121 = .ok ((.istore_n 3), 1) := by decide +kernel
theorem d193_122 : decode b193 122 = .ok ((.iload_n 3), 1) := by decide +kernel
theorem d193_123 : decode b193 123 = .ok ((.ifCond .ge 12), 3) := by decide +kernel
theorem d193_126 : decode b193 126 = .ok ((.aload_n 0), 1) := by decide +kernel
theorem d193_127 : decode b193 127 = .ok ((.bipush 7), 2) := by decide +kernel
theorem d193_129 : decode b193 129 = .ok ((.invokevirtual 176), 3) := by decide +kernel
theorem d193_132 : decode b193 132 = .ok ((.goto 33), 3) := by decide +kernel
theorem d193_135 : decode b193 135 = .ok ((.aload_n 0), 1) := by decide +kernel
theorem d193_136 : decode b193 136 = .ok ((.iload_n 2), 1) := by decide +kernel
theorem d193_137 : decode b193 137 = .ok ((.iload_n 1), 1) := by decide +kernel
theorem d193_138 : decode b193 138 = .ok ((.if_icmp .le 15), 3) := by decide +kernel
theorem d193_141 : decode b193 141 = .ok ((.aload_n 0), 1) := by decide +kernel
theorem d193_142 : decode b193 142 = .ok ((.iconst 1), 1) := by decide +kernel
theorem d193_143 : decode b193 143 = .ok ((.iload_n 1), 1) := by decide +kernel
theorem d193_144 : decode b193 144 = .ok ((.iconst 1), 1) := by decide +kernel
theorem d193_145 : decode b193 145 = .ok (.isub, 1) := by decide +kernel
theorem d193_146 : decode b193 146 = .ok ((.iload_n 3), 1) := by decide +kernel
theorem d193_147 : decode b193 147 = .ok ((.invokevirtual 160), 3) := by decide +kernel
theorem d193_150 : decode b193 150 = .ok ((.goto 12), 3) := by decide +kernel
theorem d193_153 : decode b193 153 = .ok ((.aload_n 0), 1) := by decide +kernel
theorem d193_154 : decode b193 154 = .ok ((.iconst 1), 1) := by decide +kernel
theorem d193_155 : decode b193 155 = .ok ((.iload_n 3), 1) := by decide +kernel
theorem d193_156 : decode b193 156 = .ok ((.iload_n 2), 1) := by decide +kernel
theorem d193_157 : decode b193 157 = .ok ((.iconst 1), 1) := by decide +kernel
theorem d193_158 : decode b193 158 = .ok (.isub, 1) := by decide +kernel
theorem d193_159 : decode b193 159 = .ok ((.invokevirtual 160), 3) := by decide +kernel
theorem d193_162 : decode b193 162 = .ok ((.invokevirtual 351), 3) := by decide +kernel
theorem d193_165 : decode b193 165 = .ok (.return_, 1) := by decide +kernel
abbrev b198 : ByteArray := prog_13_method_72_code
theorem d198_0 : decode b198 0 = .ok ((.aload_n 0), 1) := by decide +kernel
theorem d198_1 : decode b198 1 = .ok ((.iconst 0), 1) := by decide +kernel
theorem d198_2 : decode b198 2 = .ok ((.invokevirtual 341), 3) := by decide +kernel
theorem d198_5 : decode b198 5 = .ok ((.aload_n 0), 1) := by decide +kernel
theorem d198_6 : decode b198 6 = .ok ((.iconst 2), 1) := by decide +kernel
theorem d198_7 : decode b198 7 = .ok ((.iconst 1), 1) := by decide +kernel
theorem d198_8 : decode b198 8 = .ok ((.invokevirtual 274), 3) := by decide +kernel
theorem d198_11 : decode b198 11 = .ok ((.istore_n 1), 1) := by decide +kernel
theorem d198_12 : decode b198 12 = .ok ((.aload_n 0), 1) := by decide +kernel
theorem d198_13 : decode b198 13 = .ok ((.iconst 1), 1) := by decide +kernel
theorem d198_14 : decode b198 14 = .ok ((.invokevirtual 312), 3) := by decide +kernel
theorem d198_17 : decode b198 17 = .ok ((.iconst 1), 1) := by decide +kernel
theorem d198_18 : decode b198 18 = .ok ((.if_icmp .le 18), 3) := by decide +kernel
theorem d198_21 : decode b198 21 = .ok ((.aload_n 0), 1) := by decide +kernel
theorem d198_22 : decode b198 22 = .ok ((.iconst 1), 1) := by decide +kernel
theorem d198_23 : decode b198 23 = .ok ((.invokevirtual 315), 3) := by decide +kernel
theorem d198_26 : decode b198 26 = .ok ((.iconst 1), 1) := by decide +kernel
theorem d198_27 : decode b198 27 = .ok ((.if_icmp .le 9), 3) := by decide +kernel
theorem d198_30 : decode b198 30 = .ok ((.aload_n 0), 1) := by decide +kernel
theorem d198_31 : decode b198 31 = .ok ((.bipush 7), 2) := by decide +kernel
theorem d198_33 : decode b198 33 = .ok ((.invokevirtual 176), 3) := by decide +kernel
theorem d198_36 : decode b198 36 = .ok ((.aload_n 0), 1) := by decide +kernel
theorem d198_37 : decode b198 37 = .ok ((.getfield 143), 3) := by decide +kernel
theorem d198_40 : decode b198 40 = .ok ((.ifCond .eq 4), 3) := by decide +kernel
theorem d198_43 : decode b198 43 = .ok (.return_, 1) := by decide +kernel
theorem d198_44 : decode b198 44 = .ok ((.aload_n 0), 1) := by decide +kernel
theorem d198_45 : decode b198 45 = .ok ((.iconst 1), 1) := by decide +kernel
theorem d198_46 : decode b198 46 = .ok ((.iconst 0), 1) := by decide +kernel
theorem d198_47 : decode b198 47 = .ok ((.iconst 1), 1) := by decide +kernel
theorem d198_48 : decode b198 48 = .ok ((.aload_n 0), 1) := by decide +kernel
theorem d198_49 : decode b198 49 = .ok ((.iconst 1), 1) := by decide +kernel
theorem d198_50 : decode b198 50 = .ok ((.invokevirtual 312), 3) := by decide +kernel
theorem d198_53 : decode b198 53 = .ok ((.aload_n 0), 1) := by decide +kernel
theorem d198_54 : decode b198 54 = .ok ((.iconst 1), 1) := by decide +kernel
theorem d198_55 : decode b198 55 = .ok ((.invokevirtual 315), 3) := by decide +kernel
theorem d198_58 : decode b198 58 = .ok (.imul, 1) := by decide +kernel
theorem d198_59 : decode b198 59 = .ok ((.iload_n 1), 1) := by decide +kernel
theorem d198_60 : decode b198 60 = .ok ((.invokevirtual 347), 3) := by decide +kernel
theorem d198_63 : decode b198 63 = .ok ((.istore_n 2), 1) := by decide +kernel
theorem d198_64 : decode b198 64 = .ok ((.iload_n 2), 1) := by decide +kernel
theorem d198_65 : decode b198 65 = .ok ((.ifCond .ge 9), 3) := by decide +kernel
theorem d198_68 : decode b198 68 = .ok ((.aload_n 0), 1) := by decide +kernel
theorem d198_69 : decode b198 69 = .ok ((.bipush 7), 2) := by decide +kernel
theorem d198_71 : decode b198 71 = .ok ((.invokevirtual 176), 3) := by decide +kernel
theorem d198_74 : decode b198 74 = .ok ((.aload_n 0), 1) := by decide +kernel
theorem d198_75 : decode b198 75 = .ok ((.iload_n 2), 1) := by decide +kernel
theorem d198_76 : decode b198 76 = .ok ((.iconst 1), 1) := by decide +kernel
theorem d198_77 : decode b198 77 = .ok (.iadd, 1) := by decide +kernel
theorem d198_78 : decode b198 78 = .ok (.i2d, 1) := by decide +kernel
theorem d198_79 : decode b198 79 = .ok ((.invokevirtual 305), 3) := by decide +kernel
theorem d198_82 : decode b198 82 = .ok (.return_, 1) := by decide +kernel
abbrev b177 : ByteArray := prog_13_method_74_code
theorem d177_0 : decode b177 0 = .ok ((.aload_n 0), 1) := by decide +kernel
theorem d177_1 : decode b177 1 = .ok ((.iconst 1), 1) := by decide +kernel
theorem d177_2 : decode b177 2 = .ok ((.invokevirtual 206), 3) := by decide +kernel
theorem d177_5 : decode b177 5 = .ok ((.istore_n 1), 1) := by decide +kernel
theorem d177_6 : decode b177 6 = .ok ((.aload_n 0), 1) := by decide +kernel
theorem d177_7 : decode b177 7 = .ok ((.iconst 2), 1) := by decide +kernel
theorem d177_8 : decode b177 8 = .ok ((.invokevirtual 203), 3) := by decide +kernel
theorem d177_11 : decode b177 11 = .ok ((.ifCond .eq 11), 3) := by decide +kernel
theorem d177_14 : decode b177 14 = .ok ((.aload_n 0), 1) := by decide +kernel
theorem d177_15 : decode b177 15 = .ok ((.iconst 2), 1) := by decide +kernel
theorem d177_16 : decode b177 16 = .ok ((.invokevirtual 206), 3) := by decide +kernel
theorem d177_19 : decode b177 19 = .ok ((.goto 4), 3) := by decide +kernel
theorem d177_22 : decode b177 22 = .ok ((.iconst 1), 1) := by decide +kernel
theorem d177_23 : decode b177 23 = .ok ((.istore_n 2), 1) := by decide +kernel
theorem d177_24 : decode b177 24 = .ok ((.aload_n 0), 1) := by decide +kernel
theorem d177_25 : decode b177 25 = .ok ((.iconst 2), 1) := by decide +kernel
theorem d177_26 : decode b177 26 = .ok ((.invokevirtual 203), 3) := by decide +kernel
theorem d177_29 : decode b177 29 = .ok ((.ifCond .ne 16), 3) := by decide +kernel
theorem d177_32 : decode b177 32 = .ok ((.aload_n 0), 1) := by decide +kernel
theorem d177_33 : decode b177 33 = .ok ((.iconst 0), 1) := by decide +kernel
theorem d177_34 : decode b177 34 = .ok ((.invokevirtual 312), 3) := by decide +kernel
theorem d177_37 : decode b177 37 = .ok ((.iconst 1), 1) := by decide +kernel
theorem d177_38 : decode b177 38 = .ok ((.if_icmp .ne 7), 3) := by decide +kernel
theorem d177_41 : decode b177 41 = .ok ((.iload_n 1), 1) := by decide +kernel
theorem d177_42 : decode b177 42 = .ok ((.istore_n 2), 1) := by decide +kernel
theorem d177_43 : decode b177 43 = .ok ((.iconst 1), 1) := by decide +kernel
theorem d177_44 : decode b177 44 = .ok ((.istore_n 1), 1) := by decide +kernel
theorem d177_45 : decode b177 45 = .ok ((.iload_n 1), 1) := by decide +kernel
theorem d177_46 : decode b177 46 = .ok ((.ifCond .lt 7), 3) := by decide +kernel
theorem d177_49 : decode b177 49 = .ok ((.iload_n 2), 1) := by decide +kernel
theorem d177_50 : decode b177 50 = .ok ((.ifCond .ge 8), 3) := by decide +kernel
theorem d177_53 : decode b177 53 = .ok ((.aload_n 0), 1) := by decide +kernel
theorem d177_54 : decode b177 54 = .ok ((.iconst 3), 1) := by decide +kernel
theorem d177_55 : decode b177 55 = .ok ((.invokevirtual 176), 3) := by decide +kernel
theorem d177_58 : decode b177 58 = .ok ((.iload_n 1), 1) := by decide +kernel
theorem d177_59 : decode b177 59 = .ok ((.aload_n 0), 1) := by decide +kernel
theorem d177_60 : decode b177 60 = .ok ((.iconst 0), 1) := by decide +kernel
theorem d177_61 : decode b177 61 = .ok ((.invokevirtual 312), 3) := by decide +kernel
theorem d177_64 : decode b177 64 = .ok ((.if_icmp .gt 12), 3) := by decide +kernel
theorem d177_67 : decode b177 67 = .ok ((.iload_n 2), 1) := by decide +kernel
theorem d177_68 : decode b177 68 = .ok ((.aload_n 0), 1) := by decide +kernel
theorem d177_69 : decode b177 69 = .ok ((.iconst 0), 1) := by decide +kernel
theorem d177_70 : decode b177 70 = .ok ((.invokevirtual 315), 3) := by decide +kernel
theorem d177_73 : decode b177 73 = .ok ((.if_icmp .le 8), 3) := by decide +kernel
theorem d177_76 : decode b177 76 = .ok ((.aload_n 0), 1) := by decide +kernel
theorem d177_77 : decode b177 77 = .ok ((.iconst 4), 1) := by decide +kernel
theorem d177_78 : decode b177 78 = .ok ((.invokevirtual 176), 3) := by decide +kernel
theorem d177_81 : decode b177 81 = .ok ((.aload_n 0), 1) := by decide +kernel
theorem d177_82 : decode b177 82 = .ok ((.getfield 143), 3) := by decide +kernel
theorem d177_85 : decode b177 85 = .ok ((.ifCond .ne 57), 3) := by decide +kernel
theorem d177_88 : decode b177 88 = .ok ((.aload_n 0), 1) := by decide +kernel
theorem d177_89 : decode b177 89 = .ok ((.iconst 0), 1) := by decide +kernel
theorem d177_90 : decode b177 90 = .ok ((.iload_n 1), 1) := by decide +kernel
theorem d177_91 : decode b177 91 = .ok ((.ifCond .ne 7), 3) := by decide +kernel
theorem d177_94 : decode b177 94 = .ok ((.iconst 0), 1) := by decide +kernel
theorem d177_95 : decode b177 95 = .ok ((.goto 6), 3) := by decide +kernel
theorem d177_98 : decode b177 98 = .ok ((.iload_n 1), 1) := by decide +kernel
theorem d177_99 : decode b177 99 = .ok ((.iconst 1), 1) := by decide +kernel
theorem d177_100 : decode b177 100 = .ok (.isub, 1) := by decide +kernel
theorem d177_101 : decode b177 101 = .ok ((.iload_n 2), 1) := by decide +kernel
theorem d177_102 : decode b177 102 = .ok ((.ifCond .ne 7), 3) := by decide +kernel
theorem d177_105 : decode b177 105 = .ok ((.iconst 0), 1) := by decide +kernel
theorem d177_106 : decode b177 106 = .ok ((.goto 6), 3) := by decide +kernel
theorem d177_109 : decode b177 109 = .ok ((.iload_n 2), 1) := by decide +kernel
theorem d177_110 : decode b177 110 = .ok ((.iconst 1), 1) := by decide +kernel
theorem d177_111 : decode b177 111 = .ok (.isub, 1) := by decide +kernel
theorem d177_112 : decode b177 112 = .ok ((.iload_n 1), 1) := by decide +kernel
theorem d177_113 : decode b177 113 = .ok ((.ifCond .ne 11), 3) := by decide +kernel
theorem d177_116 : decode b177 116 = .ok ((.aload_n 0), 1) := by decide +kernel
theorem d177_117 : decode b177 117 = .ok ((.iconst 0), 1) := by decide +kernel
theorem d177_118 : decode b177 118 = .ok ((.invokevirtual 312), 3) := by decide +kernel
theorem d177_121 : decode b177 121 = .ok ((.goto 4), 3) := by decide +kernel
theorem d177_124 : decode b177 124 = .ok ((.iconst 1), 1) := by decide +kernel
theorem d177_125 : decode b177 125 = .ok ((.iload_n 2), 1) := by decide +kernel
theorem d177_126 : decode b177 126 = .ok ((.ifCond .ne 11), 3) := by decide +kernel
theorem d177_129 : decode b177 129 = .ok ((.aload_n 0), 1) := by decide +kernel
theorem d177_130 : decode b177 130 = .ok ((.iconst 0), 1) := by decide +kernel
theorem d177_131 : decode b177 131 = .ok ((.invokevirtual 315), 3) := by decide +kernel
theorem d177_134 : decode b177 134 = .ok ((.goto 4), 3) := by decide +kernel
theorem d177_137 : decode b177 137 = .ok ((.iconst 1), 1) := by decide +kernel
theorem d177_138 : decode b177 138 = .ok ((.iconst 0), 1) := by decide +kernel
theorem d177_139 : decode b177 139 = .ok ((.invokevirtual 363), 3) := by decide +kernel
theorem d177_142 : decode b177 142 = .ok (.return_, 1) := by decide +kernel
abbrev b220 : ByteArray := prog_13_method_75_code
theorem d220_0 : decode b220 0 = .ok ((.aload_n 0), 1) := by decide +kernel
theorem d220_1 : decode b220 1 = .ok ((.getfield 123), 3) := by decide +kernel
theorem d220_4 : decode b220 4 = .ok ((.ifCond .eq 11), 3) := by decide +kernel
theorem d220_7 : decode b220 7 = .ok ((.aload_n 0), 1) := by decide +kernel
theorem d220_8 : decode b220 8 = .ok ((.iconst 0), 1) := by decide +kernel
theorem d220_9 : decode b220 9 = .ok ((.invokevirtual 146), 3) := by decide +kernel
theorem d220_12 : decode b220 12 = .ok ((.ifCond .eq 7), 3) := by decide +kernel
theorem d220_15 : decode b220 15 = .ok ((.iconst 1), 1) := by decide +kernel
theorem d220_16 : decode b220 16 = .ok ((.goto 4), 3) := by decide +kernel
theorem d220_19 : decode b220 19 = .ok ((.iconst 0), 1) := by decide +kernel
theorem d220_20 : decode b220 20 = .ok ((.istore_n 2), 1) := by decide +kernel
theorem d220_21 : decode b220 21 = .ok ((.iload_n 2), 1) := by decide +kernel
theorem d220_22 : decode b220 22 = .ok ((.ifCond .ne 17), 3) := by decide +kernel
theorem d220_25 : decode b220 25 = .ok ((.aload_n 0), 1) := by decide +kernel
theorem d220_26 : decode b220 26 = .ok ((.getfield 29), 3) := by decide +kernel
theorem d220_29 : decode b220 29 = .ok ((.iconst 0), 1) := by decide +kernel
theorem d220_30 : decode b220 30 = .ok (.iaload, 1) := by decide +kernel
theorem d220_31 : decode b220 31 = .ok ((.ifCond .ne 8), 3) := by decide +kernel
theorem d220_34 : decode b220 34 = .ok ((.aload_n 0), 1) := by decide +kernel
theorem d220_35 : decode b220 35 = .ok ((.iconst 3), 1) := by decide +kernel
theorem d220_36 : decode b220 36 = .ok ((.invokevirtual 176), 3) := by decide +kernel
theorem d220_39 : decode b220 39 = .ok ((.aload_n 0), 1) := by decide +kernel
theorem d220_40 : decode b220 40 = .ok ((.iload_n 2), 1) := by decide +kernel
theorem d220_41 : decode b220 41 = .ok ((.ifCond .eq 23), 3) := by decide +kernel
theorem d220_44 : decode b220 44 = .ok ((.iload_n 1), 1) := by decide +kernel
theorem d220_45 : decode b220 45 = .ok ((.ifCond .eq 11), 3) := by decide +kernel
theorem d220_48 : decode b220 48 = .ok ((.aload_n 0), 1) := by decide +kernel
theorem d220_49 : decode b220 49 = .ok ((.getfield 52), 3) := by decide +kernel
theorem d220_52 : decode b220 52 = .ok (.i2d, 1) := by decide +kernel
theorem d220_53 : decode b220 53 = .ok ((.goto 32), 3) := by decide +kernel
theorem d220_56 : decode b220 56 = .ok ((.aload_n 0), 1) := by decide +kernel
theorem d220_57 : decode b220 57 = .ok ((.getfield 48), 3) := by decide +kernel
theorem d220_60 : decode b220 60 = .ok (.i2d, 1) := by decide +kernel
theorem d220_61 : decode b220 61 = .ok ((.goto 24), 3) := by decide +kernel
theorem d220_64 : decode b220 64 = .ok ((.iload_n 1), 1) := by decide +kernel
theorem d220_65 : decode b220 65 = .ok ((.ifCond .eq 13), 3) := by decide +kernel
theorem d220_68 : decode b220 68 = .ok ((.aload_n 0), 1) := by decide +kernel
theorem d220_69 : decode b220 69 = .ok ((.getfield 32), 3) := by decide +kernel
theorem d220_72 : decode b220 72 = .ok ((.iconst 0), 1) := by decide +kernel
theorem d220_73 : decode b220 73 = .ok (.iaload, 1) := by decide +kernel
theorem d220_74 : decode b220 74 = .ok (.i2d, 1) := by decide +kernel
theorem d220_75 : decode b220 75 = .ok ((.goto 10), 3) := by decide +kernel
theorem d220_78 : decode b220 78 = .ok ((.aload_n 0), 1) := by decide +kernel
theorem d220_79 : decode b220 79 = .ok ((.getfield 29), 3) := by decide +kernel
theorem d220_82 : decode b220 82 = .ok ((.iconst 0), 1) := by decide +kernel
theorem d220_83 : decode b220 83 = .ok (.iaload, 1) := by decide +kernel
theorem d220_84 : decode b220 84 = .ok (.i2d, 1) := by decide +kernel
theorem d220_85 : decode b220 85 = .ok ((.invokevirtual 305), 3) := by decide +kernel
theorem d220_88 : decode b220 88 = .ok (.return_, 1) := by decide +kernel
abbrev b194 : ByteArray := prog_13_method_103_code
theorem d194_0 : decode b194 0 = .ok ((.iload_n 1), 1) := by decide +kernel
theorem d194_1 : decode b194 1 = .ok ((.tableswitch 145 90 99 #[55, 55, 73, 80, 87, 94, 94, 112, 125, 138]), 55) := by decide +kernel
theorem d194_56 : decode b194 56 = .ok ((.aload_n 0), 1) := by decide +kernel
theorem d194_57 : decode b194 57 = .ok ((.iload_n 1), 1) := by decide +kernel
theorem d194_58 : decode b194 58 = .ok ((.bipush 91), 2) := by decide +kernel
theorem d194_60 : decode b194 60 = .ok ((.if_icmp .ne 7), 3) := by decide +kernel
theorem d194_63 : decode b194 63 = .ok ((.iconst 1), 1) := by decide +kernel
theorem d194_64 : decode b194 64 = .ok ((.goto 4), 3) := by decide +kernel
theorem d194_67 : decode b194 67 = .ok ((.iconst 0), 1) := by decide +kernel
theorem d194_68 : decode b194 68 = .ok ((.invokevirtual 531), 3) := by decide +kernel
theorem d194_71 : decode b194 71 = .ok ((.goto 93), 3) := by decide +kernel
theorem d194_74 : decode b194 74 = .ok ((.aload_n 0), 1) := by decide +kernel
theorem d194_75 : decode b194 75 = .ok ((.invokevirtual 534), 3) := by decide +kernel
theorem d194_78 : decode b194 78 = .ok ((.goto 86), 3) := by decide +kernel
theorem d194_81 : decode b194 81 = .ok ((.aload_n 0), 1) := by decide +kernel
theorem d194_82 : decode b194 82 = .ok ((.invokevirtual 537), 3) := by decide +kernel
theorem d194_85 : decode b194 85 = .ok ((.goto 79), 3) := by decide +kernel
theorem d194_88 : decode b194 88 = .ok ((.aload_n 0), 1) := by decide +kernel
theorem d194_89 : decode b194 89 = .ok ((.invokevirtual 540), 3) := by decide +kernel
theorem d194_92 : decode b194 92 = .ok ((.goto 72), 3) := by decide +kernel
theorem d194_95 : decode b194 95 = .ok ((.aload_n 0), 1) := by decide +kernel
theorem d194_96 : decode b194 96 = .ok ((.iload_n 1), 1) := by decide +kernel
theorem d194_97 : decode b194 97 = .ok ((.bipush 96), 2) := by decide +kernel
theorem d194_99 : decode b194 99 = .ok ((.if_icmp .ne 7), 3) := by decide +kernel
theorem d194_102 : decode b194 102 = .ok ((.iconst 1), 1) := by decide +kernel
theorem d194_103 : decode b194 103 = .ok ((.goto 4), 3) := by decide +kernel
theorem d194_106 : decode b194 106 = .ok ((.iconst 0), 1) := by decide +kernel
theorem d194_107 : decode b194 107 = .ok ((.invokevirtual 543), 3) := by decide +kernel
theorem d194_110 : decode b194 110 = .ok ((.goto 54), 3) := by decide +kernel
theorem d194_113 : decode b194 113 = .ok ((.aload_n 0), 1) := by decide +kernel
theorem d194_114 : decode b194 114 = .ok ((.aload_n 0), 1) := by decide +kernel
theorem d194_115 : decode b194 115 = .ok ((.iconst 0), 1) := by decide +kernel
theorem d194_116 : decode b194 116 = .ok ((.invokevirtual 312), 3) := by decide +kernel
theorem d194_119 : decode b194 119 = .ok (.i2d, 1) := by decide +kernel
theorem d194_120 : decode b194 120 = .ok ((.invokevirtual 305), 3) := by decide +kernel
theorem d194_123 : decode b194 123 = .ok ((.goto 41), 3) := by decide +kernel
theorem d194_126 : decode b194 126 = .ok ((.aload_n 0), 1) := by decide +kernel
theorem d194_127 : decode b194 127 = .ok ((.aload_n 0), 1) := by decide +kernel
theorem d194_128 : decode b194 128 = .ok ((.iconst 0), 1) := by decide +kernel
theorem d194_129 : decode b194 129 = .ok ((.invokevirtual 315), 3) := by decide +kernel
theorem d194_132 : decode b194 132 = .ok (.i2d, 1) := by decide +kernel
theorem d194_133 : decode b194 133 = .ok ((.invokevirtual 305), 3) := by decide +kernel
theorem d194_136 : decode b194 136 = .ok ((.goto 28), 3) := by decide +kernel
theorem d194_139 : decode b194 139 = .ok ((.aload_n 0), 1) := by decide +kernel
theorem d194_140 : decode b194 140 = .ok ((.invokevirtual 546), 3) := by decide +kernel
theorem d194_143 : decode b194 143 = .ok ((.goto 21), 3) := by decide +kernel
theorem d194_146 : decode b194 146 = .ok ((.aload_n 0), 1) := by decide +kernel
theorem d194_147 : decode b194 147 = .ok ((.iconst 0), 1) := by decide +kernel
theorem d194_148 : decode b194 148 = .ok ((.iconst 0), 1) := by decide +kernel
theorem d194_149 : decode b194 149 = .ok ((.iconst 0), 1) := by decide +kernel
theorem d194_150 : decode b194 150 = .ok ((.aload_n 0), 1) := by decide +kernel
theorem d194_151 : decode b194 151 = .ok ((.iconst 0), 1) := by decide +kernel
theorem d194_152 : decode b194 152 = .ok ((.invokevirtual 312), 3) := by decide +kernel
theorem d194_155 : decode b194 155 = .ok ((.aload_n 0), 1) := by decide +kernel
theorem d194_156 : decode b194 156 = .ok ((.iconst 0), 1) := by decide +kernel
theorem d194_157 : decode b194 157 = .ok ((.invokevirtual 315), 3) := by decide +kernel
theorem d194_160 : decode b194 160 = .ok ((.iconst 1), 1) := by decide +kernel
theorem d194_161 : decode b194 161 = .ok ((.invokevirtual 363), 3) := by decide +kernel
theorem d194_164 : decode b194 164 = .ok (.return_, 1) := by decide +kernel
abbrev b182 : ByteArray := prog_13_method_80_code
theorem d182_0 : decode b182 0 = .ok ((.iload_n 0), 1) := by decide +kernel
theorem d182_1 : decode b182 1 = .ok ((.iconst 4), 1) := by decide +kernel
theorem d182_2 : decode b182 2 = .ok (.irem, 1) := by decide +kernel
theorem d182_3 : decode b182 3 = .ok ((.ifCond .ne 22), 3) := by decide +kernel
theorem d182_6 : decode b182 6 = .ok ((.iload_n 0), 1) := by decide +kernel
theorem d182_7 : decode b182 7 = .ok ((.bipush 100), 2) := by decide +kernel
theorem d182_9 : decode b182 9 = .ok (.irem, 1) := by decide +kernel
theorem d182_10 : decode b182 10 = .ok ((.ifCond .ne 11), 3) := by decide +kernel
theorem d182_13 : decode b182 13 = .ok ((.iload_n 0), 1) := by decide +kernel
theorem d182_14 : decode b182 14 = .ok ((.sipush 400), 3) := by decide +kernel
theorem d182_17 : decode b182 17 = .ok (.irem, 1) := by decide +kernel
theorem d182_18 : decode b182 18 = .ok ((.ifCond .ne 7), 3) := by decide +kernel
theorem d182_21 : decode b182 21 = .ok ((.iconst 1), 1) := by decide +kernel
theorem d182_22 : decode b182 22 = .ok ((.goto 4), 3) := by decide +kernel
theorem d182_25 : decode b182 25 = .ok ((.iconst 0), 1) := by decide +kernel
theorem d182_26 : decode b182 26 = .ok (.ireturn, 1) := by decide +kernel
abbrev b163 : ByteArray := prog_13_method_81_code
theorem d163_0 : decode b163 0 = .ok ((.iload_n 1), 1) := by decide +kernel
theorem d163_1 : decode b163 1 = .ok ((.iconst 2), 1) := by decide +kernel
theorem d163_2 : decode b163 2 = .ok ((.if_icmp .ne 20), 3) := by decide +kernel
theorem d163_5 : decode b163 5 = .ok ((.iload_n 0), 1) := by decide +kernel
theorem d163_6 : decode b163 6 = .ok ((.invokestatic 377), 3) := by decide +kernel
theorem d163_9 : decode b163 9 = .ok ((.ifCond .eq 8), 3) := by decide +kernel
theorem d163_12 : decode b163 12 = .ok ((.bipush 29), 2) := by decide +kernel
theorem d163_14 : decode b163 14 = .ok ((.goto 38), 3) := by decide +kernel
theorem d163_17 : decode b163 17 = .ok ((.bipush 28), 2) := by decide +kernel
theorem d163_19 : decode b163 19 = .ok ((.goto 33), 3) := by decide +kernel
theorem d163_22 : decode b163 22 = .ok ((.iload_n 1), 1) := by decide +kernel
theorem d163_23 : decode b163 23 = .ok ((.iconst 4), 1) := by decide +kernel
theorem d163_24 : decode b163 24 = .ok ((.if_icmp .eq 21), 3) := by decide +kernel
theorem d163_27 : decode b163 27 = .ok ((.iload_n 1), 1) := by decide +kernel
theorem d163_28 : decode b163 28 = .ok ((.bipush 6), 2) := by decide +kernel
theorem d163_30 : decode b163 30 = .ok ((.if_icmp .eq 15), 3) := by decide +kernel
theorem d163_33 : decode b163 33 = .ok ((.iload_n 1), 1) := by decide +kernel
theorem d163_34 : decode b163 34 = .ok ((.bipush 9), 2) := by decide +kernel
theorem d163_36 : decode b163 36 = .ok ((.if_icmp .eq 9), 3) := by decide +kernel
theorem d163_39 : decode b163 39 = .ok ((.iload_n 1), 1) := by decide +kernel
theorem d163_40 : decode b163 40 = .ok ((.bipush 11), 2) := by decide +kernel
theorem d163_42 : decode b163 42 = .ok ((.if_icmp .ne 8), 3) := by decide +kernel
theorem d163_45 : decode b163 45 = .ok ((.bipush 30), 2) := by decide +kernel
theorem d163_47 : decode b163 47 = .ok ((.goto 5), 3) := by decide +kernel
theorem d163_50 : decode b163 50 = .ok ((.bipush 31), 2) := by decide +kernel
theorem d163_52 : decode b163 52 = .ok (.ireturn, 1) := by decide +kernel
abbrev b201 : ByteArray := prog_13_method_82_code
theorem d201_0 : decode b201 0 = .ok ((.lload_n 0), 1) := by decide +kernel
theorem d201_1 : decode b201 1 = .ok ((.ldc2_w 380), 3) := by decide +kernel
theorem d201_4 : decode b201 4 = .ok (.ldiv, 1) := by decide +kernel
theorem d201_5 : decode b201 5 = .ok ((.lstore_n 2), 1) := by decide +kernel
theorem d201_6 : decode b201 6 = .ok ((.lload_n 0), 1) := by decide +kernel
theorem d201_7 : decode b201 7 = .ok ((.ldc2_w 380), 3) := by decide +kernel
theorem d201_10 : decode b201 10 = .ok (.lrem, 1) := by decide +kernel
theorem d201_11 : decode b201 11 = .ok (.l2i, 1) := by decide +kernel
theorem d201_12 : decode b201 12 = .ok ((.istore 4), 2) := by decide +kernel
theorem d201_14 : decode b201 14 = .ok ((.iload 4), 2) := by decide +kernel
theorem d201_16 : decode b201 16 = .ok ((.ifCond .ge 13), 3) := by decide +kernel
theorem d201_19 : decode b201 19 = .ok ((.iinc 4 4800), 6) := by decide +kernel
theorem d201_25 : decode b201 25 = .ok ((.lload_n 2), 1) := by decide +kernel
theorem d201_26 : decode b201 26 = .ok ((.lconst 1), 1) := by decide +kernel
theorem d201_27 : decode b201 27 = .ok (.lsub, 1) := by decide +kernel
theorem d201_28 : decode b201 28 = .ok ((.lstore_n 2), 1) := by decide +kernel
theorem d201_29 : decode b201 29 = .ok ((.ldc2_w 382), 3) := by decide +kernel
theorem d201_32 : decode b201 32 = .ok ((.lload_n 2), 1) := by decide +kernel
theorem d201_33 : decode b201 33 = .ok (.lmul, 1) := by decide +kernel
theorem d201_34 : decode b201 34 = .ok ((.lstore 5), 2) := by decide +kernel
theorem d201_36 : decode b201 36 = .ok ((.iconst 0), 1) := by decide +kernel
theorem d201_37 : decode b201 37 = .ok ((.istore 7), 2) := by decide +kernel
theorem d201_39 : decode b201 39 = .ok ((.iload 7), 2) := by decide +kernel
theorem d201_41 : decode b201 41 = .ok ((.iload 4), 2) := by decide +kernel
theorem d201_43 : decode b201 43 = .ok ((.bipush 12), 2) := by decide +kernel
theorem d201_45 : decode b201 45 = .ok (.idiv, 1) := by decide +kernel
theorem d201_46 : decode b201 46 = .ok ((.if_icmp .ge 31), 3) := by decide +kernel
theorem d201_49 : decode b201 49 = .ok ((.lload 5), 2) := by decide +kernel
theorem d201_51 : decode b201 51 = .ok ((.iload 7), 2) := by decide +kernel
theorem d201_53 : decode b201 53 = .ok ((.invokestatic 377), 3) := by decide +kernel
theorem d201_56 : decode b201 56 = .ok ((.ifCond .eq 9), 3) := by decide +kernel
theorem d201_59 : decode b201 59 = .ok ((.ldc2_w 384), 3) := by decide +kernel
theorem d201_62 : decode b201 62 = .ok ((.goto 6), 3) := by decide +kernel
theorem d201_65 : decode b201 65 = .ok ((.ldc2_w 386), 3) := by decide +kernel
theorem d201_68 : decode b201 68 = .ok (.ladd, 1) := by decide +kernel
theorem d201_69 : decode b201 69 = .ok ((.lstore 5), 2) := by decide +kernel
theorem d201_71 : decode b201 71 = .ok ((.iinc 7 1), 3) := by decide +kernel
theorem d201_74 : decode b201 74 = .ok ((.goto (-35)), 3) := by decide +kernel
theorem d201_77 : decode b201 77 = .ok ((.iconst 1), 1) := by decide +kernel
theorem d201_78 : decode b201 78 = .ok ((.istore 7), 2) := by decide +kernel
theorem d201_80 : decode b201 80 = .ok ((.iload 7), 2) := by decide +kernel
theorem d201_82 : decode b201 82 = .ok ((.iload 4), 2) := by decide +kernel
theorem d201_84 : decode b201 84 = .ok ((.bipush 12), 2) := by decide +kernel
theorem d201_86 : decode b201 86 = .ok (.irem, 1) := by decide +kernel
theorem d201_87 : decode b201 87 = .ok ((.if_icmp .gt 25), 3) := by decide +kernel
theorem d201_90 : decode b201 90 = .ok ((.lload 5), 2) := by decide +kernel
theorem d201_92 : decode b201 92 = .ok ((.iload 4), 2) := by decide +kernel
theorem d201_94 : decode b201 94 = .ok ((.bipush 12), 2) := by decide +kernel
theorem d201_96 : decode b201 96 = .ok (.idiv, 1) := by decide +kernel
theorem d201_97 : decode b201 97 = .ok ((.iload 7), 2) := by decide +kernel
theorem d201_99 : decode b201 99 = .ok ((.invokestatic 388), 3) := by decide +kernel
theorem d201_102 : decode b201 102 = .ok (.i2l, 1) := by decide +kernel
theorem d201_103 : decode b201 103 = .ok (.ladd, 1) := by decide +kernel
theorem d201_104 : decode b201 104 = .ok ((.lstore 5), 2) := by decide +kernel
theorem d201_106 : decode b201 106 = .ok ((.iinc 7 1), 3) := by decide +kernel
theorem d201_109 : decode b201 109 = .ok ((.goto (-29)), 3) := by decide +kernel
theorem d201_112 : decode b201 112 = .ok ((.lload 5), 2) := by decide +kernel
theorem d201_114 : decode b201 114 = .ok ((.ldc2_w 391), 3) := by decide +kernel
theorem d201_117 : decode b201 117 = .ok (.lsub, 1) := by decide +kernel
theorem d201_118 : decode b201 118 = .ok (.lreturn, 1) := by decide +kernel
abbrev b157 : ByteArray := prog_13_method_88_code
theorem d157_0 : decode b157 0 = .ok ((.aload_n 0), 1) := by decide +kernel
theorem d157_1 : decode b157 1 = .ok ((.iconst 0), 1) := by decide +kernel
theorem d157_2 : decode b157 2 = .ok ((.invokevirtual 206), 3) := by decide +kernel
theorem d157_5 : decode b157 5 = .ok ((.istore_n 1), 1) := by decide +kernel
theorem d157_6 : decode b157 6 = .ok ((.aload_n 0), 1) := by decide +kernel
theorem d157_7 : decode b157 7 = .ok ((.iconst 1), 1) := by decide +kernel
theorem d157_8 : decode b157 8 = .ok ((.invokevirtual 206), 3) := by decide +kernel
theorem d157_11 : decode b157 11 = .ok ((.istore_n 2), 1) := by decide +kernel
theorem d157_12 : decode b157 12 = .ok ((.aload_n 0), 1) := by decide +kernel
theorem d157_13 : decode b157 13 = .ok ((.iconst 2), 1) := by decide +kernel
theorem d157_14 : decode b157 14 = .ok ((.invokevirtual 206), 3) := by decide +kernel
theorem d157_17 : decode b157 17 = .ok ((.istore_n 3), 1) := by decide +kernel
theorem d157_18 : decode b157 18 = .ok ((.iload_n 1), 1) := by decide +kernel
theorem d157_19 : decode b157 19 = .ok ((.ifCond .lt 38), 3) := by decide +kernel
theorem d157_22 : decode b157 22 = .ok ((.iload_n 1), 1) := by decide +kernel
theorem d157_23 : decode b157 23 = .ok ((.sipush 9999), 3) := by decide +kernel
theorem d157_26 : decode b157 26 = .ok ((.if_icmp .gt 31), 3) := by decide +kernel
theorem d157_29 : decode b157 29 = .ok ((.iload_n 2), 1) := by decide +kernel
theorem d157_30 : decode b157 30 = .ok ((.ldc_w 412), 3) := by decide +kernel
theorem d157_33 : decode b157 33 = .ok ((.if_icmp .gt 24), 3) := by decide +kernel
theorem d157_36 : decode b157 36 = .ok ((.iload_n 2), 1) := by decide +kernel
theorem d157_37 : decode b157 37 = .ok ((.ldc_w 413), 3) := by decide +kernel
theorem d157_40 : decode b157 40 = .ok ((.if_icmp .lt 17), 3) := by decide +kernel
theorem d157_43 : decode b157 43 = .ok ((.iload_n 3), 1) := by decide +kernel
theorem d157_44 : decode b157 44 = .ok ((.ldc_w 412), 3) := by decide +kernel
theorem d157_47 : decode b157 47 = .ok ((.if_icmp .gt 10), 3) := by decide +kernel
theorem d157_50 : decode b157 50 = .ok ((.iload_n 3), 1) := by decide +kernel
theorem d157_51 : decode b157 51 = .ok ((.ldc_w 413), 3) := by decide +kernel
theorem d157_54 : decode b157 54 = .ok ((.if_icmp .ge 9), 3) := by decide +kernel
theorem d157_57 : decode b157 57 = .ok ((.aload_n 0), 1) := by decide +kernel
theorem d157_58 : decode b157 58 = .ok ((.bipush 6), 2) := by decide +kernel
theorem d157_60 : decode b157 60 = .ok ((.invokevirtual 176), 3) := by decide +kernel
theorem d157_63 : decode b157 63 = .ok ((.aload_n 0), 1) := by decide +kernel
theorem d157_64 : decode b157 64 = .ok ((.getfield 143), 3) := by decide +kernel
theorem d157_67 : decode b157 67 = .ok ((.ifCond .eq 4), 3) := by decide +kernel
theorem d157_70 : decode b157 70 = .ok (.return_, 1) := by decide +kernel
theorem d157_71 : decode b157 71 = .ok ((.aload_n 0), 1) := by decide +kernel
theorem d157_72 : decode b157 72 = .ok ((.ldc2_w 414), 3) := by decide +kernel
theorem d157_75 : decode b157 75 = .ok ((.iload_n 1), 1) := by decide +kernel
theorem d157_76 : decode b157 76 = .ok ((.sipush 1900), 3) := by decide +kernel
theorem d157_79 : decode b157 79 = .ok ((.if_icmp .ge 11), 3) := by decide +kernel
theorem d157_82 : decode b157 82 = .ok ((.iload_n 1), 1) := by decide +kernel
theorem d157_83 : decode b157 83 = .ok ((.sipush 1900), 3) := by decide +kernel
theorem d157_86 : decode b157 86 = .ok (.iadd, 1) := by decide +kernel
theorem d157_87 : decode b157 87 = .ok ((.goto 4), 3) := by decide +kernel
theorem d157_90 : decode b157 90 = .ok ((.iload_n 1), 1) := by decide +kernel
theorem d157_91 : decode b157 91 = .ok (.i2l, 1) := by decide +kernel
theorem d157_92 : decode b157 92 = .ok (.lmul, 1) := by decide +kernel
theorem d157_93 : decode b157 93 = .ok ((.iload_n 2), 1) := by decide +kernel
theorem d157_94 : decode b157 94 = .ok (.i2l, 1) := by decide +kernel
theorem d157_95 : decode b157 95 = .ok (.ladd, 1) := by decide +kernel
theorem d157_96 : decode b157 96 = .ok ((.lconst 1), 1) := by decide +kernel
theorem d157_97 : decode b157 97 = .ok (.lsub, 1) := by decide +kernel
theorem d157_98 : decode b157 98 = .ok ((.invokestatic 416), 3) := by decide +kernel
theorem d157_101 : decode b157 101 = .ok ((.iload_n 3), 1) := by decide +kernel
theorem d157_102 : decode b157 102 = .ok (.i2l, 1) := by decide +kernel
theorem d157_103 : decode b157 103 = .ok (.ladd, 1) := by decide +kernel
theorem d157_104 : decode b157 104 = .ok ((.lconst 1), 1) := by decide +kernel
theorem d157_105 : decode b157 105 = .ok (.lsub, 1) := by decide +kernel
theorem d157_106 : decode b157 106 = .ok ((.invokevirtual 420), 3) := by decide +kernel
theorem d157_109 : decode b157 109 = .ok (.return_, 1) := by decide +kernel
abbrev b229 : ByteArray := prog_13_method_89_code
theorem d229_0 : decode b229 0 = .ok ((.aload_n 0), 1) := by decide +kernel
theorem d229_1 : decode b229 1 = .ok ((.iconst 0), 1) := by decide +kernel
theorem d229_2 : decode b229 2 = .ok ((.invokevirtual 206), 3) := by decide +kernel
theorem d229_5 : decode b229 5 = .ok ((.istore_n 1), 1) := by decide +kernel
theorem d229_6 : decode b229 6 = .ok ((.aload_n 0), 1) := by decide +kernel
theorem d229_7 : decode b229 7 = .ok ((.iconst 1), 1) := by decide +kernel
theorem d229_8 : decode b229 8 = .ok ((.invokevirtual 206), 3) := by decide +kernel
theorem d229_11 : decode b229 11 = .ok ((.istore_n 2), 1) := by decide +kernel
theorem d229_12 : decode b229 12 = .ok ((.aload_n 0), 1) := by decide +kernel
theorem d229_13 : decode b229 13 = .ok ((.iconst 2), 1) := by decide +kernel
theorem d229_14 : decode b229 14 = .ok ((.invokevirtual 206), 3) := by decide +kernel
theorem d229_17 : decode b229 17 = .ok ((.istore_n 3), 1) := by decide +kernel
theorem d229_18 : decode b229 18 = .ok ((.iload_n 1), 1) := by decide +kernel
theorem d229_19 : decode b229 19 = .ok ((.ifCond .lt 32), 3) := by decide +kernel
theorem d229_22 : decode b229 22 = .ok ((.iload_n 1), 1) := by decide +kernel
theorem d229_23 : decode b229 23 = .ok ((.sipush 32767), 3) := by decide +kernel
theorem d229_26 : decode b229 26 = .ok ((.if_icmp .gt 25), 3) := by decide +kernel
theorem d229_29 : decode b229 29 = .ok ((.iload_n 2), 1) := by decide +kernel
theorem d229_30 : decode b229 30 = .ok ((.ifCond .lt 21), 3) := by decide +kernel
theorem d229_33 : decode b229 33 = .ok ((.iload_n 2), 1) := by decide +kernel
theorem d229_34 : decode b229 34 = .ok ((.sipush 32767), 3) := by decide +kernel
theorem d229_37 : decode b229 37 = .ok ((.if_icmp .gt 14), 3) := by decide +kernel
theorem d229_40 : decode b229 40 = .ok ((.iload_n 3), 1) := by decide +kernel
theorem d229_41 : decode b229 41 = .ok ((.ifCond .lt 10), 3) := by decide +kernel
theorem d229_44 : decode b229 44 = .ok ((.iload_n 3), 1) := by decide +kernel
theorem d229_45 : decode b229 45 = .ok ((.sipush 32767), 3) := by decide +kernel
theorem d229_48 : decode b229 48 = .ok ((.if_icmp .le 9), 3) := by decide +kernel
theorem d229_51 : decode b229 51 = .ok ((.aload_n 0), 1) := by decide +kernel
theorem d229_52 : decode b229 52 = .ok ((.bipush 6), 2) := by decide +kernel
theorem d229_54 : decode b229 54 = .ok ((.invokevirtual 176), 3) := by decide +kernel
theorem d229_57 : decode b229 57 = .ok ((.aload_n 0), 1) := by decide +kernel
theorem d229_58 : decode b229 58 = .ok ((.getfield 143), 3) := by decide +kernel
theorem d229_61 : decode b229 61 = .ok ((.ifCond .eq 4), 3) := by decide +kernel
theorem d229_64 : decode b229 64 = .ok (.return_, 1) := by decide +kernel
theorem d229_65 : decode b229 65 = .ok ((.aload_n 0), 1) := by decide +kernel
theorem d229_66 : decode b229 66 = .ok ((.iload_n 1), 1) := by decide +kernel
theorem d229_67 : decode b229 67 = .ok (.i2l, 1) := by decide +kernel
theorem d229_68 : decode b229 68 = .ok ((.ldc2_w 423), 3) := by decide +kernel
theorem d229_71 : decode b229 71 = .ok (.lmul, 1) := by decide +kernel
theorem d229_72 : decode b229 72 = .ok ((.iload_n 2), 1) := by decide +kernel
theorem d229_73 : decode b229 73 = .ok (.i2l, 1) := by decide +kernel
theorem d229_74 : decode b229 74 = .ok ((.ldc2_w 425), 3) := by decide +kernel
theorem d229_77 : decode b229 77 = .ok (.lmul, 1) := by decide +kernel
theorem d229_78 : decode b229 78 = .ok (.ladd, 1) := by decide +kernel
theorem d229_79 : decode b229 79 = .ok ((.iload_n 3), 1) := by decide +kernel
theorem d229_80 : decode b229 80 = .ok (.i2l, 1) := by decide +kernel
theorem d229_81 : decode b229 81 = .ok (.ladd, 1) := by decide +kernel
theorem d229_82 : decode b229 82 = .ok ((.ldc2_w 427), 3) := by decide +kernel
theorem d229_85 : decode b229 85 = .ok (.lrem, 1) := by decide +kernel
theorem d229_86 : decode b229 86 = .ok (.l2d, 1) := by decide +kernel
theorem d229_87 : decode b229 87 = .ok ((.ldc2_w 429), 3) := by decide +kernel
theorem d229_90 : decode b229 90 = .ok (.ddiv, 1) := by decide +kernel
theorem d229_91 : decode b229 91 = .ok ((.invokevirtual 305), 3) := by decide +kernel
theorem d229_94 : decode b229 94 = .ok (.return_, 1) := by decide +kernel
abbrev b174 : ByteArray := prog_13_method_84_code
theorem d174_0 : decode b174 0 = .ok ((.dload_n 0), 1) := by decide +kernel
theorem d174_1 : decode b174 1 = .ok ((.invokestatic 198), 3) := by decide +kernel
theorem d174_4 : decode b174 4 = .ok ((.dstore_n 2), 1) := by decide +kernel
theorem d174_5 : decode b174 5 = .ok ((.dload_n 2), 1) := by decide +kernel
theorem d174_6 : decode b174 6 = .ok ((.dload_n 0), 1) := by decide +kernel
theorem d174_7 : decode b174 7 = .ok ((.dcmp .l), 1) := by decide +kernel
theorem d174_8 : decode b174 8 = .ok ((.ifCond .le 9), 3) := by decide +kernel
theorem d174_11 : decode b174 11 = .ok ((.dload_n 2), 1) := by decide +kernel
theorem d174_12 : decode b174 12 = .ok ((.dconst 1), 1) := by decide +kernel
theorem d174_13 : decode b174 13 = .ok (.dsub, 1) := by decide +kernel
theorem d174_14 : decode b174 14 = .ok ((.goto 4), 3) := by decide +kernel
theorem d174_17 : decode b174 17 = .ok ((.dload_n 2), 1) := by decide +kernel
theorem d174_18 : decode b174 18 = .ok (.dreturn, 1) := by decide +kernel
abbrev b162 : ByteArray := prog_13_method_85_code
theorem d162_0 : decode b162 0 = .ok ((.aload_n 0), 1) := by decide +kernel
theorem d162_1 : decode b162 1 = .ok ((.invokevirtual 186), 3) := by decide +kernel
theorem d162_4 : decode b162 4 = .ok ((.invokestatic 402), 3) := by decide +kernel
theorem d162_7 : decode b162 7 = .ok ((.dstore_n 1), 1) := by decide +kernel
theorem d162_8 : decode b162 8 = .ok ((.aload_n 0), 1) := by decide +kernel
theorem d162_9 : decode b162 9 = .ok ((.getfield 143), 3) := by decide +kernel
theorem d162_12 : decode b162 12 = .ok ((.ifCond .ne 23), 3) := by decide +kernel
theorem d162_15 : decode b162 15 = .ok ((.dload_n 1), 1) := by decide +kernel
theorem d162_16 : decode b162 16 = .ok ((.dconst 0), 1) := by decide +kernel
theorem d162_17 : decode b162 17 = .ok ((.dcmp .g), 1) := by decide +kernel
theorem d162_18 : decode b162 18 = .ok ((.ifCond .lt 11), 3) := by decide +kernel
theorem d162_21 : decode b162 21 = .ok ((.dload_n 1), 1) := by decide +kernel
theorem d162_22 : decode b162 22 = .ok ((.ldc2_w 405), 3) := by decide +kernel
theorem d162_25 : decode b162 25 = .ok ((.dcmp .l), 1) := by decide +kernel
theorem d162_26 : decode b162 26 = .ok ((.ifCond .le 9), 3) := by decide +kernel
theorem d162_29 : decode b162 29 = .ok ((.aload_n 0), 1) := by decide +kernel
theorem d162_30 : decode b162 30 = .ok ((.bipush 6), 2) := by decide +kernel
theorem d162_32 : decode b162 32 = .ok ((.invokevirtual 176), 3) := by decide +kernel
theorem d162_35 : decode b162 35 = .ok ((.aload_n 0), 1) := by decide +kernel
theorem d162_36 : decode b162 36 = .ok ((.getfield 143), 3) := by decide +kernel
theorem d162_39 : decode b162 39 = .ok ((.ifCond .ne 8), 3) := by decide +kernel
theorem d162_42 : decode b162 42 = .ok ((.dload_n 1), 1) := by decide +kernel
theorem d162_43 : decode b162 43 = .ok (.d2i, 1) := by decide +kernel
theorem d162_44 : decode b162 44 = .ok ((.goto 4), 3) := by decide +kernel
theorem d162_47 : decode b162 47 = .ok ((.iconst 0), 1) := by decide +kernel
theorem d162_48 : decode b162 48 = .ok (.ireturn, 1) := by decide +kernel
abbrev b161 : ByteArray := prog_13_method_86_code
theorem d161_0 : decode b161 0 = .ok ((.aload_n 0), 1) := by decide +kernel
theorem d161_1 : decode b161 1 = .ok ((.iload_n 1), 1) := by decide +kernel
theorem d161_2 : decode b161 2 = .ok ((.invokevirtual 183), 3) := by decide +kernel
theorem d161_5 : decode b161 5 = .ok ((.aload_n 0), 1) := by decide +kernel
theorem d161_6 : decode b161 6 = .ok ((.invokevirtual 407), 3) := by decide +kernel
theorem d161_9 : decode b161 9 = .ok (.ireturn, 1) := by decide +kernel
abbrev b158 : ByteArray := prog_13_method_83_code
theorem d158_0 : decode b158 0 = .ok ((.aload_n 0), 1) := by decide +kernel
theorem d158_1 : decode b158 1 = .ok ((.sipush 1899), 3) := by decide +kernel
theorem d158_4 : decode b158 4 = .ok ((.putfield 393), 3) := by decide +kernel
theorem d158_7 : decode b158 7 = .ok ((.aload_n 0), 1) := by decide +kernel
theorem d158_8 : decode b158 8 = .ok ((.bipush 12), 2) := by decide +kernel
theorem d158_10 : decode b158 10 = .ok ((.putfield 396), 3) := by decide +kernel
theorem d158_13 : decode b158 13 = .ok ((.iload_n 1), 1) := by decide +kernel
theorem d158_14 : decode b158 14 = .ok ((.bipush 30), 2) := by decide +kernel
theorem d158_16 : decode b158 16 = .ok (.iadd, 1) := by decide +kernel
theorem d158_17 : decode b158 17 = .ok ((.istore_n 2), 1) := by decide +kernel
theorem d158_18 : decode b158 18 = .ok ((.aload_n 0), 1) := by decide +kernel
theorem d158_19 : decode b158 19 = .ok ((.getfield 396), 3) := by decide +kernel
theorem d158_22 : decode b158 22 = .ok ((.bipush 12), 2) := by decide +kernel
theorem d158_24 : decode b158 24 = .ok ((.if_icmp .ne 9), 3) := by decide +kernel
theorem d158_27 : decode b158 27 = .ok ((.iload_n 2), 1) := by decide +kernel
theorem d158_28 : decode b158 28 = .ok ((.bipush 31), 2) := by decide +kernel
theorem d158_30 : decode b158 30 = .ok ((.if_icmp .gt 34), 3) := by decide +kernel
theorem d158_33 : decode b158 33 = .ok ((.aload_n 0), 1) := by decide +kernel
theorem d158_34 : decode b158 34 = .ok ((.getfield 396), 3) := by decide +kernel
theorem d158_37 : decode b158 37 = .ok ((.iconst 1), 1) := by decide +kernel
theorem d158_38 : decode b158 38 = .ok ((.if_icmp .ne 80), 3) := by decide +kernel
theorem d158_41 : decode b158 41 = .ok ((.iload_n 2), 1) := by decide +kernel
theorem d158_42 : decode b158 42 = .ok ((.aload_n 0), 1) := by decide +kernel
theorem d158_43 : decode b158 43 = .ok ((.getfield 393), 3) := by decide +kernel
theorem d158_46 : decode b158 46 = .ok ((.invokestatic 377), 3) := by decide +kernel
theorem d158_49 : decode b158 49 = .ok ((.ifCond .eq 9), 3) := by decide +kernel
theorem d158_52 : decode b158 52 = .ok ((.sipush 366), 3) := by decide +kernel
theorem d158_55 : decode b158 55 = .ok ((.goto 6), 3) := by decide +kernel
theorem d158_58 : decode b158 58 = .ok ((.sipush 365), 3) := by decide +kernel
theorem d158_61 : decode b158 61 = .ok ((.if_icmp .le 57), 3) := by decide +kernel
theorem d158_64 : decode b158 64 = .ok ((.iload_n 2), 1) := by decide +kernel
theorem d158_65 : decode b158 65 = .ok ((.aload_n 0), 1) := by decide +kernel
theorem d158_66 : decode b158 66 = .ok ((.getfield 396), 3) := by decide +kernel
theorem d158_69 : decode b158 69 = .ok ((.bipush 12), 2) := by decide +kernel
theorem d158_71 : decode b158 71 = .ok ((.if_icmp .ne 8), 3) := by decide +kernel
theorem d158_74 : decode b158 74 = .ok ((.bipush 31), 2) := by decide +kernel
theorem d158_76 : decode b158 76 = .ok ((.goto 22), 3) := by decide +kernel
theorem d158_79 : decode b158 79 = .ok ((.aload_n 0), 1) := by decide +kernel
theorem d158_80 : decode b158 80 = .ok ((.getfield 393), 3) := by decide +kernel
theorem d158_83 : decode b158 83 = .ok ((.invokestatic 377), 3) := by decide +kernel
theorem d158_86 : decode b158 86 = .ok ((.ifCond .eq 9), 3) := by decide +kernel
theorem d158_89 : decode b158 89 = .ok ((.sipush 366), 3) := by decide +kernel
theorem d158_92 : decode b158 92 = .ok ((.goto 6), 3) := by decide +kernel
theorem d158_95 : decode b158 95 = .ok ((.sipush 365), 3) := by decide +kernel
theorem d158_98 : decode b158 98 = .ok (.isub, 1) := by decide +kernel
theorem d158_99 : decode b158 99 = .ok ((.istore_n 2), 1) := by decide +kernel
theorem d158_100 : decode b158 100 = .ok ((.aload_n 0), 1) := by decide +kernel
theorem d158_101 : decode b158 101 = .ok (.dup, 1) := by decide +kernel
theorem d158_102 : decode b158 102 = .ok ((.getfield 393), 3) := by decide +kernel
theorem d158_105 : decode b158 105 = .ok ((.iconst 1), 1) := by decide +kernel
theorem d158_106 : decode b158 106 = .ok (.iadd, 1) := by decide +kernel
theorem d158_107 : decode b158 107 = .ok ((.putfield 393), 3) := by decide +kernel
theorem d158_110 : decode b158 110 = .ok ((.aload_n 0), 1) := by decide +kernel
theorem d158_111 : decode b158 111 = .ok ((.iconst 1), 1) := by decide +kernel
theorem d158_112 : decode b158 112 = .ok ((.putfield 396), 3) := by decide +kernel
theorem d158_115 : decode b158 115 = .ok ((.goto (-97)), 3) := by decide +kernel
theorem d158_118 : decode b158 118 = .ok ((.iload_n 2), 1) := by decide +kernel
theorem d158_119 : decode b158 119 = .ok ((.aload_n 0), 1) := by decide +kernel
theorem d158_120 : decode b158 120 = .ok ((.getfield 393), 3) := by decide +kernel
theorem d158_123 : decode b158 123 = .ok ((.aload_n 0), 1) := by decide +kernel
theorem d158_124 : decode b158 124 = .ok ((.getfield 396), 3) := by decide +kernel
theorem d158_127 : decode b158 127 = .ok ((.invokestatic 388), 3) := by decide +kernel
theorem d158_130 : decode b158 130 = .ok ((.if_icmp .le 30), 3) := by decide +kernel
theorem d158_133 : decode b158 133 = .ok ((.iload_n 2), 1) := by decide +kernel
theorem d158_134 : decode b158 134 = .ok ((.aload_n 0), 1) := by decide +kernel
theorem d158_135 : decode b158 135 = .ok ((.getfield 393), 3) := by decide +kernel
theorem d158_138 : decode b158 138 = .ok ((.aload_n 0), 1) := by decide +kernel
theorem d158_139 : decode b158 139 = .ok ((.getfield 396), 3) := by decide +kernel
theorem d158_142 : decode b158 142 = .ok ((.invokestatic 388), 3) := by decide +kernel
theorem d158_145 : decode b158 145 = .ok (.isub, 1) := by decide +kernel
theorem d158_146 : decode b158 146 = .ok ((.istore_n 2), 1) := by decide +kernel
theorem d158_147 : decode b158 147 = .ok ((.aload_n 0), 1) := by decide +kernel
theorem d158_148 : decode b158 148 = .ok (.dup, 1) := by decide +kernel
theorem d158_149 : decode b158 149 = .ok ((.getfield 396), 3) := by decide +kernel
theorem d158_152 : decode b158 152 = .ok ((.iconst 1), 1) := by decide +kernel
theorem d158_153 : decode b158 153 = .ok (.iadd, 1) := by decide +kernel
theorem d158_154 : decode b158 154 = .ok ((.putfield 396), 3) := by decide +kernel
theorem d158_157 : decode b158 157 = .ok ((.goto (-39)), 3) := by decide +kernel
theorem d158_160 : decode b158 160 = .ok ((.aload_n 0), 1) := by decide +kernel
theorem d158_161 : decode b158 161 = .ok ((.iload_n 2), 1) := by decide +kernel
theorem d158_162 : decode b158 162 = .ok ((.putfield 399), 3) := by decide +kernel
theorem d158_165 : decode b158 165 = .ok (.return_, 1) := by decide +kernel
abbrev b159 : ByteArray := prog_13_method_90_code
theorem d159_0 : decode b159 0 = .ok ((.aload_n 0), 1) := by decide +kernel
theorem d159_1 : decode b159 1 = .ok ((.iconst 0), 1) := by decide +kernel
theorem d159_2 : decode b159 2 = .ok ((.invokevirtual 431), 3) := by decide +kernel
theorem d159_5 : decode b159 5 = .ok ((.istore_n 2), 1) := by decide +kernel
theorem d159_6 : decode b159 6 = .ok ((.aload_n 0), 1) := by decide +kernel
theorem d159_7 : decode b159 7 = .ok ((.getfield 143), 3) := by decide +kernel
theorem d159_10 : decode b159 10 = .ok ((.ifCond .eq 4), 3) := by decide +kernel
theorem d159_13 : decode b159 13 = .ok (.return_, 1) := by decide +kernel
theorem d159_14 : decode b159 14 = .ok ((.aload_n 0), 1) := by decide +kernel
theorem d159_15 : decode b159 15 = .ok ((.iload_n 2), 1) := by decide +kernel
theorem d159_16 : decode b159 16 = .ok ((.invokevirtual 434), 3) := by decide +kernel
theorem d159_19 : decode b159 19 = .ok ((.aload_n 0), 1) := by decide +kernel
theorem d159_20 : decode b159 20 = .ok ((.iload_n 1), 1) := by decide +kernel
theorem d159_21 : decode b159 21 = .ok ((.bipush 103), 2) := by decide +kernel
theorem d159_23 : decode b159 23 = .ok ((.if_icmp .ne 11), 3) := by decide +kernel
theorem d159_26 : decode b159 26 = .ok ((.aload_n 0), 1) := by decide +kernel
theorem d159_27 : decode b159 27 = .ok ((.getfield 393), 3) := by decide +kernel
theorem d159_30 : decode b159 30 = .ok (.i2d, 1) := by decide +kernel
theorem d159_31 : decode b159 31 = .ok ((.goto 22), 3) := by decide +kernel
theorem d159_34 : decode b159 34 = .ok ((.iload_n 1), 1) := by decide +kernel
theorem d159_35 : decode b159 35 = .ok ((.bipush 104), 2) := by decide +kernel
theorem d159_37 : decode b159 37 = .ok ((.if_icmp .ne 11), 3) := by decide +kernel
theorem d159_40 : decode b159 40 = .ok ((.aload_n 0), 1) := by decide +kernel
theorem d159_41 : decode b159 41 = .ok ((.getfield 396), 3) := by decide +kernel
theorem d159_44 : decode b159 44 = .ok (.i2d, 1) := by decide +kernel
theorem d159_45 : decode b159 45 = .ok ((.goto 8), 3) := by decide +kernel
theorem d159_48 : decode b159 48 = .ok ((.aload_n 0), 1) := by decide +kernel
theorem d159_49 : decode b159 49 = .ok ((.getfield 399), 3) := by decide +kernel
theorem d159_52 : decode b159 52 = .ok (.i2d, 1) := by decide +kernel
theorem d159_53 : decode b159 53 = .ok ((.invokevirtual 305), 3) := by decide +kernel
theorem d159_56 : decode b159 56 = .ok (.return_, 1) := by decide +kernel
abbrev b230 : ByteArray := prog_13_method_91_code
theorem d230_0 : decode b230 0 = .ok ((.aload_n 0), 1) := by decide +kernel
theorem d230_1 : decode b230 1 = .ok ((.iconst 0), 1) := by decide +kernel
theorem d230_2 : decode b230 2 = .ok ((.invokevirtual 183), 3) := by decide +kernel
theorem d230_5 : decode b230 5 = .ok ((.aload_n 0), 1) := by decide +kernel
theorem d230_6 : decode b230 6 = .ok ((.invokevirtual 186), 3) := by decide +kernel
theorem d230_9 : decode b230 9 = .ok ((.dstore_n 2), 1) := by decide +kernel
theorem d230_10 : decode b230 10 = .ok ((.aload_n 0), 1) := by decide +kernel
theorem d230_11 : decode b230 11 = .ok ((.invokevirtual 407), 3) := by decide +kernel
theorem d230_14 : decode b230 14 = .ok ((.istore 4), 2) := by decide +kernel
theorem d230_16 : decode b230 16 = .ok ((.aload_n 0), 1) := by decide +kernel
theorem d230_17 : decode b230 17 = .ok ((.getfield 143), 3) := by decide +kernel
theorem d230_20 : decode b230 20 = .ok ((.ifCond .eq 4), 3) := by decide +kernel
theorem d230_23 : decode b230 23 = .ok (.return_, 1) := by decide +kernel
theorem d230_24 : decode b230 24 = .ok ((.dload_n 2), 1) := by decide +kernel
theorem d230_25 : decode b230 25 = .ok ((.iload 4), 2) := by decide +kernel
theorem d230_27 : decode b230 27 = .ok (.i2d, 1) := by decide +kernel
theorem d230_28 : decode b230 28 = .ok (.dsub, 1) := by decide +kernel
theorem d230_29 : decode b230 29 = .ok ((.ldc2_w 429), 3) := by decide +kernel
theorem d230_32 : decode b230 32 = .ok (.dmul, 1) := by decide +kernel
theorem d230_33 : decode b230 33 = .ok ((.ldc2_w 231), 3) := by decide +kernel
theorem d230_36 : decode b230 36 = .ok (.dadd, 1) := by decide +kernel
theorem d230_37 : decode b230 37 = .ok (.d2l, 1) := by decide +kernel
theorem d230_38 : decode b230 38 = .ok (.l2i, 1) := by decide +kernel
theorem d230_39 : decode b230 39 = .ok ((.ldc_w 437), 3) := by decide +kernel
theorem d230_42 : decode b230 42 = .ok (.irem, 1) := by decide +kernel
theorem d230_43 : decode b230 43 = .ok ((.istore 5), 2) := by decide +kernel
theorem d230_45 : decode b230 45 = .ok ((.aload_n 0), 1) := by decide +kernel
theorem d230_46 : decode b230 46 = .ok ((.iload_n 1), 1) := by decide +kernel
theorem d230_47 : decode b230 47 = .ok ((.bipush 106), 2) := by decide +kernel
theorem d230_49 : decode b230 49 = .ok ((.if_icmp .ne 13), 3) := by decide +kernel
theorem d230_52 : decode b230 52 = .ok ((.iload 5), 2) := by decide +kernel
theorem d230_54 : decode b230 54 = .ok ((.sipush 3600), 3) := by decide +kernel
theorem d230_57 : decode b230 57 = .ok (.idiv, 1) := by decide +kernel
theorem d230_58 : decode b230 58 = .ok (.i2d, 1) := by decide +kernel
theorem d230_59 : decode b230 59 = .ok ((.goto 27), 3) := by decide +kernel
theorem d230_62 : decode b230 62 = .ok ((.iload_n 1), 1) := by decide +kernel
theorem d230_63 : decode b230 63 = .ok ((.bipush 107), 2) := by decide +kernel
theorem d230_65 : decode b230 65 = .ok ((.if_icmp .ne 15), 3) := by decide +kernel
theorem d230_68 : decode b230 68 = .ok ((.iload 5), 2) := by decide +kernel
theorem d230_70 : decode b230 70 = .ok ((.bipush 60), 2) := by decide +kernel
theorem d230_72 : decode b230 72 = .ok (.idiv, 1) := by decide +kernel
theorem d230_73 : decode b230 73 = .ok ((.bipush 60), 2) := by decide +kernel
theorem d230_75 : decode b230 75 = .ok (.irem, 1) := by decide +kernel
theorem d230_76 : decode b230 76 = .ok (.i2d, 1) := by decide +kernel
theorem d230_77 : decode b230 77 = .ok ((.goto 9), 3) := by decide +kernel
theorem d230_80 : decode b230 80 = .ok ((.iload 5), 2) := by decide +kernel
theorem d230_82 : decode b230 82 = .ok ((.bipush 60), 2) := by decide +kernel
theorem d230_84 : decode b230 84 = .ok (.irem, 1) := by decide +kernel
theorem d230_85 : decode b230 85 = .ok (.i2d, 1) := by decide +kernel
theorem d230_86 : decode b230 86 = .ok ((.invokevirtual 305), 3) := by decide +kernel
theorem d230_89 : decode b230 89 = .ok (.return_, 1) := by decide +kernel
abbrev b240 : ByteArray := prog_13_method_92_code
theorem d240_0 : decode b240 0 = .ok ((.aload_n 0), 1) := by decide +kernel
theorem d240_1 : decode b240 1 = .ok ((.iconst 0), 1) := by decide +kernel
theorem d240_2 : decode b240 2 = .ok ((.invokevirtual 431), 3) := by decide +kernel
theorem d240_5 : decode b240 5 = .ok ((.istore_n 1), 1) := by decide +kernel
theorem d240_6 : decode b240 6 = .ok ((.aload_n 0), 1) := by decide +kernel
theorem d240_7 : decode b240 7 = .ok ((.iconst 1), 1) := by decide +kernel
theorem d240_8 : decode b240 8 = .ok ((.iconst 1), 1) := by decide +kernel
theorem d240_9 : decode b240 9 = .ok ((.invokevirtual 274), 3) := by decide +kernel
theorem d240_12 : decode b240 12 = .ok ((.istore_n 2), 1) := by decide +kernel
theorem d240_13 : decode b240 13 = .ok ((.iload_n 2), 1) := by decide +kernel
theorem d240_14 : decode b240 14 = .ok ((.iconst 1), 1) := by decide +kernel
theorem d240_15 : decode b240 15 = .ok ((.if_icmp .lt 8), 3) := by decide +kernel
theorem d240_18 : decode b240 18 = .ok ((.iload_n 2), 1) := by decide +kernel
theorem d240_19 : decode b240 19 = .ok ((.iconst 3), 1) := by decide +kernel
theorem d240_20 : decode b240 20 = .ok ((.if_icmp .le 9), 3) := by decide +kernel
theorem d240_23 : decode b240 23 = .ok ((.aload_n 0), 1) := by decide +kernel
theorem d240_24 : decode b240 24 = .ok ((.bipush 6), 2) := by decide +kernel
theorem d240_26 : decode b240 26 = .ok ((.invokevirtual 176), 3) := by decide +kernel
theorem d240_29 : decode b240 29 = .ok ((.aload_n 0), 1) := by decide +kernel
theorem d240_30 : decode b240 30 = .ok ((.getfield 143), 3) := by decide +kernel
theorem d240_33 : decode b240 33 = .ok ((.ifCond .eq 4), 3) := by decide +kernel
theorem d240_36 : decode b240 36 = .ok (.return_, 1) := by decide +kernel
theorem d240_37 : decode b240 37 = .ok ((.iload_n 1), 1) := by decide +kernel
theorem d240_38 : decode b240 38 = .ok ((.bipush 6), 2) := by decide +kernel
theorem d240_40 : decode b240 40 = .ok (.iadd, 1) := by decide +kernel
theorem d240_41 : decode b240 41 = .ok ((.bipush 7), 2) := by decide +kernel
theorem d240_43 : decode b240 43 = .ok (.irem, 1) := by decide +kernel
theorem d240_44 : decode b240 44 = .ok ((.istore_n 3), 1) := by decide +kernel
theorem d240_45 : decode b240 45 = .ok ((.iload_n 1), 1) := by decide +kernel
theorem d240_46 : decode b240 46 = .ok ((.iconst 5), 1) := by decide +kernel
theorem d240_47 : decode b240 47 = .ok (.iadd, 1) := by decide +kernel
theorem d240_48 : decode b240 48 = .ok ((.bipush 7), 2) := by decide +kernel
theorem d240_50 : decode b240 50 = .ok (.irem, 1) := by decide +kernel
theorem d240_51 : decode b240 51 = .ok ((.istore 4), 2) := by decide +kernel
theorem d240_53 : decode b240 53 = .ok ((.aload_n 0), 1) := by decide +kernel
theorem d240_54 : decode b240 54 = .ok ((.iload_n 2), 1) := by decide +kernel
theorem d240_55 : decode b240 55 = .ok ((.iconst 1), 1) := by decide +kernel
theorem d240_56 : decode b240 56 = .ok ((.if_icmp .ne 10), 3) := by decide +kernel
theorem d240_59 : decode b240 59 = .ok ((.iload_n 3), 1) := by decide +kernel
theorem d240_60 : decode b240 60 = .ok ((.iconst 1), 1) := by decide +kernel
theorem d240_61 : decode b240 61 = .ok (.iadd, 1) := by decide +kernel
theorem d240_62 : decode b240 62 = .ok (.i2d, 1) := by decide +kernel
theorem d240_63 : decode b240 63 = .ok ((.goto 19), 3) := by decide +kernel
theorem d240_66 : decode b240 66 = .ok ((.iload_n 2), 1) := by decide +kernel
theorem d240_67 : decode b240 67 = .ok ((.iconst 2), 1) := by decide +kernel
theorem d240_68 : decode b240 68 = .ok ((.if_icmp .ne 11), 3) := by decide +kernel
theorem d240_71 : decode b240 71 = .ok ((.iload 4), 2) := by decide +kernel
theorem d240_73 : decode b240 73 = .ok ((.iconst 1), 1) := by decide +kernel
theorem d240_74 : decode b240 74 = .ok (.iadd, 1) := by decide +kernel
theorem d240_75 : decode b240 75 = .ok (.i2d, 1) := by decide +kernel
theorem d240_76 : decode b240 76 = .ok ((.goto 6), 3) := by decide +kernel
theorem d240_79 : decode b240 79 = .ok ((.iload 4), 2) := by decide +kernel
theorem d240_81 : decode b240 81 = .ok (.i2d, 1) := by decide +kernel
theorem d240_82 : decode b240 82 = .ok ((.invokevirtual 305), 3) := by decide +kernel
theorem d240_85 : decode b240 85 = .ok (.return_, 1) := by decide +kernel
def mo_join_123 (K19 : GS → Int32 → Int32 → Int32 → Option (GS)) (K30 : GS → Int32 → Int32 → Int32 → Int32 → Option (GS)) (st : GS) (x1 : Int32) (x2 : Int32) (x3 : Int32) (x4 : Int32) : Option (GS) := jn (x4 + 1) (fun v1 => K30 st x1 x2 x3 v1)
def mo_join_108 (K19 : GS → Int32 → Int32 → Int32 → Option (GS)) (K30 : GS → Int32 → Int32 → Int32 → Int32 → Option (GS)) (st : GS) (x1 : Int32) (x3 : Int32) (x4 : Int32) : Option (GS) := jc (f_mo_makeOf st 13 0 (st.1 0 27)) (fun q2 => mo_join_123 K19 K30  q2 x1 1 x3 x4)
def mo_join_91 (K19 : GS → Int32 → Int32 → Int32 → Option (GS)) (K30 : GS → Int32 → Int32 → Int32 → Int32 → Option (GS)) (st : GS) (x1 : Int32) (x2 : Int32) (x3 : Int32) (x4 : Int32) : Option (GS) := jb (x2 = 0) (mo_join_108 K19 K30  st x1 x3 x4) (jc (f_mo_makeOf st 14 0 (st.1 0 28)) (fun q3 => mo_join_108 K19 K30  q3 x1 x3 x4))
def mo_join_70 (K19 : GS → Int32 → Int32 → Int32 → Option (GS)) (K30 : GS → Int32 → Int32 → Int32 → Int32 → Option (GS)) (st : GS) (x1 : Int32) (x2 : Int32) (x3 : Int32) (x4 : Int32) (z1 : Int32) : Option (GS) := jc (f_mo_take st z1) (fun q4 => jc (f_mo_textTaken q4) (fun q5 => jb (x1 = 0) (mo_join_91 K19 K30  q5 x1 x2 x3 x4) (jb ((q5.1 0 27) = 0) (mo_join_123 K19 K30  q5 x1 x2 x3 x4) (mo_join_91 K19 K30  q5 x1 x2 x3 x4))))
def mo_join_30 (K19 : GS → Int32 → Int32 → Int32 → Option (GS)) : Nat → GS → Int32 → Int32 → Int32 → Int32 → Option (GS)
  | 0, _, _, _, _, _ => none
  | fu + 1, st, x1, x2, x3, x4 => jc (f_mo_rowsOf st x3) (fun q6 => jc (f_mo_columnsOf st x3) (fun q7 => jb ((q6 * q7) ≤ x4) (jn (x3 + 1) (fun v8 => K19 st x1 x2 v8)) (jc (f_mo_isOut st x3) (fun q9 => jb (q9 = 0) (jg (inb x3 30) (mo_join_70 K19 (mo_join_30 K19 fu)  st x1 x2 x3 x4 ((st.1 6 x3.toNatClampNeg) + x4))) (mo_join_70 K19 (mo_join_30 K19 fu)  st x1 x2 x3 x4 512)))))
def mo_join_19  : Nat → GS → Int32 → Int32 → Int32 → Option (GS)
  | 0, _, _, _, _ => none
  | fu + 1, st, x1, x2, x3 => jb ((st.1 0 7) ≤ x3) (jc (f_mo_answerText st) (fun q11 => some q11)) (mo_join_30 (mo_join_19 fu) FU st x1 x2 x3 0)
def f_mo_join (st : GS) : Option (GS) := jc (f_mo_textOf st 0) (fun q12 => jc (f_mo_toB q12) (fun q13 => jc (f_mo_truth1 q13 1) (fun q14 => mo_join_19 FU q14.2 q14.1 0 2)))
set_option maxHeartbeats 4000000 in
set_option maxRecDepth 100000 in
theorem c_mo_join (l : Launch) (ρ : RH) (ad : Nat → Nat) (H : Heap) (st : GS) (res : GS) (hW : GW ρ wM ad st H) (h : f_mo_join st = some res) : Met l y185 (wsOf y185 b185 5 none) ({ frames := 5, cells := 0, slots := 0, locals := 108 } : Room) (va_Pc [.ref (ad 0)] (KP ρ H)) (mQ (fun v H1 => v = none ∧ GW ρ wM ad res H1) (MA wM ad H.size)) 0 0 (MA wM ad H.size) := by
  refine m_ofW (own := "WordFunctionsModel") (plainFor_of_name rfl) rfl (Nat.le_of_ble_eq_true rfl) fun p e s m args below meth c ls hx hb hr hlk _ X hs hl => ?_
  subst hs
  have hS : va_S (MA wM ad s.heap.size) s.heap s.heap [] := va_S.rf
  have hl : lv_has ls 5 [(0, .ref (ad 0))] := hl
  have kc123 : ∀ (K19 : GS → Int32 → Int32 → Int32 → Option (GS)) (hK19 : ∀ (st : GS) (x1 : Int32) (x2 : Int32) (x3 : Int32) (H : Heap) (locs : List Loc) (ls : Array Slot), GW ρ wM ad st H → va_S (MA wM ad s.heap.size) s.heap H locs → lv_has ls 5 [(0, .ref (ad 0)), (1, .int x1), (2, .int x2), (3, .int x3)] → K19 st x1 x2 x3 = some res → W p l e ({ frames := 5, cells := 0, slots := 0, locals := 108 } : Room) s m args below meth c H locs 0 0 (MQ below (mQ (fun v H1 => v = none ∧ GW ρ wM ad res H1) (MA wM ad s.heap.size)) args s 0 0 (MA wM ad s.heap.size)) (F0 m 19 ls [])) (K30 : GS → Int32 → Int32 → Int32 → Int32 → Option (GS)) (hK30 : ∀ (st : GS) (x1 : Int32) (x2 : Int32) (x3 : Int32) (x4 : Int32) (H : Heap) (locs : List Loc) (ls : Array Slot), GW ρ wM ad st H → va_S (MA wM ad s.heap.size) s.heap H locs → lv_has ls 5 [(0, .ref (ad 0)), (1, .int x1), (2, .int x2), (3, .int x3), (4, .int x4)] → K30 st x1 x2 x3 x4 = some res → W p l e ({ frames := 5, cells := 0, slots := 0, locals := 108 } : Room) s m args below meth c H locs 0 0 (MQ below (mQ (fun v H1 => v = none ∧ GW ρ wM ad res H1) (MA wM ad s.heap.size)) args s 0 0 (MA wM ad s.heap.size)) (F0 m 30 ls [])), ∀ (st : GS) (x1 : Int32) (x2 : Int32) (x3 : Int32) (x4 : Int32) (H : Heap) (locs : List Loc) (ls : Array Slot), GW ρ wM ad st H → va_S (MA wM ad s.heap.size) s.heap H locs → lv_has ls 5 [(0, .ref (ad 0)), (1, .int x1), (2, .int x2), (3, .int x3), (4, .int x4)] → mo_join_123 K19 K30 st x1 x2 x3 x4 = some res → W p l e ({ frames := 5, cells := 0, slots := 0, locals := 108 } : Room) s m args below meth c H locs 0 0 (MQ below (mQ (fun v H1 => v = none ∧ GW ρ wM ad res H1) (MA wM ad s.heap.size)) args s 0 0 (MA wM ad s.heap.size)) (F0 m 123 ls []) := by
    intro K19 hK19 K30 hK30
    intro st x1 x2 x3 x4 H locs ls hW hS hl h
    unfold mo_join_123 at h
    obtain ⟨v1, ev1, h⟩ := jn_ex h
    refine lv_iinc (pc := 123) (v := v1) (lv' := [(4, .int v1), (0, .ref (ad 0)), (1, .int x1), (2, .int x2), (3, .int x3)]) hx hb d185_123 hl (k := 4) rfl (by rw [ev1]; rfl) (by decide) rfl (fun ls hl => ?_)
    refine lv_goto (pc := 126) (tgt := 30) hx hb d185_126 (by decide) ?_
    exact hK30 st x1 x2 x3 v1 _ _ _ hW hS (lv_sub hl [1, 2, 3, 4, 0] rfl) h
  have kc108 : ∀ (K19 : GS → Int32 → Int32 → Int32 → Option (GS)) (hK19 : ∀ (st : GS) (x1 : Int32) (x2 : Int32) (x3 : Int32) (H : Heap) (locs : List Loc) (ls : Array Slot), GW ρ wM ad st H → va_S (MA wM ad s.heap.size) s.heap H locs → lv_has ls 5 [(0, .ref (ad 0)), (1, .int x1), (2, .int x2), (3, .int x3)] → K19 st x1 x2 x3 = some res → W p l e ({ frames := 5, cells := 0, slots := 0, locals := 108 } : Room) s m args below meth c H locs 0 0 (MQ below (mQ (fun v H1 => v = none ∧ GW ρ wM ad res H1) (MA wM ad s.heap.size)) args s 0 0 (MA wM ad s.heap.size)) (F0 m 19 ls [])) (K30 : GS → Int32 → Int32 → Int32 → Int32 → Option (GS)) (hK30 : ∀ (st : GS) (x1 : Int32) (x2 : Int32) (x3 : Int32) (x4 : Int32) (H : Heap) (locs : List Loc) (ls : Array Slot), GW ρ wM ad st H → va_S (MA wM ad s.heap.size) s.heap H locs → lv_has ls 5 [(0, .ref (ad 0)), (1, .int x1), (2, .int x2), (3, .int x3), (4, .int x4)] → K30 st x1 x2 x3 x4 = some res → W p l e ({ frames := 5, cells := 0, slots := 0, locals := 108 } : Room) s m args below meth c H locs 0 0 (MQ below (mQ (fun v H1 => v = none ∧ GW ρ wM ad res H1) (MA wM ad s.heap.size)) args s 0 0 (MA wM ad s.heap.size)) (F0 m 30 ls [])), ∀ (st : GS) (x1 : Int32) (x3 : Int32) (x4 : Int32) (H : Heap) (locs : List Loc) (ls : Array Slot), GW ρ wM ad st H → va_S (MA wM ad s.heap.size) s.heap H locs → lv_has ls 5 [(0, .ref (ad 0)), (1, .int x1), (3, .int x3), (4, .int x4)] → mo_join_108 K19 K30 st x1 x3 x4 = some res → W p l e ({ frames := 5, cells := 0, slots := 0, locals := 108 } : Room) s m args below meth c H locs 0 0 (MQ below (mQ (fun v H1 => v = none ∧ GW ρ wM ad res H1) (MA wM ad s.heap.size)) args s 0 0 (MA wM ad s.heap.size)) (F0 m 108 ls []) := by
    intro K19 hK19 K30 hK30
    intro st x1 x3 x4 H locs ls hW hS hl h
    unfold mo_join_108 at h
    refine lv_aload_n (pc := 108) hx hb d185_108 rfl (lv_at hl 0 rfl) ?_
    refine lv_aload_n (pc := 109) hx hb d185_109 rfl (lv_at hl 0 rfl) ?_
    refine m_get (pc := 110) X hW 23 (v := .ref (ad 13)) wd1389 rfl rfl d185_110 ?_
    refine lv_iconst (pc := 113) (v := 0) hx hb d185_113 (by decide) ?_
    refine lv_aload_n (pc := 114) hx hb d185_114 rfl (lv_at hl 0 rfl) ?_
    refine m_get (pc := 115) X hW 27 (v := .int (st.1 0 27)) wd1393 rfl rfl d185_115 ?_
    obtain ⟨q2, hq2, h⟩ := jc_some h
    refine k_callV (pc := 118) (n := 3) X hS (c_mo_makeOf l ρ ad _ st 13 0 (st.1 0 27) q2 hW ⟨by decide, rfl⟩ hq2) wd1699 wd1696 wd1698 sl197 wd11 (by decide) ⟨rfl, rfl, by decide, by decide⟩ (m_recv X hW) (As := [.ref (ad 13), .int 0, .int (st.1 0 27)]) (rest := []) rfl rfl hl.1 (Nat.le_of_ble_eq_true rfl) d185_118 ⟨by decide, by decide⟩ (fun q hq => MA.mono hS.1 hq) (fun v H1 locs1 hv _ _ hSq2 => ?_)
    obtain ⟨rfl, hW⟩ := hv
    have hS := hSq2
    refine lv_iconst (pc := 121) (v := 1) hx hb d185_121 (by decide) ?_
    refine lv_istore_n (pc := 122) (lv' := [(2, .int 1), (0, .ref (ad 0)), (1, .int x1), (3, .int x3), (4, .int x4)]) hx hb d185_122 rfl hl (by decide) rfl (fun ls hl => ?_)
    exact kc123 _ hK19 _ hK30 q2 x1 1 x3 x4 _ _ _ hW hS (lv_sub hl [1, 2, 0, 3, 4] rfl) h
  have kc91 : ∀ (K19 : GS → Int32 → Int32 → Int32 → Option (GS)) (hK19 : ∀ (st : GS) (x1 : Int32) (x2 : Int32) (x3 : Int32) (H : Heap) (locs : List Loc) (ls : Array Slot), GW ρ wM ad st H → va_S (MA wM ad s.heap.size) s.heap H locs → lv_has ls 5 [(0, .ref (ad 0)), (1, .int x1), (2, .int x2), (3, .int x3)] → K19 st x1 x2 x3 = some res → W p l e ({ frames := 5, cells := 0, slots := 0, locals := 108 } : Room) s m args below meth c H locs 0 0 (MQ below (mQ (fun v H1 => v = none ∧ GW ρ wM ad res H1) (MA wM ad s.heap.size)) args s 0 0 (MA wM ad s.heap.size)) (F0 m 19 ls [])) (K30 : GS → Int32 → Int32 → Int32 → Int32 → Option (GS)) (hK30 : ∀ (st : GS) (x1 : Int32) (x2 : Int32) (x3 : Int32) (x4 : Int32) (H : Heap) (locs : List Loc) (ls : Array Slot), GW ρ wM ad st H → va_S (MA wM ad s.heap.size) s.heap H locs → lv_has ls 5 [(0, .ref (ad 0)), (1, .int x1), (2, .int x2), (3, .int x3), (4, .int x4)] → K30 st x1 x2 x3 x4 = some res → W p l e ({ frames := 5, cells := 0, slots := 0, locals := 108 } : Room) s m args below meth c H locs 0 0 (MQ below (mQ (fun v H1 => v = none ∧ GW ρ wM ad res H1) (MA wM ad s.heap.size)) args s 0 0 (MA wM ad s.heap.size)) (F0 m 30 ls [])), ∀ (st : GS) (x1 : Int32) (x2 : Int32) (x3 : Int32) (x4 : Int32) (H : Heap) (locs : List Loc) (ls : Array Slot), GW ρ wM ad st H → va_S (MA wM ad s.heap.size) s.heap H locs → lv_has ls 5 [(0, .ref (ad 0)), (1, .int x1), (2, .int x2), (3, .int x3), (4, .int x4)] → mo_join_91 K19 K30 st x1 x2 x3 x4 = some res → W p l e ({ frames := 5, cells := 0, slots := 0, locals := 108 } : Room) s m args below meth c H locs 0 0 (MQ below (mQ (fun v H1 => v = none ∧ GW ρ wM ad res H1) (MA wM ad s.heap.size)) args s 0 0 (MA wM ad s.heap.size)) (F0 m 91 ls []) := by
    intro K19 hK19 K30 hK30
    intro st x1 x2 x3 x4 H locs ls hW hS hl h
    unfold mo_join_91 at h
    refine lv_iload_n (pc := 91) hx hb d185_91 rfl (lv_at hl 2 rfl) ?_
    refine lv_if_eq (pc := 92) (tgt := 108) hx hb d185_92 (by decide) (fun c92 => ?_) (fun c92 => ?_)
    · have h := jb_t c92 h
      exact kc108 _ hK19 _ hK30 st x1 x3 x4 _ _ _ hW hS (lv_sub hl [0, 1, 3, 4] rfl) h
    · have h := jb_f c92 h
      refine lv_aload_n (pc := 95) hx hb d185_95 rfl (lv_at hl 0 rfl) ?_
      refine lv_aload_n (pc := 96) hx hb d185_96 rfl (lv_at hl 0 rfl) ?_
      refine m_get (pc := 97) X hW 24 (v := .ref (ad 14)) wd1390 rfl rfl d185_97 ?_
      refine lv_iconst (pc := 100) (v := 0) hx hb d185_100 (by decide) ?_
      refine lv_aload_n (pc := 101) hx hb d185_101 rfl (lv_at hl 0 rfl) ?_
      refine m_get (pc := 102) X hW 28 (v := .int (st.1 0 28)) wd1394 rfl rfl d185_102 ?_
      obtain ⟨q3, hq3, h⟩ := jc_some h
      refine k_callV (pc := 105) (n := 3) X hS (c_mo_makeOf l ρ ad _ st 14 0 (st.1 0 28) q3 hW ⟨by decide, rfl⟩ hq3) wd1699 wd1696 wd1698 sl197 wd11 (by decide) ⟨rfl, rfl, by decide, by decide⟩ (m_recv X hW) (As := [.ref (ad 14), .int 0, .int (st.1 0 28)]) (rest := []) rfl rfl hl.1 (Nat.le_of_ble_eq_true rfl) d185_105 ⟨by decide, by decide⟩ (fun q hq => MA.mono hS.1 hq) (fun v H1 locs1 hv _ _ hSq3 => ?_)
      obtain ⟨rfl, hW⟩ := hv
      have hS := hSq3
      exact kc108 _ hK19 _ hK30 q3 x1 x3 x4 _ _ _ hW hS (lv_sub hl [0, 1, 3, 4] rfl) h
  have kc70 : ∀ (K19 : GS → Int32 → Int32 → Int32 → Option (GS)) (hK19 : ∀ (st : GS) (x1 : Int32) (x2 : Int32) (x3 : Int32) (H : Heap) (locs : List Loc) (ls : Array Slot), GW ρ wM ad st H → va_S (MA wM ad s.heap.size) s.heap H locs → lv_has ls 5 [(0, .ref (ad 0)), (1, .int x1), (2, .int x2), (3, .int x3)] → K19 st x1 x2 x3 = some res → W p l e ({ frames := 5, cells := 0, slots := 0, locals := 108 } : Room) s m args below meth c H locs 0 0 (MQ below (mQ (fun v H1 => v = none ∧ GW ρ wM ad res H1) (MA wM ad s.heap.size)) args s 0 0 (MA wM ad s.heap.size)) (F0 m 19 ls [])) (K30 : GS → Int32 → Int32 → Int32 → Int32 → Option (GS)) (hK30 : ∀ (st : GS) (x1 : Int32) (x2 : Int32) (x3 : Int32) (x4 : Int32) (H : Heap) (locs : List Loc) (ls : Array Slot), GW ρ wM ad st H → va_S (MA wM ad s.heap.size) s.heap H locs → lv_has ls 5 [(0, .ref (ad 0)), (1, .int x1), (2, .int x2), (3, .int x3), (4, .int x4)] → K30 st x1 x2 x3 x4 = some res → W p l e ({ frames := 5, cells := 0, slots := 0, locals := 108 } : Room) s m args below meth c H locs 0 0 (MQ below (mQ (fun v H1 => v = none ∧ GW ρ wM ad res H1) (MA wM ad s.heap.size)) args s 0 0 (MA wM ad s.heap.size)) (F0 m 30 ls [])), ∀ (st : GS) (x1 : Int32) (x2 : Int32) (x3 : Int32) (x4 : Int32) (z1 : Int32) (H : Heap) (locs : List Loc) (ls : Array Slot), GW ρ wM ad st H → va_S (MA wM ad s.heap.size) s.heap H locs → lv_has ls 5 [(0, .ref (ad 0)), (1, .int x1), (2, .int x2), (3, .int x3), (4, .int x4)] → mo_join_70 K19 K30 st x1 x2 x3 x4 z1 = some res → W p l e ({ frames := 5, cells := 0, slots := 0, locals := 108 } : Room) s m args below meth c H locs 0 0 (MQ below (mQ (fun v H1 => v = none ∧ GW ρ wM ad res H1) (MA wM ad s.heap.size)) args s 0 0 (MA wM ad s.heap.size)) (F0 m 70 ls [.int z1, .ref (ad 0)]) := by
    intro K19 hK19 K30 hK30
    intro st x1 x2 x3 x4 z1 H locs ls hW hS hl h
    unfold mo_join_70 at h
    obtain ⟨q4, hq4, h⟩ := jc_some h
    refine k_callV (pc := 70) (n := 1) X hS (c_mo_take l ρ ad _ st z1 q4 hW hq4) wd1613 wd1610 wd1612 sl223 wd11 (by decide) ⟨rfl, rfl, by decide, by decide⟩ (m_recv X hW) (As := [.int z1]) (rest := []) rfl rfl hl.1 (Nat.le_of_ble_eq_true rfl) d185_70 ⟨by decide, by decide⟩ (fun q hq => MA.mono hS.1 hq) (fun v H1 locs1 hv _ _ hSq4 => ?_)
    obtain ⟨rfl, hW⟩ := hv
    have hS := hSq4
    refine lv_aload_n (pc := 73) hx hb d185_73 rfl (lv_at hl 0 rfl) ?_
    obtain ⟨q5, hq5, h⟩ := jc_some h
    refine k_callV (pc := 74) (n := 0) X hS (c_mo_textTaken l ρ ad _ q4 q5 hW hq5) wd1617 wd1614 wd1616 sl227 wd11 (by decide) ⟨rfl, rfl, by decide, by decide⟩ (m_recv X hW) (As := []) (rest := []) rfl rfl hl.1 (Nat.le_of_ble_eq_true rfl) d185_74 ⟨by decide, by decide⟩ (fun q hq => MA.mono hS.1 hq) (fun v H1 locs1 hv _ _ hSq5 => ?_)
    obtain ⟨rfl, hW⟩ := hv
    have hS := hSq5
    refine lv_iload_n (pc := 77) hx hb d185_77 rfl (lv_at hl 1 rfl) ?_
    refine lv_if_eq (pc := 78) (tgt := 91) hx hb d185_78 (by decide) (fun c78 => ?_) (fun c78 => ?_)
    · have h := jb_t c78 h
      exact kc91 _ hK19 _ hK30 q5 x1 x2 x3 x4 _ _ _ hW hS (lv_sub hl [0, 1, 2, 3, 4] rfl) h
    · have h := jb_f c78 h
      refine lv_aload_n (pc := 81) hx hb d185_81 rfl (lv_at hl 0 rfl) ?_
      refine m_get (pc := 82) X hW 27 (v := .int (q5.1 0 27)) wd1393 rfl rfl d185_82 ?_
      refine lv_if_ne (pc := 85) (tgt := 91) hx hb d185_85 (by decide) (fun c85 => ?_) (fun c85 => ?_)
      · have h := jb_f c85 h
        exact kc91 _ hK19 _ hK30 q5 x1 x2 x3 x4 _ _ _ hW hS (lv_sub hl [0, 1, 2, 3, 4] rfl) h
      · have h := jb_t c85 h
        refine lv_goto (pc := 88) (tgt := 123) hx hb d185_88 (by decide) ?_
        exact kc123 _ hK19 _ hK30 q5 x1 x2 x3 x4 _ _ _ hW hS (lv_sub hl [0, 1, 2, 3, 4] rfl) h
  have kc30 : ∀ (K19 : GS → Int32 → Int32 → Int32 → Option (GS)) (hK19 : ∀ (st : GS) (x1 : Int32) (x2 : Int32) (x3 : Int32) (H : Heap) (locs : List Loc) (ls : Array Slot), GW ρ wM ad st H → va_S (MA wM ad s.heap.size) s.heap H locs → lv_has ls 5 [(0, .ref (ad 0)), (1, .int x1), (2, .int x2), (3, .int x3)] → K19 st x1 x2 x3 = some res → W p l e ({ frames := 5, cells := 0, slots := 0, locals := 108 } : Room) s m args below meth c H locs 0 0 (MQ below (mQ (fun v H1 => v = none ∧ GW ρ wM ad res H1) (MA wM ad s.heap.size)) args s 0 0 (MA wM ad s.heap.size)) (F0 m 19 ls [])) (fu : Nat), ∀ (st : GS) (x1 : Int32) (x2 : Int32) (x3 : Int32) (x4 : Int32) (H : Heap) (locs : List Loc) (ls : Array Slot), GW ρ wM ad st H → va_S (MA wM ad s.heap.size) s.heap H locs → lv_has ls 5 [(0, .ref (ad 0)), (1, .int x1), (2, .int x2), (3, .int x3), (4, .int x4)] → mo_join_30 K19 fu st x1 x2 x3 x4 = some res → W p l e ({ frames := 5, cells := 0, slots := 0, locals := 108 } : Room) s m args below meth c H locs 0 0 (MQ below (mQ (fun v H1 => v = none ∧ GW ρ wM ad res H1) (MA wM ad s.heap.size)) args s 0 0 (MA wM ad s.heap.size)) (F0 m 30 ls []) := by
    intro K19 hK19 fu
    induction fu with
    | zero => intro st x1 x2 x3 x4 H locs ls hW hS hl h; cases h
    | succ fu hK30 =>
      intro st x1 x2 x3 x4 H locs ls hW hS hl h
      unfold mo_join_30 at h
      refine lv_iload (pc := 30) hx hb d185_30 (lv_at hl 4 rfl) ?_
      refine lv_aload_n (pc := 32) hx hb d185_32 rfl (lv_at hl 0 rfl) ?_
      refine lv_iload_n (pc := 33) hx hb d185_33 rfl (lv_at hl 3 rfl) ?_
      obtain ⟨q6, hq6, h⟩ := jc_some h
      refine k_callV (pc := 34) (n := 1) X hS (c_mo_rowsOf l ρ ad _ st x3 q6 hW hq6) wd1772 wd1769 wd1771 sl215 wd11 (by decide) ⟨rfl, rfl, by decide, by decide⟩ (m_recv X hW) (As := [.int x3]) (rest := [.int x4]) rfl rfl hl.1 (Nat.le_of_ble_eq_true rfl) d185_34 ⟨by decide, by decide⟩ (fun q hq => False.elim hq) (fun v H1 locs1 hv _ _ hSq6 => ?_)
      obtain ⟨rfl, rfl⟩ := hv
      have hS := hSq6
      refine lv_aload_n (pc := 37) hx hb d185_37 rfl (lv_at hl 0 rfl) ?_
      refine lv_iload_n (pc := 38) hx hb d185_38 rfl (lv_at hl 3 rfl) ?_
      obtain ⟨q7, hq7, h⟩ := jc_some h
      refine k_callV (pc := 39) (n := 1) X hS (c_mo_columnsOf l ρ ad _ st x3 q7 hW hq7) wd1776 wd1773 wd1775 sl154 wd11 (by decide) ⟨rfl, rfl, by decide, by decide⟩ (m_recv X hW) (As := [.int x3]) (rest := [.int q6, .int x4]) rfl rfl hl.1 (Nat.le_of_ble_eq_true rfl) d185_39 ⟨by decide, by decide⟩ (fun q hq => False.elim hq) (fun v H1 locs1 hv _ _ hSq7 => ?_)
      obtain ⟨rfl, rfl⟩ := hv
      have hS := hSq7
      refine lv_imul (pc := 42) hx hb d185_42 ?_
      refine lv_icmp_ge (pc := 43) (tgt := 129) hx hb d185_43 (by decide) (fun c43 => ?_) (fun c43 => ?_)
      · have h := jb_t c43 h
        obtain ⟨v8, ev8, h⟩ := jn_ex h
        refine lv_iinc (pc := 129) (v := v8) (lv' := [(3, .int v8), (0, .ref (ad 0)), (1, .int x1), (2, .int x2), (4, .int x4)]) hx hb d185_129 hl (k := 3) rfl (by rw [ev8]; rfl) (by decide) rfl (fun ls hl => ?_)
        refine lv_goto (pc := 132) (tgt := 19) hx hb d185_132 (by decide) ?_
        exact hK19 st x1 x2 v8 _ _ _ hW hS (lv_sub hl [1, 2, 3, 0] rfl) h
      · have h := jb_f c43 h
        refine lv_aload_n (pc := 46) hx hb d185_46 rfl (lv_at hl 0 rfl) ?_
        refine lv_aload_n (pc := 47) hx hb d185_47 rfl (lv_at hl 0 rfl) ?_
        refine lv_iload_n (pc := 48) hx hb d185_48 rfl (lv_at hl 3 rfl) ?_
        obtain ⟨q9, hq9, h⟩ := jc_some h
        refine k_callV (pc := 49) (n := 1) X hS (c_mo_isOut l ρ ad _ st x3 q9 hW hq9) wd1609 wd1606 wd1608 sl183 wd11 (by decide) ⟨rfl, rfl, by decide, by decide⟩ (m_recv X hW) (As := [.int x3]) (rest := [.ref (ad 0)]) rfl rfl hl.1 (Nat.le_of_ble_eq_true rfl) d185_49 ⟨by decide, by decide⟩ (fun q hq => False.elim hq) (fun v H1 locs1 hv _ _ hSq9 => ?_)
        obtain ⟨rfl, rfl⟩ := hv
        have hS := hSq9
        refine lv_if_eq (pc := 52) (tgt := 61) hx hb d185_52 (by decide) (fun c52 => ?_) (fun c52 => ?_)
        · have h := jb_t c52 h
          refine lv_aload_n (pc := 61) hx hb d185_61 rfl (lv_at hl 0 rfl) ?_
          refine m_get (pc := 62) X hW 11 (v := .ref (ad 6)) wd1377 rfl rfl d185_62 ?_
          refine lv_iload_n (pc := 65) hx hb d185_65 rfl (lv_at hl 3 rfl) ?_
          obtain ⟨g10, h⟩ := jg_some h
          refine r_iald (pc := 66) X hW 6 (by decide) rfl (inb_in g10) d185_66 ?_
          refine lv_iload (pc := 67) hx hb d185_67 (lv_at hl 4 rfl) ?_
          refine lv_iadd (pc := 69) hx hb d185_69 ?_
          exact kc70 _ hK19 _ hK30 st x1 x2 x3 x4 ((st.1 6 x3.toNatClampNeg) + x4) _ _ _ hW hS (lv_sub hl [0, 1, 2, 3, 4] rfl) h
        · have h := jb_f c52 h
          refine lv_sipush (pc := 55) (v := 512) hx hb d185_55 (by decide) ?_
          refine lv_goto (pc := 58) (tgt := 70) hx hb d185_58 (by decide) ?_
          exact kc70 _ hK19 _ hK30 st x1 x2 x3 x4 512 _ _ _ hW hS (lv_sub hl [0, 1, 2, 3, 4] rfl) h
  have kc19 : ∀ (fu : Nat), ∀ (st : GS) (x1 : Int32) (x2 : Int32) (x3 : Int32) (H : Heap) (locs : List Loc) (ls : Array Slot), GW ρ wM ad st H → va_S (MA wM ad s.heap.size) s.heap H locs → lv_has ls 5 [(0, .ref (ad 0)), (1, .int x1), (2, .int x2), (3, .int x3)] → mo_join_19 fu st x1 x2 x3 = some res → W p l e ({ frames := 5, cells := 0, slots := 0, locals := 108 } : Room) s m args below meth c H locs 0 0 (MQ below (mQ (fun v H1 => v = none ∧ GW ρ wM ad res H1) (MA wM ad s.heap.size)) args s 0 0 (MA wM ad s.heap.size)) (F0 m 19 ls []) := by
    intro  fu
    induction fu with
    | zero => intro st x1 x2 x3 H locs ls hW hS hl h; cases h
    | succ fu hK19 =>
      intro st x1 x2 x3 H locs ls hW hS hl h
      unfold mo_join_19 at h
      refine lv_iload_n (pc := 19) hx hb d185_19 rfl (lv_at hl 3 rfl) ?_
      refine lv_aload_n (pc := 20) hx hb d185_20 rfl (lv_at hl 0 rfl) ?_
      refine m_get (pc := 21) X hW 7 (v := .int (st.1 0 7)) wd1373 rfl rfl d185_21 ?_
      refine lv_icmp_ge (pc := 24) (tgt := 135) hx hb d185_24 (by decide) (fun c24 => ?_) (fun c24 => ?_)
      · have h := jb_t c24 h
        refine lv_aload_n (pc := 135) hx hb d185_135 rfl (lv_at hl 0 rfl) ?_
        obtain ⟨q11, hq11, h⟩ := jc_some h
        refine k_callV (pc := 136) (n := 0) X hS (c_mo_answerText l ρ ad _ st q11 hW hq11) wd1707 wd1704 wd1706 sl144 wd11 (by decide) ⟨rfl, rfl, by decide, by decide⟩ (m_recv X hW) (As := []) (rest := []) rfl rfl hl.1 (Nat.le_of_ble_eq_true rfl) d185_136 ⟨by decide, by decide⟩ (fun q hq => MA.mono hS.1 hq) (fun v H1 locs1 hv _ _ hSq11 => ?_)
        obtain ⟨rfl, hW⟩ := hv
        have hS := hSq11
        obtain rfl := Option.some.inj h
        exact m_vret (pc := 139) hx hb hr hlk hS ⟨rfl, hW⟩ (by decide) (by decide) d185_139
      · have h := jb_f c24 h
        refine lv_iconst (pc := 27) (v := 0) hx hb d185_27 (by decide) ?_
        refine lv_istore (pc := 28) (lv' := [(4, .int 0), (0, .ref (ad 0)), (1, .int x1), (2, .int x2), (3, .int x3)]) hx hb d185_28 hl (by decide) rfl (fun ls hl => ?_)
        exact kc30 _ hK19 FU st x1 x2 x3 0 _ _ _ hW hS (lv_sub hl [1, 2, 3, 4, 0] rfl) h
  unfold f_mo_join at h
  refine lv_aload_n (pc := 0) hx hb d185_0 rfl (lv_at hl 0 rfl) ?_
  refine lv_iconst (pc := 1) (v := 0) hx hb d185_1 (by decide) ?_
  obtain ⟨q12, hq12, h⟩ := jc_some h
  refine k_callV (pc := 2) (n := 1) X hS (c_mo_textOf l ρ ad _ st 0 q12 hW hq12) wd1597 wd1594 wd1596 sl226 wd11 (by decide) ⟨rfl, rfl, by decide, by decide⟩ (m_recv X hW) (As := [.int 0]) (rest := []) rfl rfl hl.1 (Nat.le_of_ble_eq_true rfl) d185_2 ⟨by decide, by decide⟩ (fun q hq => MA.mono hS.1 hq) (fun v H1 locs1 hv _ _ hSq12 => ?_)
  obtain ⟨rfl, hW⟩ := hv
  have hS := hSq12
  refine lv_aload_n (pc := 5) hx hb d185_5 rfl (lv_at hl 0 rfl) ?_
  obtain ⟨q13, hq13, h⟩ := jc_some h
  refine k_callV (pc := 6) (n := 0) X hS (c_mo_toB l ρ ad _ q12 q13 hW hq13) wd1659 wd1656 wd1658 sl231 wd11 (by decide) ⟨rfl, rfl, by decide, by decide⟩ (m_recv X hW) (As := []) (rest := []) rfl rfl hl.1 (Nat.le_of_ble_eq_true rfl) d185_6 ⟨by decide, by decide⟩ (fun q hq => MA.mono hS.1 hq) (fun v H1 locs1 hv _ _ hSq13 => ?_)
  obtain ⟨rfl, hW⟩ := hv
  have hS := hSq13
  refine lv_aload_n (pc := 9) hx hb d185_9 rfl (lv_at hl 0 rfl) ?_
  refine lv_iconst (pc := 10) (v := 1) hx hb d185_10 (by decide) ?_
  obtain ⟨q14, hq14, h⟩ := jc_some h
  refine k_callV (pc := 11) (n := 1) X hS (c_mo_truth1 l ρ ad _ q13 1 q14 hW hq14) wd1768 wd1765 wd1767 sl234 wd11 (by decide) ⟨rfl, rfl, by decide, by decide⟩ (m_recv X hW) (As := [.int 1]) (rest := []) rfl rfl hl.1 (Nat.le_of_ble_eq_true rfl) d185_11 ⟨by decide, by decide⟩ (fun q hq => MA.mono hS.1 hq) (fun v H1 locs1 hv _ _ hSq14 => ?_)
  obtain ⟨rfl, hW⟩ := hv
  have hS := hSq14
  refine lv_istore_n (pc := 14) (lv' := [(1, .int q14.1), (0, .ref (ad 0))]) hx hb d185_14 rfl hl (by decide) rfl (fun ls hl => ?_)
  refine lv_iconst (pc := 15) (v := 0) hx hb d185_15 (by decide) ?_
  refine lv_istore_n (pc := 16) (lv' := [(2, .int 0), (1, .int q14.1), (0, .ref (ad 0))]) hx hb d185_16 rfl hl (by decide) rfl (fun ls hl => ?_)
  refine lv_iconst (pc := 17) (v := 2) hx hb d185_17 (by decide) ?_
  refine lv_istore_n (pc := 18) (lv' := [(3, .int 2), (2, .int 0), (1, .int q14.1), (0, .ref (ad 0))]) hx hb d185_18 rfl hl (by decide) rfl (fun ls hl => ?_)
  exact kc19  FU q14.2 q14.1 0 2 _ _ _ hW hS (lv_sub hl [3, 2, 1, 0] rfl) h
def mo_exact_55  (st : GS) (z1 : Int32) : Option (GS) := jc (f_mo_answerTruth st z1) (fun q1 => some q1)
def mo_exact_54  (st : GS)  : Option (GS) := mo_exact_55  st 0
def f_mo_exact (st : GS) : Option (GS) := jc (f_mo_textOf st 0) (fun q2 => jc (f_mo_toB q2) (fun q3 => jc (f_mo_textOf q3 1) (fun q4 => jb ((q4.1 0 27) = (q4.1 0 28)) (jc (f_mo_stands q4 14 (q4.1 0 28) 13 (q4.1 0 27) 0) (fun q5 => jb (q5 = 0) (mo_exact_54  q4) (mo_exact_55  q4 1))) (mo_exact_54  q4))))
set_option maxHeartbeats 4000000 in
set_option maxRecDepth 100000 in
theorem c_mo_exact (l : Launch) (ρ : RH) (ad : Nat → Nat) (H : Heap) (st : GS) (res : GS) (hW : GW ρ wM ad st H) (h : f_mo_exact st = some res) : Met l y169 (wsOf y169 b169 1 none) ({ frames := 4, cells := 0, slots := 0, locals := 92 } : Room) (va_Pc [.ref (ad 0)] (KP ρ H)) (mQ (fun v H1 => v = none ∧ GW ρ wM ad res H1) (MA wM ad H.size)) 0 0 (MA wM ad H.size) := by
  refine m_ofW (own := "WordFunctionsModel") (plainFor_of_name rfl) rfl (Nat.le_of_ble_eq_true rfl) fun p e s m args below meth c ls hx hb hr hlk _ X hs hl => ?_
  subst hs
  have hS : va_S (MA wM ad s.heap.size) s.heap s.heap [] := va_S.rf
  have hl : lv_has ls 1 [(0, .ref (ad 0))] := hl
  have kc55 : ∀ (st : GS) (z1 : Int32) (H : Heap) (locs : List Loc) (ls : Array Slot), GW ρ wM ad st H → va_S (MA wM ad s.heap.size) s.heap H locs → lv_has ls 1 [] → mo_exact_55 st z1 = some res → W p l e ({ frames := 4, cells := 0, slots := 0, locals := 92 } : Room) s m args below meth c H locs 0 0 (MQ below (mQ (fun v H1 => v = none ∧ GW ρ wM ad res H1) (MA wM ad s.heap.size)) args s 0 0 (MA wM ad s.heap.size)) (F0 m 55 ls [.int z1, .ref (ad 0)]) := by
    intro st z1 H locs ls hW hS hl h
    unfold mo_exact_55 at h
    obtain ⟨q1, hq1, h⟩ := jc_some h
    refine k_callV (pc := 55) (n := 1) X hS (c_mo_answerTruth l ρ ad _ st z1 q1 hW hq1) wd1784 wd1781 wd1783 sl145 wd11 (by decide) ⟨rfl, rfl, by decide, by decide⟩ (m_recv X hW) (As := [.int z1]) (rest := []) rfl rfl hl.1 (Nat.le_of_ble_eq_true rfl) d169_55 ⟨by decide, by decide⟩ (fun q hq => MA.mono hS.1 hq) (fun v H1 locs1 hv _ _ hSq1 => ?_)
    obtain ⟨rfl, hW⟩ := hv
    have hS := hSq1
    obtain rfl := Option.some.inj h
    exact m_vret (pc := 58) hx hb hr hlk hS ⟨rfl, hW⟩ (by decide) (by decide) d169_58
  have kc54 : ∀ (st : GS)  (H : Heap) (locs : List Loc) (ls : Array Slot), GW ρ wM ad st H → va_S (MA wM ad s.heap.size) s.heap H locs → lv_has ls 1 [] → mo_exact_54 st = some res → W p l e ({ frames := 4, cells := 0, slots := 0, locals := 92 } : Room) s m args below meth c H locs 0 0 (MQ below (mQ (fun v H1 => v = none ∧ GW ρ wM ad res H1) (MA wM ad s.heap.size)) args s 0 0 (MA wM ad s.heap.size)) (F0 m 54 ls [.ref (ad 0)]) := by
    intro st  H locs ls hW hS hl h
    unfold mo_exact_54 at h
    refine lv_iconst (pc := 54) (v := 0) hx hb d169_54 (by decide) ?_
    exact kc55  st 0 _ _ _ hW hS (lv_sub hl [] rfl) h
  unfold f_mo_exact at h
  refine lv_aload_n (pc := 0) hx hb d169_0 rfl (lv_at hl 0 rfl) ?_
  refine lv_iconst (pc := 1) (v := 0) hx hb d169_1 (by decide) ?_
  obtain ⟨q2, hq2, h⟩ := jc_some h
  refine k_callV (pc := 2) (n := 1) X hS (c_mo_textOf l ρ ad _ st 0 q2 hW hq2) wd1597 wd1594 wd1596 sl226 wd11 (by decide) ⟨rfl, rfl, by decide, by decide⟩ (m_recv X hW) (As := [.int 0]) (rest := []) rfl rfl hl.1 (Nat.le_of_ble_eq_true rfl) d169_2 ⟨by decide, by decide⟩ (fun q hq => MA.mono hS.1 hq) (fun v H1 locs1 hv _ _ hSq2 => ?_)
  obtain ⟨rfl, hW⟩ := hv
  have hS := hSq2
  refine lv_aload_n (pc := 5) hx hb d169_5 rfl (lv_at hl 0 rfl) ?_
  obtain ⟨q3, hq3, h⟩ := jc_some h
  refine k_callV (pc := 6) (n := 0) X hS (c_mo_toB l ρ ad _ q2 q3 hW hq3) wd1659 wd1656 wd1658 sl231 wd11 (by decide) ⟨rfl, rfl, by decide, by decide⟩ (m_recv X hW) (As := []) (rest := []) rfl rfl hl.1 (Nat.le_of_ble_eq_true rfl) d169_6 ⟨by decide, by decide⟩ (fun q hq => MA.mono hS.1 hq) (fun v H1 locs1 hv _ _ hSq3 => ?_)
  obtain ⟨rfl, hW⟩ := hv
  have hS := hSq3
  refine lv_aload_n (pc := 9) hx hb d169_9 rfl (lv_at hl 0 rfl) ?_
  refine lv_iconst (pc := 10) (v := 1) hx hb d169_10 (by decide) ?_
  obtain ⟨q4, hq4, h⟩ := jc_some h
  refine k_callV (pc := 11) (n := 1) X hS (c_mo_textOf l ρ ad _ q3 1 q4 hW hq4) wd1597 wd1594 wd1596 sl226 wd11 (by decide) ⟨rfl, rfl, by decide, by decide⟩ (m_recv X hW) (As := [.int 1]) (rest := []) rfl rfl hl.1 (Nat.le_of_ble_eq_true rfl) d169_11 ⟨by decide, by decide⟩ (fun q hq => MA.mono hS.1 hq) (fun v H1 locs1 hv _ _ hSq4 => ?_)
  obtain ⟨rfl, hW⟩ := hv
  have hS := hSq4
  refine lv_aload_n (pc := 14) hx hb d169_14 rfl (lv_at hl 0 rfl) ?_
  refine lv_aload_n (pc := 15) hx hb d169_15 rfl (lv_at hl 0 rfl) ?_
  refine m_get (pc := 16) X hW 27 (v := .int (q4.1 0 27)) wd1393 rfl rfl d169_16 ?_
  refine lv_aload_n (pc := 19) hx hb d169_19 rfl (lv_at hl 0 rfl) ?_
  refine m_get (pc := 20) X hW 28 (v := .int (q4.1 0 28)) wd1394 rfl rfl d169_20 ?_
  refine lv_icmp_ne (pc := 23) (tgt := 54) hx hb d169_23 (by decide) (fun c23 => ?_) (fun c23 => ?_)
  · have h := jb_f c23 h
    exact kc54  q4 _ _ _ hW hS (lv_sub hl [] rfl) h
  · have h := jb_t c23 h
    refine lv_aload_n (pc := 26) hx hb d169_26 rfl (lv_at hl 0 rfl) ?_
    refine lv_aload_n (pc := 27) hx hb d169_27 rfl (lv_at hl 0 rfl) ?_
    refine m_get (pc := 28) X hW 24 (v := .ref (ad 14)) wd1390 rfl rfl d169_28 ?_
    refine lv_aload_n (pc := 31) hx hb d169_31 rfl (lv_at hl 0 rfl) ?_
    refine m_get (pc := 32) X hW 28 (v := .int (q4.1 0 28)) wd1394 rfl rfl d169_32 ?_
    refine lv_aload_n (pc := 35) hx hb d169_35 rfl (lv_at hl 0 rfl) ?_
    refine m_get (pc := 36) X hW 23 (v := .ref (ad 13)) wd1389 rfl rfl d169_36 ?_
    refine lv_aload_n (pc := 39) hx hb d169_39 rfl (lv_at hl 0 rfl) ?_
    refine m_get (pc := 40) X hW 27 (v := .int (q4.1 0 27)) wd1393 rfl rfl d169_40 ?_
    refine lv_iconst (pc := 43) (v := 0) hx hb d169_43 (by decide) ?_
    obtain ⟨q5, hq5, h⟩ := jc_some h
    refine k_callV (pc := 44) (n := 5) X hS (c_mo_stands l ρ ad _ q4 14 (q4.1 0 28) 13 (q4.1 0 27) 0 q5 hW ⟨by decide, rfl⟩ ⟨by decide, rfl⟩ hq5) wd1733 wd1730 wd1732 sl221 wd11 (by decide) ⟨rfl, rfl, by decide, by decide⟩ (m_recv X hW) (As := [.ref (ad 14), .int (q4.1 0 28), .ref (ad 13), .int (q4.1 0 27), .int 0]) (rest := [.ref (ad 0)]) rfl rfl hl.1 (Nat.le_of_ble_eq_true rfl) d169_44 ⟨by decide, by decide⟩ (fun q hq => False.elim hq) (fun v H1 locs1 hv _ _ hSq5 => ?_)
    obtain ⟨rfl, rfl⟩ := hv
    have hS := hSq5
    refine lv_if_eq (pc := 47) (tgt := 54) hx hb d169_47 (by decide) (fun c47 => ?_) (fun c47 => ?_)
    · have h := jb_t c47 h
      exact kc54  q4 _ _ _ hW hS (lv_sub hl [] rfl) h
    · have h := jb_f c47 h
      refine lv_iconst (pc := 50) (v := 1) hx hb d169_50 (by decide) ?_
      refine lv_goto (pc := 51) (tgt := 55) hx hb d169_51 (by decide) ?_
      exact kc55  q4 1 _ _ _ hW hS (lv_sub hl [] rfl) h
def mo_character_56  (st : GS) (x2 : Int32) : Option (GS) := jc (f_mo_make st x2) (fun q1 => jc (f_mo_answerText q1) (fun q2 => some q2))
def mo_character_51  (st : GS) (x2 : Int32) : Option (GS) := jc (f_mo_fail st 3) (fun q3 => mo_character_56  q3 x2)
def mo_character_21  (st : GS)  : Option (GS) := jg (inb 0 256) (jc (f_mo_answerNumber st (FP.i2d (st.1 13 (0 : Int32).toNatClampNeg))) (fun q5 => some q5))
def f_mo_character (st : GS) (p0 : Int32) : Option (GS) := jb (p0 = 0) (jc (f_mo_whole1 st 0) (fun q6 => jb (q6.1 < 1) (mo_character_51  q6.2 q6.1) (jb (q6.1 ≤ 255) (mo_character_56  q6.2 q6.1) (mo_character_51  q6.2 q6.1)))) (jc (f_mo_textOf st 0) (fun q7 => jb ((q7.1 0 27) = 0) (jc (f_mo_fail q7 3) (fun q8 => mo_character_21  q8)) (mo_character_21  q7)))
set_option maxHeartbeats 4000000 in
set_option maxRecDepth 100000 in
theorem c_mo_character (l : Launch) (ρ : RH) (ad : Nat → Nat) (H : Heap) (st : GS) (p0 : Int32) (res : GS) (hW : GW ρ wM ad st H) (h : f_mo_character st p0 = some res) : Met l y152 (wsOf y152 b152 3 none) ({ frames := 5, cells := 0, slots := 0, locals := 110 } : Room) (va_Pc [.ref (ad 0), .int p0] (KP ρ H)) (mQ (fun v H1 => v = none ∧ GW ρ wM ad res H1) (MA wM ad H.size)) 0 0 (MA wM ad H.size) := by
  refine m_ofW (own := "WordFunctionsModel") (plainFor_of_name rfl) rfl (Nat.le_of_ble_eq_true rfl) fun p e s m args below meth c ls hx hb hr hlk _ X hs hl => ?_
  subst hs
  have hS : va_S (MA wM ad s.heap.size) s.heap s.heap [] := va_S.rf
  have hl : lv_has ls 3 [(0, .ref (ad 0)), (1, .int p0)] := hl
  have kc56 : ∀ (st : GS) (x2 : Int32) (H : Heap) (locs : List Loc) (ls : Array Slot), GW ρ wM ad st H → va_S (MA wM ad s.heap.size) s.heap H locs → lv_has ls 3 [(0, .ref (ad 0)), (2, .int x2)] → mo_character_56 st x2 = some res → W p l e ({ frames := 5, cells := 0, slots := 0, locals := 110 } : Room) s m args below meth c H locs 0 0 (MQ below (mQ (fun v H1 => v = none ∧ GW ρ wM ad res H1) (MA wM ad s.heap.size)) args s 0 0 (MA wM ad s.heap.size)) (F0 m 56 ls []) := by
    intro st x2 H locs ls hW hS hl h
    unfold mo_character_56 at h
    refine lv_aload_n (pc := 56) hx hb d152_56 rfl (lv_at hl 0 rfl) ?_
    refine lv_iload_n (pc := 57) hx hb d152_57 rfl (lv_at hl 1 rfl) ?_
    obtain ⟨q1, hq1, h⟩ := jc_some h
    refine k_callV (pc := 58) (n := 1) X hS (c_mo_make l ρ ad _ st x2 q1 hW hq1) wd1703 wd1700 wd1702 sl195 wd11 (by decide) ⟨rfl, rfl, by decide, by decide⟩ (m_recv X hW) (As := [.int x2]) (rest := []) rfl rfl hl.1 (Nat.le_of_ble_eq_true rfl) d152_58 ⟨by decide, by decide⟩ (fun q hq => MA.mono hS.1 hq) (fun v H1 locs1 hv _ _ hSq1 => ?_)
    obtain ⟨rfl, hW⟩ := hv
    have hS := hSq1
    refine lv_aload_n (pc := 61) hx hb d152_61 rfl (lv_at hl 0 rfl) ?_
    obtain ⟨q2, hq2, h⟩ := jc_some h
    refine k_callV (pc := 62) (n := 0) X hS (c_mo_answerText l ρ ad _ q1 q2 hW hq2) wd1707 wd1704 wd1706 sl144 wd11 (by decide) ⟨rfl, rfl, by decide, by decide⟩ (m_recv X hW) (As := []) (rest := []) rfl rfl hl.1 (Nat.le_of_ble_eq_true rfl) d152_62 ⟨by decide, by decide⟩ (fun q hq => MA.mono hS.1 hq) (fun v H1 locs1 hv _ _ hSq2 => ?_)
    obtain ⟨rfl, hW⟩ := hv
    have hS := hSq2
    obtain rfl := Option.some.inj h
    exact m_vret (pc := 65) hx hb hr hlk hS ⟨rfl, hW⟩ (by decide) (by decide) d152_65
  have kc51 : ∀ (st : GS) (x2 : Int32) (H : Heap) (locs : List Loc) (ls : Array Slot), GW ρ wM ad st H → va_S (MA wM ad s.heap.size) s.heap H locs → lv_has ls 3 [(0, .ref (ad 0)), (2, .int x2)] → mo_character_51 st x2 = some res → W p l e ({ frames := 5, cells := 0, slots := 0, locals := 110 } : Room) s m args below meth c H locs 0 0 (MQ below (mQ (fun v H1 => v = none ∧ GW ρ wM ad res H1) (MA wM ad s.heap.size)) args s 0 0 (MA wM ad s.heap.size)) (F0 m 51 ls []) := by
    intro st x2 H locs ls hW hS hl h
    unfold mo_character_51 at h
    refine lv_aload_n (pc := 51) hx hb d152_51 rfl (lv_at hl 0 rfl) ?_
    refine lv_iconst (pc := 52) (v := 3) hx hb d152_52 (by decide) ?_
    obtain ⟨q3, hq3, h⟩ := jc_some h
    refine k_callV (pc := 53) (n := 1) X hS (c_mo_fail l ρ ad _ st 3 q3 hW hq3) wd1621 wd1618 wd1620 sl170 wd11 (by decide) ⟨rfl, rfl, by decide, by decide⟩ (m_recv X hW) (As := [.int 3]) (rest := []) rfl rfl hl.1 (Nat.le_of_ble_eq_true rfl) d152_53 ⟨by decide, by decide⟩ (fun q hq => MA.mono hS.1 hq) (fun v H1 locs1 hv _ _ hSq3 => ?_)
    obtain ⟨rfl, hW⟩ := hv
    have hS := hSq3
    exact kc56  q3 x2 _ _ _ hW hS (lv_sub hl [0, 1] rfl) h
  have kc21 : ∀ (st : GS)  (H : Heap) (locs : List Loc) (ls : Array Slot), GW ρ wM ad st H → va_S (MA wM ad s.heap.size) s.heap H locs → lv_has ls 3 [(0, .ref (ad 0))] → mo_character_21 st = some res → W p l e ({ frames := 5, cells := 0, slots := 0, locals := 110 } : Room) s m args below meth c H locs 0 0 (MQ below (mQ (fun v H1 => v = none ∧ GW ρ wM ad res H1) (MA wM ad s.heap.size)) args s 0 0 (MA wM ad s.heap.size)) (F0 m 21 ls []) := by
    intro st  H locs ls hW hS hl h
    unfold mo_character_21 at h
    refine lv_aload_n (pc := 21) hx hb d152_21 rfl (lv_at hl 0 rfl) ?_
    refine lv_aload_n (pc := 22) hx hb d152_22 rfl (lv_at hl 0 rfl) ?_
    refine m_get (pc := 23) X hW 23 (v := .ref (ad 13)) wd1389 rfl rfl d152_23 ?_
    refine lv_iconst (pc := 26) (v := 0) hx hb d152_26 (by decide) ?_
    obtain ⟨g4, h⟩ := jg_some h
    refine r_iald (pc := 27) X hW 13 (by decide) rfl (inb_in g4) d152_27 ?_
    refine lv_i2d (pc := 28) hx hb d152_28 ?_
    obtain ⟨q5, hq5, h⟩ := jc_some h
    refine k_callV (pc := 29) (n := 1) X hS (c_mo_answerNumber l ρ ad _ st (FP.i2d (st.1 13 (0 : Int32).toNatClampNeg)) q5 hW hq5) wd1651 wd1648 wd1650 sl142 wd11 (by decide) ⟨rfl, rfl, by decide, by decide⟩ (m_recv X hW) (As := [.double (FP.i2d (st.1 13 (0 : Int32).toNatClampNeg))]) (rest := []) rfl rfl hl.1 (Nat.le_of_ble_eq_true rfl) d152_29 ⟨by decide, by decide⟩ (fun q hq => MA.mono hS.1 hq) (fun v H1 locs1 hv _ _ hSq5 => ?_)
    obtain ⟨rfl, hW⟩ := hv
    have hS := hSq5
    obtain rfl := Option.some.inj h
    exact m_vret (pc := 32) hx hb hr hlk hS ⟨rfl, hW⟩ (by decide) (by decide) d152_32
  unfold f_mo_character at h
  refine lv_iload_n (pc := 0) hx hb d152_0 rfl (lv_at hl 1 rfl) ?_
  refine lv_if_eq (pc := 1) (tgt := 33) hx hb d152_1 (by decide) (fun c1 => ?_) (fun c1 => ?_)
  · have h := jb_t c1 h
    refine lv_aload_n (pc := 33) hx hb d152_33 rfl (lv_at hl 0 rfl) ?_
    refine lv_iconst (pc := 34) (v := 0) hx hb d152_34 (by decide) ?_
    obtain ⟨q6, hq6, h⟩ := jc_some h
    refine k_callV (pc := 35) (n := 1) X hS (c_mo_whole1 l ρ ad _ st 0 q6 hW hq6) wd1671 wd1668 wd1670 sl241 wd11 (by decide) ⟨rfl, rfl, by decide, by decide⟩ (m_recv X hW) (As := [.int 0]) (rest := []) rfl rfl hl.1 (Nat.le_of_ble_eq_true rfl) d152_35 ⟨by decide, by decide⟩ (fun q hq => MA.mono hS.1 hq) (fun v H1 locs1 hv _ _ hSq6 => ?_)
    obtain ⟨rfl, hW⟩ := hv
    have hS := hSq6
    refine lv_istore_n (pc := 38) (lv' := [(2, .int q6.1), (0, .ref (ad 0)), (1, .int p0)]) hx hb d152_38 rfl hl (by decide) rfl (fun ls hl => ?_)
    refine lv_iload_n (pc := 39) hx hb d152_39 rfl (lv_at hl 0 rfl) ?_
    refine lv_iconst (pc := 40) (v := 1) hx hb d152_40 (by decide) ?_
    refine lv_icmp_lt (pc := 41) (tgt := 51) hx hb d152_41 (by decide) (fun c41 => ?_) (fun c41 => ?_)
    · have h := jb_t c41 h
      exact kc51  q6.2 q6.1 _ _ _ hW hS (lv_sub hl [1, 0] rfl) h
    · have h := jb_f c41 h
      refine lv_iload_n (pc := 44) hx hb d152_44 rfl (lv_at hl 0 rfl) ?_
      refine lv_sipush (pc := 45) (v := 255) hx hb d152_45 (by decide) ?_
      refine lv_icmp_le (pc := 48) (tgt := 56) hx hb d152_48 (by decide) (fun c48 => ?_) (fun c48 => ?_)
      · have h := jb_t c48 h
        exact kc56  q6.2 q6.1 _ _ _ hW hS (lv_sub hl [1, 0] rfl) h
      · have h := jb_f c48 h
        exact kc51  q6.2 q6.1 _ _ _ hW hS (lv_sub hl [1, 0] rfl) h
  · have h := jb_f c1 h
    refine lv_aload_n (pc := 4) hx hb d152_4 rfl (lv_at hl 0 rfl) ?_
    refine lv_iconst (pc := 5) (v := 0) hx hb d152_5 (by decide) ?_
    obtain ⟨q7, hq7, h⟩ := jc_some h
    refine k_callV (pc := 6) (n := 1) X hS (c_mo_textOf l ρ ad _ st 0 q7 hW hq7) wd1597 wd1594 wd1596 sl226 wd11 (by decide) ⟨rfl, rfl, by decide, by decide⟩ (m_recv X hW) (As := [.int 0]) (rest := []) rfl rfl hl.1 (Nat.le_of_ble_eq_true rfl) d152_6 ⟨by decide, by decide⟩ (fun q hq => MA.mono hS.1 hq) (fun v H1 locs1 hv _ _ hSq7 => ?_)
    obtain ⟨rfl, hW⟩ := hv
    have hS := hSq7
    refine lv_aload_n (pc := 9) hx hb d152_9 rfl (lv_at hl 0 rfl) ?_
    refine m_get (pc := 10) X hW 27 (v := .int (q7.1 0 27)) wd1393 rfl rfl d152_10 ?_
    refine lv_if_ne (pc := 13) (tgt := 21) hx hb d152_13 (by decide) (fun c13 => ?_) (fun c13 => ?_)
    · have h := jb_f c13 h
      exact kc21  q7 _ _ _ hW hS (lv_sub hl [0] rfl) h
    · have h := jb_t c13 h
      refine lv_aload_n (pc := 16) hx hb d152_16 rfl (lv_at hl 0 rfl) ?_
      refine lv_iconst (pc := 17) (v := 3) hx hb d152_17 (by decide) ?_
      obtain ⟨q8, hq8, h⟩ := jc_some h
      refine k_callV (pc := 18) (n := 1) X hS (c_mo_fail l ρ ad _ q7 3 q8 hW hq8) wd1621 wd1618 wd1620 sl170 wd11 (by decide) ⟨rfl, rfl, by decide, by decide⟩ (m_recv X hW) (As := [.int 3]) (rest := []) rfl rfl hl.1 (Nat.le_of_ble_eq_true rfl) d152_18 ⟨by decide, by decide⟩ (fun q hq => MA.mono hS.1 hq) (fun v H1 locs1 hv _ _ hSq8 => ?_)
      obtain ⟨rfl, hW⟩ := hv
      have hS := hSq8
      exact kc21  q8 _ _ _ hW hS (lv_sub hl [0] rfl) h
def mo_roman4_49  : Nat → GS → Int32 → Int32 → Option (GS)
  | 0, _, _, _ => none
  | fu + 1, st, x2, x5 => jb (x5 ≤ 0) (some st) (jb (4 ≤ x5) (some st) (jc (f_mo_make st x2) (fun q1 => jn (x5 + (-1)) (fun v2 => mo_roman4_49 fu q1 x2 v2))))
def mo_roman4_44  (st : GS) (x1 : Int32) (x2 : Int32) : Option (GS) := jn (x1 - x1 / 5 * 5) (fun v3 => mo_roman4_49 FU st x2 v3)
def mo_roman4_28  (st : GS) (x1 : Int32) (x2 : Int32) (x3 : Int32) : Option (GS) := jb (x1 ≤ 3) (mo_roman4_44  st x1 x2) (jb (9 ≤ x1) (mo_roman4_44  st x1 x2) (jc (f_mo_make st x3) (fun q4 => mo_roman4_44  q4 x1 x2)))
def mo_roman4_16  (st : GS) (x1 : Int32) (x2 : Int32) (x3 : Int32) (x4 : Int32) : Option (GS) := jb (x1 = 9) (jc (f_mo_make st x4) (fun q5 => mo_roman4_28  q5 x1 x2 x3)) (mo_roman4_28  st x1 x2 x3)
def mo_roman4_11  (st : GS) (x1 : Int32) (x2 : Int32) (x3 : Int32) (x4 : Int32) : Option (GS) := jc (f_mo_make st x2) (fun q6 => mo_roman4_16  q6 x1 x2 x3 x4)
def f_mo_roman4 (st : GS) (p0 : Int32) (p1 : Int32) (p2 : Int32) (p3 : Int32) : Option (GS) := jb (p0 = 9) (mo_roman4_11  st p0 p1 p2 p3) (jb (p0 = 4) (mo_roman4_11  st p0 p1 p2 p3) (mo_roman4_16  st p0 p1 p2 p3))
set_option maxHeartbeats 4000000 in
set_option maxRecDepth 100000 in
theorem c_mo_roman4 (l : Launch) (ρ : RH) (ad : Nat → Nat) (H : Heap) (st : GS) (p0 : Int32) (p1 : Int32) (p2 : Int32) (p3 : Int32) (res : GS) (hW : GW ρ wM ad st H) (h : f_mo_roman4 st p0 p1 p2 p3 = some res) : Met l y214 (wsOf y214 b214 6 none) ({ frames := 1, cells := 0, slots := 0, locals := 21 } : Room) (va_Pc [.ref (ad 0), .int p0, .int p1, .int p2, .int p3] (KP ρ H)) (mQ (fun v H1 => v = none ∧ GW ρ wM ad res H1) (MA wM ad H.size)) 0 0 (MA wM ad H.size) := by
  refine m_ofW (own := "WordFunctionsModel") (plainFor_of_name rfl) rfl (Nat.le_of_ble_eq_true rfl) fun p e s m args below meth c ls hx hb hr hlk _ X hs hl => ?_
  subst hs
  have hS : va_S (MA wM ad s.heap.size) s.heap s.heap [] := va_S.rf
  have hl : lv_has ls 6 [(0, .ref (ad 0)), (1, .int p0), (2, .int p1), (3, .int p2), (4, .int p3)] := hl
  have kc49 : ∀ (fu : Nat), ∀ (st : GS) (x2 : Int32) (x5 : Int32) (H : Heap) (locs : List Loc) (ls : Array Slot), GW ρ wM ad st H → va_S (MA wM ad s.heap.size) s.heap H locs → lv_has ls 6 [(0, .ref (ad 0)), (2, .int x2), (5, .int x5)] → mo_roman4_49 fu st x2 x5 = some res → W p l e ({ frames := 1, cells := 0, slots := 0, locals := 21 } : Room) s m args below meth c H locs 0 0 (MQ below (mQ (fun v H1 => v = none ∧ GW ρ wM ad res H1) (MA wM ad s.heap.size)) args s 0 0 (MA wM ad s.heap.size)) (F0 m 49 ls []) := by
    intro  fu
    induction fu with
    | zero => intro st x2 x5 H locs ls hW hS hl h; cases h
    | succ fu hK49 =>
      intro st x2 x5 H locs ls hW hS hl h
      unfold mo_roman4_49 at h
      refine lv_iload (pc := 49) hx hb d214_49 (lv_at hl 2 rfl) ?_
      refine lv_if_le (pc := 51) (tgt := 71) hx hb d214_51 (by decide) (fun c51 => ?_) (fun c51 => ?_)
      · have h := jb_t c51 h
        obtain rfl := Option.some.inj h
        exact m_vret (pc := 71) hx hb hr hlk hS ⟨rfl, hW⟩ (by decide) (by decide) d214_71
      · have h := jb_f c51 h
        refine lv_iload (pc := 54) hx hb d214_54 (lv_at hl 2 rfl) ?_
        refine lv_iconst (pc := 56) (v := 4) hx hb d214_56 (by decide) ?_
        refine lv_icmp_ge (pc := 57) (tgt := 71) hx hb d214_57 (by decide) (fun c57 => ?_) (fun c57 => ?_)
        · have h := jb_t c57 h
          obtain rfl := Option.some.inj h
          exact m_vret (pc := 71) hx hb hr hlk hS ⟨rfl, hW⟩ (by decide) (by decide) d214_71
        · have h := jb_f c57 h
          refine lv_aload_n (pc := 60) hx hb d214_60 rfl (lv_at hl 0 rfl) ?_
          refine lv_iload_n (pc := 61) hx hb d214_61 rfl (lv_at hl 1 rfl) ?_
          obtain ⟨q1, hq1, h⟩ := jc_some h
          refine k_callV (pc := 62) (n := 1) X hS (c_mo_make l ρ ad _ st x2 q1 hW hq1) wd1703 wd1700 wd1702 sl195 wd11 (by decide) ⟨rfl, rfl, by decide, by decide⟩ (m_recv X hW) (As := [.int x2]) (rest := []) rfl rfl hl.1 (Nat.le_of_ble_eq_true rfl) d214_62 ⟨by decide, by decide⟩ (fun q hq => MA.mono hS.1 hq) (fun v H1 locs1 hv _ _ hSq1 => ?_)
          obtain ⟨rfl, hW⟩ := hv
          have hS := hSq1
          obtain ⟨v2, ev2, h⟩ := jn_ex h
          refine lv_iinc (pc := 65) (v := v2) (lv' := [(5, .int v2), (0, .ref (ad 0)), (2, .int x2)]) hx hb d214_65 hl (k := 2) rfl (by rw [ev2]; rfl) (by decide) rfl (fun ls hl => ?_)
          refine lv_goto (pc := 68) (tgt := 49) hx hb d214_68 (by decide) ?_
          exact hK49 q1 x2 v2 _ _ _ hW hS (lv_sub hl [1, 2, 0] rfl) h
  have kc44 : ∀ (st : GS) (x1 : Int32) (x2 : Int32) (H : Heap) (locs : List Loc) (ls : Array Slot), GW ρ wM ad st H → va_S (MA wM ad s.heap.size) s.heap H locs → lv_has ls 6 [(0, .ref (ad 0)), (1, .int x1), (2, .int x2)] → mo_roman4_44 st x1 x2 = some res → W p l e ({ frames := 1, cells := 0, slots := 0, locals := 21 } : Room) s m args below meth c H locs 0 0 (MQ below (mQ (fun v H1 => v = none ∧ GW ρ wM ad res H1) (MA wM ad s.heap.size)) args s 0 0 (MA wM ad s.heap.size)) (F0 m 44 ls []) := by
    intro st x1 x2 H locs ls hW hS hl h
    unfold mo_roman4_44 at h
    refine lv_iload_n (pc := 44) hx hb d214_44 rfl (lv_at hl 1 rfl) ?_
    refine lv_iconst (pc := 45) (v := 5) hx hb d214_45 (by decide) ?_
    refine lv_irem (pc := 46) hx hb d214_46 (by decide) ?_
    obtain ⟨v3, ev3, h⟩ := jn_ex h
    refine nm_i ev3 ?_
    refine lv_istore (pc := 47) (lv' := [(5, .int v3), (0, .ref (ad 0)), (1, .int x1), (2, .int x2)]) hx hb d214_47 hl (by decide) rfl (fun ls hl => ?_)
    exact kc49  FU st x2 v3 _ _ _ hW hS (lv_sub hl [1, 3, 0] rfl) h
  have kc28 : ∀ (st : GS) (x1 : Int32) (x2 : Int32) (x3 : Int32) (H : Heap) (locs : List Loc) (ls : Array Slot), GW ρ wM ad st H → va_S (MA wM ad s.heap.size) s.heap H locs → lv_has ls 6 [(0, .ref (ad 0)), (1, .int x1), (2, .int x2), (3, .int x3)] → mo_roman4_28 st x1 x2 x3 = some res → W p l e ({ frames := 1, cells := 0, slots := 0, locals := 21 } : Room) s m args below meth c H locs 0 0 (MQ below (mQ (fun v H1 => v = none ∧ GW ρ wM ad res H1) (MA wM ad s.heap.size)) args s 0 0 (MA wM ad s.heap.size)) (F0 m 28 ls []) := by
    intro st x1 x2 x3 H locs ls hW hS hl h
    unfold mo_roman4_28 at h
    refine lv_iload_n (pc := 28) hx hb d214_28 rfl (lv_at hl 1 rfl) ?_
    refine lv_iconst (pc := 29) (v := 3) hx hb d214_29 (by decide) ?_
    refine lv_icmp_le (pc := 30) (tgt := 44) hx hb d214_30 (by decide) (fun c30 => ?_) (fun c30 => ?_)
    · have h := jb_t c30 h
      exact kc44  st x1 x2 _ _ _ hW hS (lv_sub hl [0, 1, 2] rfl) h
    · have h := jb_f c30 h
      refine lv_iload_n (pc := 33) hx hb d214_33 rfl (lv_at hl 1 rfl) ?_
      refine lv_bipush (pc := 34) (v := 9) hx hb d214_34 (by decide) ?_
      refine lv_icmp_ge (pc := 36) (tgt := 44) hx hb d214_36 (by decide) (fun c36 => ?_) (fun c36 => ?_)
      · have h := jb_t c36 h
        exact kc44  st x1 x2 _ _ _ hW hS (lv_sub hl [0, 1, 2] rfl) h
      · have h := jb_f c36 h
        refine lv_aload_n (pc := 39) hx hb d214_39 rfl (lv_at hl 0 rfl) ?_
        refine lv_iload_n (pc := 40) hx hb d214_40 rfl (lv_at hl 3 rfl) ?_
        obtain ⟨q4, hq4, h⟩ := jc_some h
        refine k_callV (pc := 41) (n := 1) X hS (c_mo_make l ρ ad _ st x3 q4 hW hq4) wd1703 wd1700 wd1702 sl195 wd11 (by decide) ⟨rfl, rfl, by decide, by decide⟩ (m_recv X hW) (As := [.int x3]) (rest := []) rfl rfl hl.1 (Nat.le_of_ble_eq_true rfl) d214_41 ⟨by decide, by decide⟩ (fun q hq => MA.mono hS.1 hq) (fun v H1 locs1 hv _ _ hSq4 => ?_)
        obtain ⟨rfl, hW⟩ := hv
        have hS := hSq4
        exact kc44  q4 x1 x2 _ _ _ hW hS (lv_sub hl [0, 1, 2] rfl) h
  have kc16 : ∀ (st : GS) (x1 : Int32) (x2 : Int32) (x3 : Int32) (x4 : Int32) (H : Heap) (locs : List Loc) (ls : Array Slot), GW ρ wM ad st H → va_S (MA wM ad s.heap.size) s.heap H locs → lv_has ls 6 [(0, .ref (ad 0)), (1, .int x1), (2, .int x2), (3, .int x3), (4, .int x4)] → mo_roman4_16 st x1 x2 x3 x4 = some res → W p l e ({ frames := 1, cells := 0, slots := 0, locals := 21 } : Room) s m args below meth c H locs 0 0 (MQ below (mQ (fun v H1 => v = none ∧ GW ρ wM ad res H1) (MA wM ad s.heap.size)) args s 0 0 (MA wM ad s.heap.size)) (F0 m 16 ls []) := by
    intro st x1 x2 x3 x4 H locs ls hW hS hl h
    unfold mo_roman4_16 at h
    refine lv_iload_n (pc := 16) hx hb d214_16 rfl (lv_at hl 1 rfl) ?_
    refine lv_bipush (pc := 17) (v := 9) hx hb d214_17 (by decide) ?_
    refine lv_icmp_ne (pc := 19) (tgt := 28) hx hb d214_19 (by decide) (fun c19 => ?_) (fun c19 => ?_)
    · have h := jb_f c19 h
      exact kc28  st x1 x2 x3 _ _ _ hW hS (lv_sub hl [0, 1, 2, 3] rfl) h
    · have h := jb_t c19 h
      refine lv_aload_n (pc := 22) hx hb d214_22 rfl (lv_at hl 0 rfl) ?_
      refine lv_iload (pc := 23) hx hb d214_23 (lv_at hl 4 rfl) ?_
      obtain ⟨q5, hq5, h⟩ := jc_some h
      refine k_callV (pc := 25) (n := 1) X hS (c_mo_make l ρ ad _ st x4 q5 hW hq5) wd1703 wd1700 wd1702 sl195 wd11 (by decide) ⟨rfl, rfl, by decide, by decide⟩ (m_recv X hW) (As := [.int x4]) (rest := []) rfl rfl hl.1 (Nat.le_of_ble_eq_true rfl) d214_25 ⟨by decide, by decide⟩ (fun q hq => MA.mono hS.1 hq) (fun v H1 locs1 hv _ _ hSq5 => ?_)
      obtain ⟨rfl, hW⟩ := hv
      have hS := hSq5
      exact kc28  q5 x1 x2 x3 _ _ _ hW hS (lv_sub hl [0, 1, 2, 3] rfl) h
  have kc11 : ∀ (st : GS) (x1 : Int32) (x2 : Int32) (x3 : Int32) (x4 : Int32) (H : Heap) (locs : List Loc) (ls : Array Slot), GW ρ wM ad st H → va_S (MA wM ad s.heap.size) s.heap H locs → lv_has ls 6 [(0, .ref (ad 0)), (1, .int x1), (2, .int x2), (3, .int x3), (4, .int x4)] → mo_roman4_11 st x1 x2 x3 x4 = some res → W p l e ({ frames := 1, cells := 0, slots := 0, locals := 21 } : Room) s m args below meth c H locs 0 0 (MQ below (mQ (fun v H1 => v = none ∧ GW ρ wM ad res H1) (MA wM ad s.heap.size)) args s 0 0 (MA wM ad s.heap.size)) (F0 m 11 ls []) := by
    intro st x1 x2 x3 x4 H locs ls hW hS hl h
    unfold mo_roman4_11 at h
    refine lv_aload_n (pc := 11) hx hb d214_11 rfl (lv_at hl 0 rfl) ?_
    refine lv_iload_n (pc := 12) hx hb d214_12 rfl (lv_at hl 2 rfl) ?_
    obtain ⟨q6, hq6, h⟩ := jc_some h
    refine k_callV (pc := 13) (n := 1) X hS (c_mo_make l ρ ad _ st x2 q6 hW hq6) wd1703 wd1700 wd1702 sl195 wd11 (by decide) ⟨rfl, rfl, by decide, by decide⟩ (m_recv X hW) (As := [.int x2]) (rest := []) rfl rfl hl.1 (Nat.le_of_ble_eq_true rfl) d214_13 ⟨by decide, by decide⟩ (fun q hq => MA.mono hS.1 hq) (fun v H1 locs1 hv _ _ hSq6 => ?_)
    obtain ⟨rfl, hW⟩ := hv
    have hS := hSq6
    exact kc16  q6 x1 x2 x3 x4 _ _ _ hW hS (lv_sub hl [0, 1, 2, 3, 4] rfl) h
  unfold f_mo_roman4 at h
  refine lv_iload_n (pc := 0) hx hb d214_0 rfl (lv_at hl 1 rfl) ?_
  refine lv_bipush (pc := 1) (v := 9) hx hb d214_1 (by decide) ?_
  refine lv_icmp_eq (pc := 3) (tgt := 11) hx hb d214_3 (by decide) (fun c3 => ?_) (fun c3 => ?_)
  · have h := jb_t c3 h
    exact kc11  st p0 p1 p2 p3 _ _ _ hW hS (lv_sub hl [0, 1, 2, 3, 4] rfl) h
  · have h := jb_f c3 h
    refine lv_iload_n (pc := 6) hx hb d214_6 rfl (lv_at hl 1 rfl) ?_
    refine lv_iconst (pc := 7) (v := 4) hx hb d214_7 (by decide) ?_
    refine lv_icmp_ne (pc := 8) (tgt := 16) hx hb d214_8 (by decide) (fun c8 => ?_) (fun c8 => ?_)
    · have h := jb_f c8 h
      exact kc16  st p0 p1 p2 p3 _ _ _ hW hS (lv_sub hl [0, 1, 2, 3, 4] rfl) h
    · have h := jb_t c8 h
      exact kc11  st p0 p1 p2 p3 _ _ _ hW hS (lv_sub hl [0, 1, 2, 3, 4] rfl) h
def mo_roman0_22  (st : GS) (x1 : Int32) : Option (GS) := jb ((st.1 0 22) = 0) (jc (f_mo_roman4 st (x1 / 1000) 77 77 77) (fun q1 => jc (f_mo_roman4 q1 ((x1 / 100) - (x1 / 100) / 10 * 10) 67 68 77) (fun q2 => jc (f_mo_roman4 q2 ((x1 / 10) - (x1 / 10) / 10 * 10) 88 76 67) (fun q3 => jc (f_mo_roman4 q3 (x1 - x1 / 10 * 10) 73 86 88) (fun q4 => jc (f_mo_answerText q4) (fun q5 => some q5)))))) (some st)
def mo_roman0_17  (st : GS) (x1 : Int32) : Option (GS) := jc (f_mo_fail st 3) (fun q6 => mo_roman0_22  q6 x1)
def f_mo_roman0 (st : GS) : Option (GS) := jc (f_mo_whole1 st 0) (fun q7 => jb (q7.1 < 0) (mo_roman0_17  q7.2 q7.1) (jb (q7.1 ≤ 3999) (mo_roman0_22  q7.2 q7.1) (mo_roman0_17  q7.2 q7.1)))
set_option maxHeartbeats 4000000 in
set_option maxRecDepth 100000 in
theorem c_mo_roman0 (l : Launch) (ρ : RH) (ad : Nat → Nat) (H : Heap) (st : GS) (res : GS) (hW : GW ρ wM ad st H) (h : f_mo_roman0 st = some res) : Met l y213 (wsOf y213 b213 2 none) ({ frames := 5, cells := 0, slots := 0, locals := 110 } : Room) (va_Pc [.ref (ad 0)] (KP ρ H)) (mQ (fun v H1 => v = none ∧ GW ρ wM ad res H1) (MA wM ad H.size)) 0 0 (MA wM ad H.size) := by
  refine m_ofW (own := "WordFunctionsModel") (plainFor_of_name rfl) rfl (Nat.le_of_ble_eq_true rfl) fun p e s m args below meth c ls hx hb hr hlk _ X hs hl => ?_
  subst hs
  have hS : va_S (MA wM ad s.heap.size) s.heap s.heap [] := va_S.rf
  have hl : lv_has ls 2 [(0, .ref (ad 0))] := hl
  have kc22 : ∀ (st : GS) (x1 : Int32) (H : Heap) (locs : List Loc) (ls : Array Slot), GW ρ wM ad st H → va_S (MA wM ad s.heap.size) s.heap H locs → lv_has ls 2 [(0, .ref (ad 0)), (1, .int x1)] → mo_roman0_22 st x1 = some res → W p l e ({ frames := 5, cells := 0, slots := 0, locals := 110 } : Room) s m args below meth c H locs 0 0 (MQ below (mQ (fun v H1 => v = none ∧ GW ρ wM ad res H1) (MA wM ad s.heap.size)) args s 0 0 (MA wM ad s.heap.size)) (F0 m 22 ls []) := by
    intro st x1 H locs ls hW hS hl h
    unfold mo_roman0_22 at h
    refine lv_aload_n (pc := 22) hx hb d213_22 rfl (lv_at hl 0 rfl) ?_
    refine m_get (pc := 23) X hW 22 (v := .int (st.1 0 22)) wd1388 rfl rfl d213_23 ?_
    refine lv_if_eq (pc := 26) (tgt := 30) hx hb d213_26 (by decide) (fun c26 => ?_) (fun c26 => ?_)
    · have h := jb_t c26 h
      refine lv_aload_n (pc := 30) hx hb d213_30 rfl (lv_at hl 0 rfl) ?_
      refine lv_iload_n (pc := 31) hx hb d213_31 rfl (lv_at hl 1 rfl) ?_
      refine lv_sipush (pc := 32) (v := 1000) hx hb d213_32 (by decide) ?_
      refine lv_idiv (pc := 35) hx hb d213_35 (by decide) ?_
      refine lv_bipush (pc := 36) (v := 77) hx hb d213_36 (by decide) ?_
      refine lv_bipush (pc := 38) (v := 77) hx hb d213_38 (by decide) ?_
      refine lv_bipush (pc := 40) (v := 77) hx hb d213_40 (by decide) ?_
      obtain ⟨q1, hq1, h⟩ := jc_some h
      refine k_callV (pc := 42) (n := 4) X hS (c_mo_roman4 l ρ ad _ st (x1 / 1000) 77 77 77 q1 hW hq1) wd1796 wd1793 wd1795 sl214 wd11 (by decide) ⟨rfl, rfl, by decide, by decide⟩ (m_recv X hW) (As := [.int (x1 / 1000), .int 77, .int 77, .int 77]) (rest := []) rfl rfl hl.1 (Nat.le_of_ble_eq_true rfl) d213_42 ⟨by decide, by decide⟩ (fun q hq => MA.mono hS.1 hq) (fun v H1 locs1 hv _ _ hSq1 => ?_)
      obtain ⟨rfl, hW⟩ := hv
      have hS := hSq1
      refine lv_aload_n (pc := 45) hx hb d213_45 rfl (lv_at hl 0 rfl) ?_
      refine lv_iload_n (pc := 46) hx hb d213_46 rfl (lv_at hl 1 rfl) ?_
      refine lv_bipush (pc := 47) (v := 100) hx hb d213_47 (by decide) ?_
      refine lv_idiv (pc := 49) hx hb d213_49 (by decide) ?_
      refine lv_bipush (pc := 50) (v := 10) hx hb d213_50 (by decide) ?_
      refine lv_irem (pc := 52) hx hb d213_52 (by decide) ?_
      refine lv_bipush (pc := 53) (v := 67) hx hb d213_53 (by decide) ?_
      refine lv_bipush (pc := 55) (v := 68) hx hb d213_55 (by decide) ?_
      refine lv_bipush (pc := 57) (v := 77) hx hb d213_57 (by decide) ?_
      obtain ⟨q2, hq2, h⟩ := jc_some h
      refine k_callV (pc := 59) (n := 4) X hS (c_mo_roman4 l ρ ad _ q1 ((x1 / 100) - (x1 / 100) / 10 * 10) 67 68 77 q2 hW hq2) wd1796 wd1793 wd1795 sl214 wd11 (by decide) ⟨rfl, rfl, by decide, by decide⟩ (m_recv X hW) (As := [.int ((x1 / 100) - (x1 / 100) / 10 * 10), .int 67, .int 68, .int 77]) (rest := []) rfl rfl hl.1 (Nat.le_of_ble_eq_true rfl) d213_59 ⟨by decide, by decide⟩ (fun q hq => MA.mono hS.1 hq) (fun v H1 locs1 hv _ _ hSq2 => ?_)
      obtain ⟨rfl, hW⟩ := hv
      have hS := hSq2
      refine lv_aload_n (pc := 62) hx hb d213_62 rfl (lv_at hl 0 rfl) ?_
      refine lv_iload_n (pc := 63) hx hb d213_63 rfl (lv_at hl 1 rfl) ?_
      refine lv_bipush (pc := 64) (v := 10) hx hb d213_64 (by decide) ?_
      refine lv_idiv (pc := 66) hx hb d213_66 (by decide) ?_
      refine lv_bipush (pc := 67) (v := 10) hx hb d213_67 (by decide) ?_
      refine lv_irem (pc := 69) hx hb d213_69 (by decide) ?_
      refine lv_bipush (pc := 70) (v := 88) hx hb d213_70 (by decide) ?_
      refine lv_bipush (pc := 72) (v := 76) hx hb d213_72 (by decide) ?_
      refine lv_bipush (pc := 74) (v := 67) hx hb d213_74 (by decide) ?_
      obtain ⟨q3, hq3, h⟩ := jc_some h
      refine k_callV (pc := 76) (n := 4) X hS (c_mo_roman4 l ρ ad _ q2 ((x1 / 10) - (x1 / 10) / 10 * 10) 88 76 67 q3 hW hq3) wd1796 wd1793 wd1795 sl214 wd11 (by decide) ⟨rfl, rfl, by decide, by decide⟩ (m_recv X hW) (As := [.int ((x1 / 10) - (x1 / 10) / 10 * 10), .int 88, .int 76, .int 67]) (rest := []) rfl rfl hl.1 (Nat.le_of_ble_eq_true rfl) d213_76 ⟨by decide, by decide⟩ (fun q hq => MA.mono hS.1 hq) (fun v H1 locs1 hv _ _ hSq3 => ?_)
      obtain ⟨rfl, hW⟩ := hv
      have hS := hSq3
      refine lv_aload_n (pc := 79) hx hb d213_79 rfl (lv_at hl 0 rfl) ?_
      refine lv_iload_n (pc := 80) hx hb d213_80 rfl (lv_at hl 1 rfl) ?_
      refine lv_bipush (pc := 81) (v := 10) hx hb d213_81 (by decide) ?_
      refine lv_irem (pc := 83) hx hb d213_83 (by decide) ?_
      refine lv_bipush (pc := 84) (v := 73) hx hb d213_84 (by decide) ?_
      refine lv_bipush (pc := 86) (v := 86) hx hb d213_86 (by decide) ?_
      refine lv_bipush (pc := 88) (v := 88) hx hb d213_88 (by decide) ?_
      obtain ⟨q4, hq4, h⟩ := jc_some h
      refine k_callV (pc := 90) (n := 4) X hS (c_mo_roman4 l ρ ad _ q3 (x1 - x1 / 10 * 10) 73 86 88 q4 hW hq4) wd1796 wd1793 wd1795 sl214 wd11 (by decide) ⟨rfl, rfl, by decide, by decide⟩ (m_recv X hW) (As := [.int (x1 - x1 / 10 * 10), .int 73, .int 86, .int 88]) (rest := []) rfl rfl hl.1 (Nat.le_of_ble_eq_true rfl) d213_90 ⟨by decide, by decide⟩ (fun q hq => MA.mono hS.1 hq) (fun v H1 locs1 hv _ _ hSq4 => ?_)
      obtain ⟨rfl, hW⟩ := hv
      have hS := hSq4
      refine lv_aload_n (pc := 93) hx hb d213_93 rfl (lv_at hl 0 rfl) ?_
      obtain ⟨q5, hq5, h⟩ := jc_some h
      refine k_callV (pc := 94) (n := 0) X hS (c_mo_answerText l ρ ad _ q4 q5 hW hq5) wd1707 wd1704 wd1706 sl144 wd11 (by decide) ⟨rfl, rfl, by decide, by decide⟩ (m_recv X hW) (As := []) (rest := []) rfl rfl hl.1 (Nat.le_of_ble_eq_true rfl) d213_94 ⟨by decide, by decide⟩ (fun q hq => MA.mono hS.1 hq) (fun v H1 locs1 hv _ _ hSq5 => ?_)
      obtain ⟨rfl, hW⟩ := hv
      have hS := hSq5
      obtain rfl := Option.some.inj h
      exact m_vret (pc := 97) hx hb hr hlk hS ⟨rfl, hW⟩ (by decide) (by decide) d213_97
    · have h := jb_f c26 h
      obtain rfl := Option.some.inj h
      exact m_vret (pc := 29) hx hb hr hlk hS ⟨rfl, hW⟩ (by decide) (by decide) d213_29
  have kc17 : ∀ (st : GS) (x1 : Int32) (H : Heap) (locs : List Loc) (ls : Array Slot), GW ρ wM ad st H → va_S (MA wM ad s.heap.size) s.heap H locs → lv_has ls 2 [(0, .ref (ad 0)), (1, .int x1)] → mo_roman0_17 st x1 = some res → W p l e ({ frames := 5, cells := 0, slots := 0, locals := 110 } : Room) s m args below meth c H locs 0 0 (MQ below (mQ (fun v H1 => v = none ∧ GW ρ wM ad res H1) (MA wM ad s.heap.size)) args s 0 0 (MA wM ad s.heap.size)) (F0 m 17 ls []) := by
    intro st x1 H locs ls hW hS hl h
    unfold mo_roman0_17 at h
    refine lv_aload_n (pc := 17) hx hb d213_17 rfl (lv_at hl 0 rfl) ?_
    refine lv_iconst (pc := 18) (v := 3) hx hb d213_18 (by decide) ?_
    obtain ⟨q6, hq6, h⟩ := jc_some h
    refine k_callV (pc := 19) (n := 1) X hS (c_mo_fail l ρ ad _ st 3 q6 hW hq6) wd1621 wd1618 wd1620 sl170 wd11 (by decide) ⟨rfl, rfl, by decide, by decide⟩ (m_recv X hW) (As := [.int 3]) (rest := []) rfl rfl hl.1 (Nat.le_of_ble_eq_true rfl) d213_19 ⟨by decide, by decide⟩ (fun q hq => MA.mono hS.1 hq) (fun v H1 locs1 hv _ _ hSq6 => ?_)
    obtain ⟨rfl, hW⟩ := hv
    have hS := hSq6
    exact kc22  q6 x1 _ _ _ hW hS (lv_sub hl [0, 1] rfl) h
  unfold f_mo_roman0 at h
  refine lv_aload_n (pc := 0) hx hb d213_0 rfl (lv_at hl 0 rfl) ?_
  refine lv_iconst (pc := 1) (v := 0) hx hb d213_1 (by decide) ?_
  obtain ⟨q7, hq7, h⟩ := jc_some h
  refine k_callV (pc := 2) (n := 1) X hS (c_mo_whole1 l ρ ad _ st 0 q7 hW hq7) wd1671 wd1668 wd1670 sl241 wd11 (by decide) ⟨rfl, rfl, by decide, by decide⟩ (m_recv X hW) (As := [.int 0]) (rest := []) rfl rfl hl.1 (Nat.le_of_ble_eq_true rfl) d213_2 ⟨by decide, by decide⟩ (fun q hq => MA.mono hS.1 hq) (fun v H1 locs1 hv _ _ hSq7 => ?_)
  obtain ⟨rfl, hW⟩ := hv
  have hS := hSq7
  refine lv_istore_n (pc := 5) (lv' := [(1, .int q7.1), (0, .ref (ad 0))]) hx hb d213_5 rfl hl (by decide) rfl (fun ls hl => ?_)
  refine lv_iload_n (pc := 6) hx hb d213_6 rfl (lv_at hl 0 rfl) ?_
  refine lv_if_lt (pc := 7) (tgt := 17) hx hb d213_7 (by decide) (fun c7 => ?_) (fun c7 => ?_)
  · have h := jb_t c7 h
    exact kc17  q7.2 q7.1 _ _ _ hW hS (lv_sub hl [1, 0] rfl) h
  · have h := jb_f c7 h
    refine lv_iload_n (pc := 10) hx hb d213_10 rfl (lv_at hl 0 rfl) ?_
    refine lv_sipush (pc := 11) (v := 3999) hx hb d213_11 (by decide) ?_
    refine lv_icmp_le (pc := 14) (tgt := 22) hx hb d213_14 (by decide) (fun c14 => ?_) (fun c14 => ?_)
    · have h := jb_t c14 h
      exact kc22  q7.2 q7.1 _ _ _ hW hS (lv_sub hl [1, 0] rfl) h
    · have h := jb_f c14 h
      exact kc17  q7.2 q7.1 _ _ _ hW hS (lv_sub hl [1, 0] rfl) h
def mo_decimal_151  (st : GS) (x2 : Int64) : Option (GS) := jc (f_mo_answerNumber st (FP.l2d x2)) (fun q1 => some q1)
def mo_decimal_145 (K37 : GS → Int32 → Int64 → Int32 → Option (GS)) (st : GS) (x1 : Int32) (x2 : Int64) (x4 : Int32) : Option (GS) := jn (x4 + 1) (fun v2 => K37 st x1 x2 v2)
def mo_decimal_122 (K37 : GS → Int32 → Int64 → Int32 → Option (GS)) (st : GS) (x1 : Int32) (x2 : Int64) (x4 : Int32) (x6 : Int32) : Option (GS) := jn ((x1.toInt64 * x2) + x6.toInt64) (fun v3 => jb ((lg_cmp v3 (9007199254740991 : Int64)) ≤ 0) (mo_decimal_145 K37  st x1 v3 x4) (jc (f_mo_fail st 6) (fun q4 => mo_decimal_145 K37  q4 x1 v3 x4)))
def mo_decimal_108 (K37 : GS → Int32 → Int64 → Int32 → Option (GS)) (st : GS) (x1 : Int32) (x2 : Int64) (x4 : Int32) (z0 : Int32) : Option (GS) := jb (z0 < x1) (mo_decimal_122 K37  st x1 x2 x4 z0) (jc (f_mo_fail st 6) (fun q5 => mo_decimal_122 K37  q5 x1 x2 x4 z0))
def mo_decimal_106 (K37 : GS → Int32 → Int64 → Int32 → Option (GS)) (st : GS) (x1 : Int32) (x2 : Int64) (x4 : Int32) : Option (GS) := mo_decimal_108 K37  st x1 x2 x4 99
def mo_decimal_37  : Nat → GS → Int32 → Int64 → Int32 → Option (GS)
  | 0, _, _, _, _ => none
  | fu + 1, st, x1, x2, x4 => jb ((st.1 0 28) ≤ x4) (mo_decimal_151  st x2) (jb ((st.1 0 22) = 0) (jg (inb x4 256) (jc (f_mo_great (st.1 14 x4.toNatClampNeg)) (fun q7 => jc (f_mo_isDigit q7) (fun q8 => jb (q8 = 0) (jb (q7 < 65) (mo_decimal_106 (mo_decimal_37 fu)  st x1 x2 x4) (jb (90 < q7) (mo_decimal_106 (mo_decimal_37 fu)  st x1 x2 x4) (mo_decimal_108 (mo_decimal_37 fu)  st x1 x2 x4 ((q7 - 65) + 10)))) (mo_decimal_108 (mo_decimal_37 fu)  st x1 x2 x4 (q7 - 48)))))) (mo_decimal_151  st x2))
def mo_decimal_32  (st : GS) (x1 : Int32) : Option (GS) := mo_decimal_37 FU st x1 0 0
def mo_decimal_26  (st : GS) (x1 : Int32) : Option (GS) := jc (f_mo_fail st 6) (fun q9 => mo_decimal_32  q9 x1)
def f_mo_decimal (st : GS) : Option (GS) := jc (f_mo_textOf st 0) (fun q10 => jc (f_mo_toB q10) (fun q11 => jc (f_mo_whole1 q11 1) (fun q12 => jb (q12.1 < 2) (mo_decimal_26  q12.2 q12.1) (jb (q12.1 ≤ 36) (mo_decimal_32  q12.2 q12.1) (mo_decimal_26  q12.2 q12.1)))))
set_option maxHeartbeats 4000000 in
set_option maxRecDepth 100000 in
theorem c_mo_decimal (l : Launch) (ρ : RH) (ad : Nat → Nat) (H : Heap) (st : GS) (res : GS) (hW : GW ρ wM ad st H) (h : f_mo_decimal st = some res) : Met l y164 (wsOf y164 b164 7 none) ({ frames := 5, cells := 0, slots := 0, locals := 110 } : Room) (va_Pc [.ref (ad 0)] (KP ρ H)) (mQ (fun v H1 => v = none ∧ GW ρ wM ad res H1) (MA wM ad H.size)) 0 0 (MA wM ad H.size) := by
  refine m_ofW (own := "WordFunctionsModel") (plainFor_of_name rfl) rfl (Nat.le_of_ble_eq_true rfl) fun p e s m args below meth c ls hx hb hr hlk _ X hs hl => ?_
  subst hs
  have hS : va_S (MA wM ad s.heap.size) s.heap s.heap [] := va_S.rf
  have hl : lv_has ls 7 [(0, .ref (ad 0))] := hl
  have kc151 : ∀ (st : GS) (x2 : Int64) (H : Heap) (locs : List Loc) (ls : Array Slot), GW ρ wM ad st H → va_S (MA wM ad s.heap.size) s.heap H locs → lv_has ls 7 [(0, .ref (ad 0)), (2, .long x2)] → mo_decimal_151 st x2 = some res → W p l e ({ frames := 5, cells := 0, slots := 0, locals := 110 } : Room) s m args below meth c H locs 0 0 (MQ below (mQ (fun v H1 => v = none ∧ GW ρ wM ad res H1) (MA wM ad s.heap.size)) args s 0 0 (MA wM ad s.heap.size)) (F0 m 151 ls []) := by
    intro st x2 H locs ls hW hS hl h
    unfold mo_decimal_151 at h
    refine lv_aload_n (pc := 151) hx hb d164_151 rfl (lv_at hl 0 rfl) ?_
    refine lv_lload_n (pc := 152) hx hb d164_152 rfl (lv_at hl 1 rfl) ?_
    refine lv_l2d (pc := 153) hx hb d164_153 ?_
    obtain ⟨q1, hq1, h⟩ := jc_some h
    refine k_callV (pc := 154) (n := 1) X hS (c_mo_answerNumber l ρ ad _ st (FP.l2d x2) q1 hW hq1) wd1651 wd1648 wd1650 sl142 wd11 (by decide) ⟨rfl, rfl, by decide, by decide⟩ (m_recv X hW) (As := [.double (FP.l2d x2)]) (rest := []) rfl rfl hl.1 (Nat.le_of_ble_eq_true rfl) d164_154 ⟨by decide, by decide⟩ (fun q hq => MA.mono hS.1 hq) (fun v H1 locs1 hv _ _ hSq1 => ?_)
    obtain ⟨rfl, hW⟩ := hv
    have hS := hSq1
    obtain rfl := Option.some.inj h
    exact m_vret (pc := 157) hx hb hr hlk hS ⟨rfl, hW⟩ (by decide) (by decide) d164_157
  have kc145 : ∀ (K37 : GS → Int32 → Int64 → Int32 → Option (GS)) (hK37 : ∀ (st : GS) (x1 : Int32) (x2 : Int64) (x4 : Int32) (H : Heap) (locs : List Loc) (ls : Array Slot), GW ρ wM ad st H → va_S (MA wM ad s.heap.size) s.heap H locs → lv_has ls 7 [(0, .ref (ad 0)), (1, .int x1), (2, .long x2), (4, .int x4)] → K37 st x1 x2 x4 = some res → W p l e ({ frames := 5, cells := 0, slots := 0, locals := 110 } : Room) s m args below meth c H locs 0 0 (MQ below (mQ (fun v H1 => v = none ∧ GW ρ wM ad res H1) (MA wM ad s.heap.size)) args s 0 0 (MA wM ad s.heap.size)) (F0 m 37 ls [])), ∀ (st : GS) (x1 : Int32) (x2 : Int64) (x4 : Int32) (H : Heap) (locs : List Loc) (ls : Array Slot), GW ρ wM ad st H → va_S (MA wM ad s.heap.size) s.heap H locs → lv_has ls 7 [(0, .ref (ad 0)), (1, .int x1), (2, .long x2), (4, .int x4)] → mo_decimal_145 K37 st x1 x2 x4 = some res → W p l e ({ frames := 5, cells := 0, slots := 0, locals := 110 } : Room) s m args below meth c H locs 0 0 (MQ below (mQ (fun v H1 => v = none ∧ GW ρ wM ad res H1) (MA wM ad s.heap.size)) args s 0 0 (MA wM ad s.heap.size)) (F0 m 145 ls []) := by
    intro K37 hK37
    intro st x1 x2 x4 H locs ls hW hS hl h
    unfold mo_decimal_145 at h
    obtain ⟨v2, ev2, h⟩ := jn_ex h
    refine lv_iinc (pc := 145) (v := v2) (lv' := [(4, .int v2), (0, .ref (ad 0)), (1, .int x1), (2, .long x2)]) hx hb d164_145 hl (k := 3) rfl (by rw [ev2]; rfl) (by decide) rfl (fun ls hl => ?_)
    refine lv_goto (pc := 148) (tgt := 37) hx hb d164_148 (by decide) ?_
    exact hK37 st x1 x2 v2 _ _ _ hW hS (lv_sub hl [1, 2, 3, 0] rfl) h
  have kc122 : ∀ (K37 : GS → Int32 → Int64 → Int32 → Option (GS)) (hK37 : ∀ (st : GS) (x1 : Int32) (x2 : Int64) (x4 : Int32) (H : Heap) (locs : List Loc) (ls : Array Slot), GW ρ wM ad st H → va_S (MA wM ad s.heap.size) s.heap H locs → lv_has ls 7 [(0, .ref (ad 0)), (1, .int x1), (2, .long x2), (4, .int x4)] → K37 st x1 x2 x4 = some res → W p l e ({ frames := 5, cells := 0, slots := 0, locals := 110 } : Room) s m args below meth c H locs 0 0 (MQ below (mQ (fun v H1 => v = none ∧ GW ρ wM ad res H1) (MA wM ad s.heap.size)) args s 0 0 (MA wM ad s.heap.size)) (F0 m 37 ls [])), ∀ (st : GS) (x1 : Int32) (x2 : Int64) (x4 : Int32) (x6 : Int32) (H : Heap) (locs : List Loc) (ls : Array Slot), GW ρ wM ad st H → va_S (MA wM ad s.heap.size) s.heap H locs → lv_has ls 7 [(0, .ref (ad 0)), (1, .int x1), (2, .long x2), (4, .int x4), (6, .int x6)] → mo_decimal_122 K37 st x1 x2 x4 x6 = some res → W p l e ({ frames := 5, cells := 0, slots := 0, locals := 110 } : Room) s m args below meth c H locs 0 0 (MQ below (mQ (fun v H1 => v = none ∧ GW ρ wM ad res H1) (MA wM ad s.heap.size)) args s 0 0 (MA wM ad s.heap.size)) (F0 m 122 ls []) := by
    intro K37 hK37
    intro st x1 x2 x4 x6 H locs ls hW hS hl h
    unfold mo_decimal_122 at h
    refine lv_iload_n (pc := 122) hx hb d164_122 rfl (lv_at hl 1 rfl) ?_
    refine lv_i2l (pc := 123) hx hb d164_123 rfl ?_
    refine lv_lload_n (pc := 124) hx hb d164_124 rfl (lv_at hl 2 rfl) ?_
    refine lv_lmul (pc := 125) hx hb d164_125 ?_
    refine lv_iload (pc := 126) hx hb d164_126 (lv_at hl 4 rfl) ?_
    refine lv_i2l (pc := 128) hx hb d164_128 rfl ?_
    refine lv_ladd (pc := 129) hx hb d164_129 ?_
    obtain ⟨v3, ev3, h⟩ := jn_ex h
    refine nm_l ev3 ?_
    refine lv_lstore_n (pc := 130) (lv' := [(2, .long v3), (0, .ref (ad 0)), (1, .int x1), (4, .int x4), (6, .int x6)]) hx hb d164_130 rfl hl (by decide) rfl (fun ls hl => ?_)
    refine lv_lload_n (pc := 131) hx hb d164_131 rfl (lv_at hl 0 rfl) ?_
    refine lv_ldc2 (pc := 132) hx hb X.1.2.2.2.1 (X.ts wd1805) d164_132 ?_
    refine W.lcmp (pc := 135) hx hb d164_135 ?_
    refine lv_if_le (pc := 136) (tgt := 145) hx hb d164_136 (by decide) (fun c136 => ?_) (fun c136 => ?_)
    · have h := jb_t c136 h
      exact kc145 _ hK37 st x1 v3 x4 _ _ _ hW hS (lv_sub hl [1, 2, 0, 3] rfl) h
    · have h := jb_f c136 h
      refine lv_aload_n (pc := 139) hx hb d164_139 rfl (lv_at hl 1 rfl) ?_
      refine lv_bipush (pc := 140) (v := 6) hx hb d164_140 (by decide) ?_
      obtain ⟨q4, hq4, h⟩ := jc_some h
      refine k_callV (pc := 142) (n := 1) X hS (c_mo_fail l ρ ad _ st 6 q4 hW hq4) wd1621 wd1618 wd1620 sl170 wd11 (by decide) ⟨rfl, rfl, by decide, by decide⟩ (m_recv X hW) (As := [.int 6]) (rest := []) rfl rfl hl.1 (Nat.le_of_ble_eq_true rfl) d164_142 ⟨by decide, by decide⟩ (fun q hq => MA.mono hS.1 hq) (fun v H1 locs1 hv _ _ hSq4 => ?_)
      obtain ⟨rfl, hW⟩ := hv
      have hS := hSq4
      exact kc145 _ hK37 q4 x1 v3 x4 _ _ _ hW hS (lv_sub hl [1, 2, 0, 3] rfl) h
  have kc108 : ∀ (K37 : GS → Int32 → Int64 → Int32 → Option (GS)) (hK37 : ∀ (st : GS) (x1 : Int32) (x2 : Int64) (x4 : Int32) (H : Heap) (locs : List Loc) (ls : Array Slot), GW ρ wM ad st H → va_S (MA wM ad s.heap.size) s.heap H locs → lv_has ls 7 [(0, .ref (ad 0)), (1, .int x1), (2, .long x2), (4, .int x4)] → K37 st x1 x2 x4 = some res → W p l e ({ frames := 5, cells := 0, slots := 0, locals := 110 } : Room) s m args below meth c H locs 0 0 (MQ below (mQ (fun v H1 => v = none ∧ GW ρ wM ad res H1) (MA wM ad s.heap.size)) args s 0 0 (MA wM ad s.heap.size)) (F0 m 37 ls [])), ∀ (st : GS) (x1 : Int32) (x2 : Int64) (x4 : Int32) (z0 : Int32) (H : Heap) (locs : List Loc) (ls : Array Slot), GW ρ wM ad st H → va_S (MA wM ad s.heap.size) s.heap H locs → lv_has ls 7 [(0, .ref (ad 0)), (1, .int x1), (2, .long x2), (4, .int x4)] → mo_decimal_108 K37 st x1 x2 x4 z0 = some res → W p l e ({ frames := 5, cells := 0, slots := 0, locals := 110 } : Room) s m args below meth c H locs 0 0 (MQ below (mQ (fun v H1 => v = none ∧ GW ρ wM ad res H1) (MA wM ad s.heap.size)) args s 0 0 (MA wM ad s.heap.size)) (F0 m 108 ls [.int z0]) := by
    intro K37 hK37
    intro st x1 x2 x4 z0 H locs ls hW hS hl h
    unfold mo_decimal_108 at h
    refine lv_istore (pc := 108) (lv' := [(6, .int z0), (0, .ref (ad 0)), (1, .int x1), (2, .long x2), (4, .int x4)]) hx hb d164_108 hl (by decide) rfl (fun ls hl => ?_)
    refine lv_iload (pc := 110) hx hb d164_110 (lv_at hl 0 rfl) ?_
    refine lv_iload_n (pc := 112) hx hb d164_112 rfl (lv_at hl 2 rfl) ?_
    refine lv_icmp_lt (pc := 113) (tgt := 122) hx hb d164_113 (by decide) (fun c113 => ?_) (fun c113 => ?_)
    · have h := jb_t c113 h
      exact kc122 _ hK37 st x1 x2 x4 z0 _ _ _ hW hS (lv_sub hl [1, 2, 3, 4, 0] rfl) h
    · have h := jb_f c113 h
      refine lv_aload_n (pc := 116) hx hb d164_116 rfl (lv_at hl 1 rfl) ?_
      refine lv_bipush (pc := 117) (v := 6) hx hb d164_117 (by decide) ?_
      obtain ⟨q5, hq5, h⟩ := jc_some h
      refine k_callV (pc := 119) (n := 1) X hS (c_mo_fail l ρ ad _ st 6 q5 hW hq5) wd1621 wd1618 wd1620 sl170 wd11 (by decide) ⟨rfl, rfl, by decide, by decide⟩ (m_recv X hW) (As := [.int 6]) (rest := []) rfl rfl hl.1 (Nat.le_of_ble_eq_true rfl) d164_119 ⟨by decide, by decide⟩ (fun q hq => MA.mono hS.1 hq) (fun v H1 locs1 hv _ _ hSq5 => ?_)
      obtain ⟨rfl, hW⟩ := hv
      have hS := hSq5
      exact kc122 _ hK37 q5 x1 x2 x4 z0 _ _ _ hW hS (lv_sub hl [1, 2, 3, 4, 0] rfl) h
  have kc106 : ∀ (K37 : GS → Int32 → Int64 → Int32 → Option (GS)) (hK37 : ∀ (st : GS) (x1 : Int32) (x2 : Int64) (x4 : Int32) (H : Heap) (locs : List Loc) (ls : Array Slot), GW ρ wM ad st H → va_S (MA wM ad s.heap.size) s.heap H locs → lv_has ls 7 [(0, .ref (ad 0)), (1, .int x1), (2, .long x2), (4, .int x4)] → K37 st x1 x2 x4 = some res → W p l e ({ frames := 5, cells := 0, slots := 0, locals := 110 } : Room) s m args below meth c H locs 0 0 (MQ below (mQ (fun v H1 => v = none ∧ GW ρ wM ad res H1) (MA wM ad s.heap.size)) args s 0 0 (MA wM ad s.heap.size)) (F0 m 37 ls [])), ∀ (st : GS) (x1 : Int32) (x2 : Int64) (x4 : Int32) (H : Heap) (locs : List Loc) (ls : Array Slot), GW ρ wM ad st H → va_S (MA wM ad s.heap.size) s.heap H locs → lv_has ls 7 [(0, .ref (ad 0)), (1, .int x1), (2, .long x2), (4, .int x4)] → mo_decimal_106 K37 st x1 x2 x4 = some res → W p l e ({ frames := 5, cells := 0, slots := 0, locals := 110 } : Room) s m args below meth c H locs 0 0 (MQ below (mQ (fun v H1 => v = none ∧ GW ρ wM ad res H1) (MA wM ad s.heap.size)) args s 0 0 (MA wM ad s.heap.size)) (F0 m 106 ls []) := by
    intro K37 hK37
    intro st x1 x2 x4 H locs ls hW hS hl h
    unfold mo_decimal_106 at h
    refine lv_bipush (pc := 106) (v := 99) hx hb d164_106 (by decide) ?_
    exact kc108 _ hK37 st x1 x2 x4 99 _ _ _ hW hS (lv_sub hl [0, 1, 2, 3] rfl) h
  have kc37 : ∀ (fu : Nat), ∀ (st : GS) (x1 : Int32) (x2 : Int64) (x4 : Int32) (H : Heap) (locs : List Loc) (ls : Array Slot), GW ρ wM ad st H → va_S (MA wM ad s.heap.size) s.heap H locs → lv_has ls 7 [(0, .ref (ad 0)), (1, .int x1), (2, .long x2), (4, .int x4)] → mo_decimal_37 fu st x1 x2 x4 = some res → W p l e ({ frames := 5, cells := 0, slots := 0, locals := 110 } : Room) s m args below meth c H locs 0 0 (MQ below (mQ (fun v H1 => v = none ∧ GW ρ wM ad res H1) (MA wM ad s.heap.size)) args s 0 0 (MA wM ad s.heap.size)) (F0 m 37 ls []) := by
    intro  fu
    induction fu with
    | zero => intro st x1 x2 x4 H locs ls hW hS hl h; cases h
    | succ fu hK37 =>
      intro st x1 x2 x4 H locs ls hW hS hl h
      unfold mo_decimal_37 at h
      refine lv_iload (pc := 37) hx hb d164_37 (lv_at hl 3 rfl) ?_
      refine lv_aload_n (pc := 39) hx hb d164_39 rfl (lv_at hl 0 rfl) ?_
      refine m_get (pc := 40) X hW 28 (v := .int (st.1 0 28)) wd1394 rfl rfl d164_40 ?_
      refine lv_icmp_ge (pc := 43) (tgt := 151) hx hb d164_43 (by decide) (fun c43 => ?_) (fun c43 => ?_)
      · have h := jb_t c43 h
        exact kc151  st x2 _ _ _ hW hS (lv_sub hl [0, 2] rfl) h
      · have h := jb_f c43 h
        refine lv_aload_n (pc := 46) hx hb d164_46 rfl (lv_at hl 0 rfl) ?_
        refine m_get (pc := 47) X hW 22 (v := .int (st.1 0 22)) wd1388 rfl rfl d164_47 ?_
        refine lv_if_ne (pc := 50) (tgt := 151) hx hb d164_50 (by decide) (fun c50 => ?_) (fun c50 => ?_)
        · have h := jb_f c50 h
          exact kc151  st x2 _ _ _ hW hS (lv_sub hl [0, 2] rfl) h
        · have h := jb_t c50 h
          refine lv_aload_n (pc := 53) hx hb d164_53 rfl (lv_at hl 0 rfl) ?_
          refine m_get (pc := 54) X hW 24 (v := .ref (ad 14)) wd1390 rfl rfl d164_54 ?_
          refine lv_iload (pc := 57) hx hb d164_57 (lv_at hl 3 rfl) ?_
          obtain ⟨g6, h⟩ := jg_some h
          refine r_iald (pc := 59) X hW 14 (by decide) rfl (inb_in g6) d164_59 ?_
          obtain ⟨q7, hq7, h⟩ := jc_some h
          refine k_callS (pc := 60) (n := 1) X hS (c_mo_great l ρ _ (st.1 14 x4.toNatClampNeg) q7 hq7) wd1729 wd1727 wd1728 wd11 (by decide) ⟨rfl, rfl, by decide, by decide⟩ (As := [.int (st.1 14 x4.toNatClampNeg)]) (rest := []) rfl rfl hl.1 (Nat.le_of_ble_eq_true rfl) d164_60 ⟨by decide, by decide⟩ (fun q hq => False.elim hq) (fun v H1 locs1 hv _ _ hSq7 => ?_)
          obtain ⟨rfl, rfl⟩ := hv
          have hS := hSq7
          refine lv_istore (pc := 63) (lv' := [(5, .int q7), (0, .ref (ad 0)), (1, .int x1), (2, .long x2), (4, .int x4)]) hx hb d164_63 hl (by decide) rfl (fun ls hl => ?_)
          refine lv_iload (pc := 65) hx hb d164_65 (lv_at hl 0 rfl) ?_
          obtain ⟨q8, hq8, h⟩ := jc_some h
          refine k_callS (pc := 67) (n := 1) X hS (c_mo_isDigit l ρ _ q7 q8 hq8) wd1686 wd1684 wd1685 wd11 (by decide) ⟨rfl, rfl, by decide, by decide⟩ (As := [.int q7]) (rest := []) rfl rfl hl.1 (Nat.le_of_ble_eq_true rfl) d164_67 ⟨by decide, by decide⟩ (fun q hq => False.elim hq) (fun v H1 locs1 hv _ _ hSq8 => ?_)
          obtain ⟨rfl, rfl⟩ := hv
          have hS := hSq8
          refine lv_if_eq (pc := 70) (tgt := 81) hx hb d164_70 (by decide) (fun c70 => ?_) (fun c70 => ?_)
          · have h := jb_t c70 h
            refine lv_iload (pc := 81) hx hb d164_81 (lv_at hl 0 rfl) ?_
            refine lv_bipush (pc := 83) (v := 65) hx hb d164_83 (by decide) ?_
            refine lv_icmp_lt (pc := 85) (tgt := 106) hx hb d164_85 (by decide) (fun c85 => ?_) (fun c85 => ?_)
            · have h := jb_t c85 h
              exact kc106 _ hK37 st x1 x2 x4 _ _ _ hW hS (lv_sub hl [1, 2, 3, 4] rfl) h
            · have h := jb_f c85 h
              refine lv_iload (pc := 88) hx hb d164_88 (lv_at hl 0 rfl) ?_
              refine lv_bipush (pc := 90) (v := 90) hx hb d164_90 (by decide) ?_
              refine lv_icmp_gt (pc := 92) (tgt := 106) hx hb d164_92 (by decide) (fun c92 => ?_) (fun c92 => ?_)
              · have h := jb_t c92 h
                exact kc106 _ hK37 st x1 x2 x4 _ _ _ hW hS (lv_sub hl [1, 2, 3, 4] rfl) h
              · have h := jb_f c92 h
                refine lv_iload (pc := 95) hx hb d164_95 (lv_at hl 0 rfl) ?_
                refine lv_bipush (pc := 97) (v := 65) hx hb d164_97 (by decide) ?_
                refine lv_isub (pc := 99) hx hb d164_99 ?_
                refine lv_bipush (pc := 100) (v := 10) hx hb d164_100 (by decide) ?_
                refine lv_iadd (pc := 102) hx hb d164_102 ?_
                refine lv_goto (pc := 103) (tgt := 108) hx hb d164_103 (by decide) ?_
                exact kc108 _ hK37 st x1 x2 x4 ((q7 - 65) + 10) _ _ _ hW hS (lv_sub hl [1, 2, 3, 4] rfl) h
          · have h := jb_f c70 h
            refine lv_iload (pc := 73) hx hb d164_73 (lv_at hl 0 rfl) ?_
            refine lv_bipush (pc := 75) (v := 48) hx hb d164_75 (by decide) ?_
            refine lv_isub (pc := 77) hx hb d164_77 ?_
            refine lv_goto (pc := 78) (tgt := 108) hx hb d164_78 (by decide) ?_
            exact kc108 _ hK37 st x1 x2 x4 (q7 - 48) _ _ _ hW hS (lv_sub hl [1, 2, 3, 4] rfl) h
  have kc32 : ∀ (st : GS) (x1 : Int32) (H : Heap) (locs : List Loc) (ls : Array Slot), GW ρ wM ad st H → va_S (MA wM ad s.heap.size) s.heap H locs → lv_has ls 7 [(0, .ref (ad 0)), (1, .int x1)] → mo_decimal_32 st x1 = some res → W p l e ({ frames := 5, cells := 0, slots := 0, locals := 110 } : Room) s m args below meth c H locs 0 0 (MQ below (mQ (fun v H1 => v = none ∧ GW ρ wM ad res H1) (MA wM ad s.heap.size)) args s 0 0 (MA wM ad s.heap.size)) (F0 m 32 ls []) := by
    intro st x1 H locs ls hW hS hl h
    unfold mo_decimal_32 at h
    refine lv_lconst (pc := 32) (v := 0) hx hb d164_32 rfl ?_
    refine lv_lstore_n (pc := 33) (lv' := [(2, .long 0), (0, .ref (ad 0)), (1, .int x1)]) hx hb d164_33 rfl hl (by decide) rfl (fun ls hl => ?_)
    refine lv_iconst (pc := 34) (v := 0) hx hb d164_34 (by decide) ?_
    refine lv_istore (pc := 35) (lv' := [(4, .int 0), (2, .long 0), (0, .ref (ad 0)), (1, .int x1)]) hx hb d164_35 hl (by decide) rfl (fun ls hl => ?_)
    exact kc37  FU st x1 0 0 _ _ _ hW hS (lv_sub hl [2, 3, 1, 0] rfl) h
  have kc26 : ∀ (st : GS) (x1 : Int32) (H : Heap) (locs : List Loc) (ls : Array Slot), GW ρ wM ad st H → va_S (MA wM ad s.heap.size) s.heap H locs → lv_has ls 7 [(0, .ref (ad 0)), (1, .int x1)] → mo_decimal_26 st x1 = some res → W p l e ({ frames := 5, cells := 0, slots := 0, locals := 110 } : Room) s m args below meth c H locs 0 0 (MQ below (mQ (fun v H1 => v = none ∧ GW ρ wM ad res H1) (MA wM ad s.heap.size)) args s 0 0 (MA wM ad s.heap.size)) (F0 m 26 ls []) := by
    intro st x1 H locs ls hW hS hl h
    unfold mo_decimal_26 at h
    refine lv_aload_n (pc := 26) hx hb d164_26 rfl (lv_at hl 0 rfl) ?_
    refine lv_bipush (pc := 27) (v := 6) hx hb d164_27 (by decide) ?_
    obtain ⟨q9, hq9, h⟩ := jc_some h
    refine k_callV (pc := 29) (n := 1) X hS (c_mo_fail l ρ ad _ st 6 q9 hW hq9) wd1621 wd1618 wd1620 sl170 wd11 (by decide) ⟨rfl, rfl, by decide, by decide⟩ (m_recv X hW) (As := [.int 6]) (rest := []) rfl rfl hl.1 (Nat.le_of_ble_eq_true rfl) d164_29 ⟨by decide, by decide⟩ (fun q hq => MA.mono hS.1 hq) (fun v H1 locs1 hv _ _ hSq9 => ?_)
    obtain ⟨rfl, hW⟩ := hv
    have hS := hSq9
    exact kc32  q9 x1 _ _ _ hW hS (lv_sub hl [0, 1] rfl) h
  unfold f_mo_decimal at h
  refine lv_aload_n (pc := 0) hx hb d164_0 rfl (lv_at hl 0 rfl) ?_
  refine lv_iconst (pc := 1) (v := 0) hx hb d164_1 (by decide) ?_
  obtain ⟨q10, hq10, h⟩ := jc_some h
  refine k_callV (pc := 2) (n := 1) X hS (c_mo_textOf l ρ ad _ st 0 q10 hW hq10) wd1597 wd1594 wd1596 sl226 wd11 (by decide) ⟨rfl, rfl, by decide, by decide⟩ (m_recv X hW) (As := [.int 0]) (rest := []) rfl rfl hl.1 (Nat.le_of_ble_eq_true rfl) d164_2 ⟨by decide, by decide⟩ (fun q hq => MA.mono hS.1 hq) (fun v H1 locs1 hv _ _ hSq10 => ?_)
  obtain ⟨rfl, hW⟩ := hv
  have hS := hSq10
  refine lv_aload_n (pc := 5) hx hb d164_5 rfl (lv_at hl 0 rfl) ?_
  obtain ⟨q11, hq11, h⟩ := jc_some h
  refine k_callV (pc := 6) (n := 0) X hS (c_mo_toB l ρ ad _ q10 q11 hW hq11) wd1659 wd1656 wd1658 sl231 wd11 (by decide) ⟨rfl, rfl, by decide, by decide⟩ (m_recv X hW) (As := []) (rest := []) rfl rfl hl.1 (Nat.le_of_ble_eq_true rfl) d164_6 ⟨by decide, by decide⟩ (fun q hq => MA.mono hS.1 hq) (fun v H1 locs1 hv _ _ hSq11 => ?_)
  obtain ⟨rfl, hW⟩ := hv
  have hS := hSq11
  refine lv_aload_n (pc := 9) hx hb d164_9 rfl (lv_at hl 0 rfl) ?_
  refine lv_iconst (pc := 10) (v := 1) hx hb d164_10 (by decide) ?_
  obtain ⟨q12, hq12, h⟩ := jc_some h
  refine k_callV (pc := 11) (n := 1) X hS (c_mo_whole1 l ρ ad _ q11 1 q12 hW hq12) wd1671 wd1668 wd1670 sl241 wd11 (by decide) ⟨rfl, rfl, by decide, by decide⟩ (m_recv X hW) (As := [.int 1]) (rest := []) rfl rfl hl.1 (Nat.le_of_ble_eq_true rfl) d164_11 ⟨by decide, by decide⟩ (fun q hq => MA.mono hS.1 hq) (fun v H1 locs1 hv _ _ hSq12 => ?_)
  obtain ⟨rfl, hW⟩ := hv
  have hS := hSq12
  refine lv_istore_n (pc := 14) (lv' := [(1, .int q12.1), (0, .ref (ad 0))]) hx hb d164_14 rfl hl (by decide) rfl (fun ls hl => ?_)
  refine lv_iload_n (pc := 15) hx hb d164_15 rfl (lv_at hl 0 rfl) ?_
  refine lv_iconst (pc := 16) (v := 2) hx hb d164_16 (by decide) ?_
  refine lv_icmp_lt (pc := 17) (tgt := 26) hx hb d164_17 (by decide) (fun c17 => ?_) (fun c17 => ?_)
  · have h := jb_t c17 h
    exact kc26  q12.2 q12.1 _ _ _ hW hS (lv_sub hl [1, 0] rfl) h
  · have h := jb_f c17 h
    refine lv_iload_n (pc := 20) hx hb d164_20 rfl (lv_at hl 0 rfl) ?_
    refine lv_bipush (pc := 21) (v := 36) hx hb d164_21 (by decide) ?_
    refine lv_icmp_le (pc := 23) (tgt := 32) hx hb d164_23 (by decide) (fun c23 => ?_) (fun c23 => ?_)
    · have h := jb_t c23 h
      exact kc32  q12.2 q12.1 _ _ _ hW hS (lv_sub hl [1, 0] rfl) h
    · have h := jb_f c23 h
      exact kc26  q12.2 q12.1 _ _ _ hW hS (lv_sub hl [1, 0] rfl) h
def mo_words_237  (st : GS) (z1 : Int32) : Option (GS) := jc (f_mo_character st z1) (fun q1 => some q1)
def mo_words_162  (st : GS) (z1 : Int32) : Option (GS) := jc (f_mo_findText st z1) (fun q2 => some q2)
def mo_words_137  (st : GS) (z1 : Int32) : Option (GS) := jc (f_mo_ends st z1) (fun q3 => some q3)
def f_mo_words (st : GS) (p0 : Int32) : Option (GS) := jb (p0 = 66) (jc (f_mo_textOf st 0) (fun q4 => jc (f_mo_answerNumber q4 (FP.i2d (q4.1 0 27))) (fun q5 => some q5))) (jb (p0 = 67) (jb (p0 = 68) (mo_words_137  st 1) (mo_words_137  st 0)) (jb (p0 = 68) (jb (p0 = 68) (mo_words_137  st 1) (mo_words_137  st 0)) (jb (p0 = 69) (jc (f_mo_middle st) (fun q6 => some q6)) (jb (p0 = 70) (jb (p0 = 71) (mo_words_162  st 1) (mo_words_162  st 0)) (jb (p0 = 71) (jb (p0 = 71) (mo_words_162  st 1) (mo_words_162  st 0)) (jb (p0 = 72) (jc (f_mo_replace st) (fun q7 => some q7)) (jb (p0 = 73) (jc (f_mo_substitute st) (fun q8 => some q8)) (jb (p0 = 74) (jc (f_mo_repeat st) (fun q9 => some q9)) (jb (p0 = 75) (jc (f_mo_sizes st p0) (fun q10 => some q10)) (jb (p0 = 76) (jc (f_mo_sizes st p0) (fun q11 => some q11)) (jb (p0 = 77) (jc (f_mo_sizes st p0) (fun q12 => some q12)) (jb (p0 = 78) (jc (f_mo_trim st) (fun q13 => some q13)) (jb (p0 = 79) (jc (f_mo_concatenate st) (fun q14 => some q14)) (jb (p0 = 80) (jc (f_mo_join st) (fun q15 => some q15)) (jb (p0 = 81) (jc (f_mo_exact st) (fun q16 => some q16)) (jb (p0 = 82) (jb (p0 = 83) (mo_words_237  st 1) (mo_words_237  st 0)) (jb (p0 = 83) (jb (p0 = 83) (mo_words_237  st 1) (mo_words_237  st 0)) (jb (p0 = 84) (jc (f_mo_decimal st) (fun q17 => some q17)) (jb (p0 = 85) (jc (f_mo_decimal st) (fun q18 => some q18)) (jb (p0 = 86) (jc (f_mo_decimal st) (fun q19 => some q19)) (jb (p0 = 87) (jc (f_mo_roman0 st) (fun q20 => some q20)) (jb (p0 = 88) (jc (f_mo_base st) (fun q21 => some q21)) (jc (f_mo_decimal st) (fun q22 => some q22))))))))))))))))))))))))
set_option maxHeartbeats 4000000 in
set_option maxRecDepth 100000 in
theorem c_mo_words (l : Launch) (ρ : RH) (ad : Nat → Nat) (H : Heap) (st : GS) (p0 : Int32) (res : GS) (hW : GW ρ wM ad st H) (h : f_mo_words st p0 = some res) : Met l y243 (wsOf y243 b243 2 none) ({ frames := 7, cells := 0, slots := 0, locals := 163 } : Room) (va_Pc [.ref (ad 0), .int p0] (KP ρ H)) (mQ (fun v H1 => v = none ∧ GW ρ wM ad res H1) (MA wM ad H.size)) 0 0 (MA wM ad H.size) := by
  refine m_ofW (own := "WordFunctionsModel") (plainFor_of_name rfl) rfl (Nat.le_of_ble_eq_true rfl) fun p e s m args below meth c ls hx hb hr hlk _ X hs hl => ?_
  subst hs
  have hS : va_S (MA wM ad s.heap.size) s.heap s.heap [] := va_S.rf
  have hl : lv_has ls 2 [(0, .ref (ad 0)), (1, .int p0)] := hl
  have kc237 : ∀ (st : GS) (z1 : Int32) (H : Heap) (locs : List Loc) (ls : Array Slot), GW ρ wM ad st H → va_S (MA wM ad s.heap.size) s.heap H locs → lv_has ls 2 [] → mo_words_237 st z1 = some res → W p l e ({ frames := 7, cells := 0, slots := 0, locals := 163 } : Room) s m args below meth c H locs 0 0 (MQ below (mQ (fun v H1 => v = none ∧ GW ρ wM ad res H1) (MA wM ad s.heap.size)) args s 0 0 (MA wM ad s.heap.size)) (F0 m 237 ls [.int z1, .ref (ad 0)]) := by
    intro st z1 H locs ls hW hS hl h
    unfold mo_words_237 at h
    obtain ⟨q1, hq1, h⟩ := jc_some h
    refine k_callV (pc := 237) (n := 1) X hS (c_mo_character l ρ ad _ st z1 q1 hW hq1) wd1788 wd1785 wd1787 sl152 wd11 (by decide) ⟨rfl, rfl, by decide, by decide⟩ (m_recv X hW) (As := [.int z1]) (rest := []) rfl rfl hl.1 (Nat.le_of_ble_eq_true rfl) d243_237 ⟨by decide, by decide⟩ (fun q hq => MA.mono hS.1 hq) (fun v H1 locs1 hv _ _ hSq1 => ?_)
    obtain ⟨rfl, hW⟩ := hv
    have hS := hSq1
    refine lv_goto (pc := 240) (tgt := 261) hx hb d243_240 (by decide) ?_
    obtain rfl := Option.some.inj h
    exact m_vret (pc := 261) hx hb hr hlk hS ⟨rfl, hW⟩ (by decide) (by decide) d243_261
  have kc162 : ∀ (st : GS) (z1 : Int32) (H : Heap) (locs : List Loc) (ls : Array Slot), GW ρ wM ad st H → va_S (MA wM ad s.heap.size) s.heap H locs → lv_has ls 2 [] → mo_words_162 st z1 = some res → W p l e ({ frames := 7, cells := 0, slots := 0, locals := 163 } : Room) s m args below meth c H locs 0 0 (MQ below (mQ (fun v H1 => v = none ∧ GW ρ wM ad res H1) (MA wM ad s.heap.size)) args s 0 0 (MA wM ad s.heap.size)) (F0 m 162 ls [.int z1, .ref (ad 0)]) := by
    intro st z1 H locs ls hW hS hl h
    unfold mo_words_162 at h
    obtain ⟨q2, hq2, h⟩ := jc_some h
    refine k_callV (pc := 162) (n := 1) X hS (c_mo_findText l ρ ad _ st z1 q2 hW hq2) wd1715 wd1712 wd1714 sl173 wd11 (by decide) ⟨rfl, rfl, by decide, by decide⟩ (m_recv X hW) (As := [.int z1]) (rest := []) rfl rfl hl.1 (Nat.le_of_ble_eq_true rfl) d243_162 ⟨by decide, by decide⟩ (fun q hq => MA.mono hS.1 hq) (fun v H1 locs1 hv _ _ hSq2 => ?_)
    obtain ⟨rfl, hW⟩ := hv
    have hS := hSq2
    refine lv_goto (pc := 165) (tgt := 261) hx hb d243_165 (by decide) ?_
    obtain rfl := Option.some.inj h
    exact m_vret (pc := 261) hx hb hr hlk hS ⟨rfl, hW⟩ (by decide) (by decide) d243_261
  have kc137 : ∀ (st : GS) (z1 : Int32) (H : Heap) (locs : List Loc) (ls : Array Slot), GW ρ wM ad st H → va_S (MA wM ad s.heap.size) s.heap H locs → lv_has ls 2 [] → mo_words_137 st z1 = some res → W p l e ({ frames := 7, cells := 0, slots := 0, locals := 163 } : Room) s m args below meth c H locs 0 0 (MQ below (mQ (fun v H1 => v = none ∧ GW ρ wM ad res H1) (MA wM ad s.heap.size)) args s 0 0 (MA wM ad s.heap.size)) (F0 m 137 ls [.int z1, .ref (ad 0)]) := by
    intro st z1 H locs ls hW hS hl h
    unfold mo_words_137 at h
    obtain ⟨q3, hq3, h⟩ := jc_some h
    refine k_callV (pc := 137) (n := 1) X hS (c_mo_ends l ρ ad _ st z1 q3 hW hq3) wd1655 wd1652 wd1654 sl167 wd11 (by decide) ⟨rfl, rfl, by decide, by decide⟩ (m_recv X hW) (As := [.int z1]) (rest := []) rfl rfl hl.1 (Nat.le_of_ble_eq_true rfl) d243_137 ⟨by decide, by decide⟩ (fun q hq => MA.mono hS.1 hq) (fun v H1 locs1 hv _ _ hSq3 => ?_)
    obtain ⟨rfl, hW⟩ := hv
    have hS := hSq3
    refine lv_goto (pc := 140) (tgt := 261) hx hb d243_140 (by decide) ?_
    obtain rfl := Option.some.inj h
    exact m_vret (pc := 261) hx hb hr hlk hS ⟨rfl, hW⟩ (by decide) (by decide) d243_261
  unfold f_mo_words at h
  refine lv_iload_n (pc := 0) hx hb d243_0 rfl (lv_at hl 1 rfl) ?_
  by_cases c1_66 : p0 = 66
  · have h := jb_t c1_66 h
    refine lv_tableIn (pc := 1) (off := 107) (tgt := 108) hx hb d243_1 (by rw [c1_66]; decide) (by rw [c1_66]; decide) (by rw [c1_66]; rfl) (by decide) ?_
    refine lv_aload_n (pc := 108) hx hb d243_108 rfl (lv_at hl 0 rfl) ?_
    refine lv_iconst (pc := 109) (v := 0) hx hb d243_109 (by decide) ?_
    obtain ⟨q4, hq4, h⟩ := jc_some h
    refine k_callV (pc := 110) (n := 1) X hS (c_mo_textOf l ρ ad _ st 0 q4 hW hq4) wd1597 wd1594 wd1596 sl226 wd11 (by decide) ⟨rfl, rfl, by decide, by decide⟩ (m_recv X hW) (As := [.int 0]) (rest := []) rfl rfl hl.1 (Nat.le_of_ble_eq_true rfl) d243_110 ⟨by decide, by decide⟩ (fun q hq => MA.mono hS.1 hq) (fun v H1 locs1 hv _ _ hSq4 => ?_)
    obtain ⟨rfl, hW⟩ := hv
    have hS := hSq4
    refine lv_aload_n (pc := 113) hx hb d243_113 rfl (lv_at hl 0 rfl) ?_
    refine lv_aload_n (pc := 114) hx hb d243_114 rfl (lv_at hl 0 rfl) ?_
    refine m_get (pc := 115) X hW 27 (v := .int (q4.1 0 27)) wd1393 rfl rfl d243_115 ?_
    refine lv_i2d (pc := 118) hx hb d243_118 ?_
    obtain ⟨q5, hq5, h⟩ := jc_some h
    refine k_callV (pc := 119) (n := 1) X hS (c_mo_answerNumber l ρ ad _ q4 (FP.i2d (q4.1 0 27)) q5 hW hq5) wd1651 wd1648 wd1650 sl142 wd11 (by decide) ⟨rfl, rfl, by decide, by decide⟩ (m_recv X hW) (As := [.double (FP.i2d (q4.1 0 27))]) (rest := []) rfl rfl hl.1 (Nat.le_of_ble_eq_true rfl) d243_119 ⟨by decide, by decide⟩ (fun q hq => MA.mono hS.1 hq) (fun v H1 locs1 hv _ _ hSq5 => ?_)
    obtain ⟨rfl, hW⟩ := hv
    have hS := hSq5
    refine lv_goto (pc := 122) (tgt := 261) hx hb d243_122 (by decide) ?_
    obtain rfl := Option.some.inj h
    exact m_vret (pc := 261) hx hb hr hlk hS ⟨rfl, hW⟩ (by decide) (by decide) d243_261
  have h := jb_f c1_66 h
  by_cases c1_67 : p0 = 67
  · have h := jb_t c1_67 h
    refine lv_tableIn (pc := 1) (off := 124) (tgt := 125) hx hb d243_1 (by rw [c1_67]; decide) (by rw [c1_67]; decide) (by rw [c1_67]; rfl) (by decide) ?_
    refine lv_aload_n (pc := 125) hx hb d243_125 rfl (lv_at hl 0 rfl) ?_
    refine lv_iload_n (pc := 126) hx hb d243_126 rfl (lv_at hl 1 rfl) ?_
    refine lv_bipush (pc := 127) (v := 68) hx hb d243_127 (by decide) ?_
    refine lv_icmp_ne (pc := 129) (tgt := 136) hx hb d243_129 (by decide) (fun c129 => ?_) (fun c129 => ?_)
    · have h := jb_f c129 h
      refine lv_iconst (pc := 136) (v := 0) hx hb d243_136 (by decide) ?_
      exact kc137  st 0 _ _ _ hW hS (lv_sub hl [] rfl) h
    · have h := jb_t c129 h
      refine lv_iconst (pc := 132) (v := 1) hx hb d243_132 (by decide) ?_
      refine lv_goto (pc := 133) (tgt := 137) hx hb d243_133 (by decide) ?_
      exact kc137  st 1 _ _ _ hW hS (lv_sub hl [] rfl) h
  have h := jb_f c1_67 h
  by_cases c1_68 : p0 = 68
  · have h := jb_t c1_68 h
    refine lv_tableIn (pc := 1) (off := 124) (tgt := 125) hx hb d243_1 (by rw [c1_68]; decide) (by rw [c1_68]; decide) (by rw [c1_68]; rfl) (by decide) ?_
    refine lv_aload_n (pc := 125) hx hb d243_125 rfl (lv_at hl 0 rfl) ?_
    refine lv_iload_n (pc := 126) hx hb d243_126 rfl (lv_at hl 1 rfl) ?_
    refine lv_bipush (pc := 127) (v := 68) hx hb d243_127 (by decide) ?_
    refine lv_icmp_ne (pc := 129) (tgt := 136) hx hb d243_129 (by decide) (fun c129 => ?_) (fun c129 => ?_)
    · have h := jb_f c129 h
      refine lv_iconst (pc := 136) (v := 0) hx hb d243_136 (by decide) ?_
      exact kc137  st 0 _ _ _ hW hS (lv_sub hl [] rfl) h
    · have h := jb_t c129 h
      refine lv_iconst (pc := 132) (v := 1) hx hb d243_132 (by decide) ?_
      refine lv_goto (pc := 133) (tgt := 137) hx hb d243_133 (by decide) ?_
      exact kc137  st 1 _ _ _ hW hS (lv_sub hl [] rfl) h
  have h := jb_f c1_68 h
  by_cases c1_69 : p0 = 69
  · have h := jb_t c1_69 h
    refine lv_tableIn (pc := 1) (off := 142) (tgt := 143) hx hb d243_1 (by rw [c1_69]; decide) (by rw [c1_69]; decide) (by rw [c1_69]; rfl) (by decide) ?_
    refine lv_aload_n (pc := 143) hx hb d243_143 rfl (lv_at hl 0 rfl) ?_
    obtain ⟨q6, hq6, h⟩ := jc_some h
    refine k_callV (pc := 144) (n := 0) X hS (c_mo_middle l ρ ad _ st q6 hW hq6) wd1711 wd1708 wd1710 sl200 wd11 (by decide) ⟨rfl, rfl, by decide, by decide⟩ (m_recv X hW) (As := []) (rest := []) rfl rfl hl.1 (Nat.le_of_ble_eq_true rfl) d243_144 ⟨by decide, by decide⟩ (fun q hq => MA.mono hS.1 hq) (fun v H1 locs1 hv _ _ hSq6 => ?_)
    obtain ⟨rfl, hW⟩ := hv
    have hS := hSq6
    refine lv_goto (pc := 147) (tgt := 261) hx hb d243_147 (by decide) ?_
    obtain rfl := Option.some.inj h
    exact m_vret (pc := 261) hx hb hr hlk hS ⟨rfl, hW⟩ (by decide) (by decide) d243_261
  have h := jb_f c1_69 h
  by_cases c1_70 : p0 = 70
  · have h := jb_t c1_70 h
    refine lv_tableIn (pc := 1) (off := 149) (tgt := 150) hx hb d243_1 (by rw [c1_70]; decide) (by rw [c1_70]; decide) (by rw [c1_70]; rfl) (by decide) ?_
    refine lv_aload_n (pc := 150) hx hb d243_150 rfl (lv_at hl 0 rfl) ?_
    refine lv_iload_n (pc := 151) hx hb d243_151 rfl (lv_at hl 1 rfl) ?_
    refine lv_bipush (pc := 152) (v := 71) hx hb d243_152 (by decide) ?_
    refine lv_icmp_ne (pc := 154) (tgt := 161) hx hb d243_154 (by decide) (fun c154 => ?_) (fun c154 => ?_)
    · have h := jb_f c154 h
      refine lv_iconst (pc := 161) (v := 0) hx hb d243_161 (by decide) ?_
      exact kc162  st 0 _ _ _ hW hS (lv_sub hl [] rfl) h
    · have h := jb_t c154 h
      refine lv_iconst (pc := 157) (v := 1) hx hb d243_157 (by decide) ?_
      refine lv_goto (pc := 158) (tgt := 162) hx hb d243_158 (by decide) ?_
      exact kc162  st 1 _ _ _ hW hS (lv_sub hl [] rfl) h
  have h := jb_f c1_70 h
  by_cases c1_71 : p0 = 71
  · have h := jb_t c1_71 h
    refine lv_tableIn (pc := 1) (off := 149) (tgt := 150) hx hb d243_1 (by rw [c1_71]; decide) (by rw [c1_71]; decide) (by rw [c1_71]; rfl) (by decide) ?_
    refine lv_aload_n (pc := 150) hx hb d243_150 rfl (lv_at hl 0 rfl) ?_
    refine lv_iload_n (pc := 151) hx hb d243_151 rfl (lv_at hl 1 rfl) ?_
    refine lv_bipush (pc := 152) (v := 71) hx hb d243_152 (by decide) ?_
    refine lv_icmp_ne (pc := 154) (tgt := 161) hx hb d243_154 (by decide) (fun c154 => ?_) (fun c154 => ?_)
    · have h := jb_f c154 h
      refine lv_iconst (pc := 161) (v := 0) hx hb d243_161 (by decide) ?_
      exact kc162  st 0 _ _ _ hW hS (lv_sub hl [] rfl) h
    · have h := jb_t c154 h
      refine lv_iconst (pc := 157) (v := 1) hx hb d243_157 (by decide) ?_
      refine lv_goto (pc := 158) (tgt := 162) hx hb d243_158 (by decide) ?_
      exact kc162  st 1 _ _ _ hW hS (lv_sub hl [] rfl) h
  have h := jb_f c1_71 h
  by_cases c1_72 : p0 = 72
  · have h := jb_t c1_72 h
    refine lv_tableIn (pc := 1) (off := 167) (tgt := 168) hx hb d243_1 (by rw [c1_72]; decide) (by rw [c1_72]; decide) (by rw [c1_72]; rfl) (by decide) ?_
    refine lv_aload_n (pc := 168) hx hb d243_168 rfl (lv_at hl 0 rfl) ?_
    obtain ⟨q7, hq7, h⟩ := jc_some h
    refine k_callV (pc := 169) (n := 0) X hS (c_mo_replace l ρ ad _ st q7 hW hq7) wd1737 wd1734 wd1736 sl212 wd11 (by decide) ⟨rfl, rfl, by decide, by decide⟩ (m_recv X hW) (As := []) (rest := []) rfl rfl hl.1 (Nat.le_of_ble_eq_true rfl) d243_169 ⟨by decide, by decide⟩ (fun q hq => MA.mono hS.1 hq) (fun v H1 locs1 hv _ _ hSq7 => ?_)
    obtain ⟨rfl, hW⟩ := hv
    have hS := hSq7
    refine lv_goto (pc := 172) (tgt := 261) hx hb d243_172 (by decide) ?_
    obtain rfl := Option.some.inj h
    exact m_vret (pc := 261) hx hb hr hlk hS ⟨rfl, hW⟩ (by decide) (by decide) d243_261
  have h := jb_f c1_72 h
  by_cases c1_73 : p0 = 73
  · have h := jb_t c1_73 h
    refine lv_tableIn (pc := 1) (off := 174) (tgt := 175) hx hb d243_1 (by rw [c1_73]; decide) (by rw [c1_73]; decide) (by rw [c1_73]; rfl) (by decide) ?_
    refine lv_aload_n (pc := 175) hx hb d243_175 rfl (lv_at hl 0 rfl) ?_
    obtain ⟨q8, hq8, h⟩ := jc_some h
    refine k_callV (pc := 176) (n := 0) X hS (c_mo_substitute l ρ ad _ st q8 hW hq8) wd1741 wd1738 wd1740 sl222 wd11 (by decide) ⟨rfl, rfl, by decide, by decide⟩ (m_recv X hW) (As := []) (rest := []) rfl rfl hl.1 (Nat.le_of_ble_eq_true rfl) d243_176 ⟨by decide, by decide⟩ (fun q hq => MA.mono hS.1 hq) (fun v H1 locs1 hv _ _ hSq8 => ?_)
    obtain ⟨rfl, hW⟩ := hv
    have hS := hSq8
    refine lv_goto (pc := 179) (tgt := 261) hx hb d243_179 (by decide) ?_
    obtain rfl := Option.some.inj h
    exact m_vret (pc := 261) hx hb hr hlk hS ⟨rfl, hW⟩ (by decide) (by decide) d243_261
  have h := jb_f c1_73 h
  by_cases c1_74 : p0 = 74
  · have h := jb_t c1_74 h
    refine lv_tableIn (pc := 1) (off := 181) (tgt := 182) hx hb d243_1 (by rw [c1_74]; decide) (by rw [c1_74]; decide) (by rw [c1_74]; rfl) (by decide) ?_
    refine lv_aload_n (pc := 182) hx hb d243_182 rfl (lv_at hl 0 rfl) ?_
    obtain ⟨q9, hq9, h⟩ := jc_some h
    refine k_callV (pc := 183) (n := 0) X hS (c_mo_repeat l ρ ad _ st q9 hW hq9) wd1745 wd1742 wd1744 sl211 wd11 (by decide) ⟨rfl, rfl, by decide, by decide⟩ (m_recv X hW) (As := []) (rest := []) rfl rfl hl.1 (Nat.le_of_ble_eq_true rfl) d243_183 ⟨by decide, by decide⟩ (fun q hq => MA.mono hS.1 hq) (fun v H1 locs1 hv _ _ hSq9 => ?_)
    obtain ⟨rfl, hW⟩ := hv
    have hS := hSq9
    refine lv_goto (pc := 186) (tgt := 261) hx hb d243_186 (by decide) ?_
    obtain rfl := Option.some.inj h
    exact m_vret (pc := 261) hx hb hr hlk hS ⟨rfl, hW⟩ (by decide) (by decide) d243_261
  have h := jb_f c1_74 h
  by_cases c1_75 : p0 = 75
  · have h := jb_t c1_75 h
    refine lv_tableIn (pc := 1) (off := 188) (tgt := 189) hx hb d243_1 (by rw [c1_75]; decide) (by rw [c1_75]; decide) (by rw [c1_75]; rfl) (by decide) ?_
    refine lv_aload_n (pc := 189) hx hb d243_189 rfl (lv_at hl 0 rfl) ?_
    refine lv_iload_n (pc := 190) hx hb d243_190 rfl (lv_at hl 1 rfl) ?_
    obtain ⟨q10, hq10, h⟩ := jc_some h
    refine k_callV (pc := 191) (n := 1) X hS (c_mo_sizes l ρ ad _ st p0 q10 hW hq10) wd1749 wd1746 wd1748 sl218 wd11 (by decide) ⟨rfl, rfl, by decide, by decide⟩ (m_recv X hW) (As := [.int p0]) (rest := []) rfl rfl hl.1 (Nat.le_of_ble_eq_true rfl) d243_191 ⟨by decide, by decide⟩ (fun q hq => MA.mono hS.1 hq) (fun v H1 locs1 hv _ _ hSq10 => ?_)
    obtain ⟨rfl, hW⟩ := hv
    have hS := hSq10
    refine lv_goto (pc := 194) (tgt := 261) hx hb d243_194 (by decide) ?_
    obtain rfl := Option.some.inj h
    exact m_vret (pc := 261) hx hb hr hlk hS ⟨rfl, hW⟩ (by decide) (by decide) d243_261
  have h := jb_f c1_75 h
  by_cases c1_76 : p0 = 76
  · have h := jb_t c1_76 h
    refine lv_tableIn (pc := 1) (off := 188) (tgt := 189) hx hb d243_1 (by rw [c1_76]; decide) (by rw [c1_76]; decide) (by rw [c1_76]; rfl) (by decide) ?_
    refine lv_aload_n (pc := 189) hx hb d243_189 rfl (lv_at hl 0 rfl) ?_
    refine lv_iload_n (pc := 190) hx hb d243_190 rfl (lv_at hl 1 rfl) ?_
    obtain ⟨q11, hq11, h⟩ := jc_some h
    refine k_callV (pc := 191) (n := 1) X hS (c_mo_sizes l ρ ad _ st p0 q11 hW hq11) wd1749 wd1746 wd1748 sl218 wd11 (by decide) ⟨rfl, rfl, by decide, by decide⟩ (m_recv X hW) (As := [.int p0]) (rest := []) rfl rfl hl.1 (Nat.le_of_ble_eq_true rfl) d243_191 ⟨by decide, by decide⟩ (fun q hq => MA.mono hS.1 hq) (fun v H1 locs1 hv _ _ hSq11 => ?_)
    obtain ⟨rfl, hW⟩ := hv
    have hS := hSq11
    refine lv_goto (pc := 194) (tgt := 261) hx hb d243_194 (by decide) ?_
    obtain rfl := Option.some.inj h
    exact m_vret (pc := 261) hx hb hr hlk hS ⟨rfl, hW⟩ (by decide) (by decide) d243_261
  have h := jb_f c1_76 h
  by_cases c1_77 : p0 = 77
  · have h := jb_t c1_77 h
    refine lv_tableIn (pc := 1) (off := 188) (tgt := 189) hx hb d243_1 (by rw [c1_77]; decide) (by rw [c1_77]; decide) (by rw [c1_77]; rfl) (by decide) ?_
    refine lv_aload_n (pc := 189) hx hb d243_189 rfl (lv_at hl 0 rfl) ?_
    refine lv_iload_n (pc := 190) hx hb d243_190 rfl (lv_at hl 1 rfl) ?_
    obtain ⟨q12, hq12, h⟩ := jc_some h
    refine k_callV (pc := 191) (n := 1) X hS (c_mo_sizes l ρ ad _ st p0 q12 hW hq12) wd1749 wd1746 wd1748 sl218 wd11 (by decide) ⟨rfl, rfl, by decide, by decide⟩ (m_recv X hW) (As := [.int p0]) (rest := []) rfl rfl hl.1 (Nat.le_of_ble_eq_true rfl) d243_191 ⟨by decide, by decide⟩ (fun q hq => MA.mono hS.1 hq) (fun v H1 locs1 hv _ _ hSq12 => ?_)
    obtain ⟨rfl, hW⟩ := hv
    have hS := hSq12
    refine lv_goto (pc := 194) (tgt := 261) hx hb d243_194 (by decide) ?_
    obtain rfl := Option.some.inj h
    exact m_vret (pc := 261) hx hb hr hlk hS ⟨rfl, hW⟩ (by decide) (by decide) d243_261
  have h := jb_f c1_77 h
  by_cases c1_78 : p0 = 78
  · have h := jb_t c1_78 h
    refine lv_tableIn (pc := 1) (off := 196) (tgt := 197) hx hb d243_1 (by rw [c1_78]; decide) (by rw [c1_78]; decide) (by rw [c1_78]; rfl) (by decide) ?_
    refine lv_aload_n (pc := 197) hx hb d243_197 rfl (lv_at hl 0 rfl) ?_
    obtain ⟨q13, hq13, h⟩ := jc_some h
    refine k_callV (pc := 198) (n := 0) X hS (c_mo_trim l ρ ad _ st q13 hW hq13) wd1756 wd1753 wd1755 sl233 wd11 (by decide) ⟨rfl, rfl, by decide, by decide⟩ (m_recv X hW) (As := []) (rest := []) rfl rfl hl.1 (Nat.le_of_ble_eq_true rfl) d243_198 ⟨by decide, by decide⟩ (fun q hq => MA.mono hS.1 hq) (fun v H1 locs1 hv _ _ hSq13 => ?_)
    obtain ⟨rfl, hW⟩ := hv
    have hS := hSq13
    refine lv_goto (pc := 201) (tgt := 261) hx hb d243_201 (by decide) ?_
    obtain rfl := Option.some.inj h
    exact m_vret (pc := 261) hx hb hr hlk hS ⟨rfl, hW⟩ (by decide) (by decide) d243_261
  have h := jb_f c1_78 h
  by_cases c1_79 : p0 = 79
  · have h := jb_t c1_79 h
    refine lv_tableIn (pc := 1) (off := 203) (tgt := 204) hx hb d243_1 (by rw [c1_79]; decide) (by rw [c1_79]; decide) (by rw [c1_79]; rfl) (by decide) ?_
    refine lv_aload_n (pc := 204) hx hb d243_204 rfl (lv_at hl 0 rfl) ?_
    obtain ⟨q14, hq14, h⟩ := jc_some h
    refine k_callV (pc := 205) (n := 0) X hS (c_mo_concatenate l ρ ad _ st q14 hW hq14) wd1760 wd1757 wd1759 sl155 wd11 (by decide) ⟨rfl, rfl, by decide, by decide⟩ (m_recv X hW) (As := []) (rest := []) rfl rfl hl.1 (Nat.le_of_ble_eq_true rfl) d243_205 ⟨by decide, by decide⟩ (fun q hq => MA.mono hS.1 hq) (fun v H1 locs1 hv _ _ hSq14 => ?_)
    obtain ⟨rfl, hW⟩ := hv
    have hS := hSq14
    refine lv_goto (pc := 208) (tgt := 261) hx hb d243_208 (by decide) ?_
    obtain rfl := Option.some.inj h
    exact m_vret (pc := 261) hx hb hr hlk hS ⟨rfl, hW⟩ (by decide) (by decide) d243_261
  have h := jb_f c1_79 h
  by_cases c1_80 : p0 = 80
  · have h := jb_t c1_80 h
    refine lv_tableIn (pc := 1) (off := 210) (tgt := 211) hx hb d243_1 (by rw [c1_80]; decide) (by rw [c1_80]; decide) (by rw [c1_80]; rfl) (by decide) ?_
    refine lv_aload_n (pc := 211) hx hb d243_211 rfl (lv_at hl 0 rfl) ?_
    obtain ⟨q15, hq15, h⟩ := jc_some h
    refine k_callV (pc := 212) (n := 0) X hS (c_mo_join l ρ ad _ st q15 hW hq15) wd1764 wd1761 wd1763 sl185 wd11 (by decide) ⟨rfl, rfl, by decide, by decide⟩ (m_recv X hW) (As := []) (rest := []) rfl rfl hl.1 (Nat.le_of_ble_eq_true rfl) d243_212 ⟨by decide, by decide⟩ (fun q hq => MA.mono hS.1 hq) (fun v H1 locs1 hv _ _ hSq15 => ?_)
    obtain ⟨rfl, hW⟩ := hv
    have hS := hSq15
    refine lv_goto (pc := 215) (tgt := 261) hx hb d243_215 (by decide) ?_
    obtain rfl := Option.some.inj h
    exact m_vret (pc := 261) hx hb hr hlk hS ⟨rfl, hW⟩ (by decide) (by decide) d243_261
  have h := jb_f c1_80 h
  by_cases c1_81 : p0 = 81
  · have h := jb_t c1_81 h
    refine lv_tableIn (pc := 1) (off := 217) (tgt := 218) hx hb d243_1 (by rw [c1_81]; decide) (by rw [c1_81]; decide) (by rw [c1_81]; rfl) (by decide) ?_
    refine lv_aload_n (pc := 218) hx hb d243_218 rfl (lv_at hl 0 rfl) ?_
    obtain ⟨q16, hq16, h⟩ := jc_some h
    refine k_callV (pc := 219) (n := 0) X hS (c_mo_exact l ρ ad _ st q16 hW hq16) wd1780 wd1777 wd1779 sl169 wd11 (by decide) ⟨rfl, rfl, by decide, by decide⟩ (m_recv X hW) (As := []) (rest := []) rfl rfl hl.1 (Nat.le_of_ble_eq_true rfl) d243_219 ⟨by decide, by decide⟩ (fun q hq => MA.mono hS.1 hq) (fun v H1 locs1 hv _ _ hSq16 => ?_)
    obtain ⟨rfl, hW⟩ := hv
    have hS := hSq16
    refine lv_goto (pc := 222) (tgt := 261) hx hb d243_222 (by decide) ?_
    obtain rfl := Option.some.inj h
    exact m_vret (pc := 261) hx hb hr hlk hS ⟨rfl, hW⟩ (by decide) (by decide) d243_261
  have h := jb_f c1_81 h
  by_cases c1_82 : p0 = 82
  · have h := jb_t c1_82 h
    refine lv_tableIn (pc := 1) (off := 224) (tgt := 225) hx hb d243_1 (by rw [c1_82]; decide) (by rw [c1_82]; decide) (by rw [c1_82]; rfl) (by decide) ?_
    refine lv_aload_n (pc := 225) hx hb d243_225 rfl (lv_at hl 0 rfl) ?_
    refine lv_iload_n (pc := 226) hx hb d243_226 rfl (lv_at hl 1 rfl) ?_
    refine lv_bipush (pc := 227) (v := 83) hx hb d243_227 (by decide) ?_
    refine lv_icmp_ne (pc := 229) (tgt := 236) hx hb d243_229 (by decide) (fun c229 => ?_) (fun c229 => ?_)
    · have h := jb_f c229 h
      refine lv_iconst (pc := 236) (v := 0) hx hb d243_236 (by decide) ?_
      exact kc237  st 0 _ _ _ hW hS (lv_sub hl [] rfl) h
    · have h := jb_t c229 h
      refine lv_iconst (pc := 232) (v := 1) hx hb d243_232 (by decide) ?_
      refine lv_goto (pc := 233) (tgt := 237) hx hb d243_233 (by decide) ?_
      exact kc237  st 1 _ _ _ hW hS (lv_sub hl [] rfl) h
  have h := jb_f c1_82 h
  by_cases c1_83 : p0 = 83
  · have h := jb_t c1_83 h
    refine lv_tableIn (pc := 1) (off := 224) (tgt := 225) hx hb d243_1 (by rw [c1_83]; decide) (by rw [c1_83]; decide) (by rw [c1_83]; rfl) (by decide) ?_
    refine lv_aload_n (pc := 225) hx hb d243_225 rfl (lv_at hl 0 rfl) ?_
    refine lv_iload_n (pc := 226) hx hb d243_226 rfl (lv_at hl 1 rfl) ?_
    refine lv_bipush (pc := 227) (v := 83) hx hb d243_227 (by decide) ?_
    refine lv_icmp_ne (pc := 229) (tgt := 236) hx hb d243_229 (by decide) (fun c229 => ?_) (fun c229 => ?_)
    · have h := jb_f c229 h
      refine lv_iconst (pc := 236) (v := 0) hx hb d243_236 (by decide) ?_
      exact kc237  st 0 _ _ _ hW hS (lv_sub hl [] rfl) h
    · have h := jb_t c229 h
      refine lv_iconst (pc := 232) (v := 1) hx hb d243_232 (by decide) ?_
      refine lv_goto (pc := 233) (tgt := 237) hx hb d243_233 (by decide) ?_
      exact kc237  st 1 _ _ _ hW hS (lv_sub hl [] rfl) h
  have h := jb_f c1_83 h
  by_cases c1_84 : p0 = 84
  · have h := jb_t c1_84 h
    refine lv_tableIn (pc := 1) (off := 256) (tgt := 257) hx hb d243_1 (by rw [c1_84]; decide) (by rw [c1_84]; decide) (by rw [c1_84]; rfl) (by decide) ?_
    refine lv_aload_n (pc := 257) hx hb d243_257 rfl (lv_at hl 0 rfl) ?_
    obtain ⟨q17, hq17, h⟩ := jc_some h
    refine k_callV (pc := 258) (n := 0) X hS (c_mo_decimal l ρ ad _ st q17 hW hq17) wd1804 wd1801 wd1803 sl164 wd11 (by decide) ⟨rfl, rfl, by decide, by decide⟩ (m_recv X hW) (As := []) (rest := []) rfl rfl hl.1 (Nat.le_of_ble_eq_true rfl) d243_258 ⟨by decide, by decide⟩ (fun q hq => MA.mono hS.1 hq) (fun v H1 locs1 hv _ _ hSq17 => ?_)
    obtain ⟨rfl, hW⟩ := hv
    have hS := hSq17
    obtain rfl := Option.some.inj h
    exact m_vret (pc := 261) hx hb hr hlk hS ⟨rfl, hW⟩ (by decide) (by decide) d243_261
  have h := jb_f c1_84 h
  by_cases c1_85 : p0 = 85
  · have h := jb_t c1_85 h
    refine lv_tableIn (pc := 1) (off := 256) (tgt := 257) hx hb d243_1 (by rw [c1_85]; decide) (by rw [c1_85]; decide) (by rw [c1_85]; rfl) (by decide) ?_
    refine lv_aload_n (pc := 257) hx hb d243_257 rfl (lv_at hl 0 rfl) ?_
    obtain ⟨q18, hq18, h⟩ := jc_some h
    refine k_callV (pc := 258) (n := 0) X hS (c_mo_decimal l ρ ad _ st q18 hW hq18) wd1804 wd1801 wd1803 sl164 wd11 (by decide) ⟨rfl, rfl, by decide, by decide⟩ (m_recv X hW) (As := []) (rest := []) rfl rfl hl.1 (Nat.le_of_ble_eq_true rfl) d243_258 ⟨by decide, by decide⟩ (fun q hq => MA.mono hS.1 hq) (fun v H1 locs1 hv _ _ hSq18 => ?_)
    obtain ⟨rfl, hW⟩ := hv
    have hS := hSq18
    obtain rfl := Option.some.inj h
    exact m_vret (pc := 261) hx hb hr hlk hS ⟨rfl, hW⟩ (by decide) (by decide) d243_261
  have h := jb_f c1_85 h
  by_cases c1_86 : p0 = 86
  · have h := jb_t c1_86 h
    refine lv_tableIn (pc := 1) (off := 256) (tgt := 257) hx hb d243_1 (by rw [c1_86]; decide) (by rw [c1_86]; decide) (by rw [c1_86]; rfl) (by decide) ?_
    refine lv_aload_n (pc := 257) hx hb d243_257 rfl (lv_at hl 0 rfl) ?_
    obtain ⟨q19, hq19, h⟩ := jc_some h
    refine k_callV (pc := 258) (n := 0) X hS (c_mo_decimal l ρ ad _ st q19 hW hq19) wd1804 wd1801 wd1803 sl164 wd11 (by decide) ⟨rfl, rfl, by decide, by decide⟩ (m_recv X hW) (As := []) (rest := []) rfl rfl hl.1 (Nat.le_of_ble_eq_true rfl) d243_258 ⟨by decide, by decide⟩ (fun q hq => MA.mono hS.1 hq) (fun v H1 locs1 hv _ _ hSq19 => ?_)
    obtain ⟨rfl, hW⟩ := hv
    have hS := hSq19
    obtain rfl := Option.some.inj h
    exact m_vret (pc := 261) hx hb hr hlk hS ⟨rfl, hW⟩ (by decide) (by decide) d243_261
  have h := jb_f c1_86 h
  by_cases c1_87 : p0 = 87
  · have h := jb_t c1_87 h
    refine lv_tableIn (pc := 1) (off := 242) (tgt := 243) hx hb d243_1 (by rw [c1_87]; decide) (by rw [c1_87]; decide) (by rw [c1_87]; rfl) (by decide) ?_
    refine lv_aload_n (pc := 243) hx hb d243_243 rfl (lv_at hl 0 rfl) ?_
    obtain ⟨q20, hq20, h⟩ := jc_some h
    refine k_callV (pc := 244) (n := 0) X hS (c_mo_roman0 l ρ ad _ st q20 hW hq20) wd1792 wd1789 wd1791 sl213 wd11 (by decide) ⟨rfl, rfl, by decide, by decide⟩ (m_recv X hW) (As := []) (rest := []) rfl rfl hl.1 (Nat.le_of_ble_eq_true rfl) d243_244 ⟨by decide, by decide⟩ (fun q hq => MA.mono hS.1 hq) (fun v H1 locs1 hv _ _ hSq20 => ?_)
    obtain ⟨rfl, hW⟩ := hv
    have hS := hSq20
    refine lv_goto (pc := 247) (tgt := 261) hx hb d243_247 (by decide) ?_
    obtain rfl := Option.some.inj h
    exact m_vret (pc := 261) hx hb hr hlk hS ⟨rfl, hW⟩ (by decide) (by decide) d243_261
  have h := jb_f c1_87 h
  by_cases c1_88 : p0 = 88
  · have h := jb_t c1_88 h
    refine lv_tableIn (pc := 1) (off := 249) (tgt := 250) hx hb d243_1 (by rw [c1_88]; decide) (by rw [c1_88]; decide) (by rw [c1_88]; rfl) (by decide) ?_
    refine lv_aload_n (pc := 250) hx hb d243_250 rfl (lv_at hl 0 rfl) ?_
    obtain ⟨q21, hq21, h⟩ := jc_some h
    refine k_callV (pc := 251) (n := 0) X hS (c_mo_base l ρ ad _ st q21 hW hq21) wd1800 wd1797 wd1799 sl149 wd11 (by decide) ⟨rfl, rfl, by decide, by decide⟩ (m_recv X hW) (As := []) (rest := []) rfl rfl hl.1 (Nat.le_of_ble_eq_true rfl) d243_251 ⟨by decide, by decide⟩ (fun q hq => MA.mono hS.1 hq) (fun v H1 locs1 hv _ _ hSq21 => ?_)
    obtain ⟨rfl, hW⟩ := hv
    have hS := hSq21
    refine lv_goto (pc := 254) (tgt := 261) hx hb d243_254 (by decide) ?_
    obtain rfl := Option.some.inj h
    exact m_vret (pc := 261) hx hb hr hlk hS ⟨rfl, hW⟩ (by decide) (by decide) d243_261
  have h := jb_f c1_88 h
  refine lv_tableOut (pc := 1) (tgt := 257) hx hb d243_1 (sw_out 23 (by decide) (by
    intro i hi
    match i, hi with
    | 0, _ => exact fun z => c1_66 (Int32.toInt_inj.mp (by rw [z]; decide))
    | 1, _ => exact fun z => c1_67 (Int32.toInt_inj.mp (by rw [z]; decide))
    | 2, _ => exact fun z => c1_68 (Int32.toInt_inj.mp (by rw [z]; decide))
    | 3, _ => exact fun z => c1_69 (Int32.toInt_inj.mp (by rw [z]; decide))
    | 4, _ => exact fun z => c1_70 (Int32.toInt_inj.mp (by rw [z]; decide))
    | 5, _ => exact fun z => c1_71 (Int32.toInt_inj.mp (by rw [z]; decide))
    | 6, _ => exact fun z => c1_72 (Int32.toInt_inj.mp (by rw [z]; decide))
    | 7, _ => exact fun z => c1_73 (Int32.toInt_inj.mp (by rw [z]; decide))
    | 8, _ => exact fun z => c1_74 (Int32.toInt_inj.mp (by rw [z]; decide))
    | 9, _ => exact fun z => c1_75 (Int32.toInt_inj.mp (by rw [z]; decide))
    | 10, _ => exact fun z => c1_76 (Int32.toInt_inj.mp (by rw [z]; decide))
    | 11, _ => exact fun z => c1_77 (Int32.toInt_inj.mp (by rw [z]; decide))
    | 12, _ => exact fun z => c1_78 (Int32.toInt_inj.mp (by rw [z]; decide))
    | 13, _ => exact fun z => c1_79 (Int32.toInt_inj.mp (by rw [z]; decide))
    | 14, _ => exact fun z => c1_80 (Int32.toInt_inj.mp (by rw [z]; decide))
    | 15, _ => exact fun z => c1_81 (Int32.toInt_inj.mp (by rw [z]; decide))
    | 16, _ => exact fun z => c1_82 (Int32.toInt_inj.mp (by rw [z]; decide))
    | 17, _ => exact fun z => c1_83 (Int32.toInt_inj.mp (by rw [z]; decide))
    | 18, _ => exact fun z => c1_84 (Int32.toInt_inj.mp (by rw [z]; decide))
    | 19, _ => exact fun z => c1_85 (Int32.toInt_inj.mp (by rw [z]; decide))
    | 20, _ => exact fun z => c1_86 (Int32.toInt_inj.mp (by rw [z]; decide))
    | 21, _ => exact fun z => c1_87 (Int32.toInt_inj.mp (by rw [z]; decide))
    | 22, _ => exact fun z => c1_88 (Int32.toInt_inj.mp (by rw [z]; decide))
    | i + 23, q => exact absurd q (by omega))) (by decide) ?_
  refine lv_aload_n (pc := 257) hx hb d243_257 rfl (lv_at hl 0 rfl) ?_
  obtain ⟨q22, hq22, h⟩ := jc_some h
  refine k_callV (pc := 258) (n := 0) X hS (c_mo_decimal l ρ ad _ st q22 hW hq22) wd1804 wd1801 wd1803 sl164 wd11 (by decide) ⟨rfl, rfl, by decide, by decide⟩ (m_recv X hW) (As := []) (rest := []) rfl rfl hl.1 (Nat.le_of_ble_eq_true rfl) d243_258 ⟨by decide, by decide⟩ (fun q hq => MA.mono hS.1 hq) (fun v H1 locs1 hv _ _ hSq22 => ?_)
  obtain ⟨rfl, hW⟩ := hv
  have hS := hSq22
  obtain rfl := Option.some.inj h
  exact m_vret (pc := 261) hx hb hr hlk hS ⟨rfl, hW⟩ (by decide) (by decide) d243_261
def mo_want_103 (K60 : GS → Int32 → Option (GS)) (st : GS) (x2 : Int32) (z1 : Int32) : Option (GS) := jg (isB z1) (jn (uI st 0 48 z1) (fun st2 => jn (x2 + 1) (fun v3 => K60 st2 v3)))
def mo_want_98 (K60 : GS → Int32 → Option (GS)) (st : GS) (x2 : Int32) : Option (GS) := mo_want_103 K60  st x2 1
def mo_want_60  : Nat → GS → Int32 → Option (GS)
  | 0, _, _ => none
  | fu + 1, st, x2 => jb ((st.1 0 28) ≤ x2) (some st) (jb ((st.1 0 48) = 0) (jg (inb x2 256) (jb ((st.1 14 x2.toNatClampNeg) = 63) (mo_want_98 (mo_want_60 fu)  st x2) (jg (inb x2 256) (jb ((st.1 14 x2.toNatClampNeg) = 42) (mo_want_98 (mo_want_60 fu)  st x2) (mo_want_103 (mo_want_60 fu)  st x2 0))))) (mo_want_98 (mo_want_60 fu)  st x2))
def mo_want_42  (st : GS) (z1 : Int32) : Option (GS) := jn (uI st 0 46 z1) (fun st6 => jn (uD st6 0 47 (st6.2.1 0 21)) (fun st7 => jn (uI st7 0 48 0) (fun st8 => mo_want_60 FU st8 0)))
def mo_want_26  (st : GS)  : Option (GS) := jb ((st.1 0 20) = 0) (mo_want_42  st 1) (mo_want_42  st (st.1 0 20))
def f_mo_want (st : GS) (p0 : Int32) : Option (GS) := jc (f_mo_takeOf st p0) (fun q9 => jc (f_mo_toB q9) (fun q10 => jb ((q10.1 0 20) = 4) (jc (f_mo_fail q10 (FP.d2i (q10.2.1 0 21))) (fun q11 => mo_want_26  q11)) (mo_want_26  q10)))
set_option maxHeartbeats 4000000 in
set_option maxRecDepth 100000 in
theorem c_mo_want (l : Launch) (ρ : RH) (ad : Nat → Nat) (H : Heap) (st : GS) (p0 : Int32) (res : GS) (hW : GW ρ wM ad st H) (h : f_mo_want st p0 = some res) : Met l y238 (wsOf y238 b238 3 none) ({ frames := 3, cells := 0, slots := 0, locals := 65 } : Room) (va_Pc [.ref (ad 0), .int p0] (KP ρ H)) (mQ (fun v H1 => v = none ∧ GW ρ wM ad res H1) (MA wM ad H.size)) 0 0 (MA wM ad H.size) := by
  refine m_ofW (own := "WordFunctionsModel") (plainFor_of_name rfl) rfl (Nat.le_of_ble_eq_true rfl) fun p e s m args below meth c ls hx hb hr hlk _ X hs hl => ?_
  subst hs
  have hS : va_S (MA wM ad s.heap.size) s.heap s.heap [] := va_S.rf
  have hl : lv_has ls 3 [(0, .ref (ad 0)), (1, .int p0)] := hl
  have kc103 : ∀ (K60 : GS → Int32 → Option (GS)) (hK60 : ∀ (st : GS) (x2 : Int32) (H : Heap) (locs : List Loc) (ls : Array Slot), GW ρ wM ad st H → va_S (MA wM ad s.heap.size) s.heap H locs → lv_has ls 3 [(0, .ref (ad 0)), (2, .int x2)] → K60 st x2 = some res → W p l e ({ frames := 3, cells := 0, slots := 0, locals := 65 } : Room) s m args below meth c H locs 0 0 (MQ below (mQ (fun v H1 => v = none ∧ GW ρ wM ad res H1) (MA wM ad s.heap.size)) args s 0 0 (MA wM ad s.heap.size)) (F0 m 60 ls [])), ∀ (st : GS) (x2 : Int32) (z1 : Int32) (H : Heap) (locs : List Loc) (ls : Array Slot), GW ρ wM ad st H → va_S (MA wM ad s.heap.size) s.heap H locs → lv_has ls 3 [(0, .ref (ad 0)), (2, .int x2)] → mo_want_103 K60 st x2 z1 = some res → W p l e ({ frames := 3, cells := 0, slots := 0, locals := 65 } : Room) s m args below meth c H locs 0 0 (MQ below (mQ (fun v H1 => v = none ∧ GW ρ wM ad res H1) (MA wM ad s.heap.size)) args s 0 0 (MA wM ad s.heap.size)) (F0 m 103 ls [.int z1, .ref (ad 0)]) := by
    intro K60 hK60
    intro st x2 z1 H locs ls hW hS hl h
    unfold mo_want_103 at h
    obtain ⟨g1, h⟩ := jg_some h
    obtain ⟨st2, est2, h⟩ := jn_ex h
    refine m_putI (pc := 103) X hW hS 48 est2 wd1414 rfl rfl rfl (isB_nar g1) (isB_fit g1) d238_103 (fun H locs hW hS => ?_)
    obtain ⟨v3, ev3, h⟩ := jn_ex h
    refine lv_iinc (pc := 106) (v := v3) (lv' := [(2, .int v3), (0, .ref (ad 0))]) hx hb d238_106 hl (k := 1) rfl (by rw [ev3]; rfl) (by decide) rfl (fun ls hl => ?_)
    refine lv_goto (pc := 109) (tgt := 60) hx hb d238_109 (by decide) ?_
    exact hK60 st2 v3 _ _ _ hW hS (lv_sub hl [1, 0] rfl) h
  have kc98 : ∀ (K60 : GS → Int32 → Option (GS)) (hK60 : ∀ (st : GS) (x2 : Int32) (H : Heap) (locs : List Loc) (ls : Array Slot), GW ρ wM ad st H → va_S (MA wM ad s.heap.size) s.heap H locs → lv_has ls 3 [(0, .ref (ad 0)), (2, .int x2)] → K60 st x2 = some res → W p l e ({ frames := 3, cells := 0, slots := 0, locals := 65 } : Room) s m args below meth c H locs 0 0 (MQ below (mQ (fun v H1 => v = none ∧ GW ρ wM ad res H1) (MA wM ad s.heap.size)) args s 0 0 (MA wM ad s.heap.size)) (F0 m 60 ls [])), ∀ (st : GS) (x2 : Int32) (H : Heap) (locs : List Loc) (ls : Array Slot), GW ρ wM ad st H → va_S (MA wM ad s.heap.size) s.heap H locs → lv_has ls 3 [(0, .ref (ad 0)), (2, .int x2)] → mo_want_98 K60 st x2 = some res → W p l e ({ frames := 3, cells := 0, slots := 0, locals := 65 } : Room) s m args below meth c H locs 0 0 (MQ below (mQ (fun v H1 => v = none ∧ GW ρ wM ad res H1) (MA wM ad s.heap.size)) args s 0 0 (MA wM ad s.heap.size)) (F0 m 98 ls [.ref (ad 0)]) := by
    intro K60 hK60
    intro st x2 H locs ls hW hS hl h
    unfold mo_want_98 at h
    refine lv_iconst (pc := 98) (v := 1) hx hb d238_98 (by decide) ?_
    refine lv_goto (pc := 99) (tgt := 103) hx hb d238_99 (by decide) ?_
    exact kc103 _ hK60 st x2 1 _ _ _ hW hS (lv_sub hl [0, 1] rfl) h
  have kc60 : ∀ (fu : Nat), ∀ (st : GS) (x2 : Int32) (H : Heap) (locs : List Loc) (ls : Array Slot), GW ρ wM ad st H → va_S (MA wM ad s.heap.size) s.heap H locs → lv_has ls 3 [(0, .ref (ad 0)), (2, .int x2)] → mo_want_60 fu st x2 = some res → W p l e ({ frames := 3, cells := 0, slots := 0, locals := 65 } : Room) s m args below meth c H locs 0 0 (MQ below (mQ (fun v H1 => v = none ∧ GW ρ wM ad res H1) (MA wM ad s.heap.size)) args s 0 0 (MA wM ad s.heap.size)) (F0 m 60 ls []) := by
    intro  fu
    induction fu with
    | zero => intro st x2 H locs ls hW hS hl h; cases h
    | succ fu hK60 =>
      intro st x2 H locs ls hW hS hl h
      unfold mo_want_60 at h
      refine lv_iload_n (pc := 60) hx hb d238_60 rfl (lv_at hl 1 rfl) ?_
      refine lv_aload_n (pc := 61) hx hb d238_61 rfl (lv_at hl 0 rfl) ?_
      refine m_get (pc := 62) X hW 28 (v := .int (st.1 0 28)) wd1394 rfl rfl d238_62 ?_
      refine lv_icmp_ge (pc := 65) (tgt := 112) hx hb d238_65 (by decide) (fun c65 => ?_) (fun c65 => ?_)
      · have h := jb_t c65 h
        obtain rfl := Option.some.inj h
        exact m_vret (pc := 112) hx hb hr hlk hS ⟨rfl, hW⟩ (by decide) (by decide) d238_112
      · have h := jb_f c65 h
        refine lv_aload_n (pc := 68) hx hb d238_68 rfl (lv_at hl 0 rfl) ?_
        refine lv_aload_n (pc := 69) hx hb d238_69 rfl (lv_at hl 0 rfl) ?_
        refine m_get (pc := 70) X hW 48 (v := .int (st.1 0 48)) wd1414 rfl rfl d238_70 ?_
        refine lv_if_ne (pc := 73) (tgt := 98) hx hb d238_73 (by decide) (fun c73 => ?_) (fun c73 => ?_)
        · have h := jb_f c73 h
          exact kc98 _ hK60 st x2 _ _ _ hW hS (lv_sub hl [0, 1] rfl) h
        · have h := jb_t c73 h
          refine lv_aload_n (pc := 76) hx hb d238_76 rfl (lv_at hl 0 rfl) ?_
          refine m_get (pc := 77) X hW 24 (v := .ref (ad 14)) wd1390 rfl rfl d238_77 ?_
          refine lv_iload_n (pc := 80) hx hb d238_80 rfl (lv_at hl 1 rfl) ?_
          obtain ⟨g4, h⟩ := jg_some h
          refine r_iald (pc := 81) X hW 14 (by decide) rfl (inb_in g4) d238_81 ?_
          refine lv_bipush (pc := 82) (v := 63) hx hb d238_82 (by decide) ?_
          refine lv_icmp_eq (pc := 84) (tgt := 98) hx hb d238_84 (by decide) (fun c84 => ?_) (fun c84 => ?_)
          · have h := jb_t c84 h
            exact kc98 _ hK60 st x2 _ _ _ hW hS (lv_sub hl [0, 1] rfl) h
          · have h := jb_f c84 h
            refine lv_aload_n (pc := 87) hx hb d238_87 rfl (lv_at hl 0 rfl) ?_
            refine m_get (pc := 88) X hW 24 (v := .ref (ad 14)) wd1390 rfl rfl d238_88 ?_
            refine lv_iload_n (pc := 91) hx hb d238_91 rfl (lv_at hl 1 rfl) ?_
            obtain ⟨g5, h⟩ := jg_some h
            refine r_iald (pc := 92) X hW 14 (by decide) rfl (inb_in g5) d238_92 ?_
            refine lv_bipush (pc := 93) (v := 42) hx hb d238_93 (by decide) ?_
            refine lv_icmp_ne (pc := 95) (tgt := 102) hx hb d238_95 (by decide) (fun c95 => ?_) (fun c95 => ?_)
            · have h := jb_f c95 h
              refine lv_iconst (pc := 102) (v := 0) hx hb d238_102 (by decide) ?_
              exact kc103 _ hK60 st x2 0 _ _ _ hW hS (lv_sub hl [0, 1] rfl) h
            · have h := jb_t c95 h
              exact kc98 _ hK60 st x2 _ _ _ hW hS (lv_sub hl [0, 1] rfl) h
  have kc42 : ∀ (st : GS) (z1 : Int32) (H : Heap) (locs : List Loc) (ls : Array Slot), GW ρ wM ad st H → va_S (MA wM ad s.heap.size) s.heap H locs → lv_has ls 3 [(0, .ref (ad 0))] → mo_want_42 st z1 = some res → W p l e ({ frames := 3, cells := 0, slots := 0, locals := 65 } : Room) s m args below meth c H locs 0 0 (MQ below (mQ (fun v H1 => v = none ∧ GW ρ wM ad res H1) (MA wM ad s.heap.size)) args s 0 0 (MA wM ad s.heap.size)) (F0 m 42 ls [.int z1, .ref (ad 0)]) := by
    intro st z1 H locs ls hW hS hl h
    unfold mo_want_42 at h
    obtain ⟨st6, est6, h⟩ := jn_ex h
    refine m_putI (pc := 42) X hW hS 46 est6 wd1412 rfl rfl rfl rfl rfl d238_42 (fun H locs hW hS => ?_)
    refine lv_aload_n (pc := 45) hx hb d238_45 rfl (lv_at hl 0 rfl) ?_
    refine lv_aload_n (pc := 46) hx hb d238_46 rfl (lv_at hl 0 rfl) ?_
    refine m_get (pc := 47) X hW 21 (v := .double (st6.2.1 0 21)) wd1387 rfl rfl d238_47 ?_
    obtain ⟨st7, est7, h⟩ := jn_ex h
    refine m_putD (pc := 50) X hW hS 47 est7 wd1413 rfl rfl rfl rfl rfl d238_50 (fun H locs hW hS => ?_)
    refine lv_aload_n (pc := 53) hx hb d238_53 rfl (lv_at hl 0 rfl) ?_
    refine lv_iconst (pc := 54) (v := 0) hx hb d238_54 (by decide) ?_
    obtain ⟨st8, est8, h⟩ := jn_ex h
    refine m_putI (pc := 55) X hW hS 48 est8 wd1414 rfl rfl rfl (by decide) (by decide) d238_55 (fun H locs hW hS => ?_)
    refine lv_iconst (pc := 58) (v := 0) hx hb d238_58 (by decide) ?_
    refine lv_istore_n (pc := 59) (lv' := [(2, .int 0), (0, .ref (ad 0))]) hx hb d238_59 rfl hl (by decide) rfl (fun ls hl => ?_)
    exact kc60  FU st8 0 _ _ _ hW hS (lv_sub hl [1, 0] rfl) h
  have kc26 : ∀ (st : GS)  (H : Heap) (locs : List Loc) (ls : Array Slot), GW ρ wM ad st H → va_S (MA wM ad s.heap.size) s.heap H locs → lv_has ls 3 [(0, .ref (ad 0))] → mo_want_26 st = some res → W p l e ({ frames := 3, cells := 0, slots := 0, locals := 65 } : Room) s m args below meth c H locs 0 0 (MQ below (mQ (fun v H1 => v = none ∧ GW ρ wM ad res H1) (MA wM ad s.heap.size)) args s 0 0 (MA wM ad s.heap.size)) (F0 m 26 ls []) := by
    intro st  H locs ls hW hS hl h
    unfold mo_want_26 at h
    refine lv_aload_n (pc := 26) hx hb d238_26 rfl (lv_at hl 0 rfl) ?_
    refine lv_aload_n (pc := 27) hx hb d238_27 rfl (lv_at hl 0 rfl) ?_
    refine m_get (pc := 28) X hW 20 (v := .int (st.1 0 20)) wd1386 rfl rfl d238_28 ?_
    refine lv_if_ne (pc := 31) (tgt := 38) hx hb d238_31 (by decide) (fun c31 => ?_) (fun c31 => ?_)
    · have h := jb_f c31 h
      refine lv_aload_n (pc := 38) hx hb d238_38 rfl (lv_at hl 0 rfl) ?_
      refine m_get (pc := 39) X hW 20 (v := .int (st.1 0 20)) wd1386 rfl rfl d238_39 ?_
      exact kc42  st (st.1 0 20) _ _ _ hW hS (lv_sub hl [0] rfl) h
    · have h := jb_t c31 h
      refine lv_iconst (pc := 34) (v := 1) hx hb d238_34 (by decide) ?_
      refine lv_goto (pc := 35) (tgt := 42) hx hb d238_35 (by decide) ?_
      exact kc42  st 1 _ _ _ hW hS (lv_sub hl [0] rfl) h
  unfold f_mo_want at h
  refine lv_aload_n (pc := 0) hx hb d238_0 rfl (lv_at hl 0 rfl) ?_
  refine lv_iload_n (pc := 1) hx hb d238_1 rfl (lv_at hl 1 rfl) ?_
  obtain ⟨q9, hq9, h⟩ := jc_some h
  refine k_callV (pc := 2) (n := 1) X hS (c_mo_takeOf l ρ ad _ st p0 q9 hW hq9) wd1601 wd1598 wd1600 sl224 wd11 (by decide) ⟨rfl, rfl, by decide, by decide⟩ (m_recv X hW) (As := [.int p0]) (rest := []) rfl rfl hl.1 (Nat.le_of_ble_eq_true rfl) d238_2 ⟨by decide, by decide⟩ (fun q hq => MA.mono hS.1 hq) (fun v H1 locs1 hv _ _ hSq9 => ?_)
  obtain ⟨rfl, hW⟩ := hv
  have hS := hSq9
  refine lv_aload_n (pc := 5) hx hb d238_5 rfl (lv_at hl 0 rfl) ?_
  obtain ⟨q10, hq10, h⟩ := jc_some h
  refine k_callV (pc := 6) (n := 0) X hS (c_mo_toB l ρ ad _ q9 q10 hW hq10) wd1659 wd1656 wd1658 sl231 wd11 (by decide) ⟨rfl, rfl, by decide, by decide⟩ (m_recv X hW) (As := []) (rest := []) rfl rfl hl.1 (Nat.le_of_ble_eq_true rfl) d238_6 ⟨by decide, by decide⟩ (fun q hq => MA.mono hS.1 hq) (fun v H1 locs1 hv _ _ hSq10 => ?_)
  obtain ⟨rfl, hW⟩ := hv
  have hS := hSq10
  refine lv_aload_n (pc := 9) hx hb d238_9 rfl (lv_at hl 0 rfl) ?_
  refine m_get (pc := 10) X hW 20 (v := .int (q10.1 0 20)) wd1386 rfl rfl d238_10 ?_
  refine lv_iconst (pc := 13) (v := 4) hx hb d238_13 (by decide) ?_
  refine lv_icmp_ne (pc := 14) (tgt := 26) hx hb d238_14 (by decide) (fun c14 => ?_) (fun c14 => ?_)
  · have h := jb_f c14 h
    exact kc26  q10 _ _ _ hW hS (lv_sub hl [0] rfl) h
  · have h := jb_t c14 h
    refine lv_aload_n (pc := 17) hx hb d238_17 rfl (lv_at hl 0 rfl) ?_
    refine lv_aload_n (pc := 18) hx hb d238_18 rfl (lv_at hl 0 rfl) ?_
    refine m_get (pc := 19) X hW 21 (v := .double (q10.2.1 0 21)) wd1387 rfl rfl d238_19 ?_
    refine lv_d2i (pc := 22) hx hb d238_22 ?_
    obtain ⟨q11, hq11, h⟩ := jc_some h
    refine k_callV (pc := 23) (n := 1) X hS (c_mo_fail l ρ ad _ q10 (FP.d2i (q10.2.1 0 21)) q11 hW hq11) wd1621 wd1618 wd1620 sl170 wd11 (by decide) ⟨rfl, rfl, by decide, by decide⟩ (m_recv X hW) (As := [.int (FP.d2i (q10.2.1 0 21))]) (rest := []) rfl rfl hl.1 (Nat.le_of_ble_eq_true rfl) d238_23 ⟨by decide, by decide⟩ (fun q hq => MA.mono hS.1 hq) (fun v H1 locs1 hv _ _ hSq11 => ?_)
    obtain ⟨rfl, hW⟩ := hv
    have hS := hSq11
    exact kc26  q11 _ _ _ hW hS (lv_sub hl [0] rfl) h
def mo_lies_107  (st : GS)  : Option (Int32) := some ((st.1 0 27) - (st.1 0 28))
def mo_lies_44  : Nat → GS → Int32 → Option (Int32)
  | 0, _, _ => none
  | fu + 1, st, x1 => jb ((st.1 0 27) ≤ x1) (mo_lies_107  st) (jb ((st.1 0 28) ≤ x1) (mo_lies_107  st) (jg (inb x1 256) (jc (f_mo_great (st.1 13 x1.toNatClampNeg)) (fun q2 => jg (inb x1 256) (jc (f_mo_great (st.1 14 x1.toNatClampNeg)) (fun q4 => jb (q2 = q4) (jn (x1 + 1) (fun v5 => mo_lies_44 fu st v5)) (jg (inb x1 256) (jc (f_mo_great (st.1 13 x1.toNatClampNeg)) (fun q7 => jg (inb x1 256) (jc (f_mo_great (st.1 14 x1.toNatClampNeg)) (fun q9 => some (q7 - q9))))))))))))
def f_mo_lies (st : GS) : Option (Int32) := jb ((st.1 0 20) = 2) (mo_lies_44 FU st 0) (jb (0 ≤ (Op.cmpValue (FP.dcmp (st.2.1 0 21) (st.2.1 0 47)) .g)) (jb ((Op.cmpValue (FP.dcmp (st.2.1 0 21) (st.2.1 0 47)) .l) ≤ 0) (some 0) (some 1)) (some (-1)))
set_option maxHeartbeats 4000000 in
set_option maxRecDepth 100000 in
theorem c_mo_lies (l : Launch) (ρ : RH) (ad : Nat → Nat) (H : Heap) (st : GS) (res : Int32) (hW : GW ρ wM ad st H) (h : f_mo_lies st = some res) : Met l y190 (wsOf y190 b190 2 (some .int)) ({ frames := 1, cells := 0, slots := 0, locals := 20 } : Room) (va_Pc [.ref (ad 0)] (KP ρ H)) (mQ (fun v H1 => v = some (.int res) ∧ H1 = H) (fun _ => False)) 0 0 (fun _ => False) := by
  refine m_ofW (own := "WordFunctionsModel") (plainFor_of_name rfl) rfl (Nat.le_of_ble_eq_true rfl) fun p e s m args below meth c ls hx hb hr hlk _ X hs hl => ?_
  subst hs
  have hS : va_S (fun _ => False) s.heap s.heap [] := va_S.rf
  have hl : lv_has ls 2 [(0, .ref (ad 0))] := hl
  have kc107 : ∀  (locs : List Loc) (ls : Array Slot), va_S (fun _ => False) s.heap s.heap locs → lv_has ls 2 [(0, .ref (ad 0))] → mo_lies_107 st = some res → W p l e ({ frames := 1, cells := 0, slots := 0, locals := 20 } : Room) s m args below meth c s.heap locs 0 0 (MQ below (mQ (fun v H1 => v = some (.int res) ∧ H1 = s.heap) (fun _ => False)) args s 0 0 (fun _ => False)) (F0 m 107 ls []) := by
    intro  locs ls hS hl h
    unfold mo_lies_107 at h
    refine lv_aload_n (pc := 107) hx hb d190_107 rfl (lv_at hl 0 rfl) ?_
    refine m_get (pc := 108) X hW 27 (v := .int (st.1 0 27)) wd1393 rfl rfl d190_108 ?_
    refine lv_aload_n (pc := 111) hx hb d190_111 rfl (lv_at hl 0 rfl) ?_
    refine m_get (pc := 112) X hW 28 (v := .int (st.1 0 28)) wd1394 rfl rfl d190_112 ?_
    refine lv_isub (pc := 115) hx hb d190_115 ?_
    obtain rfl := Option.some.inj h
    exact m_iret (pc := 116) hx hb hr hlk hS ⟨rfl, rfl⟩ (by decide) (by decide) d190_116
  have kc44 : ∀ (fu : Nat), ∀ (x1 : Int32) (locs : List Loc) (ls : Array Slot), va_S (fun _ => False) s.heap s.heap locs → lv_has ls 2 [(0, .ref (ad 0)), (1, .int x1)] → mo_lies_44 fu st x1 = some res → W p l e ({ frames := 1, cells := 0, slots := 0, locals := 20 } : Room) s m args below meth c s.heap locs 0 0 (MQ below (mQ (fun v H1 => v = some (.int res) ∧ H1 = s.heap) (fun _ => False)) args s 0 0 (fun _ => False)) (F0 m 44 ls []) := by
    intro  fu
    induction fu with
    | zero => intro x1 locs ls hS hl h; cases h
    | succ fu hK44 =>
      intro x1 locs ls hS hl h
      unfold mo_lies_44 at h
      refine lv_iload_n (pc := 44) hx hb d190_44 rfl (lv_at hl 1 rfl) ?_
      refine lv_aload_n (pc := 45) hx hb d190_45 rfl (lv_at hl 0 rfl) ?_
      refine m_get (pc := 46) X hW 27 (v := .int (st.1 0 27)) wd1393 rfl rfl d190_46 ?_
      refine lv_icmp_ge (pc := 49) (tgt := 107) hx hb d190_49 (by decide) (fun c49 => ?_) (fun c49 => ?_)
      · have h := jb_t c49 h
        exact kc107   _ _ hS (lv_sub hl [0] rfl) h
      · have h := jb_f c49 h
        refine lv_iload_n (pc := 52) hx hb d190_52 rfl (lv_at hl 1 rfl) ?_
        refine lv_aload_n (pc := 53) hx hb d190_53 rfl (lv_at hl 0 rfl) ?_
        refine m_get (pc := 54) X hW 28 (v := .int (st.1 0 28)) wd1394 rfl rfl d190_54 ?_
        refine lv_icmp_ge (pc := 57) (tgt := 107) hx hb d190_57 (by decide) (fun c57 => ?_) (fun c57 => ?_)
        · have h := jb_t c57 h
          exact kc107   _ _ hS (lv_sub hl [0] rfl) h
        · have h := jb_f c57 h
          refine lv_aload_n (pc := 60) hx hb d190_60 rfl (lv_at hl 0 rfl) ?_
          refine m_get (pc := 61) X hW 23 (v := .ref (ad 13)) wd1389 rfl rfl d190_61 ?_
          refine lv_iload_n (pc := 64) hx hb d190_64 rfl (lv_at hl 1 rfl) ?_
          obtain ⟨g1, h⟩ := jg_some h
          refine r_iald (pc := 65) X hW 13 (by decide) rfl (inb_in g1) d190_65 ?_
          obtain ⟨q2, hq2, h⟩ := jc_some h
          refine k_callS (pc := 66) (n := 1) X hS (c_mo_great l ρ _ (st.1 13 x1.toNatClampNeg) q2 hq2) wd1729 wd1727 wd1728 wd11 (by decide) ⟨rfl, rfl, by decide, by decide⟩ (As := [.int (st.1 13 x1.toNatClampNeg)]) (rest := []) rfl rfl hl.1 (Nat.le_of_ble_eq_true rfl) d190_66 ⟨by decide, by decide⟩ (fun q hq => False.elim hq) (fun v H1 locs1 hv _ _ hSq2 => ?_)
          obtain ⟨rfl, rfl⟩ := hv
          have hS := hSq2
          refine lv_aload_n (pc := 69) hx hb d190_69 rfl (lv_at hl 0 rfl) ?_
          refine m_get (pc := 70) X hW 24 (v := .ref (ad 14)) wd1390 rfl rfl d190_70 ?_
          refine lv_iload_n (pc := 73) hx hb d190_73 rfl (lv_at hl 1 rfl) ?_
          obtain ⟨g3, h⟩ := jg_some h
          refine r_iald (pc := 74) X hW 14 (by decide) rfl (inb_in g3) d190_74 ?_
          obtain ⟨q4, hq4, h⟩ := jc_some h
          refine k_callS (pc := 75) (n := 1) X hS (c_mo_great l ρ _ (st.1 14 x1.toNatClampNeg) q4 hq4) wd1729 wd1727 wd1728 wd11 (by decide) ⟨rfl, rfl, by decide, by decide⟩ (As := [.int (st.1 14 x1.toNatClampNeg)]) (rest := [.int q2]) rfl rfl hl.1 (Nat.le_of_ble_eq_true rfl) d190_75 ⟨by decide, by decide⟩ (fun q hq => False.elim hq) (fun v H1 locs1 hv _ _ hSq4 => ?_)
          obtain ⟨rfl, rfl⟩ := hv
          have hS := hSq4
          refine lv_icmp_eq (pc := 78) (tgt := 101) hx hb d190_78 (by decide) (fun c78 => ?_) (fun c78 => ?_)
          · have h := jb_t c78 h
            obtain ⟨v5, ev5, h⟩ := jn_ex h
            refine lv_iinc (pc := 101) (v := v5) (lv' := [(1, .int v5), (0, .ref (ad 0))]) hx hb d190_101 hl (k := 1) rfl (by rw [ev5]; rfl) (by decide) rfl (fun ls hl => ?_)
            refine lv_goto (pc := 104) (tgt := 44) hx hb d190_104 (by decide) ?_
            exact hK44 v5 _ _ hS (lv_sub hl [1, 0] rfl) h
          · have h := jb_f c78 h
            refine lv_aload_n (pc := 81) hx hb d190_81 rfl (lv_at hl 0 rfl) ?_
            refine m_get (pc := 82) X hW 23 (v := .ref (ad 13)) wd1389 rfl rfl d190_82 ?_
            refine lv_iload_n (pc := 85) hx hb d190_85 rfl (lv_at hl 1 rfl) ?_
            obtain ⟨g6, h⟩ := jg_some h
            refine r_iald (pc := 86) X hW 13 (by decide) rfl (inb_in g6) d190_86 ?_
            obtain ⟨q7, hq7, h⟩ := jc_some h
            refine k_callS (pc := 87) (n := 1) X hS (c_mo_great l ρ _ (st.1 13 x1.toNatClampNeg) q7 hq7) wd1729 wd1727 wd1728 wd11 (by decide) ⟨rfl, rfl, by decide, by decide⟩ (As := [.int (st.1 13 x1.toNatClampNeg)]) (rest := []) rfl rfl hl.1 (Nat.le_of_ble_eq_true rfl) d190_87 ⟨by decide, by decide⟩ (fun q hq => False.elim hq) (fun v H1 locs1 hv _ _ hSq7 => ?_)
            obtain ⟨rfl, rfl⟩ := hv
            have hS := hSq7
            refine lv_aload_n (pc := 90) hx hb d190_90 rfl (lv_at hl 0 rfl) ?_
            refine m_get (pc := 91) X hW 24 (v := .ref (ad 14)) wd1390 rfl rfl d190_91 ?_
            refine lv_iload_n (pc := 94) hx hb d190_94 rfl (lv_at hl 1 rfl) ?_
            obtain ⟨g8, h⟩ := jg_some h
            refine r_iald (pc := 95) X hW 14 (by decide) rfl (inb_in g8) d190_95 ?_
            obtain ⟨q9, hq9, h⟩ := jc_some h
            refine k_callS (pc := 96) (n := 1) X hS (c_mo_great l ρ _ (st.1 14 x1.toNatClampNeg) q9 hq9) wd1729 wd1727 wd1728 wd11 (by decide) ⟨rfl, rfl, by decide, by decide⟩ (As := [.int (st.1 14 x1.toNatClampNeg)]) (rest := [.int q7]) rfl rfl hl.1 (Nat.le_of_ble_eq_true rfl) d190_96 ⟨by decide, by decide⟩ (fun q hq => False.elim hq) (fun v H1 locs1 hv _ _ hSq9 => ?_)
            obtain ⟨rfl, rfl⟩ := hv
            have hS := hSq9
            refine lv_isub (pc := 99) hx hb d190_99 ?_
            obtain rfl := Option.some.inj h
            exact m_iret (pc := 100) hx hb hr hlk hS ⟨rfl, rfl⟩ (by decide) (by decide) d190_100
  unfold f_mo_lies at h
  refine lv_aload_n (pc := 0) hx hb d190_0 rfl (lv_at hl 0 rfl) ?_
  refine m_get (pc := 1) X hW 20 (v := .int (st.1 0 20)) wd1386 rfl rfl d190_1 ?_
  refine lv_iconst (pc := 4) (v := 2) hx hb d190_4 (by decide) ?_
  refine lv_icmp_eq (pc := 5) (tgt := 42) hx hb d190_5 (by decide) (fun c5 => ?_) (fun c5 => ?_)
  · have h := jb_t c5 h
    refine lv_iconst (pc := 42) (v := 0) hx hb d190_42 (by decide) ?_
    refine lv_istore_n (pc := 43) (lv' := [(1, .int 0), (0, .ref (ad 0))]) hx hb d190_43 rfl hl (by decide) rfl (fun ls hl => ?_)
    exact kc44  FU 0 _ _ hS (lv_sub hl [1, 0] rfl) h
  · have h := jb_f c5 h
    refine lv_aload_n (pc := 8) hx hb d190_8 rfl (lv_at hl 0 rfl) ?_
    refine m_get (pc := 9) X hW 21 (v := .double (st.2.1 0 21)) wd1387 rfl rfl d190_9 ?_
    refine lv_aload_n (pc := 12) hx hb d190_12 rfl (lv_at hl 0 rfl) ?_
    refine m_get (pc := 13) X hW 47 (v := .double (st.2.1 0 47)) wd1413 rfl rfl d190_13 ?_
    refine lv_dcmp (pc := 16) hx hb d190_16 ?_
    refine lv_if_ge (pc := 17) (tgt := 24) hx hb d190_17 (by decide) (fun c17 => ?_) (fun c17 => ?_)
    · have h := jb_t c17 h
      refine lv_aload_n (pc := 24) hx hb d190_24 rfl (lv_at hl 0 rfl) ?_
      refine m_get (pc := 25) X hW 21 (v := .double (st.2.1 0 21)) wd1387 rfl rfl d190_25 ?_
      refine lv_aload_n (pc := 28) hx hb d190_28 rfl (lv_at hl 0 rfl) ?_
      refine m_get (pc := 29) X hW 47 (v := .double (st.2.1 0 47)) wd1413 rfl rfl d190_29 ?_
      refine lv_dcmp (pc := 32) hx hb d190_32 ?_
      refine lv_if_le (pc := 33) (tgt := 40) hx hb d190_33 (by decide) (fun c33 => ?_) (fun c33 => ?_)
      · have h := jb_t c33 h
        refine lv_iconst (pc := 40) (v := 0) hx hb d190_40 (by decide) ?_
        obtain rfl := Option.some.inj h
        exact m_iret (pc := 41) hx hb hr hlk hS ⟨rfl, rfl⟩ (by decide) (by decide) d190_41
      · have h := jb_f c33 h
        refine lv_iconst (pc := 36) (v := 1) hx hb d190_36 (by decide) ?_
        refine lv_goto (pc := 37) (tgt := 41) hx hb d190_37 (by decide) ?_
        obtain rfl := Option.some.inj h
        exact m_iret (pc := 41) hx hb hr hlk hS ⟨rfl, rfl⟩ (by decide) (by decide) d190_41
    · have h := jb_f c17 h
      refine lv_iconst (pc := 20) (v := (-1)) hx hb d190_20 (by decide) ?_
      refine lv_goto (pc := 21) (tgt := 41) hx hb d190_21 (by decide) ?_
      obtain rfl := Option.some.inj h
      exact m_iret (pc := 41) hx hb hr hlk hS ⟨rfl, rfl⟩ (by decide) (by decide) d190_41
def mo_find_163 (K6 : GS → Int32 → Int32 → Int32 → Int32 → Int32 → Int32 → Int32 → Option (Int32 × GS)) (st : GS) (x1 : Int32) (x2 : Int32) (x3 : Int32) (x4 : Int32) (x5 : Int32) (x6 : Int32) (x7 : Int32) : Option (Int32 × GS) := jn (x7 + 1) (fun v1 => K6 st x1 x2 x3 x4 x5 x6 v1)
def mo_find_159 (K6 : GS → Int32 → Int32 → Int32 → Int32 → Int32 → Int32 → Int32 → Option (Int32 × GS)) (st : GS) (x1 : Int32) (x2 : Int32) (x3 : Int32) (x4 : Int32) (x5 : Int32) (x7 : Int32) : Option (Int32 × GS) := mo_find_163 K6  st x1 x2 x3 x4 x5 x7 x7
def mo_find_142 (K6 : GS → Int32 → Int32 → Int32 → Int32 → Int32 → Int32 → Int32 → Option (Int32 × GS)) (st : GS) (x1 : Int32) (x2 : Int32) (x3 : Int32) (x4 : Int32) (x5 : Int32) (x6 : Int32) (x7 : Int32) (z0 : Int32) : Option (Int32 × GS) := jb (z0 = 0) (mo_find_163 K6  st x1 x2 x3 x4 x5 x6 x7) (jb (x5 = 0) (jb (0 ≤ x6) (mo_find_163 K6  st x1 x2 x3 x4 x5 x6 x7) (mo_find_159 K6  st x1 x2 x3 x4 x5 x7)) (mo_find_159 K6  st x1 x2 x3 x4 x5 x7))
def mo_find_41 (K6 : GS → Int32 → Int32 → Int32 → Int32 → Int32 → Int32 → Int32 → Option (Int32 × GS)) (st : GS) (x1 : Int32) (x2 : Int32) (x3 : Int32) (x4 : Int32) (x5 : Int32) (x6 : Int32) (x7 : Int32) (z1 : Int32) : Option (Int32 × GS) := jc (f_mo_take st z1) (fun q2 => jb ((q2.1 0 20) = (q2.1 0 46)) (jb (x5 ≤ 0) (jb (0 ≤ x5) (jb ((q2.1 0 48) = 0) (jc (f_mo_lies q2) (fun q3 => jb (q3 = 0) (mo_find_142 K6  q2 x1 x2 x3 x4 x5 x6 x7 1) (mo_find_142 K6  q2 x1 x2 x3 x4 x5 x6 x7 0))) (jc (f_mo_matches q2 14 (q2.1 0 28) 13 (q2.1 0 27) 0 1) (fun q4 => mo_find_142 K6  q4.2 x1 x2 x3 x4 x5 x6 x7 q4.1))) (jc (f_mo_lies q2) (fun q5 => jb (q5 < 0) (mo_find_142 K6  q2 x1 x2 x3 x4 x5 x6 x7 0) (mo_find_142 K6  q2 x1 x2 x3 x4 x5 x6 x7 1)))) (jc (f_mo_lies q2) (fun q6 => jb (0 < q6) (mo_find_142 K6  q2 x1 x2 x3 x4 x5 x6 x7 0) (mo_find_142 K6  q2 x1 x2 x3 x4 x5 x6 x7 1)))) (mo_find_163 K6  q2 x1 x2 x3 x4 x5 x6 x7))
def mo_find_6  : Nat → GS → Int32 → Int32 → Int32 → Int32 → Int32 → Int32 → Int32 → Option (Int32 × GS)
  | 0, _, _, _, _, _, _, _, _ => none
  | fu + 1, st, x1, x2, x3, x4, x5, x6, x7 => jb (x4 ≤ x7) (some (x6, st)) (jc (f_mo_isOut st x1) (fun q7 => jb (q7 = 0) (jg (inb x1 30) (mo_find_41 (mo_find_6 fu)  st x1 x2 x3 x4 x5 x6 x7 (((st.1 6 x1.toNatClampNeg) + x2) + (x3 * x7)))) (mo_find_41 (mo_find_6 fu)  st x1 x2 x3 x4 x5 x6 x7 512)))
def f_mo_find (st : GS) (p0 : Int32) (p1 : Int32) (p2 : Int32) (p3 : Int32) (p4 : Int32) : Option (Int32 × GS) := mo_find_6 FU st p0 p1 p2 p3 p4 (-1) 0
set_option maxHeartbeats 4000000 in
set_option maxRecDepth 100000 in
theorem c_mo_find (l : Launch) (ρ : RH) (ad : Nat → Nat) (H : Heap) (st : GS) (p0 : Int32) (p1 : Int32) (p2 : Int32) (p3 : Int32) (p4 : Int32) (res : Int32 × GS) (hW : GW ρ wM ad st H) (h : f_mo_find st p0 p1 p2 p3 p4 = some res) : Met l y172 (wsOf y172 b172 9 (some .int)) ({ frames := 2, cells := 0, slots := 0, locals := 55 } : Room) (va_Pc [.ref (ad 0), .int p0, .int p1, .int p2, .int p3, .int p4] (KP ρ H)) (mQ (fun v H1 => v = some (.int res.1) ∧ GW ρ wM ad res.2 H1) (MA wM ad H.size)) 0 0 (MA wM ad H.size) := by
  refine m_ofW (own := "WordFunctionsModel") (plainFor_of_name rfl) rfl (Nat.le_of_ble_eq_true rfl) fun p e s m args below meth c ls hx hb hr hlk _ X hs hl => ?_
  subst hs
  have hS : va_S (MA wM ad s.heap.size) s.heap s.heap [] := va_S.rf
  have hl : lv_has ls 9 [(0, .ref (ad 0)), (1, .int p0), (2, .int p1), (3, .int p2), (4, .int p3), (5, .int p4)] := hl
  have kc163 : ∀ (K6 : GS → Int32 → Int32 → Int32 → Int32 → Int32 → Int32 → Int32 → Option (Int32 × GS)) (hK6 : ∀ (st : GS) (x1 : Int32) (x2 : Int32) (x3 : Int32) (x4 : Int32) (x5 : Int32) (x6 : Int32) (x7 : Int32) (H : Heap) (locs : List Loc) (ls : Array Slot), GW ρ wM ad st H → va_S (MA wM ad s.heap.size) s.heap H locs → lv_has ls 9 [(0, .ref (ad 0)), (1, .int x1), (2, .int x2), (3, .int x3), (4, .int x4), (5, .int x5), (6, .int x6), (7, .int x7)] → K6 st x1 x2 x3 x4 x5 x6 x7 = some res → W p l e ({ frames := 2, cells := 0, slots := 0, locals := 55 } : Room) s m args below meth c H locs 0 0 (MQ below (mQ (fun v H1 => v = some (.int res.1) ∧ GW ρ wM ad res.2 H1) (MA wM ad s.heap.size)) args s 0 0 (MA wM ad s.heap.size)) (F0 m 6 ls [])), ∀ (st : GS) (x1 : Int32) (x2 : Int32) (x3 : Int32) (x4 : Int32) (x5 : Int32) (x6 : Int32) (x7 : Int32) (H : Heap) (locs : List Loc) (ls : Array Slot), GW ρ wM ad st H → va_S (MA wM ad s.heap.size) s.heap H locs → lv_has ls 9 [(0, .ref (ad 0)), (1, .int x1), (2, .int x2), (3, .int x3), (4, .int x4), (5, .int x5), (6, .int x6), (7, .int x7)] → mo_find_163 K6 st x1 x2 x3 x4 x5 x6 x7 = some res → W p l e ({ frames := 2, cells := 0, slots := 0, locals := 55 } : Room) s m args below meth c H locs 0 0 (MQ below (mQ (fun v H1 => v = some (.int res.1) ∧ GW ρ wM ad res.2 H1) (MA wM ad s.heap.size)) args s 0 0 (MA wM ad s.heap.size)) (F0 m 163 ls []) := by
    intro K6 hK6
    intro st x1 x2 x3 x4 x5 x6 x7 H locs ls hW hS hl h
    unfold mo_find_163 at h
    obtain ⟨v1, ev1, h⟩ := jn_ex h
    refine lv_iinc (pc := 163) (v := v1) (lv' := [(7, .int v1), (0, .ref (ad 0)), (1, .int x1), (2, .int x2), (3, .int x3), (4, .int x4), (5, .int x5), (6, .int x6)]) hx hb d172_163 hl (k := 7) rfl (by rw [ev1]; rfl) (by decide) rfl (fun ls hl => ?_)
    refine lv_goto (pc := 166) (tgt := 6) hx hb d172_166 (by decide) ?_
    exact hK6 st x1 x2 x3 x4 x5 x6 v1 _ _ _ hW hS (lv_sub hl [1, 2, 3, 4, 5, 6, 7, 0] rfl) h
  have kc159 : ∀ (K6 : GS → Int32 → Int32 → Int32 → Int32 → Int32 → Int32 → Int32 → Option (Int32 × GS)) (hK6 : ∀ (st : GS) (x1 : Int32) (x2 : Int32) (x3 : Int32) (x4 : Int32) (x5 : Int32) (x6 : Int32) (x7 : Int32) (H : Heap) (locs : List Loc) (ls : Array Slot), GW ρ wM ad st H → va_S (MA wM ad s.heap.size) s.heap H locs → lv_has ls 9 [(0, .ref (ad 0)), (1, .int x1), (2, .int x2), (3, .int x3), (4, .int x4), (5, .int x5), (6, .int x6), (7, .int x7)] → K6 st x1 x2 x3 x4 x5 x6 x7 = some res → W p l e ({ frames := 2, cells := 0, slots := 0, locals := 55 } : Room) s m args below meth c H locs 0 0 (MQ below (mQ (fun v H1 => v = some (.int res.1) ∧ GW ρ wM ad res.2 H1) (MA wM ad s.heap.size)) args s 0 0 (MA wM ad s.heap.size)) (F0 m 6 ls [])), ∀ (st : GS) (x1 : Int32) (x2 : Int32) (x3 : Int32) (x4 : Int32) (x5 : Int32) (x7 : Int32) (H : Heap) (locs : List Loc) (ls : Array Slot), GW ρ wM ad st H → va_S (MA wM ad s.heap.size) s.heap H locs → lv_has ls 9 [(0, .ref (ad 0)), (1, .int x1), (2, .int x2), (3, .int x3), (4, .int x4), (5, .int x5), (7, .int x7)] → mo_find_159 K6 st x1 x2 x3 x4 x5 x7 = some res → W p l e ({ frames := 2, cells := 0, slots := 0, locals := 55 } : Room) s m args below meth c H locs 0 0 (MQ below (mQ (fun v H1 => v = some (.int res.1) ∧ GW ρ wM ad res.2 H1) (MA wM ad s.heap.size)) args s 0 0 (MA wM ad s.heap.size)) (F0 m 159 ls []) := by
    intro K6 hK6
    intro st x1 x2 x3 x4 x5 x7 H locs ls hW hS hl h
    unfold mo_find_159 at h
    refine lv_iload (pc := 159) hx hb d172_159 (lv_at hl 6 rfl) ?_
    refine lv_istore (pc := 161) (lv' := [(6, .int x7), (0, .ref (ad 0)), (1, .int x1), (2, .int x2), (3, .int x3), (4, .int x4), (5, .int x5), (7, .int x7)]) hx hb d172_161 hl (by decide) rfl (fun ls hl => ?_)
    exact kc163 _ hK6 st x1 x2 x3 x4 x5 x7 x7 _ _ _ hW hS (lv_sub hl [1, 2, 3, 4, 5, 6, 0, 7] rfl) h
  have kc142 : ∀ (K6 : GS → Int32 → Int32 → Int32 → Int32 → Int32 → Int32 → Int32 → Option (Int32 × GS)) (hK6 : ∀ (st : GS) (x1 : Int32) (x2 : Int32) (x3 : Int32) (x4 : Int32) (x5 : Int32) (x6 : Int32) (x7 : Int32) (H : Heap) (locs : List Loc) (ls : Array Slot), GW ρ wM ad st H → va_S (MA wM ad s.heap.size) s.heap H locs → lv_has ls 9 [(0, .ref (ad 0)), (1, .int x1), (2, .int x2), (3, .int x3), (4, .int x4), (5, .int x5), (6, .int x6), (7, .int x7)] → K6 st x1 x2 x3 x4 x5 x6 x7 = some res → W p l e ({ frames := 2, cells := 0, slots := 0, locals := 55 } : Room) s m args below meth c H locs 0 0 (MQ below (mQ (fun v H1 => v = some (.int res.1) ∧ GW ρ wM ad res.2 H1) (MA wM ad s.heap.size)) args s 0 0 (MA wM ad s.heap.size)) (F0 m 6 ls [])), ∀ (st : GS) (x1 : Int32) (x2 : Int32) (x3 : Int32) (x4 : Int32) (x5 : Int32) (x6 : Int32) (x7 : Int32) (z0 : Int32) (H : Heap) (locs : List Loc) (ls : Array Slot), GW ρ wM ad st H → va_S (MA wM ad s.heap.size) s.heap H locs → lv_has ls 9 [(0, .ref (ad 0)), (1, .int x1), (2, .int x2), (3, .int x3), (4, .int x4), (5, .int x5), (6, .int x6), (7, .int x7)] → mo_find_142 K6 st x1 x2 x3 x4 x5 x6 x7 z0 = some res → W p l e ({ frames := 2, cells := 0, slots := 0, locals := 55 } : Room) s m args below meth c H locs 0 0 (MQ below (mQ (fun v H1 => v = some (.int res.1) ∧ GW ρ wM ad res.2 H1) (MA wM ad s.heap.size)) args s 0 0 (MA wM ad s.heap.size)) (F0 m 142 ls [.int z0]) := by
    intro K6 hK6
    intro st x1 x2 x3 x4 x5 x6 x7 z0 H locs ls hW hS hl h
    unfold mo_find_142 at h
    refine lv_istore (pc := 142) (lv' := [(8, .int z0), (0, .ref (ad 0)), (1, .int x1), (2, .int x2), (3, .int x3), (4, .int x4), (5, .int x5), (6, .int x6), (7, .int x7)]) hx hb d172_142 hl (by decide) rfl (fun ls hl => ?_)
    refine lv_iload (pc := 144) hx hb d172_144 (lv_at hl 0 rfl) ?_
    refine lv_if_eq (pc := 146) (tgt := 163) hx hb d172_146 (by decide) (fun c146 => ?_) (fun c146 => ?_)
    · have h := jb_t c146 h
      exact kc163 _ hK6 st x1 x2 x3 x4 x5 x6 x7 _ _ _ hW hS (lv_sub hl [1, 2, 3, 4, 5, 6, 7, 8] rfl) h
    · have h := jb_f c146 h
      refine lv_iload (pc := 149) hx hb d172_149 (lv_at hl 6 rfl) ?_
      refine lv_if_ne (pc := 151) (tgt := 159) hx hb d172_151 (by decide) (fun c151 => ?_) (fun c151 => ?_)
      · have h := jb_f c151 h
        exact kc159 _ hK6 st x1 x2 x3 x4 x5 x7 _ _ _ hW hS (lv_sub hl [1, 2, 3, 4, 5, 6, 8] rfl) h
      · have h := jb_t c151 h
        refine lv_iload (pc := 154) hx hb d172_154 (lv_at hl 7 rfl) ?_
        refine lv_if_ge (pc := 156) (tgt := 163) hx hb d172_156 (by decide) (fun c156 => ?_) (fun c156 => ?_)
        · have h := jb_t c156 h
          exact kc163 _ hK6 st x1 x2 x3 x4 x5 x6 x7 _ _ _ hW hS (lv_sub hl [1, 2, 3, 4, 5, 6, 7, 8] rfl) h
        · have h := jb_f c156 h
          exact kc159 _ hK6 st x1 x2 x3 x4 x5 x7 _ _ _ hW hS (lv_sub hl [1, 2, 3, 4, 5, 6, 8] rfl) h
  have kc41 : ∀ (K6 : GS → Int32 → Int32 → Int32 → Int32 → Int32 → Int32 → Int32 → Option (Int32 × GS)) (hK6 : ∀ (st : GS) (x1 : Int32) (x2 : Int32) (x3 : Int32) (x4 : Int32) (x5 : Int32) (x6 : Int32) (x7 : Int32) (H : Heap) (locs : List Loc) (ls : Array Slot), GW ρ wM ad st H → va_S (MA wM ad s.heap.size) s.heap H locs → lv_has ls 9 [(0, .ref (ad 0)), (1, .int x1), (2, .int x2), (3, .int x3), (4, .int x4), (5, .int x5), (6, .int x6), (7, .int x7)] → K6 st x1 x2 x3 x4 x5 x6 x7 = some res → W p l e ({ frames := 2, cells := 0, slots := 0, locals := 55 } : Room) s m args below meth c H locs 0 0 (MQ below (mQ (fun v H1 => v = some (.int res.1) ∧ GW ρ wM ad res.2 H1) (MA wM ad s.heap.size)) args s 0 0 (MA wM ad s.heap.size)) (F0 m 6 ls [])), ∀ (st : GS) (x1 : Int32) (x2 : Int32) (x3 : Int32) (x4 : Int32) (x5 : Int32) (x6 : Int32) (x7 : Int32) (z1 : Int32) (H : Heap) (locs : List Loc) (ls : Array Slot), GW ρ wM ad st H → va_S (MA wM ad s.heap.size) s.heap H locs → lv_has ls 9 [(0, .ref (ad 0)), (1, .int x1), (2, .int x2), (3, .int x3), (4, .int x4), (5, .int x5), (6, .int x6), (7, .int x7)] → mo_find_41 K6 st x1 x2 x3 x4 x5 x6 x7 z1 = some res → W p l e ({ frames := 2, cells := 0, slots := 0, locals := 55 } : Room) s m args below meth c H locs 0 0 (MQ below (mQ (fun v H1 => v = some (.int res.1) ∧ GW ρ wM ad res.2 H1) (MA wM ad s.heap.size)) args s 0 0 (MA wM ad s.heap.size)) (F0 m 41 ls [.int z1, .ref (ad 0)]) := by
    intro K6 hK6
    intro st x1 x2 x3 x4 x5 x6 x7 z1 H locs ls hW hS hl h
    unfold mo_find_41 at h
    obtain ⟨q2, hq2, h⟩ := jc_some h
    refine k_callV (pc := 41) (n := 1) X hS (c_mo_take l ρ ad _ st z1 q2 hW hq2) wd1613 wd1610 wd1612 sl223 wd11 (by decide) ⟨rfl, rfl, by decide, by decide⟩ (m_recv X hW) (As := [.int z1]) (rest := []) rfl rfl hl.1 (Nat.le_of_ble_eq_true rfl) d172_41 ⟨by decide, by decide⟩ (fun q hq => MA.mono hS.1 hq) (fun v H1 locs1 hv _ _ hSq2 => ?_)
    obtain ⟨rfl, hW⟩ := hv
    have hS := hSq2
    refine lv_aload_n (pc := 44) hx hb d172_44 rfl (lv_at hl 0 rfl) ?_
    refine m_get (pc := 45) X hW 20 (v := .int (q2.1 0 20)) wd1386 rfl rfl d172_45 ?_
    refine lv_aload_n (pc := 48) hx hb d172_48 rfl (lv_at hl 0 rfl) ?_
    refine m_get (pc := 49) X hW 46 (v := .int (q2.1 0 46)) wd1412 rfl rfl d172_49 ?_
    refine lv_icmp_eq (pc := 52) (tgt := 58) hx hb d172_52 (by decide) (fun c52 => ?_) (fun c52 => ?_)
    · have h := jb_t c52 h
      refine lv_iload (pc := 58) hx hb d172_58 (lv_at hl 5 rfl) ?_
      refine lv_if_le (pc := 60) (tgt := 78) hx hb d172_60 (by decide) (fun c60 => ?_) (fun c60 => ?_)
      · have h := jb_t c60 h
        refine lv_iload (pc := 78) hx hb d172_78 (lv_at hl 5 rfl) ?_
        refine lv_if_ge (pc := 80) (tgt := 98) hx hb d172_80 (by decide) (fun c80 => ?_) (fun c80 => ?_)
        · have h := jb_t c80 h
          refine lv_aload_n (pc := 98) hx hb d172_98 rfl (lv_at hl 0 rfl) ?_
          refine m_get (pc := 99) X hW 48 (v := .int (q2.1 0 48)) wd1414 rfl rfl d172_99 ?_
          refine lv_if_eq (pc := 102) (tgt := 130) hx hb d172_102 (by decide) (fun c102 => ?_) (fun c102 => ?_)
          · have h := jb_t c102 h
            refine lv_aload_n (pc := 130) hx hb d172_130 rfl (lv_at hl 0 rfl) ?_
            obtain ⟨q3, hq3, h⟩ := jc_some h
            refine k_callV (pc := 131) (n := 0) X hS (c_mo_lies l ρ ad _ q2 q3 hW hq3) wd1829 wd1826 wd1828 sl190 wd11 (by decide) ⟨rfl, rfl, by decide, by decide⟩ (m_recv X hW) (As := []) (rest := []) rfl rfl hl.1 (Nat.le_of_ble_eq_true rfl) d172_131 ⟨by decide, by decide⟩ (fun q hq => False.elim hq) (fun v H1 locs1 hv _ _ hSq3 => ?_)
            obtain ⟨rfl, rfl⟩ := hv
            have hS := hSq3
            refine lv_if_ne (pc := 134) (tgt := 141) hx hb d172_134 (by decide) (fun c134 => ?_) (fun c134 => ?_)
            · have h := jb_f c134 h
              refine lv_iconst (pc := 141) (v := 0) hx hb d172_141 (by decide) ?_
              exact kc142 _ hK6 q2 x1 x2 x3 x4 x5 x6 x7 0 _ _ _ hW hS (lv_sub hl [0, 1, 2, 3, 4, 5, 6, 7] rfl) h
            · have h := jb_t c134 h
              refine lv_iconst (pc := 137) (v := 1) hx hb d172_137 (by decide) ?_
              refine lv_goto (pc := 138) (tgt := 142) hx hb d172_138 (by decide) ?_
              exact kc142 _ hK6 q2 x1 x2 x3 x4 x5 x6 x7 1 _ _ _ hW hS (lv_sub hl [0, 1, 2, 3, 4, 5, 6, 7] rfl) h
          · have h := jb_f c102 h
            refine lv_aload_n (pc := 105) hx hb d172_105 rfl (lv_at hl 0 rfl) ?_
            refine lv_aload_n (pc := 106) hx hb d172_106 rfl (lv_at hl 0 rfl) ?_
            refine m_get (pc := 107) X hW 24 (v := .ref (ad 14)) wd1390 rfl rfl d172_107 ?_
            refine lv_aload_n (pc := 110) hx hb d172_110 rfl (lv_at hl 0 rfl) ?_
            refine m_get (pc := 111) X hW 28 (v := .int (q2.1 0 28)) wd1394 rfl rfl d172_111 ?_
            refine lv_aload_n (pc := 114) hx hb d172_114 rfl (lv_at hl 0 rfl) ?_
            refine m_get (pc := 115) X hW 23 (v := .ref (ad 13)) wd1389 rfl rfl d172_115 ?_
            refine lv_aload_n (pc := 118) hx hb d172_118 rfl (lv_at hl 0 rfl) ?_
            refine m_get (pc := 119) X hW 27 (v := .int (q2.1 0 27)) wd1393 rfl rfl d172_119 ?_
            refine lv_iconst (pc := 122) (v := 0) hx hb d172_122 (by decide) ?_
            refine lv_iconst (pc := 123) (v := 1) hx hb d172_123 (by decide) ?_
            obtain ⟨q4, hq4, h⟩ := jc_some h
            refine k_callV (pc := 124) (n := 6) X hS (c_mo_matches l ρ ad _ q2 14 (q2.1 0 28) 13 (q2.1 0 27) 0 1 q4 hW ⟨by decide, rfl⟩ ⟨by decide, rfl⟩ hq4) wd1723 wd1720 wd1722 sl199 wd11 (by decide) ⟨rfl, rfl, by decide, by decide⟩ (m_recv X hW) (As := [.ref (ad 14), .int (q2.1 0 28), .ref (ad 13), .int (q2.1 0 27), .int 0, .int 1]) (rest := []) rfl rfl hl.1 (Nat.le_of_ble_eq_true rfl) d172_124 ⟨by decide, by decide⟩ (fun q hq => MA.mono hS.1 hq) (fun v H1 locs1 hv _ _ hSq4 => ?_)
            obtain ⟨rfl, hW⟩ := hv
            have hS := hSq4
            refine lv_goto (pc := 127) (tgt := 142) hx hb d172_127 (by decide) ?_
            exact kc142 _ hK6 q4.2 x1 x2 x3 x4 x5 x6 x7 q4.1 _ _ _ hW hS (lv_sub hl [0, 1, 2, 3, 4, 5, 6, 7] rfl) h
        · have h := jb_f c80 h
          refine lv_aload_n (pc := 83) hx hb d172_83 rfl (lv_at hl 0 rfl) ?_
          obtain ⟨q5, hq5, h⟩ := jc_some h
          refine k_callV (pc := 84) (n := 0) X hS (c_mo_lies l ρ ad _ q2 q5 hW hq5) wd1829 wd1826 wd1828 sl190 wd11 (by decide) ⟨rfl, rfl, by decide, by decide⟩ (m_recv X hW) (As := []) (rest := []) rfl rfl hl.1 (Nat.le_of_ble_eq_true rfl) d172_84 ⟨by decide, by decide⟩ (fun q hq => False.elim hq) (fun v H1 locs1 hv _ _ hSq5 => ?_)
          obtain ⟨rfl, rfl⟩ := hv
          have hS := hSq5
          refine lv_if_lt (pc := 87) (tgt := 94) hx hb d172_87 (by decide) (fun c87 => ?_) (fun c87 => ?_)
          · have h := jb_t c87 h
            refine lv_iconst (pc := 94) (v := 0) hx hb d172_94 (by decide) ?_
            refine lv_goto (pc := 95) (tgt := 142) hx hb d172_95 (by decide) ?_
            exact kc142 _ hK6 q2 x1 x2 x3 x4 x5 x6 x7 0 _ _ _ hW hS (lv_sub hl [0, 1, 2, 3, 4, 5, 6, 7] rfl) h
          · have h := jb_f c87 h
            refine lv_iconst (pc := 90) (v := 1) hx hb d172_90 (by decide) ?_
            refine lv_goto (pc := 91) (tgt := 142) hx hb d172_91 (by decide) ?_
            exact kc142 _ hK6 q2 x1 x2 x3 x4 x5 x6 x7 1 _ _ _ hW hS (lv_sub hl [0, 1, 2, 3, 4, 5, 6, 7] rfl) h
      · have h := jb_f c60 h
        refine lv_aload_n (pc := 63) hx hb d172_63 rfl (lv_at hl 0 rfl) ?_
        obtain ⟨q6, hq6, h⟩ := jc_some h
        refine k_callV (pc := 64) (n := 0) X hS (c_mo_lies l ρ ad _ q2 q6 hW hq6) wd1829 wd1826 wd1828 sl190 wd11 (by decide) ⟨rfl, rfl, by decide, by decide⟩ (m_recv X hW) (As := []) (rest := []) rfl rfl hl.1 (Nat.le_of_ble_eq_true rfl) d172_64 ⟨by decide, by decide⟩ (fun q hq => False.elim hq) (fun v H1 locs1 hv _ _ hSq6 => ?_)
        obtain ⟨rfl, rfl⟩ := hv
        have hS := hSq6
        refine lv_if_gt (pc := 67) (tgt := 74) hx hb d172_67 (by decide) (fun c67 => ?_) (fun c67 => ?_)
        · have h := jb_t c67 h
          refine lv_iconst (pc := 74) (v := 0) hx hb d172_74 (by decide) ?_
          refine lv_goto (pc := 75) (tgt := 142) hx hb d172_75 (by decide) ?_
          exact kc142 _ hK6 q2 x1 x2 x3 x4 x5 x6 x7 0 _ _ _ hW hS (lv_sub hl [0, 1, 2, 3, 4, 5, 6, 7] rfl) h
        · have h := jb_f c67 h
          refine lv_iconst (pc := 70) (v := 1) hx hb d172_70 (by decide) ?_
          refine lv_goto (pc := 71) (tgt := 142) hx hb d172_71 (by decide) ?_
          exact kc142 _ hK6 q2 x1 x2 x3 x4 x5 x6 x7 1 _ _ _ hW hS (lv_sub hl [0, 1, 2, 3, 4, 5, 6, 7] rfl) h
    · have h := jb_f c52 h
      refine lv_goto (pc := 55) (tgt := 163) hx hb d172_55 (by decide) ?_
      exact kc163 _ hK6 q2 x1 x2 x3 x4 x5 x6 x7 _ _ _ hW hS (lv_sub hl [0, 1, 2, 3, 4, 5, 6, 7] rfl) h
  have kc6 : ∀ (fu : Nat), ∀ (st : GS) (x1 : Int32) (x2 : Int32) (x3 : Int32) (x4 : Int32) (x5 : Int32) (x6 : Int32) (x7 : Int32) (H : Heap) (locs : List Loc) (ls : Array Slot), GW ρ wM ad st H → va_S (MA wM ad s.heap.size) s.heap H locs → lv_has ls 9 [(0, .ref (ad 0)), (1, .int x1), (2, .int x2), (3, .int x3), (4, .int x4), (5, .int x5), (6, .int x6), (7, .int x7)] → mo_find_6 fu st x1 x2 x3 x4 x5 x6 x7 = some res → W p l e ({ frames := 2, cells := 0, slots := 0, locals := 55 } : Room) s m args below meth c H locs 0 0 (MQ below (mQ (fun v H1 => v = some (.int res.1) ∧ GW ρ wM ad res.2 H1) (MA wM ad s.heap.size)) args s 0 0 (MA wM ad s.heap.size)) (F0 m 6 ls []) := by
    intro  fu
    induction fu with
    | zero => intro st x1 x2 x3 x4 x5 x6 x7 H locs ls hW hS hl h; cases h
    | succ fu hK6 =>
      intro st x1 x2 x3 x4 x5 x6 x7 H locs ls hW hS hl h
      unfold mo_find_6 at h
      refine lv_iload (pc := 6) hx hb d172_6 (lv_at hl 7 rfl) ?_
      refine lv_iload (pc := 8) hx hb d172_8 (lv_at hl 4 rfl) ?_
      refine lv_icmp_ge (pc := 10) (tgt := 169) hx hb d172_10 (by decide) (fun c10 => ?_) (fun c10 => ?_)
      · have h := jb_t c10 h
        refine lv_iload (pc := 169) hx hb d172_169 (lv_at hl 6 rfl) ?_
        obtain rfl := Option.some.inj h
        exact m_iret (pc := 171) hx hb hr hlk hS ⟨rfl, hW⟩ (by decide) (by decide) d172_171
      · have h := jb_f c10 h
        refine lv_aload_n (pc := 13) hx hb d172_13 rfl (lv_at hl 0 rfl) ?_
        refine lv_aload_n (pc := 14) hx hb d172_14 rfl (lv_at hl 0 rfl) ?_
        refine lv_iload_n (pc := 15) hx hb d172_15 rfl (lv_at hl 1 rfl) ?_
        obtain ⟨q7, hq7, h⟩ := jc_some h
        refine k_callV (pc := 16) (n := 1) X hS (c_mo_isOut l ρ ad _ st x1 q7 hW hq7) wd1609 wd1606 wd1608 sl183 wd11 (by decide) ⟨rfl, rfl, by decide, by decide⟩ (m_recv X hW) (As := [.int x1]) (rest := [.ref (ad 0)]) rfl rfl hl.1 (Nat.le_of_ble_eq_true rfl) d172_16 ⟨by decide, by decide⟩ (fun q hq => False.elim hq) (fun v H1 locs1 hv _ _ hSq7 => ?_)
        obtain ⟨rfl, rfl⟩ := hv
        have hS := hSq7
        refine lv_if_eq (pc := 19) (tgt := 28) hx hb d172_19 (by decide) (fun c19 => ?_) (fun c19 => ?_)
        · have h := jb_t c19 h
          refine lv_aload_n (pc := 28) hx hb d172_28 rfl (lv_at hl 0 rfl) ?_
          refine m_get (pc := 29) X hW 11 (v := .ref (ad 6)) wd1377 rfl rfl d172_29 ?_
          refine lv_iload_n (pc := 32) hx hb d172_32 rfl (lv_at hl 1 rfl) ?_
          obtain ⟨g8, h⟩ := jg_some h
          refine r_iald (pc := 33) X hW 6 (by decide) rfl (inb_in g8) d172_33 ?_
          refine lv_iload_n (pc := 34) hx hb d172_34 rfl (lv_at hl 2 rfl) ?_
          refine lv_iadd (pc := 35) hx hb d172_35 ?_
          refine lv_iload_n (pc := 36) hx hb d172_36 rfl (lv_at hl 3 rfl) ?_
          refine lv_iload (pc := 37) hx hb d172_37 (lv_at hl 7 rfl) ?_
          refine lv_imul (pc := 39) hx hb d172_39 ?_
          refine lv_iadd (pc := 40) hx hb d172_40 ?_
          exact kc41 _ hK6 st x1 x2 x3 x4 x5 x6 x7 (((st.1 6 x1.toNatClampNeg) + x2) + (x3 * x7)) _ _ _ hW hS (lv_sub hl [0, 1, 2, 3, 4, 5, 6, 7] rfl) h
        · have h := jb_f c19 h
          refine lv_sipush (pc := 22) (v := 512) hx hb d172_22 (by decide) ?_
          refine lv_goto (pc := 25) (tgt := 41) hx hb d172_25 (by decide) ?_
          exact kc41 _ hK6 st x1 x2 x3 x4 x5 x6 x7 512 _ _ _ hW hS (lv_sub hl [0, 1, 2, 3, 4, 5, 6, 7] rfl) h
  unfold f_mo_find at h
  refine lv_iconst (pc := 0) (v := (-1)) hx hb d172_0 (by decide) ?_
  refine lv_istore (pc := 1) (lv' := [(6, .int (-1)), (0, .ref (ad 0)), (1, .int p0), (2, .int p1), (3, .int p2), (4, .int p3), (5, .int p4)]) hx hb d172_1 hl (by decide) rfl (fun ls hl => ?_)
  refine lv_iconst (pc := 3) (v := 0) hx hb d172_3 (by decide) ?_
  refine lv_istore (pc := 4) (lv' := [(7, .int 0), (6, .int (-1)), (0, .ref (ad 0)), (1, .int p0), (2, .int p1), (3, .int p2), (4, .int p3), (5, .int p4)]) hx hb d172_4 hl (by decide) rfl (fun ls hl => ?_)
  exact kc6  FU st p0 p1 p2 p3 p4 (-1) 0 _ _ _ hW hS (lv_sub hl [2, 3, 4, 5, 6, 7, 1, 0] rfl) h
def mo_lookIn_153  (st : GS) (z2 : Int32) (z3 : Int32) (z4 : Int32) : Option (GS) := jc (f_mo_valueAt st z2 z3 z4) (fun q1 => jc (f_mo_answerValue st q1) (fun q2 => some q2))
def mo_lookIn_141  (st : GS) (x1 : Int32) (x2 : Int32) (x4 : Int32) (z2 : Int32) (z3 : Int32) : Option (GS) := jb (x1 = 0) (mo_lookIn_153  st z2 z3 (x2 - 1)) (mo_lookIn_153  st z2 z3 x4)
def mo_lookIn_107  (st : GS) (x1 : Int32) (x2 : Int32) (z1 : Int32) (z2 : Int32) (z3 : Int32) (z4 : Int32) (z5 : Int32) : Option (GS) := jc (f_mo_find st z1 z2 z3 z4 z5) (fun q3 => jb (0 ≤ q3.1) (jb (x1 = 0) (mo_lookIn_141  q3.2 x1 x2 q3.1 1 q3.1) (mo_lookIn_141  q3.2 x1 x2 q3.1 1 (x2 - 1))) (jc (f_mo_fail q3.2 7) (fun q4 => some q4)))
def mo_lookIn_98  (st : GS) (x1 : Int32) (x2 : Int32) (x3 : Int32) (z1 : Int32) (z2 : Int32) (z3 : Int32) (z4 : Int32) : Option (GS) := jb (x3 = 0) (mo_lookIn_107  st x1 x2 z1 z2 z3 z4 0) (mo_lookIn_107  st x1 x2 z1 z2 z3 z4 1)
def mo_lookIn_81  (st : GS) (x1 : Int32) (x2 : Int32) (x3 : Int32) (z1 : Int32) (z2 : Int32) (z3 : Int32) : Option (GS) := jb (x1 = 0) (jc (f_mo_rowsOf st 1) (fun q5 => mo_lookIn_98  st x1 x2 x3 z1 z2 z3 q5)) (jc (f_mo_columnsOf st 1) (fun q6 => mo_lookIn_98  st x1 x2 x3 z1 z2 z3 q6))
def mo_lookIn_57  (st : GS) (x1 : Int32) (x2 : Int32) (x3 : Int32) : Option (GS) := jb ((st.1 0 22) = 0) (jb (x1 = 0) (jc (f_mo_columnsOf st 1) (fun q7 => mo_lookIn_81  st x1 x2 x3 1 0 q7)) (mo_lookIn_81  st x1 x2 x3 1 0 1)) (some st)
def mo_lookIn_49  (st : GS) (x1 : Int32) (x2 : Int32) (x3 : Int32) (z0 : Int32) (z1 : Int32) : Option (GS) := jb (z0 ≤ z1) (mo_lookIn_57  st x1 x2 x3) (jc (f_mo_fail st 4) (fun q8 => mo_lookIn_57  q8 x1 x2 x3))
def f_mo_lookIn (st : GS) (p0 : Int32) : Option (GS) := jc (f_mo_want st 0) (fun q9 => jc (f_mo_whole1 q9 2) (fun q10 => jc (f_mo_truth2 q10.2 3 1) (fun q11 => jb (1 ≤ q10.1) (jb (p0 = 0) (jc (f_mo_columnsOf q11.2 1) (fun q12 => mo_lookIn_49  q11.2 p0 q10.1 q11.1 q10.1 q12)) (jc (f_mo_rowsOf q11.2 1) (fun q13 => mo_lookIn_49  q11.2 p0 q10.1 q11.1 q10.1 q13))) (jc (f_mo_fail q11.2 3) (fun q14 => mo_lookIn_57  q14 p0 q10.1 q11.1)))))
set_option maxHeartbeats 4000000 in
set_option maxRecDepth 100000 in
theorem c_mo_lookIn (l : Launch) (ρ : RH) (ad : Nat → Nat) (H : Heap) (st : GS) (p0 : Int32) (res : GS) (hW : GW ρ wM ad st H) (h : f_mo_lookIn st p0 = some res) : Met l y192 (wsOf y192 b192 5 none) ({ frames := 6, cells := 0, slots := 0, locals := 130 } : Room) (va_Pc [.ref (ad 0), .int p0] (KP ρ H)) (mQ (fun v H1 => v = none ∧ GW ρ wM ad res H1) (MA wM ad H.size)) 0 0 (MA wM ad H.size) := by
  refine m_ofW (own := "WordFunctionsModel") (plainFor_of_name rfl) rfl (Nat.le_of_ble_eq_true rfl) fun p e s m args below meth c ls hx hb hr hlk _ X hs hl => ?_
  subst hs
  have hS : va_S (MA wM ad s.heap.size) s.heap s.heap [] := va_S.rf
  have hl : lv_has ls 5 [(0, .ref (ad 0)), (1, .int p0)] := hl
  have kc153 : ∀ (st : GS) (z2 : Int32) (z3 : Int32) (z4 : Int32) (H : Heap) (locs : List Loc) (ls : Array Slot), GW ρ wM ad st H → va_S (MA wM ad s.heap.size) s.heap H locs → lv_has ls 5 [] → mo_lookIn_153 st z2 z3 z4 = some res → W p l e ({ frames := 6, cells := 0, slots := 0, locals := 130 } : Room) s m args below meth c H locs 0 0 (MQ below (mQ (fun v H1 => v = none ∧ GW ρ wM ad res H1) (MA wM ad s.heap.size)) args s 0 0 (MA wM ad s.heap.size)) (F0 m 153 ls [.int z4, .int z3, .int z2, .ref (ad 0), .ref (ad 0)]) := by
    intro st z2 z3 z4 H locs ls hW hS hl h
    unfold mo_lookIn_153 at h
    obtain ⟨q1, hq1, h⟩ := jc_some h
    refine k_callV (pc := 153) (n := 3) X hS (c_mo_valueAt l ρ ad _ st z2 z3 z4 q1 hW hq1) wd1605 wd1602 wd1604 sl237 wd11 (by decide) ⟨rfl, rfl, by decide, by decide⟩ (m_recv X hW) (As := [.int z2, .int z3, .int z4]) (rest := [.ref (ad 0)]) rfl rfl hl.1 (Nat.le_of_ble_eq_true rfl) d192_153 ⟨by decide, by decide⟩ (fun q hq => False.elim hq) (fun v H1 locs1 hv _ _ hSq1 => ?_)
    obtain ⟨rfl, rfl⟩ := hv
    have hS := hSq1
    obtain ⟨q2, hq2, h⟩ := jc_some h
    refine k_callV (pc := 156) (n := 1) X hS (c_mo_answerValue l ρ ad _ st q1 q2 hW hq2) wd1833 wd1830 wd1832 sl146 wd11 (by decide) ⟨rfl, rfl, by decide, by decide⟩ (m_recv X hW) (As := [.int q1]) (rest := []) rfl rfl hl.1 (Nat.le_of_ble_eq_true rfl) d192_156 ⟨by decide, by decide⟩ (fun q hq => MA.mono hS.1 hq) (fun v H1 locs1 hv _ _ hSq2 => ?_)
    obtain ⟨rfl, hW⟩ := hv
    have hS := hSq2
    obtain rfl := Option.some.inj h
    exact m_vret (pc := 159) hx hb hr hlk hS ⟨rfl, hW⟩ (by decide) (by decide) d192_159
  have kc141 : ∀ (st : GS) (x1 : Int32) (x2 : Int32) (x4 : Int32) (z2 : Int32) (z3 : Int32) (H : Heap) (locs : List Loc) (ls : Array Slot), GW ρ wM ad st H → va_S (MA wM ad s.heap.size) s.heap H locs → lv_has ls 5 [(1, .int x1), (2, .int x2), (4, .int x4)] → mo_lookIn_141 st x1 x2 x4 z2 z3 = some res → W p l e ({ frames := 6, cells := 0, slots := 0, locals := 130 } : Room) s m args below meth c H locs 0 0 (MQ below (mQ (fun v H1 => v = none ∧ GW ρ wM ad res H1) (MA wM ad s.heap.size)) args s 0 0 (MA wM ad s.heap.size)) (F0 m 141 ls [.int z3, .int z2, .ref (ad 0), .ref (ad 0)]) := by
    intro st x1 x2 x4 z2 z3 H locs ls hW hS hl h
    unfold mo_lookIn_141 at h
    refine lv_iload_n (pc := 141) hx hb d192_141 rfl (lv_at hl 0 rfl) ?_
    refine lv_if_eq (pc := 142) (tgt := 150) hx hb d192_142 (by decide) (fun c142 => ?_) (fun c142 => ?_)
    · have h := jb_t c142 h
      refine lv_iload_n (pc := 150) hx hb d192_150 rfl (lv_at hl 1 rfl) ?_
      refine lv_iconst (pc := 151) (v := 1) hx hb d192_151 (by decide) ?_
      refine lv_isub (pc := 152) hx hb d192_152 ?_
      exact kc153  st z2 z3 (x2 - 1) _ _ _ hW hS (lv_sub hl [] rfl) h
    · have h := jb_f c142 h
      refine lv_iload (pc := 145) hx hb d192_145 (lv_at hl 2 rfl) ?_
      refine lv_goto (pc := 147) (tgt := 153) hx hb d192_147 (by decide) ?_
      exact kc153  st z2 z3 x4 _ _ _ hW hS (lv_sub hl [] rfl) h
  have kc107 : ∀ (st : GS) (x1 : Int32) (x2 : Int32) (z1 : Int32) (z2 : Int32) (z3 : Int32) (z4 : Int32) (z5 : Int32) (H : Heap) (locs : List Loc) (ls : Array Slot), GW ρ wM ad st H → va_S (MA wM ad s.heap.size) s.heap H locs → lv_has ls 5 [(0, .ref (ad 0)), (1, .int x1), (2, .int x2)] → mo_lookIn_107 st x1 x2 z1 z2 z3 z4 z5 = some res → W p l e ({ frames := 6, cells := 0, slots := 0, locals := 130 } : Room) s m args below meth c H locs 0 0 (MQ below (mQ (fun v H1 => v = none ∧ GW ρ wM ad res H1) (MA wM ad s.heap.size)) args s 0 0 (MA wM ad s.heap.size)) (F0 m 107 ls [.int z5, .int z4, .int z3, .int z2, .int z1, .ref (ad 0)]) := by
    intro st x1 x2 z1 z2 z3 z4 z5 H locs ls hW hS hl h
    unfold mo_lookIn_107 at h
    obtain ⟨q3, hq3, h⟩ := jc_some h
    refine k_callV (pc := 107) (n := 5) X hS (c_mo_find l ρ ad _ st z1 z2 z3 z4 z5 q3 hW hq3) wd1825 wd1822 wd1824 sl172 wd11 (by decide) ⟨rfl, rfl, by decide, by decide⟩ (m_recv X hW) (As := [.int z1, .int z2, .int z3, .int z4, .int z5]) (rest := []) rfl rfl hl.1 (Nat.le_of_ble_eq_true rfl) d192_107 ⟨by decide, by decide⟩ (fun q hq => MA.mono hS.1 hq) (fun v H1 locs1 hv _ _ hSq3 => ?_)
    obtain ⟨rfl, hW⟩ := hv
    have hS := hSq3
    refine lv_istore (pc := 110) (lv' := [(4, .int q3.1), (0, .ref (ad 0)), (1, .int x1), (2, .int x2)]) hx hb d192_110 hl (by decide) rfl (fun ls hl => ?_)
    refine lv_iload (pc := 112) hx hb d192_112 (lv_at hl 0 rfl) ?_
    refine lv_if_ge (pc := 114) (tgt := 126) hx hb d192_114 (by decide) (fun c114 => ?_) (fun c114 => ?_)
    · have h := jb_t c114 h
      refine lv_aload_n (pc := 126) hx hb d192_126 rfl (lv_at hl 1 rfl) ?_
      refine lv_aload_n (pc := 127) hx hb d192_127 rfl (lv_at hl 1 rfl) ?_
      refine lv_iconst (pc := 128) (v := 1) hx hb d192_128 (by decide) ?_
      refine lv_iload_n (pc := 129) hx hb d192_129 rfl (lv_at hl 2 rfl) ?_
      refine lv_if_eq (pc := 130) (tgt := 139) hx hb d192_130 (by decide) (fun c130 => ?_) (fun c130 => ?_)
      · have h := jb_t c130 h
        refine lv_iload (pc := 139) hx hb d192_139 (lv_at hl 0 rfl) ?_
        exact kc141  q3.2 x1 x2 q3.1 1 q3.1 _ _ _ hW hS (lv_sub hl [2, 3, 0] rfl) h
      · have h := jb_f c130 h
        refine lv_iload_n (pc := 133) hx hb d192_133 rfl (lv_at hl 3 rfl) ?_
        refine lv_iconst (pc := 134) (v := 1) hx hb d192_134 (by decide) ?_
        refine lv_isub (pc := 135) hx hb d192_135 ?_
        refine lv_goto (pc := 136) (tgt := 141) hx hb d192_136 (by decide) ?_
        exact kc141  q3.2 x1 x2 q3.1 1 (x2 - 1) _ _ _ hW hS (lv_sub hl [2, 3, 0] rfl) h
    · have h := jb_f c114 h
      refine lv_aload_n (pc := 117) hx hb d192_117 rfl (lv_at hl 1 rfl) ?_
      refine lv_bipush (pc := 118) (v := 7) hx hb d192_118 (by decide) ?_
      obtain ⟨q4, hq4, h⟩ := jc_some h
      refine k_callV (pc := 120) (n := 1) X hS (c_mo_fail l ρ ad _ q3.2 7 q4 hW hq4) wd1621 wd1618 wd1620 sl170 wd11 (by decide) ⟨rfl, rfl, by decide, by decide⟩ (m_recv X hW) (As := [.int 7]) (rest := []) rfl rfl hl.1 (Nat.le_of_ble_eq_true rfl) d192_120 ⟨by decide, by decide⟩ (fun q hq => MA.mono hS.1 hq) (fun v H1 locs1 hv _ _ hSq4 => ?_)
      obtain ⟨rfl, hW⟩ := hv
      have hS := hSq4
      refine lv_goto (pc := 123) (tgt := 159) hx hb d192_123 (by decide) ?_
      obtain rfl := Option.some.inj h
      exact m_vret (pc := 159) hx hb hr hlk hS ⟨rfl, hW⟩ (by decide) (by decide) d192_159
  have kc98 : ∀ (st : GS) (x1 : Int32) (x2 : Int32) (x3 : Int32) (z1 : Int32) (z2 : Int32) (z3 : Int32) (z4 : Int32) (H : Heap) (locs : List Loc) (ls : Array Slot), GW ρ wM ad st H → va_S (MA wM ad s.heap.size) s.heap H locs → lv_has ls 5 [(0, .ref (ad 0)), (1, .int x1), (2, .int x2), (3, .int x3)] → mo_lookIn_98 st x1 x2 x3 z1 z2 z3 z4 = some res → W p l e ({ frames := 6, cells := 0, slots := 0, locals := 130 } : Room) s m args below meth c H locs 0 0 (MQ below (mQ (fun v H1 => v = none ∧ GW ρ wM ad res H1) (MA wM ad s.heap.size)) args s 0 0 (MA wM ad s.heap.size)) (F0 m 98 ls [.int z4, .int z3, .int z2, .int z1, .ref (ad 0)]) := by
    intro st x1 x2 x3 z1 z2 z3 z4 H locs ls hW hS hl h
    unfold mo_lookIn_98 at h
    refine lv_iload_n (pc := 98) hx hb d192_98 rfl (lv_at hl 3 rfl) ?_
    refine lv_if_eq (pc := 99) (tgt := 106) hx hb d192_99 (by decide) (fun c99 => ?_) (fun c99 => ?_)
    · have h := jb_t c99 h
      refine lv_iconst (pc := 106) (v := 0) hx hb d192_106 (by decide) ?_
      exact kc107  st x1 x2 z1 z2 z3 z4 0 _ _ _ hW hS (lv_sub hl [0, 1, 2] rfl) h
    · have h := jb_f c99 h
      refine lv_iconst (pc := 102) (v := 1) hx hb d192_102 (by decide) ?_
      refine lv_goto (pc := 103) (tgt := 107) hx hb d192_103 (by decide) ?_
      exact kc107  st x1 x2 z1 z2 z3 z4 1 _ _ _ hW hS (lv_sub hl [0, 1, 2] rfl) h
  have kc81 : ∀ (st : GS) (x1 : Int32) (x2 : Int32) (x3 : Int32) (z1 : Int32) (z2 : Int32) (z3 : Int32) (H : Heap) (locs : List Loc) (ls : Array Slot), GW ρ wM ad st H → va_S (MA wM ad s.heap.size) s.heap H locs → lv_has ls 5 [(0, .ref (ad 0)), (1, .int x1), (2, .int x2), (3, .int x3)] → mo_lookIn_81 st x1 x2 x3 z1 z2 z3 = some res → W p l e ({ frames := 6, cells := 0, slots := 0, locals := 130 } : Room) s m args below meth c H locs 0 0 (MQ below (mQ (fun v H1 => v = none ∧ GW ρ wM ad res H1) (MA wM ad s.heap.size)) args s 0 0 (MA wM ad s.heap.size)) (F0 m 81 ls [.int z3, .int z2, .int z1, .ref (ad 0)]) := by
    intro st x1 x2 x3 z1 z2 z3 H locs ls hW hS hl h
    unfold mo_lookIn_81 at h
    refine lv_iload_n (pc := 81) hx hb d192_81 rfl (lv_at hl 1 rfl) ?_
    refine lv_if_eq (pc := 82) (tgt := 93) hx hb d192_82 (by decide) (fun c82 => ?_) (fun c82 => ?_)
    · have h := jb_t c82 h
      refine lv_aload_n (pc := 93) hx hb d192_93 rfl (lv_at hl 0 rfl) ?_
      refine lv_iconst (pc := 94) (v := 1) hx hb d192_94 (by decide) ?_
      obtain ⟨q5, hq5, h⟩ := jc_some h
      refine k_callV (pc := 95) (n := 1) X hS (c_mo_rowsOf l ρ ad _ st 1 q5 hW hq5) wd1772 wd1769 wd1771 sl215 wd11 (by decide) ⟨rfl, rfl, by decide, by decide⟩ (m_recv X hW) (As := [.int 1]) (rest := [.int z3, .int z2, .int z1, .ref (ad 0)]) rfl rfl hl.1 (Nat.le_of_ble_eq_true rfl) d192_95 ⟨by decide, by decide⟩ (fun q hq => False.elim hq) (fun v H1 locs1 hv _ _ hSq5 => ?_)
      obtain ⟨rfl, rfl⟩ := hv
      have hS := hSq5
      exact kc98  st x1 x2 x3 z1 z2 z3 q5 _ _ _ hW hS (lv_sub hl [0, 1, 2, 3] rfl) h
    · have h := jb_f c82 h
      refine lv_aload_n (pc := 85) hx hb d192_85 rfl (lv_at hl 0 rfl) ?_
      refine lv_iconst (pc := 86) (v := 1) hx hb d192_86 (by decide) ?_
      obtain ⟨q6, hq6, h⟩ := jc_some h
      refine k_callV (pc := 87) (n := 1) X hS (c_mo_columnsOf l ρ ad _ st 1 q6 hW hq6) wd1776 wd1773 wd1775 sl154 wd11 (by decide) ⟨rfl, rfl, by decide, by decide⟩ (m_recv X hW) (As := [.int 1]) (rest := [.int z3, .int z2, .int z1, .ref (ad 0)]) rfl rfl hl.1 (Nat.le_of_ble_eq_true rfl) d192_87 ⟨by decide, by decide⟩ (fun q hq => False.elim hq) (fun v H1 locs1 hv _ _ hSq6 => ?_)
      obtain ⟨rfl, rfl⟩ := hv
      have hS := hSq6
      refine lv_goto (pc := 90) (tgt := 98) hx hb d192_90 (by decide) ?_
      exact kc98  st x1 x2 x3 z1 z2 z3 q6 _ _ _ hW hS (lv_sub hl [0, 1, 2, 3] rfl) h
  have kc57 : ∀ (st : GS) (x1 : Int32) (x2 : Int32) (x3 : Int32) (H : Heap) (locs : List Loc) (ls : Array Slot), GW ρ wM ad st H → va_S (MA wM ad s.heap.size) s.heap H locs → lv_has ls 5 [(0, .ref (ad 0)), (1, .int x1), (2, .int x2), (3, .int x3)] → mo_lookIn_57 st x1 x2 x3 = some res → W p l e ({ frames := 6, cells := 0, slots := 0, locals := 130 } : Room) s m args below meth c H locs 0 0 (MQ below (mQ (fun v H1 => v = none ∧ GW ρ wM ad res H1) (MA wM ad s.heap.size)) args s 0 0 (MA wM ad s.heap.size)) (F0 m 57 ls []) := by
    intro st x1 x2 x3 H locs ls hW hS hl h
    unfold mo_lookIn_57 at h
    refine lv_aload_n (pc := 57) hx hb d192_57 rfl (lv_at hl 0 rfl) ?_
    refine m_get (pc := 58) X hW 22 (v := .int (st.1 0 22)) wd1388 rfl rfl d192_58 ?_
    refine lv_if_eq (pc := 61) (tgt := 65) hx hb d192_61 (by decide) (fun c61 => ?_) (fun c61 => ?_)
    · have h := jb_t c61 h
      refine lv_aload_n (pc := 65) hx hb d192_65 rfl (lv_at hl 0 rfl) ?_
      refine lv_iconst (pc := 66) (v := 1) hx hb d192_66 (by decide) ?_
      refine lv_iconst (pc := 67) (v := 0) hx hb d192_67 (by decide) ?_
      refine lv_iload_n (pc := 68) hx hb d192_68 rfl (lv_at hl 1 rfl) ?_
      refine lv_if_eq (pc := 69) (tgt := 76) hx hb d192_69 (by decide) (fun c69 => ?_) (fun c69 => ?_)
      · have h := jb_t c69 h
        refine lv_aload_n (pc := 76) hx hb d192_76 rfl (lv_at hl 0 rfl) ?_
        refine lv_iconst (pc := 77) (v := 1) hx hb d192_77 (by decide) ?_
        obtain ⟨q7, hq7, h⟩ := jc_some h
        refine k_callV (pc := 78) (n := 1) X hS (c_mo_columnsOf l ρ ad _ st 1 q7 hW hq7) wd1776 wd1773 wd1775 sl154 wd11 (by decide) ⟨rfl, rfl, by decide, by decide⟩ (m_recv X hW) (As := [.int 1]) (rest := [.int 0, .int 1, .ref (ad 0)]) rfl rfl hl.1 (Nat.le_of_ble_eq_true rfl) d192_78 ⟨by decide, by decide⟩ (fun q hq => False.elim hq) (fun v H1 locs1 hv _ _ hSq7 => ?_)
        obtain ⟨rfl, rfl⟩ := hv
        have hS := hSq7
        exact kc81  st x1 x2 x3 1 0 q7 _ _ _ hW hS (lv_sub hl [0, 1, 2, 3] rfl) h
      · have h := jb_f c69 h
        refine lv_iconst (pc := 72) (v := 1) hx hb d192_72 (by decide) ?_
        refine lv_goto (pc := 73) (tgt := 81) hx hb d192_73 (by decide) ?_
        exact kc81  st x1 x2 x3 1 0 1 _ _ _ hW hS (lv_sub hl [0, 1, 2, 3] rfl) h
    · have h := jb_f c61 h
      obtain rfl := Option.some.inj h
      exact m_vret (pc := 64) hx hb hr hlk hS ⟨rfl, hW⟩ (by decide) (by decide) d192_64
  have kc49 : ∀ (st : GS) (x1 : Int32) (x2 : Int32) (x3 : Int32) (z0 : Int32) (z1 : Int32) (H : Heap) (locs : List Loc) (ls : Array Slot), GW ρ wM ad st H → va_S (MA wM ad s.heap.size) s.heap H locs → lv_has ls 5 [(0, .ref (ad 0)), (1, .int x1), (2, .int x2), (3, .int x3)] → mo_lookIn_49 st x1 x2 x3 z0 z1 = some res → W p l e ({ frames := 6, cells := 0, slots := 0, locals := 130 } : Room) s m args below meth c H locs 0 0 (MQ below (mQ (fun v H1 => v = none ∧ GW ρ wM ad res H1) (MA wM ad s.heap.size)) args s 0 0 (MA wM ad s.heap.size)) (F0 m 49 ls [.int z1, .int z0]) := by
    intro st x1 x2 x3 z0 z1 H locs ls hW hS hl h
    unfold mo_lookIn_49 at h
    refine lv_icmp_le (pc := 49) (tgt := 57) hx hb d192_49 (by decide) (fun c49 => ?_) (fun c49 => ?_)
    · have h := jb_t c49 h
      exact kc57  st x1 x2 x3 _ _ _ hW hS (lv_sub hl [0, 1, 2, 3] rfl) h
    · have h := jb_f c49 h
      refine lv_aload_n (pc := 52) hx hb d192_52 rfl (lv_at hl 0 rfl) ?_
      refine lv_iconst (pc := 53) (v := 4) hx hb d192_53 (by decide) ?_
      obtain ⟨q8, hq8, h⟩ := jc_some h
      refine k_callV (pc := 54) (n := 1) X hS (c_mo_fail l ρ ad _ st 4 q8 hW hq8) wd1621 wd1618 wd1620 sl170 wd11 (by decide) ⟨rfl, rfl, by decide, by decide⟩ (m_recv X hW) (As := [.int 4]) (rest := []) rfl rfl hl.1 (Nat.le_of_ble_eq_true rfl) d192_54 ⟨by decide, by decide⟩ (fun q hq => MA.mono hS.1 hq) (fun v H1 locs1 hv _ _ hSq8 => ?_)
      obtain ⟨rfl, hW⟩ := hv
      have hS := hSq8
      exact kc57  q8 x1 x2 x3 _ _ _ hW hS (lv_sub hl [0, 1, 2, 3] rfl) h
  unfold f_mo_lookIn at h
  refine lv_aload_n (pc := 0) hx hb d192_0 rfl (lv_at hl 0 rfl) ?_
  refine lv_iconst (pc := 1) (v := 0) hx hb d192_1 (by decide) ?_
  obtain ⟨q9, hq9, h⟩ := jc_some h
  refine k_callV (pc := 2) (n := 1) X hS (c_mo_want l ρ ad _ st 0 q9 hW hq9) wd1817 wd1814 wd1816 sl238 wd11 (by decide) ⟨rfl, rfl, by decide, by decide⟩ (m_recv X hW) (As := [.int 0]) (rest := []) rfl rfl hl.1 (Nat.le_of_ble_eq_true rfl) d192_2 ⟨by decide, by decide⟩ (fun q hq => MA.mono hS.1 hq) (fun v H1 locs1 hv _ _ hSq9 => ?_)
  obtain ⟨rfl, hW⟩ := hv
  have hS := hSq9
  refine lv_aload_n (pc := 5) hx hb d192_5 rfl (lv_at hl 0 rfl) ?_
  refine lv_iconst (pc := 6) (v := 2) hx hb d192_6 (by decide) ?_
  obtain ⟨q10, hq10, h⟩ := jc_some h
  refine k_callV (pc := 7) (n := 1) X hS (c_mo_whole1 l ρ ad _ q9 2 q10 hW hq10) wd1671 wd1668 wd1670 sl241 wd11 (by decide) ⟨rfl, rfl, by decide, by decide⟩ (m_recv X hW) (As := [.int 2]) (rest := []) rfl rfl hl.1 (Nat.le_of_ble_eq_true rfl) d192_7 ⟨by decide, by decide⟩ (fun q hq => MA.mono hS.1 hq) (fun v H1 locs1 hv _ _ hSq10 => ?_)
  obtain ⟨rfl, hW⟩ := hv
  have hS := hSq10
  refine lv_istore_n (pc := 10) (lv' := [(2, .int q10.1), (0, .ref (ad 0)), (1, .int p0)]) hx hb d192_10 rfl hl (by decide) rfl (fun ls hl => ?_)
  refine lv_aload_n (pc := 11) hx hb d192_11 rfl (lv_at hl 1 rfl) ?_
  refine lv_iconst (pc := 12) (v := 3) hx hb d192_12 (by decide) ?_
  refine lv_iconst (pc := 13) (v := 1) hx hb d192_13 (by decide) ?_
  obtain ⟨q11, hq11, h⟩ := jc_some h
  refine k_callV (pc := 14) (n := 2) X hS (c_mo_truth2 l ρ ad _ q10.2 3 1 q11 hW hq11) wd1821 wd1818 wd1820 sl235 wd11 (by decide) ⟨rfl, rfl, by decide, by decide⟩ (m_recv X hW) (As := [.int 3, .int 1]) (rest := []) rfl rfl hl.1 (Nat.le_of_ble_eq_true rfl) d192_14 ⟨by decide, by decide⟩ (fun q hq => MA.mono hS.1 hq) (fun v H1 locs1 hv _ _ hSq11 => ?_)
  obtain ⟨rfl, hW⟩ := hv
  have hS := hSq11
  refine lv_istore_n (pc := 17) (lv' := [(3, .int q11.1), (2, .int q10.1), (0, .ref (ad 0)), (1, .int p0)]) hx hb d192_17 rfl hl (by decide) rfl (fun ls hl => ?_)
  refine lv_iload_n (pc := 18) hx hb d192_18 rfl (lv_at hl 1 rfl) ?_
  refine lv_iconst (pc := 19) (v := 1) hx hb d192_19 (by decide) ?_
  refine lv_icmp_ge (pc := 20) (tgt := 31) hx hb d192_20 (by decide) (fun c20 => ?_) (fun c20 => ?_)
  · have h := jb_t c20 h
    refine lv_iload_n (pc := 31) hx hb d192_31 rfl (lv_at hl 1 rfl) ?_
    refine lv_iload_n (pc := 32) hx hb d192_32 rfl (lv_at hl 3 rfl) ?_
    refine lv_if_eq (pc := 33) (tgt := 44) hx hb d192_33 (by decide) (fun c33 => ?_) (fun c33 => ?_)
    · have h := jb_t c33 h
      refine lv_aload_n (pc := 44) hx hb d192_44 rfl (lv_at hl 2 rfl) ?_
      refine lv_iconst (pc := 45) (v := 1) hx hb d192_45 (by decide) ?_
      obtain ⟨q12, hq12, h⟩ := jc_some h
      refine k_callV (pc := 46) (n := 1) X hS (c_mo_columnsOf l ρ ad _ q11.2 1 q12 hW hq12) wd1776 wd1773 wd1775 sl154 wd11 (by decide) ⟨rfl, rfl, by decide, by decide⟩ (m_recv X hW) (As := [.int 1]) (rest := [.int q10.1]) rfl rfl hl.1 (Nat.le_of_ble_eq_true rfl) d192_46 ⟨by decide, by decide⟩ (fun q hq => False.elim hq) (fun v H1 locs1 hv _ _ hSq12 => ?_)
      obtain ⟨rfl, rfl⟩ := hv
      have hS := hSq12
      exact kc49  q11.2 p0 q10.1 q11.1 q10.1 q12 _ _ _ hW hS (lv_sub hl [2, 3, 1, 0] rfl) h
    · have h := jb_f c33 h
      refine lv_aload_n (pc := 36) hx hb d192_36 rfl (lv_at hl 2 rfl) ?_
      refine lv_iconst (pc := 37) (v := 1) hx hb d192_37 (by decide) ?_
      obtain ⟨q13, hq13, h⟩ := jc_some h
      refine k_callV (pc := 38) (n := 1) X hS (c_mo_rowsOf l ρ ad _ q11.2 1 q13 hW hq13) wd1772 wd1769 wd1771 sl215 wd11 (by decide) ⟨rfl, rfl, by decide, by decide⟩ (m_recv X hW) (As := [.int 1]) (rest := [.int q10.1]) rfl rfl hl.1 (Nat.le_of_ble_eq_true rfl) d192_38 ⟨by decide, by decide⟩ (fun q hq => False.elim hq) (fun v H1 locs1 hv _ _ hSq13 => ?_)
      obtain ⟨rfl, rfl⟩ := hv
      have hS := hSq13
      refine lv_goto (pc := 41) (tgt := 49) hx hb d192_41 (by decide) ?_
      exact kc49  q11.2 p0 q10.1 q11.1 q10.1 q13 _ _ _ hW hS (lv_sub hl [2, 3, 1, 0] rfl) h
  · have h := jb_f c20 h
    refine lv_aload_n (pc := 23) hx hb d192_23 rfl (lv_at hl 2 rfl) ?_
    refine lv_iconst (pc := 24) (v := 3) hx hb d192_24 (by decide) ?_
    obtain ⟨q14, hq14, h⟩ := jc_some h
    refine k_callV (pc := 25) (n := 1) X hS (c_mo_fail l ρ ad _ q11.2 3 q14 hW hq14) wd1621 wd1618 wd1620 sl170 wd11 (by decide) ⟨rfl, rfl, by decide, by decide⟩ (m_recv X hW) (As := [.int 3]) (rest := []) rfl rfl hl.1 (Nat.le_of_ble_eq_true rfl) d192_25 ⟨by decide, by decide⟩ (fun q hq => MA.mono hS.1 hq) (fun v H1 locs1 hv _ _ hSq14 => ?_)
    obtain ⟨rfl, hW⟩ := hv
    have hS := hSq14
    refine lv_goto (pc := 28) (tgt := 57) hx hb d192_28 (by decide) ?_
    exact kc57  q14 p0 q10.1 q11.1 _ _ _ hW hS (lv_sub hl [2, 3, 1, 0] rfl) h
def mo_lookUp_162  (st : GS) (z1 : Int32) : Option (GS) := jc (f_mo_answerValue st z1) (fun q1 => some q1)
def mo_lookUp_117  (st : GS) (x1 : Int32) (x2 : Int32) (z1 : Int32) (z2 : Int32) (z3 : Int32) (z4 : Int32) : Option (GS) := jc (f_mo_find st z1 z2 z3 z4 1) (fun q2 => jb (0 ≤ q2.1) (jb (x2 ≤ x1) (jc (f_mo_valueAt q2.2 1 q2.1 (x2 - 1)) (fun q3 => mo_lookUp_162  q2.2 q3)) (jc (f_mo_valueAt q2.2 1 (x1 - 1) q2.1) (fun q4 => mo_lookUp_162  q2.2 q4))) (jc (f_mo_fail q2.2 7) (fun q5 => some q5)))
def mo_lookUp_107  (st : GS) (x1 : Int32) (x2 : Int32) (z1 : Int32) (z2 : Int32) (z3 : Int32) : Option (GS) := jb (x2 ≤ x1) (mo_lookUp_117  st x1 x2 z1 z2 z3 x1) (mo_lookUp_117  st x1 x2 z1 z2 z3 x2)
def mo_lookUp_94  (st : GS) (x1 : Int32) (x2 : Int32) : Option (GS) := jb (x2 ≤ x1) (mo_lookUp_107  st x1 x2 1 0 x2) (mo_lookUp_107  st x1 x2 1 0 1)
def mo_lookUp_72  (st : GS)  : Option (GS) := jc (f_mo_fail st 7) (fun q6 => some q6)
def f_mo_lookUp (st : GS) : Option (GS) := jc (f_mo_want st 0) (fun q7 => jb ((q7.1 0 22) = 0) (jc (f_mo_rowsOf q7 1) (fun q8 => jc (f_mo_columnsOf q7 1) (fun q9 => jb ((q7.1 0 7) ≤ 2) (mo_lookUp_94  q7 q8 q9) (jc (f_mo_isOut q7 2) (fun q10 => jb (q10 = 0) (jc (f_mo_find q7 1 0 1 (q8 * q9) 1) (fun q11 => jb (q11.1 < 0) (mo_lookUp_72  q11.2) (jc (f_mo_rowsOf q11.2 2) (fun q12 => jc (f_mo_columnsOf q11.2 2) (fun q13 => jb (q11.1 < (q12 * q13)) (jg (inb 2 30) (jc (f_mo_answerValue q11.2 ((q11.2.1 6 (2 : Int32).toNatClampNeg) + q11.1)) (fun q15 => some q15))) (mo_lookUp_72  q11.2)))))) (mo_lookUp_94  q7 q8 q9)))))) (some q7))
set_option maxHeartbeats 4000000 in
set_option maxRecDepth 100000 in
theorem c_mo_lookUp (l : Launch) (ρ : RH) (ad : Nat → Nat) (H : Heap) (st : GS) (res : GS) (hW : GW ρ wM ad st H) (h : f_mo_lookUp st = some res) : Met l y193 (wsOf y193 b193 4 none) ({ frames := 4, cells := 0, slots := 0, locals := 87 } : Room) (va_Pc [.ref (ad 0)] (KP ρ H)) (mQ (fun v H1 => v = none ∧ GW ρ wM ad res H1) (MA wM ad H.size)) 0 0 (MA wM ad H.size) := by
  refine m_ofW (own := "WordFunctionsModel") (plainFor_of_name rfl) rfl (Nat.le_of_ble_eq_true rfl) fun p e s m args below meth c ls hx hb hr hlk _ X hs hl => ?_
  subst hs
  have hS : va_S (MA wM ad s.heap.size) s.heap s.heap [] := va_S.rf
  have hl : lv_has ls 4 [(0, .ref (ad 0))] := hl
  have kc162 : ∀ (st : GS) (z1 : Int32) (H : Heap) (locs : List Loc) (ls : Array Slot), GW ρ wM ad st H → va_S (MA wM ad s.heap.size) s.heap H locs → lv_has ls 4 [] → mo_lookUp_162 st z1 = some res → W p l e ({ frames := 4, cells := 0, slots := 0, locals := 87 } : Room) s m args below meth c H locs 0 0 (MQ below (mQ (fun v H1 => v = none ∧ GW ρ wM ad res H1) (MA wM ad s.heap.size)) args s 0 0 (MA wM ad s.heap.size)) (F0 m 162 ls [.int z1, .ref (ad 0)]) := by
    intro st z1 H locs ls hW hS hl h
    unfold mo_lookUp_162 at h
    obtain ⟨q1, hq1, h⟩ := jc_some h
    refine k_callV (pc := 162) (n := 1) X hS (c_mo_answerValue l ρ ad _ st z1 q1 hW hq1) wd1833 wd1830 wd1832 sl146 wd11 (by decide) ⟨rfl, rfl, by decide, by decide⟩ (m_recv X hW) (As := [.int z1]) (rest := []) rfl rfl hl.1 (Nat.le_of_ble_eq_true rfl) d193_162 ⟨by decide, by decide⟩ (fun q hq => MA.mono hS.1 hq) (fun v H1 locs1 hv _ _ hSq1 => ?_)
    obtain ⟨rfl, hW⟩ := hv
    have hS := hSq1
    obtain rfl := Option.some.inj h
    exact m_vret (pc := 165) hx hb hr hlk hS ⟨rfl, hW⟩ (by decide) (by decide) d193_165
  have kc117 : ∀ (st : GS) (x1 : Int32) (x2 : Int32) (z1 : Int32) (z2 : Int32) (z3 : Int32) (z4 : Int32) (H : Heap) (locs : List Loc) (ls : Array Slot), GW ρ wM ad st H → va_S (MA wM ad s.heap.size) s.heap H locs → lv_has ls 4 [(0, .ref (ad 0)), (1, .int x1), (2, .int x2)] → mo_lookUp_117 st x1 x2 z1 z2 z3 z4 = some res → W p l e ({ frames := 4, cells := 0, slots := 0, locals := 87 } : Room) s m args below meth c H locs 0 0 (MQ below (mQ (fun v H1 => v = none ∧ GW ρ wM ad res H1) (MA wM ad s.heap.size)) args s 0 0 (MA wM ad s.heap.size)) (F0 m 117 ls [.int z4, .int z3, .int z2, .int z1, .ref (ad 0)]) := by
    intro st x1 x2 z1 z2 z3 z4 H locs ls hW hS hl h
    unfold mo_lookUp_117 at h
    refine lv_iconst (pc := 117) (v := 1) hx hb d193_117 (by decide) ?_
    obtain ⟨q2, hq2, h⟩ := jc_some h
    refine k_callV (pc := 118) (n := 5) X hS (c_mo_find l ρ ad _ st z1 z2 z3 z4 1 q2 hW hq2) wd1825 wd1822 wd1824 sl172 wd11 (by decide) ⟨rfl, rfl, by decide, by decide⟩ (m_recv X hW) (As := [.int z1, .int z2, .int z3, .int z4, .int 1]) (rest := []) rfl rfl hl.1 (Nat.le_of_ble_eq_true rfl) d193_118 ⟨by decide, by decide⟩ (fun q hq => MA.mono hS.1 hq) (fun v H1 locs1 hv _ _ hSq2 => ?_)
    obtain ⟨rfl, hW⟩ := hv
    have hS := hSq2
    refine lv_istore_n (pc := 121) (lv' := [(3, .int q2.1), (0, .ref (ad 0)), (1, .int x1), (2, .int x2)]) hx hb d193_121 rfl hl (by decide) rfl (fun ls hl => ?_)
    refine lv_iload_n (pc := 122) hx hb d193_122 rfl (lv_at hl 0 rfl) ?_
    refine lv_if_ge (pc := 123) (tgt := 135) hx hb d193_123 (by decide) (fun c123 => ?_) (fun c123 => ?_)
    · have h := jb_t c123 h
      refine lv_aload_n (pc := 135) hx hb d193_135 rfl (lv_at hl 1 rfl) ?_
      refine lv_iload_n (pc := 136) hx hb d193_136 rfl (lv_at hl 3 rfl) ?_
      refine lv_iload_n (pc := 137) hx hb d193_137 rfl (lv_at hl 2 rfl) ?_
      refine lv_icmp_le (pc := 138) (tgt := 153) hx hb d193_138 (by decide) (fun c138 => ?_) (fun c138 => ?_)
      · have h := jb_t c138 h
        refine lv_aload_n (pc := 153) hx hb d193_153 rfl (lv_at hl 1 rfl) ?_
        refine lv_iconst (pc := 154) (v := 1) hx hb d193_154 (by decide) ?_
        refine lv_iload_n (pc := 155) hx hb d193_155 rfl (lv_at hl 0 rfl) ?_
        refine lv_iload_n (pc := 156) hx hb d193_156 rfl (lv_at hl 3 rfl) ?_
        refine lv_iconst (pc := 157) (v := 1) hx hb d193_157 (by decide) ?_
        refine lv_isub (pc := 158) hx hb d193_158 ?_
        obtain ⟨q3, hq3, h⟩ := jc_some h
        refine k_callV (pc := 159) (n := 3) X hS (c_mo_valueAt l ρ ad _ q2.2 1 q2.1 (x2 - 1) q3 hW hq3) wd1605 wd1602 wd1604 sl237 wd11 (by decide) ⟨rfl, rfl, by decide, by decide⟩ (m_recv X hW) (As := [.int 1, .int q2.1, .int (x2 - 1)]) (rest := [.ref (ad 0)]) rfl rfl hl.1 (Nat.le_of_ble_eq_true rfl) d193_159 ⟨by decide, by decide⟩ (fun q hq => False.elim hq) (fun v H1 locs1 hv _ _ hSq3 => ?_)
        obtain ⟨rfl, rfl⟩ := hv
        have hS := hSq3
        exact kc162  q2.2 q3 _ _ _ hW hS (lv_sub hl [] rfl) h
      · have h := jb_f c138 h
        refine lv_aload_n (pc := 141) hx hb d193_141 rfl (lv_at hl 1 rfl) ?_
        refine lv_iconst (pc := 142) (v := 1) hx hb d193_142 (by decide) ?_
        refine lv_iload_n (pc := 143) hx hb d193_143 rfl (lv_at hl 2 rfl) ?_
        refine lv_iconst (pc := 144) (v := 1) hx hb d193_144 (by decide) ?_
        refine lv_isub (pc := 145) hx hb d193_145 ?_
        refine lv_iload_n (pc := 146) hx hb d193_146 rfl (lv_at hl 0 rfl) ?_
        obtain ⟨q4, hq4, h⟩ := jc_some h
        refine k_callV (pc := 147) (n := 3) X hS (c_mo_valueAt l ρ ad _ q2.2 1 (x1 - 1) q2.1 q4 hW hq4) wd1605 wd1602 wd1604 sl237 wd11 (by decide) ⟨rfl, rfl, by decide, by decide⟩ (m_recv X hW) (As := [.int 1, .int (x1 - 1), .int q2.1]) (rest := [.ref (ad 0)]) rfl rfl hl.1 (Nat.le_of_ble_eq_true rfl) d193_147 ⟨by decide, by decide⟩ (fun q hq => False.elim hq) (fun v H1 locs1 hv _ _ hSq4 => ?_)
        obtain ⟨rfl, rfl⟩ := hv
        have hS := hSq4
        refine lv_goto (pc := 150) (tgt := 162) hx hb d193_150 (by decide) ?_
        exact kc162  q2.2 q4 _ _ _ hW hS (lv_sub hl [] rfl) h
    · have h := jb_f c123 h
      refine lv_aload_n (pc := 126) hx hb d193_126 rfl (lv_at hl 1 rfl) ?_
      refine lv_bipush (pc := 127) (v := 7) hx hb d193_127 (by decide) ?_
      obtain ⟨q5, hq5, h⟩ := jc_some h
      refine k_callV (pc := 129) (n := 1) X hS (c_mo_fail l ρ ad _ q2.2 7 q5 hW hq5) wd1621 wd1618 wd1620 sl170 wd11 (by decide) ⟨rfl, rfl, by decide, by decide⟩ (m_recv X hW) (As := [.int 7]) (rest := []) rfl rfl hl.1 (Nat.le_of_ble_eq_true rfl) d193_129 ⟨by decide, by decide⟩ (fun q hq => MA.mono hS.1 hq) (fun v H1 locs1 hv _ _ hSq5 => ?_)
      obtain ⟨rfl, hW⟩ := hv
      have hS := hSq5
      refine lv_goto (pc := 132) (tgt := 165) hx hb d193_132 (by decide) ?_
      obtain rfl := Option.some.inj h
      exact m_vret (pc := 165) hx hb hr hlk hS ⟨rfl, hW⟩ (by decide) (by decide) d193_165
  have kc107 : ∀ (st : GS) (x1 : Int32) (x2 : Int32) (z1 : Int32) (z2 : Int32) (z3 : Int32) (H : Heap) (locs : List Loc) (ls : Array Slot), GW ρ wM ad st H → va_S (MA wM ad s.heap.size) s.heap H locs → lv_has ls 4 [(0, .ref (ad 0)), (1, .int x1), (2, .int x2)] → mo_lookUp_107 st x1 x2 z1 z2 z3 = some res → W p l e ({ frames := 4, cells := 0, slots := 0, locals := 87 } : Room) s m args below meth c H locs 0 0 (MQ below (mQ (fun v H1 => v = none ∧ GW ρ wM ad res H1) (MA wM ad s.heap.size)) args s 0 0 (MA wM ad s.heap.size)) (F0 m 107 ls [.int z3, .int z2, .int z1, .ref (ad 0)]) := by
    intro st x1 x2 z1 z2 z3 H locs ls hW hS hl h
    unfold mo_lookUp_107 at h
    refine lv_iload_n (pc := 107) hx hb d193_107 rfl (lv_at hl 2 rfl) ?_
    refine lv_iload_n (pc := 108) hx hb d193_108 rfl (lv_at hl 1 rfl) ?_
    refine lv_icmp_le (pc := 109) (tgt := 116) hx hb d193_109 (by decide) (fun c109 => ?_) (fun c109 => ?_)
    · have h := jb_t c109 h
      refine lv_iload_n (pc := 116) hx hb d193_116 rfl (lv_at hl 1 rfl) ?_
      exact kc117  st x1 x2 z1 z2 z3 x1 _ _ _ hW hS (lv_sub hl [0, 1, 2] rfl) h
    · have h := jb_f c109 h
      refine lv_iload_n (pc := 112) hx hb d193_112 rfl (lv_at hl 2 rfl) ?_
      refine lv_goto (pc := 113) (tgt := 117) hx hb d193_113 (by decide) ?_
      exact kc117  st x1 x2 z1 z2 z3 x2 _ _ _ hW hS (lv_sub hl [0, 1, 2] rfl) h
  have kc94 : ∀ (st : GS) (x1 : Int32) (x2 : Int32) (H : Heap) (locs : List Loc) (ls : Array Slot), GW ρ wM ad st H → va_S (MA wM ad s.heap.size) s.heap H locs → lv_has ls 4 [(0, .ref (ad 0)), (1, .int x1), (2, .int x2)] → mo_lookUp_94 st x1 x2 = some res → W p l e ({ frames := 4, cells := 0, slots := 0, locals := 87 } : Room) s m args below meth c H locs 0 0 (MQ below (mQ (fun v H1 => v = none ∧ GW ρ wM ad res H1) (MA wM ad s.heap.size)) args s 0 0 (MA wM ad s.heap.size)) (F0 m 94 ls []) := by
    intro st x1 x2 H locs ls hW hS hl h
    unfold mo_lookUp_94 at h
    refine lv_aload_n (pc := 94) hx hb d193_94 rfl (lv_at hl 0 rfl) ?_
    refine lv_iconst (pc := 95) (v := 1) hx hb d193_95 (by decide) ?_
    refine lv_iconst (pc := 96) (v := 0) hx hb d193_96 (by decide) ?_
    refine lv_iload_n (pc := 97) hx hb d193_97 rfl (lv_at hl 2 rfl) ?_
    refine lv_iload_n (pc := 98) hx hb d193_98 rfl (lv_at hl 1 rfl) ?_
    refine lv_icmp_le (pc := 99) (tgt := 106) hx hb d193_99 (by decide) (fun c99 => ?_) (fun c99 => ?_)
    · have h := jb_t c99 h
      refine lv_iload_n (pc := 106) hx hb d193_106 rfl (lv_at hl 2 rfl) ?_
      exact kc107  st x1 x2 1 0 x2 _ _ _ hW hS (lv_sub hl [0, 1, 2] rfl) h
    · have h := jb_f c99 h
      refine lv_iconst (pc := 102) (v := 1) hx hb d193_102 (by decide) ?_
      refine lv_goto (pc := 103) (tgt := 107) hx hb d193_103 (by decide) ?_
      exact kc107  st x1 x2 1 0 1 _ _ _ hW hS (lv_sub hl [0, 1, 2] rfl) h
  have kc72 : ∀ (st : GS)  (H : Heap) (locs : List Loc) (ls : Array Slot), GW ρ wM ad st H → va_S (MA wM ad s.heap.size) s.heap H locs → lv_has ls 4 [(0, .ref (ad 0))] → mo_lookUp_72 st = some res → W p l e ({ frames := 4, cells := 0, slots := 0, locals := 87 } : Room) s m args below meth c H locs 0 0 (MQ below (mQ (fun v H1 => v = none ∧ GW ρ wM ad res H1) (MA wM ad s.heap.size)) args s 0 0 (MA wM ad s.heap.size)) (F0 m 72 ls []) := by
    intro st  H locs ls hW hS hl h
    unfold mo_lookUp_72 at h
    refine lv_aload_n (pc := 72) hx hb d193_72 rfl (lv_at hl 0 rfl) ?_
    refine lv_bipush (pc := 73) (v := 7) hx hb d193_73 (by decide) ?_
    obtain ⟨q6, hq6, h⟩ := jc_some h
    refine k_callV (pc := 75) (n := 1) X hS (c_mo_fail l ρ ad _ st 7 q6 hW hq6) wd1621 wd1618 wd1620 sl170 wd11 (by decide) ⟨rfl, rfl, by decide, by decide⟩ (m_recv X hW) (As := [.int 7]) (rest := []) rfl rfl hl.1 (Nat.le_of_ble_eq_true rfl) d193_75 ⟨by decide, by decide⟩ (fun q hq => MA.mono hS.1 hq) (fun v H1 locs1 hv _ _ hSq6 => ?_)
    obtain ⟨rfl, hW⟩ := hv
    have hS := hSq6
    refine lv_goto (pc := 78) (tgt := 93) hx hb d193_78 (by decide) ?_
    obtain rfl := Option.some.inj h
    exact m_vret (pc := 93) hx hb hr hlk hS ⟨rfl, hW⟩ (by decide) (by decide) d193_93
  unfold f_mo_lookUp at h
  refine lv_aload_n (pc := 0) hx hb d193_0 rfl (lv_at hl 0 rfl) ?_
  refine lv_iconst (pc := 1) (v := 0) hx hb d193_1 (by decide) ?_
  obtain ⟨q7, hq7, h⟩ := jc_some h
  refine k_callV (pc := 2) (n := 1) X hS (c_mo_want l ρ ad _ st 0 q7 hW hq7) wd1817 wd1814 wd1816 sl238 wd11 (by decide) ⟨rfl, rfl, by decide, by decide⟩ (m_recv X hW) (As := [.int 0]) (rest := []) rfl rfl hl.1 (Nat.le_of_ble_eq_true rfl) d193_2 ⟨by decide, by decide⟩ (fun q hq => MA.mono hS.1 hq) (fun v H1 locs1 hv _ _ hSq7 => ?_)
  obtain ⟨rfl, hW⟩ := hv
  have hS := hSq7
  refine lv_aload_n (pc := 5) hx hb d193_5 rfl (lv_at hl 0 rfl) ?_
  refine m_get (pc := 6) X hW 22 (v := .int (q7.1 0 22)) wd1388 rfl rfl d193_6 ?_
  refine lv_if_eq (pc := 9) (tgt := 13) hx hb d193_9 (by decide) (fun c9 => ?_) (fun c9 => ?_)
  · have h := jb_t c9 h
    refine lv_aload_n (pc := 13) hx hb d193_13 rfl (lv_at hl 0 rfl) ?_
    refine lv_iconst (pc := 14) (v := 1) hx hb d193_14 (by decide) ?_
    obtain ⟨q8, hq8, h⟩ := jc_some h
    refine k_callV (pc := 15) (n := 1) X hS (c_mo_rowsOf l ρ ad _ q7 1 q8 hW hq8) wd1772 wd1769 wd1771 sl215 wd11 (by decide) ⟨rfl, rfl, by decide, by decide⟩ (m_recv X hW) (As := [.int 1]) (rest := []) rfl rfl hl.1 (Nat.le_of_ble_eq_true rfl) d193_15 ⟨by decide, by decide⟩ (fun q hq => False.elim hq) (fun v H1 locs1 hv _ _ hSq8 => ?_)
    obtain ⟨rfl, rfl⟩ := hv
    have hS := hSq8
    refine lv_istore_n (pc := 18) (lv' := [(1, .int q8), (0, .ref (ad 0))]) hx hb d193_18 rfl hl (by decide) rfl (fun ls hl => ?_)
    refine lv_aload_n (pc := 19) hx hb d193_19 rfl (lv_at hl 1 rfl) ?_
    refine lv_iconst (pc := 20) (v := 1) hx hb d193_20 (by decide) ?_
    obtain ⟨q9, hq9, h⟩ := jc_some h
    refine k_callV (pc := 21) (n := 1) X hS (c_mo_columnsOf l ρ ad _ q7 1 q9 hW hq9) wd1776 wd1773 wd1775 sl154 wd11 (by decide) ⟨rfl, rfl, by decide, by decide⟩ (m_recv X hW) (As := [.int 1]) (rest := []) rfl rfl hl.1 (Nat.le_of_ble_eq_true rfl) d193_21 ⟨by decide, by decide⟩ (fun q hq => False.elim hq) (fun v H1 locs1 hv _ _ hSq9 => ?_)
    obtain ⟨rfl, rfl⟩ := hv
    have hS := hSq9
    refine lv_istore_n (pc := 24) (lv' := [(2, .int q9), (1, .int q8), (0, .ref (ad 0))]) hx hb d193_24 rfl hl (by decide) rfl (fun ls hl => ?_)
    refine lv_aload_n (pc := 25) hx hb d193_25 rfl (lv_at hl 2 rfl) ?_
    refine m_get (pc := 26) X hW 7 (v := .int (q7.1 0 7)) wd1373 rfl rfl d193_26 ?_
    refine lv_iconst (pc := 29) (v := 2) hx hb d193_29 (by decide) ?_
    refine lv_icmp_le (pc := 30) (tgt := 94) hx hb d193_30 (by decide) (fun c30 => ?_) (fun c30 => ?_)
    · have h := jb_t c30 h
      exact kc94  q7 q8 q9 _ _ _ hW hS (lv_sub hl [2, 1, 0] rfl) h
    · have h := jb_f c30 h
      refine lv_aload_n (pc := 33) hx hb d193_33 rfl (lv_at hl 2 rfl) ?_
      refine lv_iconst (pc := 34) (v := 2) hx hb d193_34 (by decide) ?_
      obtain ⟨q10, hq10, h⟩ := jc_some h
      refine k_callV (pc := 35) (n := 1) X hS (c_mo_isOut l ρ ad _ q7 2 q10 hW hq10) wd1609 wd1606 wd1608 sl183 wd11 (by decide) ⟨rfl, rfl, by decide, by decide⟩ (m_recv X hW) (As := [.int 2]) (rest := []) rfl rfl hl.1 (Nat.le_of_ble_eq_true rfl) d193_35 ⟨by decide, by decide⟩ (fun q hq => False.elim hq) (fun v H1 locs1 hv _ _ hSq10 => ?_)
      obtain ⟨rfl, rfl⟩ := hv
      have hS := hSq10
      refine lv_if_ne (pc := 38) (tgt := 94) hx hb d193_38 (by decide) (fun c38 => ?_) (fun c38 => ?_)
      · have h := jb_f c38 h
        exact kc94  q7 q8 q9 _ _ _ hW hS (lv_sub hl [2, 1, 0] rfl) h
      · have h := jb_t c38 h
        refine lv_aload_n (pc := 41) hx hb d193_41 rfl (lv_at hl 2 rfl) ?_
        refine lv_iconst (pc := 42) (v := 1) hx hb d193_42 (by decide) ?_
        refine lv_iconst (pc := 43) (v := 0) hx hb d193_43 (by decide) ?_
        refine lv_iconst (pc := 44) (v := 1) hx hb d193_44 (by decide) ?_
        refine lv_iload_n (pc := 45) hx hb d193_45 rfl (lv_at hl 1 rfl) ?_
        refine lv_iload_n (pc := 46) hx hb d193_46 rfl (lv_at hl 0 rfl) ?_
        refine lv_imul (pc := 47) hx hb d193_47 ?_
        refine lv_iconst (pc := 48) (v := 1) hx hb d193_48 (by decide) ?_
        obtain ⟨q11, hq11, h⟩ := jc_some h
        refine k_callV (pc := 49) (n := 5) X hS (c_mo_find l ρ ad _ q7 1 0 1 (q8 * q9) 1 q11 hW hq11) wd1825 wd1822 wd1824 sl172 wd11 (by decide) ⟨rfl, rfl, by decide, by decide⟩ (m_recv X hW) (As := [.int 1, .int 0, .int 1, .int (q8 * q9), .int 1]) (rest := []) rfl rfl hl.1 (Nat.le_of_ble_eq_true rfl) d193_49 ⟨by decide, by decide⟩ (fun q hq => MA.mono hS.1 hq) (fun v H1 locs1 hv _ _ hSq11 => ?_)
        obtain ⟨rfl, hW⟩ := hv
        have hS := hSq11
        refine lv_istore_n (pc := 52) (lv' := [(3, .int q11.1), (2, .int q9), (1, .int q8), (0, .ref (ad 0))]) hx hb d193_52 rfl hl (by decide) rfl (fun ls hl => ?_)
        refine lv_iload_n (pc := 53) hx hb d193_53 rfl (lv_at hl 0 rfl) ?_
        refine lv_if_lt (pc := 54) (tgt := 72) hx hb d193_54 (by decide) (fun c54 => ?_) (fun c54 => ?_)
        · have h := jb_t c54 h
          exact kc72  q11.2 _ _ _ hW hS (lv_sub hl [3] rfl) h
        · have h := jb_f c54 h
          refine lv_iload_n (pc := 57) hx hb d193_57 rfl (lv_at hl 0 rfl) ?_
          refine lv_aload_n (pc := 58) hx hb d193_58 rfl (lv_at hl 3 rfl) ?_
          refine lv_iconst (pc := 59) (v := 2) hx hb d193_59 (by decide) ?_
          obtain ⟨q12, hq12, h⟩ := jc_some h
          refine k_callV (pc := 60) (n := 1) X hS (c_mo_rowsOf l ρ ad _ q11.2 2 q12 hW hq12) wd1772 wd1769 wd1771 sl215 wd11 (by decide) ⟨rfl, rfl, by decide, by decide⟩ (m_recv X hW) (As := [.int 2]) (rest := [.int q11.1]) rfl rfl hl.1 (Nat.le_of_ble_eq_true rfl) d193_60 ⟨by decide, by decide⟩ (fun q hq => False.elim hq) (fun v H1 locs1 hv _ _ hSq12 => ?_)
          obtain ⟨rfl, rfl⟩ := hv
          have hS := hSq12
          refine lv_aload_n (pc := 63) hx hb d193_63 rfl (lv_at hl 3 rfl) ?_
          refine lv_iconst (pc := 64) (v := 2) hx hb d193_64 (by decide) ?_
          obtain ⟨q13, hq13, h⟩ := jc_some h
          refine k_callV (pc := 65) (n := 1) X hS (c_mo_columnsOf l ρ ad _ q11.2 2 q13 hW hq13) wd1776 wd1773 wd1775 sl154 wd11 (by decide) ⟨rfl, rfl, by decide, by decide⟩ (m_recv X hW) (As := [.int 2]) (rest := [.int q12, .int q11.1]) rfl rfl hl.1 (Nat.le_of_ble_eq_true rfl) d193_65 ⟨by decide, by decide⟩ (fun q hq => False.elim hq) (fun v H1 locs1 hv _ _ hSq13 => ?_)
          obtain ⟨rfl, rfl⟩ := hv
          have hS := hSq13
          refine lv_imul (pc := 68) hx hb d193_68 ?_
          refine lv_icmp_lt (pc := 69) (tgt := 81) hx hb d193_69 (by decide) (fun c69 => ?_) (fun c69 => ?_)
          · have h := jb_t c69 h
            refine lv_aload_n (pc := 81) hx hb d193_81 rfl (lv_at hl 3 rfl) ?_
            refine lv_aload_n (pc := 82) hx hb d193_82 rfl (lv_at hl 3 rfl) ?_
            refine m_get (pc := 83) X hW 11 (v := .ref (ad 6)) wd1377 rfl rfl d193_83 ?_
            refine lv_iconst (pc := 86) (v := 2) hx hb d193_86 (by decide) ?_
            obtain ⟨g14, h⟩ := jg_some h
            refine r_iald (pc := 87) X hW 6 (by decide) rfl (inb_in g14) d193_87 ?_
            refine lv_iload_n (pc := 88) hx hb d193_88 rfl (lv_at hl 0 rfl) ?_
            refine lv_iadd (pc := 89) hx hb d193_89 ?_
            obtain ⟨q15, hq15, h⟩ := jc_some h
            refine k_callV (pc := 90) (n := 1) X hS (c_mo_answerValue l ρ ad _ q11.2 ((q11.2.1 6 (2 : Int32).toNatClampNeg) + q11.1) q15 hW hq15) wd1833 wd1830 wd1832 sl146 wd11 (by decide) ⟨rfl, rfl, by decide, by decide⟩ (m_recv X hW) (As := [.int ((q11.2.1 6 (2 : Int32).toNatClampNeg) + q11.1)]) (rest := []) rfl rfl hl.1 (Nat.le_of_ble_eq_true rfl) d193_90 ⟨by decide, by decide⟩ (fun q hq => MA.mono hS.1 hq) (fun v H1 locs1 hv _ _ hSq15 => ?_)
            obtain ⟨rfl, hW⟩ := hv
            have hS := hSq15
            obtain rfl := Option.some.inj h
            exact m_vret (pc := 93) hx hb hr hlk hS ⟨rfl, hW⟩ (by decide) (by decide) d193_93
          · have h := jb_f c69 h
            exact kc72  q11.2 _ _ _ hW hS (lv_sub hl [3] rfl) h
  · have h := jb_f c9 h
    obtain rfl := Option.some.inj h
    exact m_vret (pc := 12) hx hb hr hlk hS ⟨rfl, hW⟩ (by decide) (by decide) d193_12
def mo_match_74  (st : GS) (x2 : Int32) : Option (GS) := jc (f_mo_answerNumber st (FP.i2d (x2 + 1))) (fun q1 => some q1)
def mo_match_36  (st : GS) (x1 : Int32) : Option (GS) := jb ((st.1 0 22) = 0) (jc (f_mo_rowsOf st 1) (fun q2 => jc (f_mo_columnsOf st 1) (fun q3 => jc (f_mo_find st 1 0 1 (q2 * q3) x1) (fun q4 => jb (0 ≤ q4.1) (mo_match_74  q4.2 q4.1) (jc (f_mo_fail q4.2 7) (fun q5 => mo_match_74  q5 q4.1)))))) (some st)
def f_mo_match (st : GS) : Option (GS) := jc (f_mo_want st 0) (fun q6 => jc (f_mo_whole2 q6 2 1) (fun q7 => jc (f_mo_rowsOf q7.2 1) (fun q8 => jb (q8 ≤ 1) (mo_match_36  q7.2 q7.1) (jc (f_mo_columnsOf q7.2 1) (fun q9 => jb (q9 ≤ 1) (mo_match_36  q7.2 q7.1) (jc (f_mo_fail q7.2 7) (fun q10 => mo_match_36  q10 q7.1)))))))
set_option maxHeartbeats 4000000 in
set_option maxRecDepth 100000 in
theorem c_mo_match (l : Launch) (ρ : RH) (ad : Nat → Nat) (H : Heap) (st : GS) (res : GS) (hW : GW ρ wM ad st H) (h : f_mo_match st = some res) : Met l y198 (wsOf y198 b198 3 none) ({ frames := 6, cells := 0, slots := 0, locals := 132 } : Room) (va_Pc [.ref (ad 0)] (KP ρ H)) (mQ (fun v H1 => v = none ∧ GW ρ wM ad res H1) (MA wM ad H.size)) 0 0 (MA wM ad H.size) := by
  refine m_ofW (own := "WordFunctionsModel") (plainFor_of_name rfl) rfl (Nat.le_of_ble_eq_true rfl) fun p e s m args below meth c ls hx hb hr hlk _ X hs hl => ?_
  subst hs
  have hS : va_S (MA wM ad s.heap.size) s.heap s.heap [] := va_S.rf
  have hl : lv_has ls 3 [(0, .ref (ad 0))] := hl
  have kc74 : ∀ (st : GS) (x2 : Int32) (H : Heap) (locs : List Loc) (ls : Array Slot), GW ρ wM ad st H → va_S (MA wM ad s.heap.size) s.heap H locs → lv_has ls 3 [(0, .ref (ad 0)), (2, .int x2)] → mo_match_74 st x2 = some res → W p l e ({ frames := 6, cells := 0, slots := 0, locals := 132 } : Room) s m args below meth c H locs 0 0 (MQ below (mQ (fun v H1 => v = none ∧ GW ρ wM ad res H1) (MA wM ad s.heap.size)) args s 0 0 (MA wM ad s.heap.size)) (F0 m 74 ls []) := by
    intro st x2 H locs ls hW hS hl h
    unfold mo_match_74 at h
    refine lv_aload_n (pc := 74) hx hb d198_74 rfl (lv_at hl 0 rfl) ?_
    refine lv_iload_n (pc := 75) hx hb d198_75 rfl (lv_at hl 1 rfl) ?_
    refine lv_iconst (pc := 76) (v := 1) hx hb d198_76 (by decide) ?_
    refine lv_iadd (pc := 77) hx hb d198_77 ?_
    refine lv_i2d (pc := 78) hx hb d198_78 ?_
    obtain ⟨q1, hq1, h⟩ := jc_some h
    refine k_callV (pc := 79) (n := 1) X hS (c_mo_answerNumber l ρ ad _ st (FP.i2d (x2 + 1)) q1 hW hq1) wd1651 wd1648 wd1650 sl142 wd11 (by decide) ⟨rfl, rfl, by decide, by decide⟩ (m_recv X hW) (As := [.double (FP.i2d (x2 + 1))]) (rest := []) rfl rfl hl.1 (Nat.le_of_ble_eq_true rfl) d198_79 ⟨by decide, by decide⟩ (fun q hq => MA.mono hS.1 hq) (fun v H1 locs1 hv _ _ hSq1 => ?_)
    obtain ⟨rfl, hW⟩ := hv
    have hS := hSq1
    obtain rfl := Option.some.inj h
    exact m_vret (pc := 82) hx hb hr hlk hS ⟨rfl, hW⟩ (by decide) (by decide) d198_82
  have kc36 : ∀ (st : GS) (x1 : Int32) (H : Heap) (locs : List Loc) (ls : Array Slot), GW ρ wM ad st H → va_S (MA wM ad s.heap.size) s.heap H locs → lv_has ls 3 [(0, .ref (ad 0)), (1, .int x1)] → mo_match_36 st x1 = some res → W p l e ({ frames := 6, cells := 0, slots := 0, locals := 132 } : Room) s m args below meth c H locs 0 0 (MQ below (mQ (fun v H1 => v = none ∧ GW ρ wM ad res H1) (MA wM ad s.heap.size)) args s 0 0 (MA wM ad s.heap.size)) (F0 m 36 ls []) := by
    intro st x1 H locs ls hW hS hl h
    unfold mo_match_36 at h
    refine lv_aload_n (pc := 36) hx hb d198_36 rfl (lv_at hl 0 rfl) ?_
    refine m_get (pc := 37) X hW 22 (v := .int (st.1 0 22)) wd1388 rfl rfl d198_37 ?_
    refine lv_if_eq (pc := 40) (tgt := 44) hx hb d198_40 (by decide) (fun c40 => ?_) (fun c40 => ?_)
    · have h := jb_t c40 h
      refine lv_aload_n (pc := 44) hx hb d198_44 rfl (lv_at hl 0 rfl) ?_
      refine lv_iconst (pc := 45) (v := 1) hx hb d198_45 (by decide) ?_
      refine lv_iconst (pc := 46) (v := 0) hx hb d198_46 (by decide) ?_
      refine lv_iconst (pc := 47) (v := 1) hx hb d198_47 (by decide) ?_
      refine lv_aload_n (pc := 48) hx hb d198_48 rfl (lv_at hl 0 rfl) ?_
      refine lv_iconst (pc := 49) (v := 1) hx hb d198_49 (by decide) ?_
      obtain ⟨q2, hq2, h⟩ := jc_some h
      refine k_callV (pc := 50) (n := 1) X hS (c_mo_rowsOf l ρ ad _ st 1 q2 hW hq2) wd1772 wd1769 wd1771 sl215 wd11 (by decide) ⟨rfl, rfl, by decide, by decide⟩ (m_recv X hW) (As := [.int 1]) (rest := [.int 1, .int 0, .int 1, .ref (ad 0)]) rfl rfl hl.1 (Nat.le_of_ble_eq_true rfl) d198_50 ⟨by decide, by decide⟩ (fun q hq => False.elim hq) (fun v H1 locs1 hv _ _ hSq2 => ?_)
      obtain ⟨rfl, rfl⟩ := hv
      have hS := hSq2
      refine lv_aload_n (pc := 53) hx hb d198_53 rfl (lv_at hl 0 rfl) ?_
      refine lv_iconst (pc := 54) (v := 1) hx hb d198_54 (by decide) ?_
      obtain ⟨q3, hq3, h⟩ := jc_some h
      refine k_callV (pc := 55) (n := 1) X hS (c_mo_columnsOf l ρ ad _ st 1 q3 hW hq3) wd1776 wd1773 wd1775 sl154 wd11 (by decide) ⟨rfl, rfl, by decide, by decide⟩ (m_recv X hW) (As := [.int 1]) (rest := [.int q2, .int 1, .int 0, .int 1, .ref (ad 0)]) rfl rfl hl.1 (Nat.le_of_ble_eq_true rfl) d198_55 ⟨by decide, by decide⟩ (fun q hq => False.elim hq) (fun v H1 locs1 hv _ _ hSq3 => ?_)
      obtain ⟨rfl, rfl⟩ := hv
      have hS := hSq3
      refine lv_imul (pc := 58) hx hb d198_58 ?_
      refine lv_iload_n (pc := 59) hx hb d198_59 rfl (lv_at hl 1 rfl) ?_
      obtain ⟨q4, hq4, h⟩ := jc_some h
      refine k_callV (pc := 60) (n := 5) X hS (c_mo_find l ρ ad _ st 1 0 1 (q2 * q3) x1 q4 hW hq4) wd1825 wd1822 wd1824 sl172 wd11 (by decide) ⟨rfl, rfl, by decide, by decide⟩ (m_recv X hW) (As := [.int 1, .int 0, .int 1, .int (q2 * q3), .int x1]) (rest := []) rfl rfl hl.1 (Nat.le_of_ble_eq_true rfl) d198_60 ⟨by decide, by decide⟩ (fun q hq => MA.mono hS.1 hq) (fun v H1 locs1 hv _ _ hSq4 => ?_)
      obtain ⟨rfl, hW⟩ := hv
      have hS := hSq4
      refine lv_istore_n (pc := 63) (lv' := [(2, .int q4.1), (0, .ref (ad 0)), (1, .int x1)]) hx hb d198_63 rfl hl (by decide) rfl (fun ls hl => ?_)
      refine lv_iload_n (pc := 64) hx hb d198_64 rfl (lv_at hl 0 rfl) ?_
      refine lv_if_ge (pc := 65) (tgt := 74) hx hb d198_65 (by decide) (fun c65 => ?_) (fun c65 => ?_)
      · have h := jb_t c65 h
        exact kc74  q4.2 q4.1 _ _ _ hW hS (lv_sub hl [1, 0] rfl) h
      · have h := jb_f c65 h
        refine lv_aload_n (pc := 68) hx hb d198_68 rfl (lv_at hl 1 rfl) ?_
        refine lv_bipush (pc := 69) (v := 7) hx hb d198_69 (by decide) ?_
        obtain ⟨q5, hq5, h⟩ := jc_some h
        refine k_callV (pc := 71) (n := 1) X hS (c_mo_fail l ρ ad _ q4.2 7 q5 hW hq5) wd1621 wd1618 wd1620 sl170 wd11 (by decide) ⟨rfl, rfl, by decide, by decide⟩ (m_recv X hW) (As := [.int 7]) (rest := []) rfl rfl hl.1 (Nat.le_of_ble_eq_true rfl) d198_71 ⟨by decide, by decide⟩ (fun q hq => MA.mono hS.1 hq) (fun v H1 locs1 hv _ _ hSq5 => ?_)
        obtain ⟨rfl, hW⟩ := hv
        have hS := hSq5
        exact kc74  q5 q4.1 _ _ _ hW hS (lv_sub hl [1, 0] rfl) h
    · have h := jb_f c40 h
      obtain rfl := Option.some.inj h
      exact m_vret (pc := 43) hx hb hr hlk hS ⟨rfl, hW⟩ (by decide) (by decide) d198_43
  unfold f_mo_match at h
  refine lv_aload_n (pc := 0) hx hb d198_0 rfl (lv_at hl 0 rfl) ?_
  refine lv_iconst (pc := 1) (v := 0) hx hb d198_1 (by decide) ?_
  obtain ⟨q6, hq6, h⟩ := jc_some h
  refine k_callV (pc := 2) (n := 1) X hS (c_mo_want l ρ ad _ st 0 q6 hW hq6) wd1817 wd1814 wd1816 sl238 wd11 (by decide) ⟨rfl, rfl, by decide, by decide⟩ (m_recv X hW) (As := [.int 0]) (rest := []) rfl rfl hl.1 (Nat.le_of_ble_eq_true rfl) d198_2 ⟨by decide, by decide⟩ (fun q hq => MA.mono hS.1 hq) (fun v H1 locs1 hv _ _ hSq6 => ?_)
  obtain ⟨rfl, hW⟩ := hv
  have hS := hSq6
  refine lv_aload_n (pc := 5) hx hb d198_5 rfl (lv_at hl 0 rfl) ?_
  refine lv_iconst (pc := 6) (v := 2) hx hb d198_6 (by decide) ?_
  refine lv_iconst (pc := 7) (v := 1) hx hb d198_7 (by decide) ?_
  obtain ⟨q7, hq7, h⟩ := jc_some h
  refine k_callV (pc := 8) (n := 2) X hS (c_mo_whole2 l ρ ad _ q6 2 1 q7 hW hq7) wd1663 wd1660 wd1662 sl242 wd11 (by decide) ⟨rfl, rfl, by decide, by decide⟩ (m_recv X hW) (As := [.int 2, .int 1]) (rest := []) rfl rfl hl.1 (Nat.le_of_ble_eq_true rfl) d198_8 ⟨by decide, by decide⟩ (fun q hq => MA.mono hS.1 hq) (fun v H1 locs1 hv _ _ hSq7 => ?_)
  obtain ⟨rfl, hW⟩ := hv
  have hS := hSq7
  refine lv_istore_n (pc := 11) (lv' := [(1, .int q7.1), (0, .ref (ad 0))]) hx hb d198_11 rfl hl (by decide) rfl (fun ls hl => ?_)
  refine lv_aload_n (pc := 12) hx hb d198_12 rfl (lv_at hl 1 rfl) ?_
  refine lv_iconst (pc := 13) (v := 1) hx hb d198_13 (by decide) ?_
  obtain ⟨q8, hq8, h⟩ := jc_some h
  refine k_callV (pc := 14) (n := 1) X hS (c_mo_rowsOf l ρ ad _ q7.2 1 q8 hW hq8) wd1772 wd1769 wd1771 sl215 wd11 (by decide) ⟨rfl, rfl, by decide, by decide⟩ (m_recv X hW) (As := [.int 1]) (rest := []) rfl rfl hl.1 (Nat.le_of_ble_eq_true rfl) d198_14 ⟨by decide, by decide⟩ (fun q hq => False.elim hq) (fun v H1 locs1 hv _ _ hSq8 => ?_)
  obtain ⟨rfl, rfl⟩ := hv
  have hS := hSq8
  refine lv_iconst (pc := 17) (v := 1) hx hb d198_17 (by decide) ?_
  refine lv_icmp_le (pc := 18) (tgt := 36) hx hb d198_18 (by decide) (fun c18 => ?_) (fun c18 => ?_)
  · have h := jb_t c18 h
    exact kc36  q7.2 q7.1 _ _ _ hW hS (lv_sub hl [1, 0] rfl) h
  · have h := jb_f c18 h
    refine lv_aload_n (pc := 21) hx hb d198_21 rfl (lv_at hl 1 rfl) ?_
    refine lv_iconst (pc := 22) (v := 1) hx hb d198_22 (by decide) ?_
    obtain ⟨q9, hq9, h⟩ := jc_some h
    refine k_callV (pc := 23) (n := 1) X hS (c_mo_columnsOf l ρ ad _ q7.2 1 q9 hW hq9) wd1776 wd1773 wd1775 sl154 wd11 (by decide) ⟨rfl, rfl, by decide, by decide⟩ (m_recv X hW) (As := [.int 1]) (rest := []) rfl rfl hl.1 (Nat.le_of_ble_eq_true rfl) d198_23 ⟨by decide, by decide⟩ (fun q hq => False.elim hq) (fun v H1 locs1 hv _ _ hSq9 => ?_)
    obtain ⟨rfl, rfl⟩ := hv
    have hS := hSq9
    refine lv_iconst (pc := 26) (v := 1) hx hb d198_26 (by decide) ?_
    refine lv_icmp_le (pc := 27) (tgt := 36) hx hb d198_27 (by decide) (fun c27 => ?_) (fun c27 => ?_)
    · have h := jb_t c27 h
      exact kc36  q7.2 q7.1 _ _ _ hW hS (lv_sub hl [1, 0] rfl) h
    · have h := jb_f c27 h
      refine lv_aload_n (pc := 30) hx hb d198_30 rfl (lv_at hl 1 rfl) ?_
      refine lv_bipush (pc := 31) (v := 7) hx hb d198_31 (by decide) ?_
      obtain ⟨q10, hq10, h⟩ := jc_some h
      refine k_callV (pc := 33) (n := 1) X hS (c_mo_fail l ρ ad _ q7.2 7 q10 hW hq10) wd1621 wd1618 wd1620 sl170 wd11 (by decide) ⟨rfl, rfl, by decide, by decide⟩ (m_recv X hW) (As := [.int 7]) (rest := []) rfl rfl hl.1 (Nat.le_of_ble_eq_true rfl) d198_33 ⟨by decide, by decide⟩ (fun q hq => MA.mono hS.1 hq) (fun v H1 locs1 hv _ _ hSq10 => ?_)
      obtain ⟨rfl, hW⟩ := hv
      have hS := hSq10
      exact kc36  q10 q7.1 _ _ _ hW hS (lv_sub hl [1, 0] rfl) h
def mo_index_138  (st : GS) (z1 : Int32) (z2 : Int32) (z3 : Int32) (z4 : Int32) (z5 : Int32) : Option (GS) := jc (f_mo_answerPart st z1 z2 z3 z4 z5 0) (fun q1 => some q1)
def mo_index_125  (st : GS) (x2 : Int32) (z1 : Int32) (z2 : Int32) (z3 : Int32) (z4 : Int32) : Option (GS) := jb (x2 = 0) (jc (f_mo_columnsOf st 0) (fun q2 => mo_index_138  st z1 z2 z3 z4 q2)) (mo_index_138  st z1 z2 z3 z4 1)
def mo_index_112  (st : GS) (x1 : Int32) (x2 : Int32) (z1 : Int32) (z2 : Int32) (z3 : Int32) : Option (GS) := jb (x1 = 0) (jc (f_mo_rowsOf st 0) (fun q3 => mo_index_125  st x2 z1 z2 z3 q3)) (mo_index_125  st x2 z1 z2 z3 1)
def mo_index_101  (st : GS) (x1 : Int32) (x2 : Int32) (z1 : Int32) (z2 : Int32) : Option (GS) := jb (x2 = 0) (mo_index_112  st x1 x2 z1 z2 0) (mo_index_112  st x1 x2 z1 z2 (x2 - 1))
def mo_index_81  (st : GS) (x1 : Int32) (x2 : Int32) : Option (GS) := jb ((st.1 0 22) = 0) (jb (x1 = 0) (mo_index_101  st x1 x2 0 0) (mo_index_101  st x1 x2 0 (x1 - 1))) (some st)
def mo_index_76  (st : GS) (x1 : Int32) (x2 : Int32) : Option (GS) := jc (f_mo_fail st 4) (fun q4 => mo_index_81  q4 x1 x2)
def mo_index_58  (st : GS) (x1 : Int32) (x2 : Int32) : Option (GS) := jc (f_mo_rowsOf st 0) (fun q5 => jb (q5 < x1) (mo_index_76  st x1 x2) (jc (f_mo_columnsOf st 0) (fun q6 => jb (x2 ≤ q6) (mo_index_81  st x1 x2) (mo_index_76  st x1 x2))))
def mo_index_53  (st : GS) (x1 : Int32) (x2 : Int32) : Option (GS) := jc (f_mo_fail st 3) (fun q7 => mo_index_58  q7 x1 x2)
def mo_index_45  (st : GS) (x1 : Int32) (x2 : Int32) : Option (GS) := jb (x1 < 0) (mo_index_53  st x1 x2) (jb (0 ≤ x2) (mo_index_58  st x1 x2) (mo_index_53  st x1 x2))
def mo_index_23  (st : GS) (x1 : Int32) (z0 : Int32) : Option (GS) := jc (f_mo_isGiven st 2) (fun q8 => jb (q8 = 0) (jc (f_mo_rowsOf st 0) (fun q9 => jb (q9 = 1) (mo_index_45  st 1 x1) (mo_index_45  st x1 z0))) (mo_index_45  st x1 z0))
def f_mo_index (st : GS) : Option (GS) := jc (f_mo_whole1 st 1) (fun q10 => jc (f_mo_isGiven q10.2 2) (fun q11 => jb (q11 = 0) (mo_index_23  q10.2 q10.1 1) (jc (f_mo_whole1 q10.2 2) (fun q12 => mo_index_23  q12.2 q10.1 q12.1))))
set_option maxHeartbeats 4000000 in
set_option maxRecDepth 100000 in
theorem c_mo_index (l : Launch) (ρ : RH) (ad : Nat → Nat) (H : Heap) (st : GS) (res : GS) (hW : GW ρ wM ad st H) (h : f_mo_index st = some res) : Met l y177 (wsOf y177 b177 3 none) ({ frames := 5, cells := 0, slots := 0, locals := 110 } : Room) (va_Pc [.ref (ad 0)] (KP ρ H)) (mQ (fun v H1 => v = none ∧ GW ρ wM ad res H1) (MA wM ad H.size)) 0 0 (MA wM ad H.size) := by
  refine m_ofW (own := "WordFunctionsModel") (plainFor_of_name rfl) rfl (Nat.le_of_ble_eq_true rfl) fun p e s m args below meth c ls hx hb hr hlk _ X hs hl => ?_
  subst hs
  have hS : va_S (MA wM ad s.heap.size) s.heap s.heap [] := va_S.rf
  have hl : lv_has ls 3 [(0, .ref (ad 0))] := hl
  have kc138 : ∀ (st : GS) (z1 : Int32) (z2 : Int32) (z3 : Int32) (z4 : Int32) (z5 : Int32) (H : Heap) (locs : List Loc) (ls : Array Slot), GW ρ wM ad st H → va_S (MA wM ad s.heap.size) s.heap H locs → lv_has ls 3 [] → mo_index_138 st z1 z2 z3 z4 z5 = some res → W p l e ({ frames := 5, cells := 0, slots := 0, locals := 110 } : Room) s m args below meth c H locs 0 0 (MQ below (mQ (fun v H1 => v = none ∧ GW ρ wM ad res H1) (MA wM ad s.heap.size)) args s 0 0 (MA wM ad s.heap.size)) (F0 m 138 ls [.int z5, .int z4, .int z3, .int z2, .int z1, .ref (ad 0)]) := by
    intro st z1 z2 z3 z4 z5 H locs ls hW hS hl h
    unfold mo_index_138 at h
    refine lv_iconst (pc := 138) (v := 0) hx hb d177_138 (by decide) ?_
    obtain ⟨q1, hq1, h⟩ := jc_some h
    refine k_callV (pc := 139) (n := 6) X hS (c_mo_answerPart l ρ ad _ st z1 z2 z3 z4 z5 0 q1 hW hq1) wd1849 wd1846 wd1848 sl143 wd11 (by decide) ⟨rfl, rfl, by decide, by decide⟩ (m_recv X hW) (As := [.int z1, .int z2, .int z3, .int z4, .int z5, .int 0]) (rest := []) rfl rfl hl.1 (Nat.le_of_ble_eq_true rfl) d177_139 ⟨by decide, by decide⟩ (fun q hq => MA.mono hS.1 hq) (fun v H1 locs1 hv _ _ hSq1 => ?_)
    obtain ⟨rfl, hW⟩ := hv
    have hS := hSq1
    obtain rfl := Option.some.inj h
    exact m_vret (pc := 142) hx hb hr hlk hS ⟨rfl, hW⟩ (by decide) (by decide) d177_142
  have kc125 : ∀ (st : GS) (x2 : Int32) (z1 : Int32) (z2 : Int32) (z3 : Int32) (z4 : Int32) (H : Heap) (locs : List Loc) (ls : Array Slot), GW ρ wM ad st H → va_S (MA wM ad s.heap.size) s.heap H locs → lv_has ls 3 [(0, .ref (ad 0)), (2, .int x2)] → mo_index_125 st x2 z1 z2 z3 z4 = some res → W p l e ({ frames := 5, cells := 0, slots := 0, locals := 110 } : Room) s m args below meth c H locs 0 0 (MQ below (mQ (fun v H1 => v = none ∧ GW ρ wM ad res H1) (MA wM ad s.heap.size)) args s 0 0 (MA wM ad s.heap.size)) (F0 m 125 ls [.int z4, .int z3, .int z2, .int z1, .ref (ad 0)]) := by
    intro st x2 z1 z2 z3 z4 H locs ls hW hS hl h
    unfold mo_index_125 at h
    refine lv_iload_n (pc := 125) hx hb d177_125 rfl (lv_at hl 1 rfl) ?_
    refine lv_if_ne (pc := 126) (tgt := 137) hx hb d177_126 (by decide) (fun c126 => ?_) (fun c126 => ?_)
    · have h := jb_f c126 h
      refine lv_iconst (pc := 137) (v := 1) hx hb d177_137 (by decide) ?_
      exact kc138  st z1 z2 z3 z4 1 _ _ _ hW hS (lv_sub hl [] rfl) h
    · have h := jb_t c126 h
      refine lv_aload_n (pc := 129) hx hb d177_129 rfl (lv_at hl 0 rfl) ?_
      refine lv_iconst (pc := 130) (v := 0) hx hb d177_130 (by decide) ?_
      obtain ⟨q2, hq2, h⟩ := jc_some h
      refine k_callV (pc := 131) (n := 1) X hS (c_mo_columnsOf l ρ ad _ st 0 q2 hW hq2) wd1776 wd1773 wd1775 sl154 wd11 (by decide) ⟨rfl, rfl, by decide, by decide⟩ (m_recv X hW) (As := [.int 0]) (rest := [.int z4, .int z3, .int z2, .int z1, .ref (ad 0)]) rfl rfl hl.1 (Nat.le_of_ble_eq_true rfl) d177_131 ⟨by decide, by decide⟩ (fun q hq => False.elim hq) (fun v H1 locs1 hv _ _ hSq2 => ?_)
      obtain ⟨rfl, rfl⟩ := hv
      have hS := hSq2
      refine lv_goto (pc := 134) (tgt := 138) hx hb d177_134 (by decide) ?_
      exact kc138  st z1 z2 z3 z4 q2 _ _ _ hW hS (lv_sub hl [] rfl) h
  have kc112 : ∀ (st : GS) (x1 : Int32) (x2 : Int32) (z1 : Int32) (z2 : Int32) (z3 : Int32) (H : Heap) (locs : List Loc) (ls : Array Slot), GW ρ wM ad st H → va_S (MA wM ad s.heap.size) s.heap H locs → lv_has ls 3 [(0, .ref (ad 0)), (1, .int x1), (2, .int x2)] → mo_index_112 st x1 x2 z1 z2 z3 = some res → W p l e ({ frames := 5, cells := 0, slots := 0, locals := 110 } : Room) s m args below meth c H locs 0 0 (MQ below (mQ (fun v H1 => v = none ∧ GW ρ wM ad res H1) (MA wM ad s.heap.size)) args s 0 0 (MA wM ad s.heap.size)) (F0 m 112 ls [.int z3, .int z2, .int z1, .ref (ad 0)]) := by
    intro st x1 x2 z1 z2 z3 H locs ls hW hS hl h
    unfold mo_index_112 at h
    refine lv_iload_n (pc := 112) hx hb d177_112 rfl (lv_at hl 1 rfl) ?_
    refine lv_if_ne (pc := 113) (tgt := 124) hx hb d177_113 (by decide) (fun c113 => ?_) (fun c113 => ?_)
    · have h := jb_f c113 h
      refine lv_iconst (pc := 124) (v := 1) hx hb d177_124 (by decide) ?_
      exact kc125  st x2 z1 z2 z3 1 _ _ _ hW hS (lv_sub hl [0, 2] rfl) h
    · have h := jb_t c113 h
      refine lv_aload_n (pc := 116) hx hb d177_116 rfl (lv_at hl 0 rfl) ?_
      refine lv_iconst (pc := 117) (v := 0) hx hb d177_117 (by decide) ?_
      obtain ⟨q3, hq3, h⟩ := jc_some h
      refine k_callV (pc := 118) (n := 1) X hS (c_mo_rowsOf l ρ ad _ st 0 q3 hW hq3) wd1772 wd1769 wd1771 sl215 wd11 (by decide) ⟨rfl, rfl, by decide, by decide⟩ (m_recv X hW) (As := [.int 0]) (rest := [.int z3, .int z2, .int z1, .ref (ad 0)]) rfl rfl hl.1 (Nat.le_of_ble_eq_true rfl) d177_118 ⟨by decide, by decide⟩ (fun q hq => False.elim hq) (fun v H1 locs1 hv _ _ hSq3 => ?_)
      obtain ⟨rfl, rfl⟩ := hv
      have hS := hSq3
      refine lv_goto (pc := 121) (tgt := 125) hx hb d177_121 (by decide) ?_
      exact kc125  st x2 z1 z2 z3 q3 _ _ _ hW hS (lv_sub hl [0, 2] rfl) h
  have kc101 : ∀ (st : GS) (x1 : Int32) (x2 : Int32) (z1 : Int32) (z2 : Int32) (H : Heap) (locs : List Loc) (ls : Array Slot), GW ρ wM ad st H → va_S (MA wM ad s.heap.size) s.heap H locs → lv_has ls 3 [(0, .ref (ad 0)), (1, .int x1), (2, .int x2)] → mo_index_101 st x1 x2 z1 z2 = some res → W p l e ({ frames := 5, cells := 0, slots := 0, locals := 110 } : Room) s m args below meth c H locs 0 0 (MQ below (mQ (fun v H1 => v = none ∧ GW ρ wM ad res H1) (MA wM ad s.heap.size)) args s 0 0 (MA wM ad s.heap.size)) (F0 m 101 ls [.int z2, .int z1, .ref (ad 0)]) := by
    intro st x1 x2 z1 z2 H locs ls hW hS hl h
    unfold mo_index_101 at h
    refine lv_iload_n (pc := 101) hx hb d177_101 rfl (lv_at hl 2 rfl) ?_
    refine lv_if_ne (pc := 102) (tgt := 109) hx hb d177_102 (by decide) (fun c102 => ?_) (fun c102 => ?_)
    · have h := jb_f c102 h
      refine lv_iload_n (pc := 109) hx hb d177_109 rfl (lv_at hl 2 rfl) ?_
      refine lv_iconst (pc := 110) (v := 1) hx hb d177_110 (by decide) ?_
      refine lv_isub (pc := 111) hx hb d177_111 ?_
      exact kc112  st x1 x2 z1 z2 (x2 - 1) _ _ _ hW hS (lv_sub hl [0, 1, 2] rfl) h
    · have h := jb_t c102 h
      refine lv_iconst (pc := 105) (v := 0) hx hb d177_105 (by decide) ?_
      refine lv_goto (pc := 106) (tgt := 112) hx hb d177_106 (by decide) ?_
      exact kc112  st x1 x2 z1 z2 0 _ _ _ hW hS (lv_sub hl [0, 1, 2] rfl) h
  have kc81 : ∀ (st : GS) (x1 : Int32) (x2 : Int32) (H : Heap) (locs : List Loc) (ls : Array Slot), GW ρ wM ad st H → va_S (MA wM ad s.heap.size) s.heap H locs → lv_has ls 3 [(0, .ref (ad 0)), (1, .int x1), (2, .int x2)] → mo_index_81 st x1 x2 = some res → W p l e ({ frames := 5, cells := 0, slots := 0, locals := 110 } : Room) s m args below meth c H locs 0 0 (MQ below (mQ (fun v H1 => v = none ∧ GW ρ wM ad res H1) (MA wM ad s.heap.size)) args s 0 0 (MA wM ad s.heap.size)) (F0 m 81 ls []) := by
    intro st x1 x2 H locs ls hW hS hl h
    unfold mo_index_81 at h
    refine lv_aload_n (pc := 81) hx hb d177_81 rfl (lv_at hl 0 rfl) ?_
    refine m_get (pc := 82) X hW 22 (v := .int (st.1 0 22)) wd1388 rfl rfl d177_82 ?_
    refine lv_if_ne (pc := 85) (tgt := 142) hx hb d177_85 (by decide) (fun c85 => ?_) (fun c85 => ?_)
    · have h := jb_f c85 h
      obtain rfl := Option.some.inj h
      exact m_vret (pc := 142) hx hb hr hlk hS ⟨rfl, hW⟩ (by decide) (by decide) d177_142
    · have h := jb_t c85 h
      refine lv_aload_n (pc := 88) hx hb d177_88 rfl (lv_at hl 0 rfl) ?_
      refine lv_iconst (pc := 89) (v := 0) hx hb d177_89 (by decide) ?_
      refine lv_iload_n (pc := 90) hx hb d177_90 rfl (lv_at hl 1 rfl) ?_
      refine lv_if_ne (pc := 91) (tgt := 98) hx hb d177_91 (by decide) (fun c91 => ?_) (fun c91 => ?_)
      · have h := jb_f c91 h
        refine lv_iload_n (pc := 98) hx hb d177_98 rfl (lv_at hl 1 rfl) ?_
        refine lv_iconst (pc := 99) (v := 1) hx hb d177_99 (by decide) ?_
        refine lv_isub (pc := 100) hx hb d177_100 ?_
        exact kc101  st x1 x2 0 (x1 - 1) _ _ _ hW hS (lv_sub hl [0, 1, 2] rfl) h
      · have h := jb_t c91 h
        refine lv_iconst (pc := 94) (v := 0) hx hb d177_94 (by decide) ?_
        refine lv_goto (pc := 95) (tgt := 101) hx hb d177_95 (by decide) ?_
        exact kc101  st x1 x2 0 0 _ _ _ hW hS (lv_sub hl [0, 1, 2] rfl) h
  have kc76 : ∀ (st : GS) (x1 : Int32) (x2 : Int32) (H : Heap) (locs : List Loc) (ls : Array Slot), GW ρ wM ad st H → va_S (MA wM ad s.heap.size) s.heap H locs → lv_has ls 3 [(0, .ref (ad 0)), (1, .int x1), (2, .int x2)] → mo_index_76 st x1 x2 = some res → W p l e ({ frames := 5, cells := 0, slots := 0, locals := 110 } : Room) s m args below meth c H locs 0 0 (MQ below (mQ (fun v H1 => v = none ∧ GW ρ wM ad res H1) (MA wM ad s.heap.size)) args s 0 0 (MA wM ad s.heap.size)) (F0 m 76 ls []) := by
    intro st x1 x2 H locs ls hW hS hl h
    unfold mo_index_76 at h
    refine lv_aload_n (pc := 76) hx hb d177_76 rfl (lv_at hl 0 rfl) ?_
    refine lv_iconst (pc := 77) (v := 4) hx hb d177_77 (by decide) ?_
    obtain ⟨q4, hq4, h⟩ := jc_some h
    refine k_callV (pc := 78) (n := 1) X hS (c_mo_fail l ρ ad _ st 4 q4 hW hq4) wd1621 wd1618 wd1620 sl170 wd11 (by decide) ⟨rfl, rfl, by decide, by decide⟩ (m_recv X hW) (As := [.int 4]) (rest := []) rfl rfl hl.1 (Nat.le_of_ble_eq_true rfl) d177_78 ⟨by decide, by decide⟩ (fun q hq => MA.mono hS.1 hq) (fun v H1 locs1 hv _ _ hSq4 => ?_)
    obtain ⟨rfl, hW⟩ := hv
    have hS := hSq4
    exact kc81  q4 x1 x2 _ _ _ hW hS (lv_sub hl [0, 1, 2] rfl) h
  have kc58 : ∀ (st : GS) (x1 : Int32) (x2 : Int32) (H : Heap) (locs : List Loc) (ls : Array Slot), GW ρ wM ad st H → va_S (MA wM ad s.heap.size) s.heap H locs → lv_has ls 3 [(0, .ref (ad 0)), (1, .int x1), (2, .int x2)] → mo_index_58 st x1 x2 = some res → W p l e ({ frames := 5, cells := 0, slots := 0, locals := 110 } : Room) s m args below meth c H locs 0 0 (MQ below (mQ (fun v H1 => v = none ∧ GW ρ wM ad res H1) (MA wM ad s.heap.size)) args s 0 0 (MA wM ad s.heap.size)) (F0 m 58 ls []) := by
    intro st x1 x2 H locs ls hW hS hl h
    unfold mo_index_58 at h
    refine lv_iload_n (pc := 58) hx hb d177_58 rfl (lv_at hl 1 rfl) ?_
    refine lv_aload_n (pc := 59) hx hb d177_59 rfl (lv_at hl 0 rfl) ?_
    refine lv_iconst (pc := 60) (v := 0) hx hb d177_60 (by decide) ?_
    obtain ⟨q5, hq5, h⟩ := jc_some h
    refine k_callV (pc := 61) (n := 1) X hS (c_mo_rowsOf l ρ ad _ st 0 q5 hW hq5) wd1772 wd1769 wd1771 sl215 wd11 (by decide) ⟨rfl, rfl, by decide, by decide⟩ (m_recv X hW) (As := [.int 0]) (rest := [.int x1]) rfl rfl hl.1 (Nat.le_of_ble_eq_true rfl) d177_61 ⟨by decide, by decide⟩ (fun q hq => False.elim hq) (fun v H1 locs1 hv _ _ hSq5 => ?_)
    obtain ⟨rfl, rfl⟩ := hv
    have hS := hSq5
    refine lv_icmp_gt (pc := 64) (tgt := 76) hx hb d177_64 (by decide) (fun c64 => ?_) (fun c64 => ?_)
    · have h := jb_t c64 h
      exact kc76  st x1 x2 _ _ _ hW hS (lv_sub hl [0, 1, 2] rfl) h
    · have h := jb_f c64 h
      refine lv_iload_n (pc := 67) hx hb d177_67 rfl (lv_at hl 2 rfl) ?_
      refine lv_aload_n (pc := 68) hx hb d177_68 rfl (lv_at hl 0 rfl) ?_
      refine lv_iconst (pc := 69) (v := 0) hx hb d177_69 (by decide) ?_
      obtain ⟨q6, hq6, h⟩ := jc_some h
      refine k_callV (pc := 70) (n := 1) X hS (c_mo_columnsOf l ρ ad _ st 0 q6 hW hq6) wd1776 wd1773 wd1775 sl154 wd11 (by decide) ⟨rfl, rfl, by decide, by decide⟩ (m_recv X hW) (As := [.int 0]) (rest := [.int x2]) rfl rfl hl.1 (Nat.le_of_ble_eq_true rfl) d177_70 ⟨by decide, by decide⟩ (fun q hq => False.elim hq) (fun v H1 locs1 hv _ _ hSq6 => ?_)
      obtain ⟨rfl, rfl⟩ := hv
      have hS := hSq6
      refine lv_icmp_le (pc := 73) (tgt := 81) hx hb d177_73 (by decide) (fun c73 => ?_) (fun c73 => ?_)
      · have h := jb_t c73 h
        exact kc81  st x1 x2 _ _ _ hW hS (lv_sub hl [0, 1, 2] rfl) h
      · have h := jb_f c73 h
        exact kc76  st x1 x2 _ _ _ hW hS (lv_sub hl [0, 1, 2] rfl) h
  have kc53 : ∀ (st : GS) (x1 : Int32) (x2 : Int32) (H : Heap) (locs : List Loc) (ls : Array Slot), GW ρ wM ad st H → va_S (MA wM ad s.heap.size) s.heap H locs → lv_has ls 3 [(0, .ref (ad 0)), (1, .int x1), (2, .int x2)] → mo_index_53 st x1 x2 = some res → W p l e ({ frames := 5, cells := 0, slots := 0, locals := 110 } : Room) s m args below meth c H locs 0 0 (MQ below (mQ (fun v H1 => v = none ∧ GW ρ wM ad res H1) (MA wM ad s.heap.size)) args s 0 0 (MA wM ad s.heap.size)) (F0 m 53 ls []) := by
    intro st x1 x2 H locs ls hW hS hl h
    unfold mo_index_53 at h
    refine lv_aload_n (pc := 53) hx hb d177_53 rfl (lv_at hl 0 rfl) ?_
    refine lv_iconst (pc := 54) (v := 3) hx hb d177_54 (by decide) ?_
    obtain ⟨q7, hq7, h⟩ := jc_some h
    refine k_callV (pc := 55) (n := 1) X hS (c_mo_fail l ρ ad _ st 3 q7 hW hq7) wd1621 wd1618 wd1620 sl170 wd11 (by decide) ⟨rfl, rfl, by decide, by decide⟩ (m_recv X hW) (As := [.int 3]) (rest := []) rfl rfl hl.1 (Nat.le_of_ble_eq_true rfl) d177_55 ⟨by decide, by decide⟩ (fun q hq => MA.mono hS.1 hq) (fun v H1 locs1 hv _ _ hSq7 => ?_)
    obtain ⟨rfl, hW⟩ := hv
    have hS := hSq7
    exact kc58  q7 x1 x2 _ _ _ hW hS (lv_sub hl [0, 1, 2] rfl) h
  have kc45 : ∀ (st : GS) (x1 : Int32) (x2 : Int32) (H : Heap) (locs : List Loc) (ls : Array Slot), GW ρ wM ad st H → va_S (MA wM ad s.heap.size) s.heap H locs → lv_has ls 3 [(0, .ref (ad 0)), (1, .int x1), (2, .int x2)] → mo_index_45 st x1 x2 = some res → W p l e ({ frames := 5, cells := 0, slots := 0, locals := 110 } : Room) s m args below meth c H locs 0 0 (MQ below (mQ (fun v H1 => v = none ∧ GW ρ wM ad res H1) (MA wM ad s.heap.size)) args s 0 0 (MA wM ad s.heap.size)) (F0 m 45 ls []) := by
    intro st x1 x2 H locs ls hW hS hl h
    unfold mo_index_45 at h
    refine lv_iload_n (pc := 45) hx hb d177_45 rfl (lv_at hl 1 rfl) ?_
    refine lv_if_lt (pc := 46) (tgt := 53) hx hb d177_46 (by decide) (fun c46 => ?_) (fun c46 => ?_)
    · have h := jb_t c46 h
      exact kc53  st x1 x2 _ _ _ hW hS (lv_sub hl [0, 1, 2] rfl) h
    · have h := jb_f c46 h
      refine lv_iload_n (pc := 49) hx hb d177_49 rfl (lv_at hl 2 rfl) ?_
      refine lv_if_ge (pc := 50) (tgt := 58) hx hb d177_50 (by decide) (fun c50 => ?_) (fun c50 => ?_)
      · have h := jb_t c50 h
        exact kc58  st x1 x2 _ _ _ hW hS (lv_sub hl [0, 1, 2] rfl) h
      · have h := jb_f c50 h
        exact kc53  st x1 x2 _ _ _ hW hS (lv_sub hl [0, 1, 2] rfl) h
  have kc23 : ∀ (st : GS) (x1 : Int32) (z0 : Int32) (H : Heap) (locs : List Loc) (ls : Array Slot), GW ρ wM ad st H → va_S (MA wM ad s.heap.size) s.heap H locs → lv_has ls 3 [(0, .ref (ad 0)), (1, .int x1)] → mo_index_23 st x1 z0 = some res → W p l e ({ frames := 5, cells := 0, slots := 0, locals := 110 } : Room) s m args below meth c H locs 0 0 (MQ below (mQ (fun v H1 => v = none ∧ GW ρ wM ad res H1) (MA wM ad s.heap.size)) args s 0 0 (MA wM ad s.heap.size)) (F0 m 23 ls [.int z0]) := by
    intro st x1 z0 H locs ls hW hS hl h
    unfold mo_index_23 at h
    refine lv_istore_n (pc := 23) (lv' := [(2, .int z0), (0, .ref (ad 0)), (1, .int x1)]) hx hb d177_23 rfl hl (by decide) rfl (fun ls hl => ?_)
    refine lv_aload_n (pc := 24) hx hb d177_24 rfl (lv_at hl 1 rfl) ?_
    refine lv_iconst (pc := 25) (v := 2) hx hb d177_25 (by decide) ?_
    obtain ⟨q8, hq8, h⟩ := jc_some h
    refine k_callV (pc := 26) (n := 1) X hS (c_mo_isGiven l ρ ad _ st 2 q8 hW hq8) wd1667 wd1664 wd1666 sl181 wd11 (by decide) ⟨rfl, rfl, by decide, by decide⟩ (m_recv X hW) (As := [.int 2]) (rest := []) rfl rfl hl.1 (Nat.le_of_ble_eq_true rfl) d177_26 ⟨by decide, by decide⟩ (fun q hq => False.elim hq) (fun v H1 locs1 hv _ _ hSq8 => ?_)
    obtain ⟨rfl, rfl⟩ := hv
    have hS := hSq8
    refine lv_if_ne (pc := 29) (tgt := 45) hx hb d177_29 (by decide) (fun c29 => ?_) (fun c29 => ?_)
    · have h := jb_f c29 h
      exact kc45  st x1 z0 _ _ _ hW hS (lv_sub hl [1, 2, 0] rfl) h
    · have h := jb_t c29 h
      refine lv_aload_n (pc := 32) hx hb d177_32 rfl (lv_at hl 1 rfl) ?_
      refine lv_iconst (pc := 33) (v := 0) hx hb d177_33 (by decide) ?_
      obtain ⟨q9, hq9, h⟩ := jc_some h
      refine k_callV (pc := 34) (n := 1) X hS (c_mo_rowsOf l ρ ad _ st 0 q9 hW hq9) wd1772 wd1769 wd1771 sl215 wd11 (by decide) ⟨rfl, rfl, by decide, by decide⟩ (m_recv X hW) (As := [.int 0]) (rest := []) rfl rfl hl.1 (Nat.le_of_ble_eq_true rfl) d177_34 ⟨by decide, by decide⟩ (fun q hq => False.elim hq) (fun v H1 locs1 hv _ _ hSq9 => ?_)
      obtain ⟨rfl, rfl⟩ := hv
      have hS := hSq9
      refine lv_iconst (pc := 37) (v := 1) hx hb d177_37 (by decide) ?_
      refine lv_icmp_ne (pc := 38) (tgt := 45) hx hb d177_38 (by decide) (fun c38 => ?_) (fun c38 => ?_)
      · have h := jb_f c38 h
        exact kc45  st x1 z0 _ _ _ hW hS (lv_sub hl [1, 2, 0] rfl) h
      · have h := jb_t c38 h
        refine lv_iload_n (pc := 41) hx hb d177_41 rfl (lv_at hl 2 rfl) ?_
        refine lv_istore_n (pc := 42) (lv' := [(2, .int x1), (0, .ref (ad 0)), (1, .int x1)]) hx hb d177_42 rfl hl (by decide) rfl (fun ls hl => ?_)
        refine lv_iconst (pc := 43) (v := 1) hx hb d177_43 (by decide) ?_
        refine lv_istore_n (pc := 44) (lv' := [(1, .int 1), (2, .int x1), (0, .ref (ad 0))]) hx hb d177_44 rfl hl (by decide) rfl (fun ls hl => ?_)
        exact kc45  st 1 x1 _ _ _ hW hS (lv_sub hl [2, 0, 1] rfl) h
  unfold f_mo_index at h
  refine lv_aload_n (pc := 0) hx hb d177_0 rfl (lv_at hl 0 rfl) ?_
  refine lv_iconst (pc := 1) (v := 1) hx hb d177_1 (by decide) ?_
  obtain ⟨q10, hq10, h⟩ := jc_some h
  refine k_callV (pc := 2) (n := 1) X hS (c_mo_whole1 l ρ ad _ st 1 q10 hW hq10) wd1671 wd1668 wd1670 sl241 wd11 (by decide) ⟨rfl, rfl, by decide, by decide⟩ (m_recv X hW) (As := [.int 1]) (rest := []) rfl rfl hl.1 (Nat.le_of_ble_eq_true rfl) d177_2 ⟨by decide, by decide⟩ (fun q hq => MA.mono hS.1 hq) (fun v H1 locs1 hv _ _ hSq10 => ?_)
  obtain ⟨rfl, hW⟩ := hv
  have hS := hSq10
  refine lv_istore_n (pc := 5) (lv' := [(1, .int q10.1), (0, .ref (ad 0))]) hx hb d177_5 rfl hl (by decide) rfl (fun ls hl => ?_)
  refine lv_aload_n (pc := 6) hx hb d177_6 rfl (lv_at hl 1 rfl) ?_
  refine lv_iconst (pc := 7) (v := 2) hx hb d177_7 (by decide) ?_
  obtain ⟨q11, hq11, h⟩ := jc_some h
  refine k_callV (pc := 8) (n := 1) X hS (c_mo_isGiven l ρ ad _ q10.2 2 q11 hW hq11) wd1667 wd1664 wd1666 sl181 wd11 (by decide) ⟨rfl, rfl, by decide, by decide⟩ (m_recv X hW) (As := [.int 2]) (rest := []) rfl rfl hl.1 (Nat.le_of_ble_eq_true rfl) d177_8 ⟨by decide, by decide⟩ (fun q hq => False.elim hq) (fun v H1 locs1 hv _ _ hSq11 => ?_)
  obtain ⟨rfl, rfl⟩ := hv
  have hS := hSq11
  refine lv_if_eq (pc := 11) (tgt := 22) hx hb d177_11 (by decide) (fun c11 => ?_) (fun c11 => ?_)
  · have h := jb_t c11 h
    refine lv_iconst (pc := 22) (v := 1) hx hb d177_22 (by decide) ?_
    exact kc23  q10.2 q10.1 1 _ _ _ hW hS (lv_sub hl [1, 0] rfl) h
  · have h := jb_f c11 h
    refine lv_aload_n (pc := 14) hx hb d177_14 rfl (lv_at hl 1 rfl) ?_
    refine lv_iconst (pc := 15) (v := 2) hx hb d177_15 (by decide) ?_
    obtain ⟨q12, hq12, h⟩ := jc_some h
    refine k_callV (pc := 16) (n := 1) X hS (c_mo_whole1 l ρ ad _ q10.2 2 q12 hW hq12) wd1671 wd1668 wd1670 sl241 wd11 (by decide) ⟨rfl, rfl, by decide, by decide⟩ (m_recv X hW) (As := [.int 2]) (rest := []) rfl rfl hl.1 (Nat.le_of_ble_eq_true rfl) d177_16 ⟨by decide, by decide⟩ (fun q hq => MA.mono hS.1 hq) (fun v H1 locs1 hv _ _ hSq12 => ?_)
    obtain ⟨rfl, hW⟩ := hv
    have hS := hSq12
    refine lv_goto (pc := 19) (tgt := 23) hx hb d177_19 (by decide) ?_
    exact kc23  q12.2 q10.1 q12.1 _ _ _ hW hS (lv_sub hl [1, 0] rfl) h
def mo_standing_85  (st : GS) (z1 : UInt64) : Option (GS) := jc (f_mo_answerNumber st z1) (fun q1 => some q1)
def mo_standing_39  (st : GS) (x1 : Int32) (x2 : Int32) : Option (GS) := jb (x2 = 0) (jb (x1 = 0) (jg (inb 0 30) (mo_standing_85  st (FP.i2d (st.1 7 (0 : Int32).toNatClampNeg)))) (jg (inb 0 30) (mo_standing_85  st (FP.i2d (st.1 8 (0 : Int32).toNatClampNeg))))) (jb (x1 = 0) (mo_standing_85  st (FP.i2d (st.1 0 18))) (mo_standing_85  st (FP.i2d (st.1 0 19))))
def mo_standing_20  (st : GS) (x1 : Int32) (z0 : Int32) : Option (GS) := jb (z0 = 0) (jg (inb 0 30) (jb ((st.1 7 (0 : Int32).toNatClampNeg) = 0) (jc (f_mo_fail st 3) (fun q5 => mo_standing_39  q5 x1 z0)) (mo_standing_39  st x1 z0))) (mo_standing_39  st x1 z0)
def mo_standing_15  (st : GS) (x1 : Int32) : Option (GS) := mo_standing_20  st x1 1
def f_mo_standing (st : GS) (p0 : Int32) : Option (GS) := jb ((st.1 0 7) = 0) (mo_standing_15  st p0) (jc (f_mo_isOut st 0) (fun q6 => jb (q6 = 0) (mo_standing_20  st p0 0) (mo_standing_15  st p0)))
set_option maxHeartbeats 4000000 in
set_option maxRecDepth 100000 in
theorem c_mo_standing (l : Launch) (ρ : RH) (ad : Nat → Nat) (H : Heap) (st : GS) (p0 : Int32) (res : GS) (hW : GW ρ wM ad st H) (h : f_mo_standing st p0 = some res) : Met l y220 (wsOf y220 b220 3 none) ({ frames := 1, cells := 0, slots := 0, locals := 22 } : Room) (va_Pc [.ref (ad 0), .int p0] (KP ρ H)) (mQ (fun v H1 => v = none ∧ GW ρ wM ad res H1) (MA wM ad H.size)) 0 0 (MA wM ad H.size) := by
  refine m_ofW (own := "WordFunctionsModel") (plainFor_of_name rfl) rfl (Nat.le_of_ble_eq_true rfl) fun p e s m args below meth c ls hx hb hr hlk _ X hs hl => ?_
  subst hs
  have hS : va_S (MA wM ad s.heap.size) s.heap s.heap [] := va_S.rf
  have hl : lv_has ls 3 [(0, .ref (ad 0)), (1, .int p0)] := hl
  have kc85 : ∀ (st : GS) (z1 : UInt64) (H : Heap) (locs : List Loc) (ls : Array Slot), GW ρ wM ad st H → va_S (MA wM ad s.heap.size) s.heap H locs → lv_has ls 3 [] → mo_standing_85 st z1 = some res → W p l e ({ frames := 1, cells := 0, slots := 0, locals := 22 } : Room) s m args below meth c H locs 0 0 (MQ below (mQ (fun v H1 => v = none ∧ GW ρ wM ad res H1) (MA wM ad s.heap.size)) args s 0 0 (MA wM ad s.heap.size)) (F0 m 85 ls [.double z1, .ref (ad 0)]) := by
    intro st z1 H locs ls hW hS hl h
    unfold mo_standing_85 at h
    obtain ⟨q1, hq1, h⟩ := jc_some h
    refine k_callV (pc := 85) (n := 1) X hS (c_mo_answerNumber l ρ ad _ st z1 q1 hW hq1) wd1651 wd1648 wd1650 sl142 wd11 (by decide) ⟨rfl, rfl, by decide, by decide⟩ (m_recv X hW) (As := [.double z1]) (rest := []) rfl rfl hl.1 (Nat.le_of_ble_eq_true rfl) d220_85 ⟨by decide, by decide⟩ (fun q hq => MA.mono hS.1 hq) (fun v H1 locs1 hv _ _ hSq1 => ?_)
    obtain ⟨rfl, hW⟩ := hv
    have hS := hSq1
    obtain rfl := Option.some.inj h
    exact m_vret (pc := 88) hx hb hr hlk hS ⟨rfl, hW⟩ (by decide) (by decide) d220_88
  have kc39 : ∀ (st : GS) (x1 : Int32) (x2 : Int32) (H : Heap) (locs : List Loc) (ls : Array Slot), GW ρ wM ad st H → va_S (MA wM ad s.heap.size) s.heap H locs → lv_has ls 3 [(0, .ref (ad 0)), (1, .int x1), (2, .int x2)] → mo_standing_39 st x1 x2 = some res → W p l e ({ frames := 1, cells := 0, slots := 0, locals := 22 } : Room) s m args below meth c H locs 0 0 (MQ below (mQ (fun v H1 => v = none ∧ GW ρ wM ad res H1) (MA wM ad s.heap.size)) args s 0 0 (MA wM ad s.heap.size)) (F0 m 39 ls []) := by
    intro st x1 x2 H locs ls hW hS hl h
    unfold mo_standing_39 at h
    refine lv_aload_n (pc := 39) hx hb d220_39 rfl (lv_at hl 0 rfl) ?_
    refine lv_iload_n (pc := 40) hx hb d220_40 rfl (lv_at hl 2 rfl) ?_
    refine lv_if_eq (pc := 41) (tgt := 64) hx hb d220_41 (by decide) (fun c41 => ?_) (fun c41 => ?_)
    · have h := jb_t c41 h
      refine lv_iload_n (pc := 64) hx hb d220_64 rfl (lv_at hl 1 rfl) ?_
      refine lv_if_eq (pc := 65) (tgt := 78) hx hb d220_65 (by decide) (fun c65 => ?_) (fun c65 => ?_)
      · have h := jb_t c65 h
        refine lv_aload_n (pc := 78) hx hb d220_78 rfl (lv_at hl 0 rfl) ?_
        refine m_get (pc := 79) X hW 12 (v := .ref (ad 7)) wd1378 rfl rfl d220_79 ?_
        refine lv_iconst (pc := 82) (v := 0) hx hb d220_82 (by decide) ?_
        obtain ⟨g2, h⟩ := jg_some h
        refine r_iald (pc := 83) X hW 7 (by decide) rfl (inb_in g2) d220_83 ?_
        refine lv_i2d (pc := 84) hx hb d220_84 ?_
        exact kc85  st (FP.i2d (st.1 7 (0 : Int32).toNatClampNeg)) _ _ _ hW hS (lv_sub hl [] rfl) h
      · have h := jb_f c65 h
        refine lv_aload_n (pc := 68) hx hb d220_68 rfl (lv_at hl 0 rfl) ?_
        refine m_get (pc := 69) X hW 13 (v := .ref (ad 8)) wd1379 rfl rfl d220_69 ?_
        refine lv_iconst (pc := 72) (v := 0) hx hb d220_72 (by decide) ?_
        obtain ⟨g3, h⟩ := jg_some h
        refine r_iald (pc := 73) X hW 8 (by decide) rfl (inb_in g3) d220_73 ?_
        refine lv_i2d (pc := 74) hx hb d220_74 ?_
        refine lv_goto (pc := 75) (tgt := 85) hx hb d220_75 (by decide) ?_
        exact kc85  st (FP.i2d (st.1 8 (0 : Int32).toNatClampNeg)) _ _ _ hW hS (lv_sub hl [] rfl) h
    · have h := jb_f c41 h
      refine lv_iload_n (pc := 44) hx hb d220_44 rfl (lv_at hl 1 rfl) ?_
      refine lv_if_eq (pc := 45) (tgt := 56) hx hb d220_45 (by decide) (fun c45 => ?_) (fun c45 => ?_)
      · have h := jb_t c45 h
        refine lv_aload_n (pc := 56) hx hb d220_56 rfl (lv_at hl 0 rfl) ?_
        refine m_get (pc := 57) X hW 18 (v := .int (st.1 0 18)) wd1384 rfl rfl d220_57 ?_
        refine lv_i2d (pc := 60) hx hb d220_60 ?_
        refine lv_goto (pc := 61) (tgt := 85) hx hb d220_61 (by decide) ?_
        exact kc85  st (FP.i2d (st.1 0 18)) _ _ _ hW hS (lv_sub hl [] rfl) h
      · have h := jb_f c45 h
        refine lv_aload_n (pc := 48) hx hb d220_48 rfl (lv_at hl 0 rfl) ?_
        refine m_get (pc := 49) X hW 19 (v := .int (st.1 0 19)) wd1385 rfl rfl d220_49 ?_
        refine lv_i2d (pc := 52) hx hb d220_52 ?_
        refine lv_goto (pc := 53) (tgt := 85) hx hb d220_53 (by decide) ?_
        exact kc85  st (FP.i2d (st.1 0 19)) _ _ _ hW hS (lv_sub hl [] rfl) h
  have kc20 : ∀ (st : GS) (x1 : Int32) (z0 : Int32) (H : Heap) (locs : List Loc) (ls : Array Slot), GW ρ wM ad st H → va_S (MA wM ad s.heap.size) s.heap H locs → lv_has ls 3 [(0, .ref (ad 0)), (1, .int x1)] → mo_standing_20 st x1 z0 = some res → W p l e ({ frames := 1, cells := 0, slots := 0, locals := 22 } : Room) s m args below meth c H locs 0 0 (MQ below (mQ (fun v H1 => v = none ∧ GW ρ wM ad res H1) (MA wM ad s.heap.size)) args s 0 0 (MA wM ad s.heap.size)) (F0 m 20 ls [.int z0]) := by
    intro st x1 z0 H locs ls hW hS hl h
    unfold mo_standing_20 at h
    refine lv_istore_n (pc := 20) (lv' := [(2, .int z0), (0, .ref (ad 0)), (1, .int x1)]) hx hb d220_20 rfl hl (by decide) rfl (fun ls hl => ?_)
    refine lv_iload_n (pc := 21) hx hb d220_21 rfl (lv_at hl 0 rfl) ?_
    refine lv_if_ne (pc := 22) (tgt := 39) hx hb d220_22 (by decide) (fun c22 => ?_) (fun c22 => ?_)
    · have h := jb_f c22 h
      exact kc39  st x1 z0 _ _ _ hW hS (lv_sub hl [1, 2, 0] rfl) h
    · have h := jb_t c22 h
      refine lv_aload_n (pc := 25) hx hb d220_25 rfl (lv_at hl 1 rfl) ?_
      refine m_get (pc := 26) X hW 12 (v := .ref (ad 7)) wd1378 rfl rfl d220_26 ?_
      refine lv_iconst (pc := 29) (v := 0) hx hb d220_29 (by decide) ?_
      obtain ⟨g4, h⟩ := jg_some h
      refine r_iald (pc := 30) X hW 7 (by decide) rfl (inb_in g4) d220_30 ?_
      refine lv_if_ne (pc := 31) (tgt := 39) hx hb d220_31 (by decide) (fun c31 => ?_) (fun c31 => ?_)
      · have h := jb_f c31 h
        exact kc39  st x1 z0 _ _ _ hW hS (lv_sub hl [1, 2, 0] rfl) h
      · have h := jb_t c31 h
        refine lv_aload_n (pc := 34) hx hb d220_34 rfl (lv_at hl 1 rfl) ?_
        refine lv_iconst (pc := 35) (v := 3) hx hb d220_35 (by decide) ?_
        obtain ⟨q5, hq5, h⟩ := jc_some h
        refine k_callV (pc := 36) (n := 1) X hS (c_mo_fail l ρ ad _ st 3 q5 hW hq5) wd1621 wd1618 wd1620 sl170 wd11 (by decide) ⟨rfl, rfl, by decide, by decide⟩ (m_recv X hW) (As := [.int 3]) (rest := []) rfl rfl hl.1 (Nat.le_of_ble_eq_true rfl) d220_36 ⟨by decide, by decide⟩ (fun q hq => MA.mono hS.1 hq) (fun v H1 locs1 hv _ _ hSq5 => ?_)
        obtain ⟨rfl, hW⟩ := hv
        have hS := hSq5
        exact kc39  q5 x1 z0 _ _ _ hW hS (lv_sub hl [1, 2, 0] rfl) h
  have kc15 : ∀ (st : GS) (x1 : Int32) (H : Heap) (locs : List Loc) (ls : Array Slot), GW ρ wM ad st H → va_S (MA wM ad s.heap.size) s.heap H locs → lv_has ls 3 [(0, .ref (ad 0)), (1, .int x1)] → mo_standing_15 st x1 = some res → W p l e ({ frames := 1, cells := 0, slots := 0, locals := 22 } : Room) s m args below meth c H locs 0 0 (MQ below (mQ (fun v H1 => v = none ∧ GW ρ wM ad res H1) (MA wM ad s.heap.size)) args s 0 0 (MA wM ad s.heap.size)) (F0 m 15 ls []) := by
    intro st x1 H locs ls hW hS hl h
    unfold mo_standing_15 at h
    refine lv_iconst (pc := 15) (v := 1) hx hb d220_15 (by decide) ?_
    refine lv_goto (pc := 16) (tgt := 20) hx hb d220_16 (by decide) ?_
    exact kc20  st x1 1 _ _ _ hW hS (lv_sub hl [0, 1] rfl) h
  unfold f_mo_standing at h
  refine lv_aload_n (pc := 0) hx hb d220_0 rfl (lv_at hl 0 rfl) ?_
  refine m_get (pc := 1) X hW 7 (v := .int (st.1 0 7)) wd1373 rfl rfl d220_1 ?_
  refine lv_if_eq (pc := 4) (tgt := 15) hx hb d220_4 (by decide) (fun c4 => ?_) (fun c4 => ?_)
  · have h := jb_t c4 h
    exact kc15  st p0 _ _ _ hW hS (lv_sub hl [0, 1] rfl) h
  · have h := jb_f c4 h
    refine lv_aload_n (pc := 7) hx hb d220_7 rfl (lv_at hl 0 rfl) ?_
    refine lv_iconst (pc := 8) (v := 0) hx hb d220_8 (by decide) ?_
    obtain ⟨q6, hq6, h⟩ := jc_some h
    refine k_callV (pc := 9) (n := 1) X hS (c_mo_isOut l ρ ad _ st 0 q6 hW hq6) wd1609 wd1606 wd1608 sl183 wd11 (by decide) ⟨rfl, rfl, by decide, by decide⟩ (m_recv X hW) (As := [.int 0]) (rest := []) rfl rfl hl.1 (Nat.le_of_ble_eq_true rfl) d220_9 ⟨by decide, by decide⟩ (fun q hq => False.elim hq) (fun v H1 locs1 hv _ _ hSq6 => ?_)
    obtain ⟨rfl, rfl⟩ := hv
    have hS := hSq6
    refine lv_if_eq (pc := 12) (tgt := 19) hx hb d220_12 (by decide) (fun c12 => ?_) (fun c12 => ?_)
    · have h := jb_t c12 h
      refine lv_iconst (pc := 19) (v := 0) hx hb d220_19 (by decide) ?_
      exact kc20  st p0 0 _ _ _ hW hS (lv_sub hl [0, 1] rfl) h
    · have h := jb_f c12 h
      exact kc15  st p0 _ _ _ hW hS (lv_sub hl [0, 1] rfl) h
def mo_lookUps_107  (st : GS) (z1 : Int32) : Option (GS) := jc (f_mo_standing st z1) (fun q1 => some q1)
def mo_lookUps_68  (st : GS) (z1 : Int32) : Option (GS) := jc (f_mo_lookIn st z1) (fun q2 => some q2)
def f_mo_lookUps (st : GS) (p0 : Int32) : Option (GS) := jb (p0 = 90) (jb (p0 = 91) (mo_lookUps_68  st 1) (mo_lookUps_68  st 0)) (jb (p0 = 91) (jb (p0 = 91) (mo_lookUps_68  st 1) (mo_lookUps_68  st 0)) (jb (p0 = 92) (jc (f_mo_lookUp st) (fun q3 => some q3)) (jb (p0 = 93) (jc (f_mo_match st) (fun q4 => some q4)) (jb (p0 = 94) (jc (f_mo_index st) (fun q5 => some q5)) (jb (p0 = 95) (jb (p0 = 96) (mo_lookUps_107  st 1) (mo_lookUps_107  st 0)) (jb (p0 = 96) (jb (p0 = 96) (mo_lookUps_107  st 1) (mo_lookUps_107  st 0)) (jb (p0 = 97) (jc (f_mo_rowsOf st 0) (fun q6 => jc (f_mo_answerNumber st (FP.i2d q6)) (fun q7 => some q7))) (jb (p0 = 98) (jc (f_mo_columnsOf st 0) (fun q8 => jc (f_mo_answerNumber st (FP.i2d q8)) (fun q9 => some q9))) (jb (p0 = 99) (jc (f_mo_address st) (fun q10 => some q10)) (jc (f_mo_rowsOf st 0) (fun q11 => jc (f_mo_columnsOf st 0) (fun q12 => jc (f_mo_answerPart st 0 0 0 q11 q12 1) (fun q13 => some q13)))))))))))))
set_option maxHeartbeats 4000000 in
set_option maxRecDepth 100000 in
theorem c_mo_lookUps (l : Launch) (ρ : RH) (ad : Nat → Nat) (H : Heap) (st : GS) (p0 : Int32) (res : GS) (hW : GW ρ wM ad st H) (h : f_mo_lookUps st p0 = some res) : Met l y194 (wsOf y194 b194 2 none) ({ frames := 7, cells := 0, slots := 0, locals := 159 } : Room) (va_Pc [.ref (ad 0), .int p0] (KP ρ H)) (mQ (fun v H1 => v = none ∧ GW ρ wM ad res H1) (MA wM ad H.size)) 0 0 (MA wM ad H.size) := by
  refine m_ofW (own := "WordFunctionsModel") (plainFor_of_name rfl) rfl (Nat.le_of_ble_eq_true rfl) fun p e s m args below meth c ls hx hb hr hlk _ X hs hl => ?_
  subst hs
  have hS : va_S (MA wM ad s.heap.size) s.heap s.heap [] := va_S.rf
  have hl : lv_has ls 2 [(0, .ref (ad 0)), (1, .int p0)] := hl
  have kc107 : ∀ (st : GS) (z1 : Int32) (H : Heap) (locs : List Loc) (ls : Array Slot), GW ρ wM ad st H → va_S (MA wM ad s.heap.size) s.heap H locs → lv_has ls 2 [] → mo_lookUps_107 st z1 = some res → W p l e ({ frames := 7, cells := 0, slots := 0, locals := 159 } : Room) s m args below meth c H locs 0 0 (MQ below (mQ (fun v H1 => v = none ∧ GW ρ wM ad res H1) (MA wM ad s.heap.size)) args s 0 0 (MA wM ad s.heap.size)) (F0 m 107 ls [.int z1, .ref (ad 0)]) := by
    intro st z1 H locs ls hW hS hl h
    unfold mo_lookUps_107 at h
    obtain ⟨q1, hq1, h⟩ := jc_some h
    refine k_callV (pc := 107) (n := 1) X hS (c_mo_standing l ρ ad _ st z1 q1 hW hq1) wd1853 wd1850 wd1852 sl220 wd11 (by decide) ⟨rfl, rfl, by decide, by decide⟩ (m_recv X hW) (As := [.int z1]) (rest := []) rfl rfl hl.1 (Nat.le_of_ble_eq_true rfl) d194_107 ⟨by decide, by decide⟩ (fun q hq => MA.mono hS.1 hq) (fun v H1 locs1 hv _ _ hSq1 => ?_)
    obtain ⟨rfl, hW⟩ := hv
    have hS := hSq1
    refine lv_goto (pc := 110) (tgt := 164) hx hb d194_110 (by decide) ?_
    obtain rfl := Option.some.inj h
    exact m_vret (pc := 164) hx hb hr hlk hS ⟨rfl, hW⟩ (by decide) (by decide) d194_164
  have kc68 : ∀ (st : GS) (z1 : Int32) (H : Heap) (locs : List Loc) (ls : Array Slot), GW ρ wM ad st H → va_S (MA wM ad s.heap.size) s.heap H locs → lv_has ls 2 [] → mo_lookUps_68 st z1 = some res → W p l e ({ frames := 7, cells := 0, slots := 0, locals := 159 } : Room) s m args below meth c H locs 0 0 (MQ below (mQ (fun v H1 => v = none ∧ GW ρ wM ad res H1) (MA wM ad s.heap.size)) args s 0 0 (MA wM ad s.heap.size)) (F0 m 68 ls [.int z1, .ref (ad 0)]) := by
    intro st z1 H locs ls hW hS hl h
    unfold mo_lookUps_68 at h
    obtain ⟨q2, hq2, h⟩ := jc_some h
    refine k_callV (pc := 68) (n := 1) X hS (c_mo_lookIn l ρ ad _ st z1 q2 hW hq2) wd1813 wd1810 wd1812 sl192 wd11 (by decide) ⟨rfl, rfl, by decide, by decide⟩ (m_recv X hW) (As := [.int z1]) (rest := []) rfl rfl hl.1 (Nat.le_of_ble_eq_true rfl) d194_68 ⟨by decide, by decide⟩ (fun q hq => MA.mono hS.1 hq) (fun v H1 locs1 hv _ _ hSq2 => ?_)
    obtain ⟨rfl, hW⟩ := hv
    have hS := hSq2
    refine lv_goto (pc := 71) (tgt := 164) hx hb d194_71 (by decide) ?_
    obtain rfl := Option.some.inj h
    exact m_vret (pc := 164) hx hb hr hlk hS ⟨rfl, hW⟩ (by decide) (by decide) d194_164
  unfold f_mo_lookUps at h
  refine lv_iload_n (pc := 0) hx hb d194_0 rfl (lv_at hl 1 rfl) ?_
  by_cases c1_90 : p0 = 90
  · have h := jb_t c1_90 h
    refine lv_tableIn (pc := 1) (off := 55) (tgt := 56) hx hb d194_1 (by rw [c1_90]; decide) (by rw [c1_90]; decide) (by rw [c1_90]; rfl) (by decide) ?_
    refine lv_aload_n (pc := 56) hx hb d194_56 rfl (lv_at hl 0 rfl) ?_
    refine lv_iload_n (pc := 57) hx hb d194_57 rfl (lv_at hl 1 rfl) ?_
    refine lv_bipush (pc := 58) (v := 91) hx hb d194_58 (by decide) ?_
    refine lv_icmp_ne (pc := 60) (tgt := 67) hx hb d194_60 (by decide) (fun c60 => ?_) (fun c60 => ?_)
    · have h := jb_f c60 h
      refine lv_iconst (pc := 67) (v := 0) hx hb d194_67 (by decide) ?_
      exact kc68  st 0 _ _ _ hW hS (lv_sub hl [] rfl) h
    · have h := jb_t c60 h
      refine lv_iconst (pc := 63) (v := 1) hx hb d194_63 (by decide) ?_
      refine lv_goto (pc := 64) (tgt := 68) hx hb d194_64 (by decide) ?_
      exact kc68  st 1 _ _ _ hW hS (lv_sub hl [] rfl) h
  have h := jb_f c1_90 h
  by_cases c1_91 : p0 = 91
  · have h := jb_t c1_91 h
    refine lv_tableIn (pc := 1) (off := 55) (tgt := 56) hx hb d194_1 (by rw [c1_91]; decide) (by rw [c1_91]; decide) (by rw [c1_91]; rfl) (by decide) ?_
    refine lv_aload_n (pc := 56) hx hb d194_56 rfl (lv_at hl 0 rfl) ?_
    refine lv_iload_n (pc := 57) hx hb d194_57 rfl (lv_at hl 1 rfl) ?_
    refine lv_bipush (pc := 58) (v := 91) hx hb d194_58 (by decide) ?_
    refine lv_icmp_ne (pc := 60) (tgt := 67) hx hb d194_60 (by decide) (fun c60 => ?_) (fun c60 => ?_)
    · have h := jb_f c60 h
      refine lv_iconst (pc := 67) (v := 0) hx hb d194_67 (by decide) ?_
      exact kc68  st 0 _ _ _ hW hS (lv_sub hl [] rfl) h
    · have h := jb_t c60 h
      refine lv_iconst (pc := 63) (v := 1) hx hb d194_63 (by decide) ?_
      refine lv_goto (pc := 64) (tgt := 68) hx hb d194_64 (by decide) ?_
      exact kc68  st 1 _ _ _ hW hS (lv_sub hl [] rfl) h
  have h := jb_f c1_91 h
  by_cases c1_92 : p0 = 92
  · have h := jb_t c1_92 h
    refine lv_tableIn (pc := 1) (off := 73) (tgt := 74) hx hb d194_1 (by rw [c1_92]; decide) (by rw [c1_92]; decide) (by rw [c1_92]; rfl) (by decide) ?_
    refine lv_aload_n (pc := 74) hx hb d194_74 rfl (lv_at hl 0 rfl) ?_
    obtain ⟨q3, hq3, h⟩ := jc_some h
    refine k_callV (pc := 75) (n := 0) X hS (c_mo_lookUp l ρ ad _ st q3 hW hq3) wd1837 wd1834 wd1836 sl193 wd11 (by decide) ⟨rfl, rfl, by decide, by decide⟩ (m_recv X hW) (As := []) (rest := []) rfl rfl hl.1 (Nat.le_of_ble_eq_true rfl) d194_75 ⟨by decide, by decide⟩ (fun q hq => MA.mono hS.1 hq) (fun v H1 locs1 hv _ _ hSq3 => ?_)
    obtain ⟨rfl, hW⟩ := hv
    have hS := hSq3
    refine lv_goto (pc := 78) (tgt := 164) hx hb d194_78 (by decide) ?_
    obtain rfl := Option.some.inj h
    exact m_vret (pc := 164) hx hb hr hlk hS ⟨rfl, hW⟩ (by decide) (by decide) d194_164
  have h := jb_f c1_92 h
  by_cases c1_93 : p0 = 93
  · have h := jb_t c1_93 h
    refine lv_tableIn (pc := 1) (off := 80) (tgt := 81) hx hb d194_1 (by rw [c1_93]; decide) (by rw [c1_93]; decide) (by rw [c1_93]; rfl) (by decide) ?_
    refine lv_aload_n (pc := 81) hx hb d194_81 rfl (lv_at hl 0 rfl) ?_
    obtain ⟨q4, hq4, h⟩ := jc_some h
    refine k_callV (pc := 82) (n := 0) X hS (c_mo_match l ρ ad _ st q4 hW hq4) wd1841 wd1838 wd1840 sl198 wd11 (by decide) ⟨rfl, rfl, by decide, by decide⟩ (m_recv X hW) (As := []) (rest := []) rfl rfl hl.1 (Nat.le_of_ble_eq_true rfl) d194_82 ⟨by decide, by decide⟩ (fun q hq => MA.mono hS.1 hq) (fun v H1 locs1 hv _ _ hSq4 => ?_)
    obtain ⟨rfl, hW⟩ := hv
    have hS := hSq4
    refine lv_goto (pc := 85) (tgt := 164) hx hb d194_85 (by decide) ?_
    obtain rfl := Option.some.inj h
    exact m_vret (pc := 164) hx hb hr hlk hS ⟨rfl, hW⟩ (by decide) (by decide) d194_164
  have h := jb_f c1_93 h
  by_cases c1_94 : p0 = 94
  · have h := jb_t c1_94 h
    refine lv_tableIn (pc := 1) (off := 87) (tgt := 88) hx hb d194_1 (by rw [c1_94]; decide) (by rw [c1_94]; decide) (by rw [c1_94]; rfl) (by decide) ?_
    refine lv_aload_n (pc := 88) hx hb d194_88 rfl (lv_at hl 0 rfl) ?_
    obtain ⟨q5, hq5, h⟩ := jc_some h
    refine k_callV (pc := 89) (n := 0) X hS (c_mo_index l ρ ad _ st q5 hW hq5) wd1845 wd1842 wd1844 sl177 wd11 (by decide) ⟨rfl, rfl, by decide, by decide⟩ (m_recv X hW) (As := []) (rest := []) rfl rfl hl.1 (Nat.le_of_ble_eq_true rfl) d194_89 ⟨by decide, by decide⟩ (fun q hq => MA.mono hS.1 hq) (fun v H1 locs1 hv _ _ hSq5 => ?_)
    obtain ⟨rfl, hW⟩ := hv
    have hS := hSq5
    refine lv_goto (pc := 92) (tgt := 164) hx hb d194_92 (by decide) ?_
    obtain rfl := Option.some.inj h
    exact m_vret (pc := 164) hx hb hr hlk hS ⟨rfl, hW⟩ (by decide) (by decide) d194_164
  have h := jb_f c1_94 h
  by_cases c1_95 : p0 = 95
  · have h := jb_t c1_95 h
    refine lv_tableIn (pc := 1) (off := 94) (tgt := 95) hx hb d194_1 (by rw [c1_95]; decide) (by rw [c1_95]; decide) (by rw [c1_95]; rfl) (by decide) ?_
    refine lv_aload_n (pc := 95) hx hb d194_95 rfl (lv_at hl 0 rfl) ?_
    refine lv_iload_n (pc := 96) hx hb d194_96 rfl (lv_at hl 1 rfl) ?_
    refine lv_bipush (pc := 97) (v := 96) hx hb d194_97 (by decide) ?_
    refine lv_icmp_ne (pc := 99) (tgt := 106) hx hb d194_99 (by decide) (fun c99 => ?_) (fun c99 => ?_)
    · have h := jb_f c99 h
      refine lv_iconst (pc := 106) (v := 0) hx hb d194_106 (by decide) ?_
      exact kc107  st 0 _ _ _ hW hS (lv_sub hl [] rfl) h
    · have h := jb_t c99 h
      refine lv_iconst (pc := 102) (v := 1) hx hb d194_102 (by decide) ?_
      refine lv_goto (pc := 103) (tgt := 107) hx hb d194_103 (by decide) ?_
      exact kc107  st 1 _ _ _ hW hS (lv_sub hl [] rfl) h
  have h := jb_f c1_95 h
  by_cases c1_96 : p0 = 96
  · have h := jb_t c1_96 h
    refine lv_tableIn (pc := 1) (off := 94) (tgt := 95) hx hb d194_1 (by rw [c1_96]; decide) (by rw [c1_96]; decide) (by rw [c1_96]; rfl) (by decide) ?_
    refine lv_aload_n (pc := 95) hx hb d194_95 rfl (lv_at hl 0 rfl) ?_
    refine lv_iload_n (pc := 96) hx hb d194_96 rfl (lv_at hl 1 rfl) ?_
    refine lv_bipush (pc := 97) (v := 96) hx hb d194_97 (by decide) ?_
    refine lv_icmp_ne (pc := 99) (tgt := 106) hx hb d194_99 (by decide) (fun c99 => ?_) (fun c99 => ?_)
    · have h := jb_f c99 h
      refine lv_iconst (pc := 106) (v := 0) hx hb d194_106 (by decide) ?_
      exact kc107  st 0 _ _ _ hW hS (lv_sub hl [] rfl) h
    · have h := jb_t c99 h
      refine lv_iconst (pc := 102) (v := 1) hx hb d194_102 (by decide) ?_
      refine lv_goto (pc := 103) (tgt := 107) hx hb d194_103 (by decide) ?_
      exact kc107  st 1 _ _ _ hW hS (lv_sub hl [] rfl) h
  have h := jb_f c1_96 h
  by_cases c1_97 : p0 = 97
  · have h := jb_t c1_97 h
    refine lv_tableIn (pc := 1) (off := 112) (tgt := 113) hx hb d194_1 (by rw [c1_97]; decide) (by rw [c1_97]; decide) (by rw [c1_97]; rfl) (by decide) ?_
    refine lv_aload_n (pc := 113) hx hb d194_113 rfl (lv_at hl 0 rfl) ?_
    refine lv_aload_n (pc := 114) hx hb d194_114 rfl (lv_at hl 0 rfl) ?_
    refine lv_iconst (pc := 115) (v := 0) hx hb d194_115 (by decide) ?_
    obtain ⟨q6, hq6, h⟩ := jc_some h
    refine k_callV (pc := 116) (n := 1) X hS (c_mo_rowsOf l ρ ad _ st 0 q6 hW hq6) wd1772 wd1769 wd1771 sl215 wd11 (by decide) ⟨rfl, rfl, by decide, by decide⟩ (m_recv X hW) (As := [.int 0]) (rest := [.ref (ad 0)]) rfl rfl hl.1 (Nat.le_of_ble_eq_true rfl) d194_116 ⟨by decide, by decide⟩ (fun q hq => False.elim hq) (fun v H1 locs1 hv _ _ hSq6 => ?_)
    obtain ⟨rfl, rfl⟩ := hv
    have hS := hSq6
    refine lv_i2d (pc := 119) hx hb d194_119 ?_
    obtain ⟨q7, hq7, h⟩ := jc_some h
    refine k_callV (pc := 120) (n := 1) X hS (c_mo_answerNumber l ρ ad _ st (FP.i2d q6) q7 hW hq7) wd1651 wd1648 wd1650 sl142 wd11 (by decide) ⟨rfl, rfl, by decide, by decide⟩ (m_recv X hW) (As := [.double (FP.i2d q6)]) (rest := []) rfl rfl hl.1 (Nat.le_of_ble_eq_true rfl) d194_120 ⟨by decide, by decide⟩ (fun q hq => MA.mono hS.1 hq) (fun v H1 locs1 hv _ _ hSq7 => ?_)
    obtain ⟨rfl, hW⟩ := hv
    have hS := hSq7
    refine lv_goto (pc := 123) (tgt := 164) hx hb d194_123 (by decide) ?_
    obtain rfl := Option.some.inj h
    exact m_vret (pc := 164) hx hb hr hlk hS ⟨rfl, hW⟩ (by decide) (by decide) d194_164
  have h := jb_f c1_97 h
  by_cases c1_98 : p0 = 98
  · have h := jb_t c1_98 h
    refine lv_tableIn (pc := 1) (off := 125) (tgt := 126) hx hb d194_1 (by rw [c1_98]; decide) (by rw [c1_98]; decide) (by rw [c1_98]; rfl) (by decide) ?_
    refine lv_aload_n (pc := 126) hx hb d194_126 rfl (lv_at hl 0 rfl) ?_
    refine lv_aload_n (pc := 127) hx hb d194_127 rfl (lv_at hl 0 rfl) ?_
    refine lv_iconst (pc := 128) (v := 0) hx hb d194_128 (by decide) ?_
    obtain ⟨q8, hq8, h⟩ := jc_some h
    refine k_callV (pc := 129) (n := 1) X hS (c_mo_columnsOf l ρ ad _ st 0 q8 hW hq8) wd1776 wd1773 wd1775 sl154 wd11 (by decide) ⟨rfl, rfl, by decide, by decide⟩ (m_recv X hW) (As := [.int 0]) (rest := [.ref (ad 0)]) rfl rfl hl.1 (Nat.le_of_ble_eq_true rfl) d194_129 ⟨by decide, by decide⟩ (fun q hq => False.elim hq) (fun v H1 locs1 hv _ _ hSq8 => ?_)
    obtain ⟨rfl, rfl⟩ := hv
    have hS := hSq8
    refine lv_i2d (pc := 132) hx hb d194_132 ?_
    obtain ⟨q9, hq9, h⟩ := jc_some h
    refine k_callV (pc := 133) (n := 1) X hS (c_mo_answerNumber l ρ ad _ st (FP.i2d q8) q9 hW hq9) wd1651 wd1648 wd1650 sl142 wd11 (by decide) ⟨rfl, rfl, by decide, by decide⟩ (m_recv X hW) (As := [.double (FP.i2d q8)]) (rest := []) rfl rfl hl.1 (Nat.le_of_ble_eq_true rfl) d194_133 ⟨by decide, by decide⟩ (fun q hq => MA.mono hS.1 hq) (fun v H1 locs1 hv _ _ hSq9 => ?_)
    obtain ⟨rfl, hW⟩ := hv
    have hS := hSq9
    refine lv_goto (pc := 136) (tgt := 164) hx hb d194_136 (by decide) ?_
    obtain rfl := Option.some.inj h
    exact m_vret (pc := 164) hx hb hr hlk hS ⟨rfl, hW⟩ (by decide) (by decide) d194_164
  have h := jb_f c1_98 h
  by_cases c1_99 : p0 = 99
  · have h := jb_t c1_99 h
    refine lv_tableIn (pc := 1) (off := 138) (tgt := 139) hx hb d194_1 (by rw [c1_99]; decide) (by rw [c1_99]; decide) (by rw [c1_99]; rfl) (by decide) ?_
    refine lv_aload_n (pc := 139) hx hb d194_139 rfl (lv_at hl 0 rfl) ?_
    obtain ⟨q10, hq10, h⟩ := jc_some h
    refine k_callV (pc := 140) (n := 0) X hS (c_mo_address l ρ ad _ st q10 hW hq10) wd1857 wd1854 wd1856 sl140 wd11 (by decide) ⟨rfl, rfl, by decide, by decide⟩ (m_recv X hW) (As := []) (rest := []) rfl rfl hl.1 (Nat.le_of_ble_eq_true rfl) d194_140 ⟨by decide, by decide⟩ (fun q hq => MA.mono hS.1 hq) (fun v H1 locs1 hv _ _ hSq10 => ?_)
    obtain ⟨rfl, hW⟩ := hv
    have hS := hSq10
    refine lv_goto (pc := 143) (tgt := 164) hx hb d194_143 (by decide) ?_
    obtain rfl := Option.some.inj h
    exact m_vret (pc := 164) hx hb hr hlk hS ⟨rfl, hW⟩ (by decide) (by decide) d194_164
  have h := jb_f c1_99 h
  refine lv_tableOut (pc := 1) (tgt := 146) hx hb d194_1 (sw_out 10 (by decide) (by
    intro i hi
    match i, hi with
    | 0, _ => exact fun z => c1_90 (Int32.toInt_inj.mp (by rw [z]; decide))
    | 1, _ => exact fun z => c1_91 (Int32.toInt_inj.mp (by rw [z]; decide))
    | 2, _ => exact fun z => c1_92 (Int32.toInt_inj.mp (by rw [z]; decide))
    | 3, _ => exact fun z => c1_93 (Int32.toInt_inj.mp (by rw [z]; decide))
    | 4, _ => exact fun z => c1_94 (Int32.toInt_inj.mp (by rw [z]; decide))
    | 5, _ => exact fun z => c1_95 (Int32.toInt_inj.mp (by rw [z]; decide))
    | 6, _ => exact fun z => c1_96 (Int32.toInt_inj.mp (by rw [z]; decide))
    | 7, _ => exact fun z => c1_97 (Int32.toInt_inj.mp (by rw [z]; decide))
    | 8, _ => exact fun z => c1_98 (Int32.toInt_inj.mp (by rw [z]; decide))
    | 9, _ => exact fun z => c1_99 (Int32.toInt_inj.mp (by rw [z]; decide))
    | i + 10, q => exact absurd q (by omega))) (by decide) ?_
  refine lv_aload_n (pc := 146) hx hb d194_146 rfl (lv_at hl 0 rfl) ?_
  refine lv_iconst (pc := 147) (v := 0) hx hb d194_147 (by decide) ?_
  refine lv_iconst (pc := 148) (v := 0) hx hb d194_148 (by decide) ?_
  refine lv_iconst (pc := 149) (v := 0) hx hb d194_149 (by decide) ?_
  refine lv_aload_n (pc := 150) hx hb d194_150 rfl (lv_at hl 0 rfl) ?_
  refine lv_iconst (pc := 151) (v := 0) hx hb d194_151 (by decide) ?_
  obtain ⟨q11, hq11, h⟩ := jc_some h
  refine k_callV (pc := 152) (n := 1) X hS (c_mo_rowsOf l ρ ad _ st 0 q11 hW hq11) wd1772 wd1769 wd1771 sl215 wd11 (by decide) ⟨rfl, rfl, by decide, by decide⟩ (m_recv X hW) (As := [.int 0]) (rest := [.int 0, .int 0, .int 0, .ref (ad 0)]) rfl rfl hl.1 (Nat.le_of_ble_eq_true rfl) d194_152 ⟨by decide, by decide⟩ (fun q hq => False.elim hq) (fun v H1 locs1 hv _ _ hSq11 => ?_)
  obtain ⟨rfl, rfl⟩ := hv
  have hS := hSq11
  refine lv_aload_n (pc := 155) hx hb d194_155 rfl (lv_at hl 0 rfl) ?_
  refine lv_iconst (pc := 156) (v := 0) hx hb d194_156 (by decide) ?_
  obtain ⟨q12, hq12, h⟩ := jc_some h
  refine k_callV (pc := 157) (n := 1) X hS (c_mo_columnsOf l ρ ad _ st 0 q12 hW hq12) wd1776 wd1773 wd1775 sl154 wd11 (by decide) ⟨rfl, rfl, by decide, by decide⟩ (m_recv X hW) (As := [.int 0]) (rest := [.int q11, .int 0, .int 0, .int 0, .ref (ad 0)]) rfl rfl hl.1 (Nat.le_of_ble_eq_true rfl) d194_157 ⟨by decide, by decide⟩ (fun q hq => False.elim hq) (fun v H1 locs1 hv _ _ hSq12 => ?_)
  obtain ⟨rfl, rfl⟩ := hv
  have hS := hSq12
  refine lv_iconst (pc := 160) (v := 1) hx hb d194_160 (by decide) ?_
  obtain ⟨q13, hq13, h⟩ := jc_some h
  refine k_callV (pc := 161) (n := 6) X hS (c_mo_answerPart l ρ ad _ st 0 0 0 q11 q12 1 q13 hW hq13) wd1849 wd1846 wd1848 sl143 wd11 (by decide) ⟨rfl, rfl, by decide, by decide⟩ (m_recv X hW) (As := [.int 0, .int 0, .int 0, .int q11, .int q12, .int 1]) (rest := []) rfl rfl hl.1 (Nat.le_of_ble_eq_true rfl) d194_161 ⟨by decide, by decide⟩ (fun q hq => MA.mono hS.1 hq) (fun v H1 locs1 hv _ _ hSq13 => ?_)
  obtain ⟨rfl, hW⟩ := hv
  have hS := hSq13
  obtain rfl := Option.some.inj h
  exact m_vret (pc := 164) hx hb hr hlk hS ⟨rfl, hW⟩ (by decide) (by decide) d194_164
def mo_isLeap_21    : Option (Int32) := some 1
def f_mo_isLeap  (p0 : Int32) : Option (Int32) := jb ((p0 - p0 / 4 * 4) = 0) (jb ((p0 - p0 / 100 * 100) = 0) (jb ((p0 - p0 / 400 * 400) = 0) (mo_isLeap_21  ) (some 0)) (mo_isLeap_21  )) (some 0)
set_option maxHeartbeats 4000000 in
set_option maxRecDepth 100000 in
theorem c_mo_isLeap (l : Launch) (ρ : RH) (H : Heap) (p0 : Int32) (res : Int32) (h : f_mo_isLeap p0 = some res) : Met l y182 (wsOf y182 b182 1 (some .boolean)) ({ frames := 0, cells := 0, slots := 0, locals := 0 } : Room) (va_Pc [.int p0] (KP ρ H)) (mQ (fun v H1 => v = some (.int res) ∧ H1 = H) (fun _ => False)) 0 0 (fun _ => False) := by
  refine m_ofW (own := "WordFunctionsModel") (plainFor_of_name rfl) rfl (Nat.le_of_ble_eq_true rfl) fun p e s m args below meth c ls hx hb hr hlk _ X hs hl => ?_
  subst hs
  have hS : va_S (fun _ => False) s.heap s.heap [] := va_S.rf
  have hl : lv_has ls 1 [(0, .int p0)] := hl
  have kc21 : ∀  (locs : List Loc) (ls : Array Slot), va_S (fun _ => False) s.heap s.heap locs → lv_has ls 1 [] → mo_isLeap_21  = some res → W p l e ({ frames := 0, cells := 0, slots := 0, locals := 0 } : Room) s m args below meth c s.heap locs 0 0 (MQ below (mQ (fun v H1 => v = some (.int res) ∧ H1 = s.heap) (fun _ => False)) args s 0 0 (fun _ => False)) (F0 m 21 ls []) := by
    intro  locs ls hS hl h
    unfold mo_isLeap_21 at h
    refine lv_iconst (pc := 21) (v := 1) hx hb d182_21 (by decide) ?_
    refine lv_goto (pc := 22) (tgt := 26) hx hb d182_22 (by decide) ?_
    obtain rfl := Option.some.inj h
    exact m_zret (pc := 26) hx hb hr hlk hS ⟨rfl, rfl⟩ (by decide) (by decide) d182_26 (by decide)
  unfold f_mo_isLeap at h
  refine lv_iload_n (pc := 0) hx hb d182_0 rfl (lv_at hl 0 rfl) ?_
  refine lv_iconst (pc := 1) (v := 4) hx hb d182_1 (by decide) ?_
  refine lv_irem (pc := 2) hx hb d182_2 (by decide) ?_
  refine lv_if_ne (pc := 3) (tgt := 25) hx hb d182_3 (by decide) (fun c3 => ?_) (fun c3 => ?_)
  · have h := jb_f c3 h
    refine lv_iconst (pc := 25) (v := 0) hx hb d182_25 (by decide) ?_
    obtain rfl := Option.some.inj h
    exact m_zret (pc := 26) hx hb hr hlk hS ⟨rfl, rfl⟩ (by decide) (by decide) d182_26 (by decide)
  · have h := jb_t c3 h
    refine lv_iload_n (pc := 6) hx hb d182_6 rfl (lv_at hl 0 rfl) ?_
    refine lv_bipush (pc := 7) (v := 100) hx hb d182_7 (by decide) ?_
    refine lv_irem (pc := 9) hx hb d182_9 (by decide) ?_
    refine lv_if_ne (pc := 10) (tgt := 21) hx hb d182_10 (by decide) (fun c10 => ?_) (fun c10 => ?_)
    · have h := jb_f c10 h
      exact kc21   _ _ hS (lv_sub hl [] rfl) h
    · have h := jb_t c10 h
      refine lv_iload_n (pc := 13) hx hb d182_13 rfl (lv_at hl 0 rfl) ?_
      refine lv_sipush (pc := 14) (v := 400) hx hb d182_14 (by decide) ?_
      refine lv_irem (pc := 17) hx hb d182_17 (by decide) ?_
      refine lv_if_ne (pc := 18) (tgt := 25) hx hb d182_18 (by decide) (fun c18 => ?_) (fun c18 => ?_)
      · have h := jb_f c18 h
        refine lv_iconst (pc := 25) (v := 0) hx hb d182_25 (by decide) ?_
        obtain rfl := Option.some.inj h
        exact m_zret (pc := 26) hx hb hr hlk hS ⟨rfl, rfl⟩ (by decide) (by decide) d182_26 (by decide)
      · have h := jb_t c18 h
        exact kc21   _ _ hS (lv_sub hl [] rfl) h
def mo_daysOf_45    : Option (Int32) := some 30
def f_mo_daysOf  (p0 : Int32) (p1 : Int32) : Option (Int32) := jb (p1 = 2) (jc (f_mo_isLeap p0) (fun q1 => jb (q1 = 0) (some 28) (some 29))) (jb (p1 = 4) (mo_daysOf_45  ) (jb (p1 = 6) (mo_daysOf_45  ) (jb (p1 = 9) (mo_daysOf_45  ) (jb (p1 = 11) (mo_daysOf_45  ) (some 31)))))
set_option maxHeartbeats 4000000 in
set_option maxRecDepth 100000 in
theorem c_mo_daysOf (l : Launch) (ρ : RH) (H : Heap) (p0 : Int32) (p1 : Int32) (res : Int32) (h : f_mo_daysOf p0 p1 = some res) : Met l y163 (wsOf y163 b163 2 (some .int)) ({ frames := 1, cells := 0, slots := 0, locals := 20 } : Room) (va_Pc [.int p0, .int p1] (KP ρ H)) (mQ (fun v H1 => v = some (.int res) ∧ H1 = H) (fun _ => False)) 0 0 (fun _ => False) := by
  refine m_ofW (own := "WordFunctionsModel") (plainFor_of_name rfl) rfl (Nat.le_of_ble_eq_true rfl) fun p e s m args below meth c ls hx hb hr hlk _ X hs hl => ?_
  subst hs
  have hS : va_S (fun _ => False) s.heap s.heap [] := va_S.rf
  have hl : lv_has ls 2 [(0, .int p0), (1, .int p1)] := hl
  have kc45 : ∀  (locs : List Loc) (ls : Array Slot), va_S (fun _ => False) s.heap s.heap locs → lv_has ls 2 [] → mo_daysOf_45  = some res → W p l e ({ frames := 1, cells := 0, slots := 0, locals := 20 } : Room) s m args below meth c s.heap locs 0 0 (MQ below (mQ (fun v H1 => v = some (.int res) ∧ H1 = s.heap) (fun _ => False)) args s 0 0 (fun _ => False)) (F0 m 45 ls []) := by
    intro  locs ls hS hl h
    unfold mo_daysOf_45 at h
    refine lv_bipush (pc := 45) (v := 30) hx hb d163_45 (by decide) ?_
    refine lv_goto (pc := 47) (tgt := 52) hx hb d163_47 (by decide) ?_
    obtain rfl := Option.some.inj h
    exact m_iret (pc := 52) hx hb hr hlk hS ⟨rfl, rfl⟩ (by decide) (by decide) d163_52
  unfold f_mo_daysOf at h
  refine lv_iload_n (pc := 0) hx hb d163_0 rfl (lv_at hl 1 rfl) ?_
  refine lv_iconst (pc := 1) (v := 2) hx hb d163_1 (by decide) ?_
  refine lv_icmp_ne (pc := 2) (tgt := 22) hx hb d163_2 (by decide) (fun c2 => ?_) (fun c2 => ?_)
  · have h := jb_f c2 h
    refine lv_iload_n (pc := 22) hx hb d163_22 rfl (lv_at hl 1 rfl) ?_
    refine lv_iconst (pc := 23) (v := 4) hx hb d163_23 (by decide) ?_
    refine lv_icmp_eq (pc := 24) (tgt := 45) hx hb d163_24 (by decide) (fun c24 => ?_) (fun c24 => ?_)
    · have h := jb_t c24 h
      exact kc45   _ _ hS (lv_sub hl [] rfl) h
    · have h := jb_f c24 h
      refine lv_iload_n (pc := 27) hx hb d163_27 rfl (lv_at hl 1 rfl) ?_
      refine lv_bipush (pc := 28) (v := 6) hx hb d163_28 (by decide) ?_
      refine lv_icmp_eq (pc := 30) (tgt := 45) hx hb d163_30 (by decide) (fun c30 => ?_) (fun c30 => ?_)
      · have h := jb_t c30 h
        exact kc45   _ _ hS (lv_sub hl [] rfl) h
      · have h := jb_f c30 h
        refine lv_iload_n (pc := 33) hx hb d163_33 rfl (lv_at hl 1 rfl) ?_
        refine lv_bipush (pc := 34) (v := 9) hx hb d163_34 (by decide) ?_
        refine lv_icmp_eq (pc := 36) (tgt := 45) hx hb d163_36 (by decide) (fun c36 => ?_) (fun c36 => ?_)
        · have h := jb_t c36 h
          exact kc45   _ _ hS (lv_sub hl [] rfl) h
        · have h := jb_f c36 h
          refine lv_iload_n (pc := 39) hx hb d163_39 rfl (lv_at hl 1 rfl) ?_
          refine lv_bipush (pc := 40) (v := 11) hx hb d163_40 (by decide) ?_
          refine lv_icmp_ne (pc := 42) (tgt := 50) hx hb d163_42 (by decide) (fun c42 => ?_) (fun c42 => ?_)
          · have h := jb_f c42 h
            refine lv_bipush (pc := 50) (v := 31) hx hb d163_50 (by decide) ?_
            obtain rfl := Option.some.inj h
            exact m_iret (pc := 52) hx hb hr hlk hS ⟨rfl, rfl⟩ (by decide) (by decide) d163_52
          · have h := jb_t c42 h
            exact kc45   _ _ hS (lv_sub hl [] rfl) h
  · have h := jb_t c2 h
    refine lv_iload_n (pc := 5) hx hb d163_5 rfl (lv_at hl 0 rfl) ?_
    obtain ⟨q1, hq1, h⟩ := jc_some h
    refine k_callS (pc := 6) (n := 1) X hS (c_mo_isLeap l ρ _ p0 q1 hq1) wd1888 wd1886 wd1887 wd11 (by decide) ⟨rfl, rfl, by decide, by decide⟩ (As := [.int p0]) (rest := []) rfl rfl hl.1 (Nat.le_of_ble_eq_true rfl) d163_6 ⟨by decide, by decide⟩ (fun q hq => False.elim hq) (fun v H1 locs1 hv _ _ hSq1 => ?_)
    obtain ⟨rfl, rfl⟩ := hv
    have hS := hSq1
    refine lv_if_eq (pc := 9) (tgt := 17) hx hb d163_9 (by decide) (fun c9 => ?_) (fun c9 => ?_)
    · have h := jb_t c9 h
      refine lv_bipush (pc := 17) (v := 28) hx hb d163_17 (by decide) ?_
      refine lv_goto (pc := 19) (tgt := 52) hx hb d163_19 (by decide) ?_
      obtain rfl := Option.some.inj h
      exact m_iret (pc := 52) hx hb hr hlk hS ⟨rfl, rfl⟩ (by decide) (by decide) d163_52
    · have h := jb_f c9 h
      refine lv_bipush (pc := 12) (v := 29) hx hb d163_12 (by decide) ?_
      refine lv_goto (pc := 14) (tgt := 52) hx hb d163_14 (by decide) ?_
      obtain rfl := Option.some.inj h
      exact m_iret (pc := 52) hx hb hr hlk hS ⟨rfl, rfl⟩ (by decide) (by decide) d163_52
def mo_monthFirst_80  : Nat → Int32 → Int64 → Int32 → Option (Int64)
  | 0, _, _, _ => none
  | fu + 1, x4, x5, x7 => jb ((x4 - x4 / 12 * 12) < x7) (some (x5 - (693959 : Int64))) (jc (f_mo_daysOf (x4 / 12) x7) (fun q1 => jn (x5 + q1.toInt64) (fun v2 => jn (x7 + 1) (fun v3 => mo_monthFirst_80 fu x4 v2 v3))))
def mo_monthFirst_68 (K39 : Int32 → Int64 → Int32 → Option (Int64))  (x4 : Int32) (x7 : Int32) (z0 : Int64) (z1 : Int64) : Option (Int64) := jn (z0 + z1) (fun v4 => jn (x7 + 1) (fun v5 => K39 x4 v4 v5))
def mo_monthFirst_39  : Nat → Int32 → Int64 → Int32 → Option (Int64)
  | 0, _, _, _ => none
  | fu + 1, x4, x5, x7 => jb ((x4 / 12) ≤ x7) (mo_monthFirst_80 FU x4 x5 1) (jc (f_mo_isLeap x7) (fun q6 => jb (q6 = 0) (mo_monthFirst_68 (mo_monthFirst_39 fu)  x4 x7 x5 (365 : Int64)) (mo_monthFirst_68 (mo_monthFirst_39 fu)  x4 x7 x5 (366 : Int64))))
def mo_monthFirst_29   (x2 : Int64) (x4 : Int32) : Option (Int64) := jn ((146097 : Int64) * x2) (fun v7 => mo_monthFirst_39 FU x4 v7 0)
def f_mo_monthFirst  (p0 : Int64) : Option (Int64) := jn (p0 / (4800 : Int64)) (fun v8 => jn ((p0 - p0 / (4800 : Int64) * (4800 : Int64)).toInt32) (fun v9 => jb (0 ≤ v9) (mo_monthFirst_29  v8 v9) (jn (v9 + 4800) (fun v10 => jn (v8 - 1) (fun v11 => mo_monthFirst_29  v11 v10)))))
set_option maxHeartbeats 4000000 in
set_option maxRecDepth 100000 in
theorem c_mo_monthFirst (l : Launch) (ρ : RH) (H : Heap) (p0 : Int64) (res : Int64) (h : f_mo_monthFirst p0 = some res) : Met l y201 (wsOf y201 b201 8 (some .long)) ({ frames := 2, cells := 0, slots := 0, locals := 41 } : Room) (va_Pc [.long p0] (KP ρ H)) (mQ (fun v H1 => v = some (.long res) ∧ H1 = H) (fun _ => False)) 0 0 (fun _ => False) := by
  refine m_ofW (own := "WordFunctionsModel") (plainFor_of_name rfl) rfl (Nat.le_of_ble_eq_true rfl) fun p e s m args below meth c ls hx hb hr hlk _ X hs hl => ?_
  subst hs
  have hS : va_S (fun _ => False) s.heap s.heap [] := va_S.rf
  have hl : lv_has ls 8 [(0, .long p0)] := hl
  have kc80 : ∀ (fu : Nat), ∀ (x4 : Int32) (x5 : Int64) (x7 : Int32) (locs : List Loc) (ls : Array Slot), va_S (fun _ => False) s.heap s.heap locs → lv_has ls 8 [(4, .int x4), (5, .long x5), (7, .int x7)] → mo_monthFirst_80 fu x4 x5 x7 = some res → W p l e ({ frames := 2, cells := 0, slots := 0, locals := 41 } : Room) s m args below meth c s.heap locs 0 0 (MQ below (mQ (fun v H1 => v = some (.long res) ∧ H1 = s.heap) (fun _ => False)) args s 0 0 (fun _ => False)) (F0 m 80 ls []) := by
    intro  fu
    induction fu with
    | zero => intro x4 x5 x7 locs ls hS hl h; cases h
    | succ fu hK80 =>
      intro x4 x5 x7 locs ls hS hl h
      unfold mo_monthFirst_80 at h
      refine lv_iload (pc := 80) hx hb d201_80 (lv_at hl 2 rfl) ?_
      refine lv_iload (pc := 82) hx hb d201_82 (lv_at hl 0 rfl) ?_
      refine lv_bipush (pc := 84) (v := 12) hx hb d201_84 (by decide) ?_
      refine lv_irem (pc := 86) hx hb d201_86 (by decide) ?_
      refine lv_icmp_gt (pc := 87) (tgt := 112) hx hb d201_87 (by decide) (fun c87 => ?_) (fun c87 => ?_)
      · have h := jb_t c87 h
        refine lv_lload (pc := 112) hx hb d201_112 (lv_at hl 1 rfl) ?_
        refine lv_ldc2 (pc := 114) hx hb X.1.2.2.2.1 (X.ts wd1894) d201_114 ?_
        refine lv_lsub (pc := 117) hx hb d201_117 ?_
        obtain rfl := Option.some.inj h
        exact m_lret (pc := 118) hx hb hr hlk hS ⟨rfl, rfl⟩ (by decide) (by decide) d201_118
      · have h := jb_f c87 h
        refine lv_lload (pc := 90) hx hb d201_90 (lv_at hl 1 rfl) ?_
        refine lv_iload (pc := 92) hx hb d201_92 (lv_at hl 0 rfl) ?_
        refine lv_bipush (pc := 94) (v := 12) hx hb d201_94 (by decide) ?_
        refine lv_idiv (pc := 96) hx hb d201_96 (by decide) ?_
        refine lv_iload (pc := 97) hx hb d201_97 (lv_at hl 2 rfl) ?_
        obtain ⟨q1, hq1, h⟩ := jc_some h
        refine k_callS (pc := 99) (n := 2) X hS (c_mo_daysOf l ρ _ (x4 / 12) x7 q1 hq1) wd1893 wd1891 wd1892 wd11 (by decide) ⟨rfl, rfl, by decide, by decide⟩ (As := [.int (x4 / 12), .int x7]) (rest := [.long x5]) rfl rfl hl.1 (Nat.le_of_ble_eq_true rfl) d201_99 ⟨by decide, by decide⟩ (fun q hq => False.elim hq) (fun v H1 locs1 hv _ _ hSq1 => ?_)
        obtain ⟨rfl, rfl⟩ := hv
        have hS := hSq1
        refine lv_i2l (pc := 102) hx hb d201_102 rfl ?_
        refine lv_ladd (pc := 103) hx hb d201_103 ?_
        obtain ⟨v2, ev2, h⟩ := jn_ex h
        refine nm_l ev2 ?_
        refine lv_lstore (pc := 104) (lv' := [(5, .long v2), (4, .int x4), (7, .int x7)]) hx hb d201_104 hl (by decide) rfl (fun ls hl => ?_)
        obtain ⟨v3, ev3, h⟩ := jn_ex h
        refine lv_iinc (pc := 106) (v := v3) (lv' := [(7, .int v3), (5, .long v2), (4, .int x4)]) hx hb d201_106 hl (k := 2) rfl (by rw [ev3]; rfl) (by decide) rfl (fun ls hl => ?_)
        refine lv_goto (pc := 109) (tgt := 80) hx hb d201_109 (by decide) ?_
        exact hK80 x4 v2 v3 _ _ hS (lv_sub hl [2, 1, 0] rfl) h
  have kc68 : ∀ (K39 : Int32 → Int64 → Int32 → Option (Int64)) (hK39 : ∀ (x4 : Int32) (x5 : Int64) (x7 : Int32) (locs : List Loc) (ls : Array Slot), va_S (fun _ => False) s.heap s.heap locs → lv_has ls 8 [(4, .int x4), (5, .long x5), (7, .int x7)] → K39 x4 x5 x7 = some res → W p l e ({ frames := 2, cells := 0, slots := 0, locals := 41 } : Room) s m args below meth c s.heap locs 0 0 (MQ below (mQ (fun v H1 => v = some (.long res) ∧ H1 = s.heap) (fun _ => False)) args s 0 0 (fun _ => False)) (F0 m 39 ls [])), ∀ (x4 : Int32) (x7 : Int32) (z0 : Int64) (z1 : Int64) (locs : List Loc) (ls : Array Slot), va_S (fun _ => False) s.heap s.heap locs → lv_has ls 8 [(4, .int x4), (7, .int x7)] → mo_monthFirst_68 K39 x4 x7 z0 z1 = some res → W p l e ({ frames := 2, cells := 0, slots := 0, locals := 41 } : Room) s m args below meth c s.heap locs 0 0 (MQ below (mQ (fun v H1 => v = some (.long res) ∧ H1 = s.heap) (fun _ => False)) args s 0 0 (fun _ => False)) (F0 m 68 ls [.long z1, .long z0]) := by
    intro K39 hK39
    intro x4 x7 z0 z1 locs ls hS hl h
    unfold mo_monthFirst_68 at h
    refine lv_ladd (pc := 68) hx hb d201_68 ?_
    obtain ⟨v4, ev4, h⟩ := jn_ex h
    refine nm_l ev4 ?_
    refine lv_lstore (pc := 69) (lv' := [(5, .long v4), (4, .int x4), (7, .int x7)]) hx hb d201_69 hl (by decide) rfl (fun ls hl => ?_)
    obtain ⟨v5, ev5, h⟩ := jn_ex h
    refine lv_iinc (pc := 71) (v := v5) (lv' := [(7, .int v5), (5, .long v4), (4, .int x4)]) hx hb d201_71 hl (k := 2) rfl (by rw [ev5]; rfl) (by decide) rfl (fun ls hl => ?_)
    refine lv_goto (pc := 74) (tgt := 39) hx hb d201_74 (by decide) ?_
    exact hK39 x4 v4 v5 _ _ hS (lv_sub hl [2, 1, 0] rfl) h
  have kc39 : ∀ (fu : Nat), ∀ (x4 : Int32) (x5 : Int64) (x7 : Int32) (locs : List Loc) (ls : Array Slot), va_S (fun _ => False) s.heap s.heap locs → lv_has ls 8 [(4, .int x4), (5, .long x5), (7, .int x7)] → mo_monthFirst_39 fu x4 x5 x7 = some res → W p l e ({ frames := 2, cells := 0, slots := 0, locals := 41 } : Room) s m args below meth c s.heap locs 0 0 (MQ below (mQ (fun v H1 => v = some (.long res) ∧ H1 = s.heap) (fun _ => False)) args s 0 0 (fun _ => False)) (F0 m 39 ls []) := by
    intro  fu
    induction fu with
    | zero => intro x4 x5 x7 locs ls hS hl h; cases h
    | succ fu hK39 =>
      intro x4 x5 x7 locs ls hS hl h
      unfold mo_monthFirst_39 at h
      refine lv_iload (pc := 39) hx hb d201_39 (lv_at hl 2 rfl) ?_
      refine lv_iload (pc := 41) hx hb d201_41 (lv_at hl 0 rfl) ?_
      refine lv_bipush (pc := 43) (v := 12) hx hb d201_43 (by decide) ?_
      refine lv_idiv (pc := 45) hx hb d201_45 (by decide) ?_
      refine lv_icmp_ge (pc := 46) (tgt := 77) hx hb d201_46 (by decide) (fun c46 => ?_) (fun c46 => ?_)
      · have h := jb_t c46 h
        refine lv_iconst (pc := 77) (v := 1) hx hb d201_77 (by decide) ?_
        refine lv_istore (pc := 78) (lv' := [(7, .int 1), (4, .int x4), (5, .long x5)]) hx hb d201_78 hl (by decide) rfl (fun ls hl => ?_)
        exact kc80  FU x4 x5 1 _ _ hS (lv_sub hl [1, 2, 0] rfl) h
      · have h := jb_f c46 h
        refine lv_lload (pc := 49) hx hb d201_49 (lv_at hl 1 rfl) ?_
        refine lv_iload (pc := 51) hx hb d201_51 (lv_at hl 2 rfl) ?_
        obtain ⟨q6, hq6, h⟩ := jc_some h
        refine k_callS (pc := 53) (n := 1) X hS (c_mo_isLeap l ρ _ x7 q6 hq6) wd1888 wd1886 wd1887 wd11 (by decide) ⟨rfl, rfl, by decide, by decide⟩ (As := [.int x7]) (rest := [.long x5]) rfl rfl hl.1 (Nat.le_of_ble_eq_true rfl) d201_53 ⟨by decide, by decide⟩ (fun q hq => False.elim hq) (fun v H1 locs1 hv _ _ hSq6 => ?_)
        obtain ⟨rfl, rfl⟩ := hv
        have hS := hSq6
        refine lv_if_eq (pc := 56) (tgt := 65) hx hb d201_56 (by decide) (fun c56 => ?_) (fun c56 => ?_)
        · have h := jb_t c56 h
          refine lv_ldc2 (pc := 65) hx hb X.1.2.2.2.1 (X.ts wd1890) d201_65 ?_
          exact kc68 _ hK39 x4 x7 x5 (365 : Int64) _ _ hS (lv_sub hl [0, 2] rfl) h
        · have h := jb_f c56 h
          refine lv_ldc2 (pc := 59) hx hb X.1.2.2.2.1 (X.ts wd1889) d201_59 ?_
          refine lv_goto (pc := 62) (tgt := 68) hx hb d201_62 (by decide) ?_
          exact kc68 _ hK39 x4 x7 x5 (366 : Int64) _ _ hS (lv_sub hl [0, 2] rfl) h
  have kc29 : ∀ (x2 : Int64) (x4 : Int32) (locs : List Loc) (ls : Array Slot), va_S (fun _ => False) s.heap s.heap locs → lv_has ls 8 [(2, .long x2), (4, .int x4)] → mo_monthFirst_29 x2 x4 = some res → W p l e ({ frames := 2, cells := 0, slots := 0, locals := 41 } : Room) s m args below meth c s.heap locs 0 0 (MQ below (mQ (fun v H1 => v = some (.long res) ∧ H1 = s.heap) (fun _ => False)) args s 0 0 (fun _ => False)) (F0 m 29 ls []) := by
    intro x2 x4 locs ls hS hl h
    unfold mo_monthFirst_29 at h
    refine lv_ldc2 (pc := 29) hx hb X.1.2.2.2.1 (X.ts wd1885) d201_29 ?_
    refine lv_lload_n (pc := 32) hx hb d201_32 rfl (lv_at hl 0 rfl) ?_
    refine lv_lmul (pc := 33) hx hb d201_33 ?_
    obtain ⟨v7, ev7, h⟩ := jn_ex h
    refine nm_l ev7 ?_
    refine lv_lstore (pc := 34) (lv' := [(5, .long v7), (2, .long x2), (4, .int x4)]) hx hb d201_34 hl (by decide) rfl (fun ls hl => ?_)
    refine lv_iconst (pc := 36) (v := 0) hx hb d201_36 (by decide) ?_
    refine lv_istore (pc := 37) (lv' := [(7, .int 0), (5, .long v7), (2, .long x2), (4, .int x4)]) hx hb d201_37 hl (by decide) rfl (fun ls hl => ?_)
    exact kc39  FU x4 v7 0 _ _ hS (lv_sub hl [3, 1, 0] rfl) h
  unfold f_mo_monthFirst at h
  refine lv_lload_n (pc := 0) hx hb d201_0 rfl (lv_at hl 0 rfl) ?_
  refine lv_ldc2 (pc := 1) hx hb X.1.2.2.2.1 (X.ts wd1884) d201_1 ?_
  refine lv_ldiv (pc := 4) hx hb d201_4 (by decide) ?_
  obtain ⟨v8, ev8, h⟩ := jn_ex h
  refine nm_l ev8 ?_
  refine lv_lstore_n (pc := 5) (lv' := [(2, .long v8), (0, .long p0)]) hx hb d201_5 rfl hl (by decide) rfl (fun ls hl => ?_)
  refine lv_lload_n (pc := 6) hx hb d201_6 rfl (lv_at hl 1 rfl) ?_
  refine lv_ldc2 (pc := 7) hx hb X.1.2.2.2.1 (X.ts wd1884) d201_7 ?_
  refine lv_lrem (pc := 10) hx hb d201_10 (by decide) ?_
  refine lv_l2i (pc := 11) hx hb d201_11 rfl ?_
  obtain ⟨v9, ev9, h⟩ := jn_ex h
  refine nm_i ev9 ?_
  refine lv_istore (pc := 12) (lv' := [(4, .int v9), (2, .long v8), (0, .long p0)]) hx hb d201_12 hl (by decide) rfl (fun ls hl => ?_)
  refine lv_iload (pc := 14) hx hb d201_14 (lv_at hl 0 rfl) ?_
  refine lv_if_ge (pc := 16) (tgt := 29) hx hb d201_16 (by decide) (fun c16 => ?_) (fun c16 => ?_)
  · have h := jb_t c16 h
    exact kc29  v8 v9 _ _ hS (lv_sub hl [1, 0] rfl) h
  · have h := jb_f c16 h
    obtain ⟨v10, ev10, h⟩ := jn_ex h
    refine lv_iincW (pc := 19) (v := v10) (lv' := [(4, .int v10), (2, .long v8), (0, .long p0)]) hx hb d201_19 hl (k := 0) rfl (by rw [ev10]; rfl) (by decide) rfl (fun ls hl => ?_)
    refine lv_lload_n (pc := 25) hx hb d201_25 rfl (lv_at hl 1 rfl) ?_
    refine lv_lconst (pc := 26) (v := 1) hx hb d201_26 rfl ?_
    refine lv_lsub (pc := 27) hx hb d201_27 ?_
    obtain ⟨v11, ev11, h⟩ := jn_ex h
    refine nm_l ev11 ?_
    refine lv_lstore_n (pc := 28) (lv' := [(2, .long v11), (4, .int v10), (0, .long p0)]) hx hb d201_28 rfl hl (by decide) rfl (fun ls hl => ?_)
    exact kc29  v11 v10 _ _ hS (lv_sub hl [0, 1] rfl) h
def mo_date_91  (st : GS) (x2 : Int32) (x3 : Int32) (z1 : Int64) (z2 : Int32) : Option (GS) := jc (f_mo_monthFirst (((z1 * z2.toInt64) + x2.toInt64) - 1)) (fun q1 => jc (f_mo_answerDay st ((q1 + x3.toInt64) - 1)) (fun q2 => some q2))
def mo_date_63  (st : GS) (x1 : Int32) (x2 : Int32) (x3 : Int32) : Option (GS) := jb ((st.1 0 22) = 0) (jb (1900 ≤ x1) (mo_date_91  st x2 x3 (12 : Int64) x1) (mo_date_91  st x2 x3 (12 : Int64) (x1 + 1900))) (some st)
def mo_date_57  (st : GS) (x1 : Int32) (x2 : Int32) (x3 : Int32) : Option (GS) := jc (f_mo_fail st 6) (fun q3 => mo_date_63  q3 x1 x2 x3)
def f_mo_date (st : GS) : Option (GS) := jc (f_mo_whole1 st 0) (fun q4 => jc (f_mo_whole1 q4.2 1) (fun q5 => jc (f_mo_whole1 q5.2 2) (fun q6 => jb (q4.1 < 0) (mo_date_57  q6.2 q4.1 q5.1 q6.1) (jb (9999 < q4.1) (mo_date_57  q6.2 q4.1 q5.1 q6.1) (jb (100000 < q5.1) (mo_date_57  q6.2 q4.1 q5.1 q6.1) (jb (q5.1 < (-100000)) (mo_date_57  q6.2 q4.1 q5.1 q6.1) (jb (100000 < q6.1) (mo_date_57  q6.2 q4.1 q5.1 q6.1) (jb ((-100000) ≤ q6.1) (mo_date_63  q6.2 q4.1 q5.1 q6.1) (mo_date_57  q6.2 q4.1 q5.1 q6.1)))))))))
set_option maxHeartbeats 4000000 in
set_option maxRecDepth 100000 in
theorem c_mo_date (l : Launch) (ρ : RH) (ad : Nat → Nat) (H : Heap) (st : GS) (res : GS) (hW : GW ρ wM ad st H) (h : f_mo_date st = some res) : Met l y157 (wsOf y157 b157 4 none) ({ frames := 5, cells := 0, slots := 0, locals := 110 } : Room) (va_Pc [.ref (ad 0)] (KP ρ H)) (mQ (fun v H1 => v = none ∧ GW ρ wM ad res H1) (MA wM ad H.size)) 0 0 (MA wM ad H.size) := by
  refine m_ofW (own := "WordFunctionsModel") (plainFor_of_name rfl) rfl (Nat.le_of_ble_eq_true rfl) fun p e s m args below meth c ls hx hb hr hlk _ X hs hl => ?_
  subst hs
  have hS : va_S (MA wM ad s.heap.size) s.heap s.heap [] := va_S.rf
  have hl : lv_has ls 4 [(0, .ref (ad 0))] := hl
  have kc91 : ∀ (st : GS) (x2 : Int32) (x3 : Int32) (z1 : Int64) (z2 : Int32) (H : Heap) (locs : List Loc) (ls : Array Slot), GW ρ wM ad st H → va_S (MA wM ad s.heap.size) s.heap H locs → lv_has ls 4 [(2, .int x2), (3, .int x3)] → mo_date_91 st x2 x3 z1 z2 = some res → W p l e ({ frames := 5, cells := 0, slots := 0, locals := 110 } : Room) s m args below meth c H locs 0 0 (MQ below (mQ (fun v H1 => v = none ∧ GW ρ wM ad res H1) (MA wM ad s.heap.size)) args s 0 0 (MA wM ad s.heap.size)) (F0 m 91 ls [.int z2, .long z1, .ref (ad 0)]) := by
    intro st x2 x3 z1 z2 H locs ls hW hS hl h
    unfold mo_date_91 at h
    refine lv_i2l (pc := 91) hx hb d157_91 rfl ?_
    refine lv_lmul (pc := 92) hx hb d157_92 ?_
    refine lv_iload_n (pc := 93) hx hb d157_93 rfl (lv_at hl 0 rfl) ?_
    refine lv_i2l (pc := 94) hx hb d157_94 rfl ?_
    refine lv_ladd (pc := 95) hx hb d157_95 ?_
    refine lv_lconst (pc := 96) (v := 1) hx hb d157_96 rfl ?_
    refine lv_lsub (pc := 97) hx hb d157_97 ?_
    obtain ⟨q1, hq1, h⟩ := jc_some h
    refine k_callS (pc := 98) (n := 1) X hS (c_mo_monthFirst l ρ _ (((z1 * z2.toInt64) + x2.toInt64) - 1) q1 hq1) wd1883 wd1881 wd1882 wd11 (by decide) ⟨rfl, rfl, by decide, by decide⟩ (As := [.long (((z1 * z2.toInt64) + x2.toInt64) - 1)]) (rest := [.ref (ad 0)]) rfl rfl hl.1 (Nat.le_of_ble_eq_true rfl) d157_98 ⟨by decide, by decide⟩ (fun q hq => False.elim hq) (fun v H1 locs1 hv _ _ hSq1 => ?_)
    obtain ⟨rfl, rfl⟩ := hv
    have hS := hSq1
    refine lv_iload_n (pc := 101) hx hb d157_101 rfl (lv_at hl 1 rfl) ?_
    refine lv_i2l (pc := 102) hx hb d157_102 rfl ?_
    refine lv_ladd (pc := 103) hx hb d157_103 ?_
    refine lv_lconst (pc := 104) (v := 1) hx hb d157_104 rfl ?_
    refine lv_lsub (pc := 105) hx hb d157_105 ?_
    obtain ⟨q2, hq2, h⟩ := jc_some h
    refine k_callV (pc := 106) (n := 1) X hS (c_mo_answerDay l ρ ad _ st ((q1 + x3.toInt64) - 1) q2 hW hq2) wd1898 wd1895 wd1897 sl141 wd11 (by decide) ⟨rfl, rfl, by decide, by decide⟩ (m_recv X hW) (As := [.long ((q1 + x3.toInt64) - 1)]) (rest := []) rfl rfl hl.1 (Nat.le_of_ble_eq_true rfl) d157_106 ⟨by decide, by decide⟩ (fun q hq => MA.mono hS.1 hq) (fun v H1 locs1 hv _ _ hSq2 => ?_)
    obtain ⟨rfl, hW⟩ := hv
    have hS := hSq2
    obtain rfl := Option.some.inj h
    exact m_vret (pc := 109) hx hb hr hlk hS ⟨rfl, hW⟩ (by decide) (by decide) d157_109
  have kc63 : ∀ (st : GS) (x1 : Int32) (x2 : Int32) (x3 : Int32) (H : Heap) (locs : List Loc) (ls : Array Slot), GW ρ wM ad st H → va_S (MA wM ad s.heap.size) s.heap H locs → lv_has ls 4 [(0, .ref (ad 0)), (1, .int x1), (2, .int x2), (3, .int x3)] → mo_date_63 st x1 x2 x3 = some res → W p l e ({ frames := 5, cells := 0, slots := 0, locals := 110 } : Room) s m args below meth c H locs 0 0 (MQ below (mQ (fun v H1 => v = none ∧ GW ρ wM ad res H1) (MA wM ad s.heap.size)) args s 0 0 (MA wM ad s.heap.size)) (F0 m 63 ls []) := by
    intro st x1 x2 x3 H locs ls hW hS hl h
    unfold mo_date_63 at h
    refine lv_aload_n (pc := 63) hx hb d157_63 rfl (lv_at hl 0 rfl) ?_
    refine m_get (pc := 64) X hW 22 (v := .int (st.1 0 22)) wd1388 rfl rfl d157_64 ?_
    refine lv_if_eq (pc := 67) (tgt := 71) hx hb d157_67 (by decide) (fun c67 => ?_) (fun c67 => ?_)
    · have h := jb_t c67 h
      refine lv_aload_n (pc := 71) hx hb d157_71 rfl (lv_at hl 0 rfl) ?_
      refine lv_ldc2 (pc := 72) hx hb X.1.2.2.2.1 (X.ts wd1880) d157_72 ?_
      refine lv_iload_n (pc := 75) hx hb d157_75 rfl (lv_at hl 1 rfl) ?_
      refine lv_sipush (pc := 76) (v := 1900) hx hb d157_76 (by decide) ?_
      refine lv_icmp_ge (pc := 79) (tgt := 90) hx hb d157_79 (by decide) (fun c79 => ?_) (fun c79 => ?_)
      · have h := jb_t c79 h
        refine lv_iload_n (pc := 90) hx hb d157_90 rfl (lv_at hl 1 rfl) ?_
        exact kc91  st x2 x3 (12 : Int64) x1 _ _ _ hW hS (lv_sub hl [2, 3] rfl) h
      · have h := jb_f c79 h
        refine lv_iload_n (pc := 82) hx hb d157_82 rfl (lv_at hl 1 rfl) ?_
        refine lv_sipush (pc := 83) (v := 1900) hx hb d157_83 (by decide) ?_
        refine lv_iadd (pc := 86) hx hb d157_86 ?_
        refine lv_goto (pc := 87) (tgt := 91) hx hb d157_87 (by decide) ?_
        exact kc91  st x2 x3 (12 : Int64) (x1 + 1900) _ _ _ hW hS (lv_sub hl [2, 3] rfl) h
    · have h := jb_f c67 h
      obtain rfl := Option.some.inj h
      exact m_vret (pc := 70) hx hb hr hlk hS ⟨rfl, hW⟩ (by decide) (by decide) d157_70
  have kc57 : ∀ (st : GS) (x1 : Int32) (x2 : Int32) (x3 : Int32) (H : Heap) (locs : List Loc) (ls : Array Slot), GW ρ wM ad st H → va_S (MA wM ad s.heap.size) s.heap H locs → lv_has ls 4 [(0, .ref (ad 0)), (1, .int x1), (2, .int x2), (3, .int x3)] → mo_date_57 st x1 x2 x3 = some res → W p l e ({ frames := 5, cells := 0, slots := 0, locals := 110 } : Room) s m args below meth c H locs 0 0 (MQ below (mQ (fun v H1 => v = none ∧ GW ρ wM ad res H1) (MA wM ad s.heap.size)) args s 0 0 (MA wM ad s.heap.size)) (F0 m 57 ls []) := by
    intro st x1 x2 x3 H locs ls hW hS hl h
    unfold mo_date_57 at h
    refine lv_aload_n (pc := 57) hx hb d157_57 rfl (lv_at hl 0 rfl) ?_
    refine lv_bipush (pc := 58) (v := 6) hx hb d157_58 (by decide) ?_
    obtain ⟨q3, hq3, h⟩ := jc_some h
    refine k_callV (pc := 60) (n := 1) X hS (c_mo_fail l ρ ad _ st 6 q3 hW hq3) wd1621 wd1618 wd1620 sl170 wd11 (by decide) ⟨rfl, rfl, by decide, by decide⟩ (m_recv X hW) (As := [.int 6]) (rest := []) rfl rfl hl.1 (Nat.le_of_ble_eq_true rfl) d157_60 ⟨by decide, by decide⟩ (fun q hq => MA.mono hS.1 hq) (fun v H1 locs1 hv _ _ hSq3 => ?_)
    obtain ⟨rfl, hW⟩ := hv
    have hS := hSq3
    exact kc63  q3 x1 x2 x3 _ _ _ hW hS (lv_sub hl [0, 1, 2, 3] rfl) h
  unfold f_mo_date at h
  refine lv_aload_n (pc := 0) hx hb d157_0 rfl (lv_at hl 0 rfl) ?_
  refine lv_iconst (pc := 1) (v := 0) hx hb d157_1 (by decide) ?_
  obtain ⟨q4, hq4, h⟩ := jc_some h
  refine k_callV (pc := 2) (n := 1) X hS (c_mo_whole1 l ρ ad _ st 0 q4 hW hq4) wd1671 wd1668 wd1670 sl241 wd11 (by decide) ⟨rfl, rfl, by decide, by decide⟩ (m_recv X hW) (As := [.int 0]) (rest := []) rfl rfl hl.1 (Nat.le_of_ble_eq_true rfl) d157_2 ⟨by decide, by decide⟩ (fun q hq => MA.mono hS.1 hq) (fun v H1 locs1 hv _ _ hSq4 => ?_)
  obtain ⟨rfl, hW⟩ := hv
  have hS := hSq4
  refine lv_istore_n (pc := 5) (lv' := [(1, .int q4.1), (0, .ref (ad 0))]) hx hb d157_5 rfl hl (by decide) rfl (fun ls hl => ?_)
  refine lv_aload_n (pc := 6) hx hb d157_6 rfl (lv_at hl 1 rfl) ?_
  refine lv_iconst (pc := 7) (v := 1) hx hb d157_7 (by decide) ?_
  obtain ⟨q5, hq5, h⟩ := jc_some h
  refine k_callV (pc := 8) (n := 1) X hS (c_mo_whole1 l ρ ad _ q4.2 1 q5 hW hq5) wd1671 wd1668 wd1670 sl241 wd11 (by decide) ⟨rfl, rfl, by decide, by decide⟩ (m_recv X hW) (As := [.int 1]) (rest := []) rfl rfl hl.1 (Nat.le_of_ble_eq_true rfl) d157_8 ⟨by decide, by decide⟩ (fun q hq => MA.mono hS.1 hq) (fun v H1 locs1 hv _ _ hSq5 => ?_)
  obtain ⟨rfl, hW⟩ := hv
  have hS := hSq5
  refine lv_istore_n (pc := 11) (lv' := [(2, .int q5.1), (1, .int q4.1), (0, .ref (ad 0))]) hx hb d157_11 rfl hl (by decide) rfl (fun ls hl => ?_)
  refine lv_aload_n (pc := 12) hx hb d157_12 rfl (lv_at hl 2 rfl) ?_
  refine lv_iconst (pc := 13) (v := 2) hx hb d157_13 (by decide) ?_
  obtain ⟨q6, hq6, h⟩ := jc_some h
  refine k_callV (pc := 14) (n := 1) X hS (c_mo_whole1 l ρ ad _ q5.2 2 q6 hW hq6) wd1671 wd1668 wd1670 sl241 wd11 (by decide) ⟨rfl, rfl, by decide, by decide⟩ (m_recv X hW) (As := [.int 2]) (rest := []) rfl rfl hl.1 (Nat.le_of_ble_eq_true rfl) d157_14 ⟨by decide, by decide⟩ (fun q hq => MA.mono hS.1 hq) (fun v H1 locs1 hv _ _ hSq6 => ?_)
  obtain ⟨rfl, hW⟩ := hv
  have hS := hSq6
  refine lv_istore_n (pc := 17) (lv' := [(3, .int q6.1), (2, .int q5.1), (1, .int q4.1), (0, .ref (ad 0))]) hx hb d157_17 rfl hl (by decide) rfl (fun ls hl => ?_)
  refine lv_iload_n (pc := 18) hx hb d157_18 rfl (lv_at hl 2 rfl) ?_
  refine lv_if_lt (pc := 19) (tgt := 57) hx hb d157_19 (by decide) (fun c19 => ?_) (fun c19 => ?_)
  · have h := jb_t c19 h
    exact kc57  q6.2 q4.1 q5.1 q6.1 _ _ _ hW hS (lv_sub hl [3, 2, 1, 0] rfl) h
  · have h := jb_f c19 h
    refine lv_iload_n (pc := 22) hx hb d157_22 rfl (lv_at hl 2 rfl) ?_
    refine lv_sipush (pc := 23) (v := 9999) hx hb d157_23 (by decide) ?_
    refine lv_icmp_gt (pc := 26) (tgt := 57) hx hb d157_26 (by decide) (fun c26 => ?_) (fun c26 => ?_)
    · have h := jb_t c26 h
      exact kc57  q6.2 q4.1 q5.1 q6.1 _ _ _ hW hS (lv_sub hl [3, 2, 1, 0] rfl) h
    · have h := jb_f c26 h
      refine lv_iload_n (pc := 29) hx hb d157_29 rfl (lv_at hl 1 rfl) ?_
      refine lv_ldcw (pc := 30) hx hb X.1.2.2.2.1 (X.ts wd1878) d157_30 ?_
      refine lv_icmp_gt (pc := 33) (tgt := 57) hx hb d157_33 (by decide) (fun c33 => ?_) (fun c33 => ?_)
      · have h := jb_t c33 h
        exact kc57  q6.2 q4.1 q5.1 q6.1 _ _ _ hW hS (lv_sub hl [3, 2, 1, 0] rfl) h
      · have h := jb_f c33 h
        refine lv_iload_n (pc := 36) hx hb d157_36 rfl (lv_at hl 1 rfl) ?_
        refine lv_ldcw (pc := 37) hx hb X.1.2.2.2.1 (X.ts wd1879) d157_37 ?_
        refine lv_icmp_lt (pc := 40) (tgt := 57) hx hb d157_40 (by decide) (fun c40 => ?_) (fun c40 => ?_)
        · have h := jb_t c40 h
          exact kc57  q6.2 q4.1 q5.1 q6.1 _ _ _ hW hS (lv_sub hl [3, 2, 1, 0] rfl) h
        · have h := jb_f c40 h
          refine lv_iload_n (pc := 43) hx hb d157_43 rfl (lv_at hl 0 rfl) ?_
          refine lv_ldcw (pc := 44) hx hb X.1.2.2.2.1 (X.ts wd1878) d157_44 ?_
          refine lv_icmp_gt (pc := 47) (tgt := 57) hx hb d157_47 (by decide) (fun c47 => ?_) (fun c47 => ?_)
          · have h := jb_t c47 h
            exact kc57  q6.2 q4.1 q5.1 q6.1 _ _ _ hW hS (lv_sub hl [3, 2, 1, 0] rfl) h
          · have h := jb_f c47 h
            refine lv_iload_n (pc := 50) hx hb d157_50 rfl (lv_at hl 0 rfl) ?_
            refine lv_ldcw (pc := 51) hx hb X.1.2.2.2.1 (X.ts wd1879) d157_51 ?_
            refine lv_icmp_ge (pc := 54) (tgt := 63) hx hb d157_54 (by decide) (fun c54 => ?_) (fun c54 => ?_)
            · have h := jb_t c54 h
              exact kc63  q6.2 q4.1 q5.1 q6.1 _ _ _ hW hS (lv_sub hl [3, 2, 1, 0] rfl) h
            · have h := jb_f c54 h
              exact kc57  q6.2 q4.1 q5.1 q6.1 _ _ _ hW hS (lv_sub hl [3, 2, 1, 0] rfl) h
def mo_time_57  (st : GS) (x1 : Int32) (x2 : Int32) (x3 : Int32) : Option (GS) := jb ((st.1 0 22) = 0) (jg (nn (FP.ddiv (FP.l2d ((((x1.toInt64 * (3600 : Int64)) + (x2.toInt64 * (60 : Int64))) + x3.toInt64) - (((x1.toInt64 * (3600 : Int64)) + (x2.toInt64 * (60 : Int64))) + x3.toInt64) / (86400 : Int64) * (86400 : Int64))) (4680673776000565248 : UInt64))) (jc (f_mo_answerNumber st (FP.ddiv (FP.l2d ((((x1.toInt64 * (3600 : Int64)) + (x2.toInt64 * (60 : Int64))) + x3.toInt64) - (((x1.toInt64 * (3600 : Int64)) + (x2.toInt64 * (60 : Int64))) + x3.toInt64) / (86400 : Int64) * (86400 : Int64))) (4680673776000565248 : UInt64))) (fun q2 => some q2))) (some st)
def mo_time_51  (st : GS) (x1 : Int32) (x2 : Int32) (x3 : Int32) : Option (GS) := jc (f_mo_fail st 6) (fun q3 => mo_time_57  q3 x1 x2 x3)
def f_mo_time (st : GS) : Option (GS) := jc (f_mo_whole1 st 0) (fun q4 => jc (f_mo_whole1 q4.2 1) (fun q5 => jc (f_mo_whole1 q5.2 2) (fun q6 => jb (q4.1 < 0) (mo_time_51  q6.2 q4.1 q5.1 q6.1) (jb (32767 < q4.1) (mo_time_51  q6.2 q4.1 q5.1 q6.1) (jb (q5.1 < 0) (mo_time_51  q6.2 q4.1 q5.1 q6.1) (jb (32767 < q5.1) (mo_time_51  q6.2 q4.1 q5.1 q6.1) (jb (q6.1 < 0) (mo_time_51  q6.2 q4.1 q5.1 q6.1) (jb (q6.1 ≤ 32767) (mo_time_57  q6.2 q4.1 q5.1 q6.1) (mo_time_51  q6.2 q4.1 q5.1 q6.1)))))))))
set_option maxHeartbeats 4000000 in
set_option maxRecDepth 100000 in
theorem c_mo_time (l : Launch) (ρ : RH) (ad : Nat → Nat) (H : Heap) (st : GS) (res : GS) (hW : GW ρ wM ad st H) (h : f_mo_time st = some res) : Met l y229 (wsOf y229 b229 4 none) ({ frames := 5, cells := 0, slots := 0, locals := 110 } : Room) (va_Pc [.ref (ad 0)] (KP ρ H)) (mQ (fun v H1 => v = none ∧ GW ρ wM ad res H1) (MA wM ad H.size)) 0 0 (MA wM ad H.size) := by
  refine m_ofW (own := "WordFunctionsModel") (plainFor_of_name rfl) rfl (Nat.le_of_ble_eq_true rfl) fun p e s m args below meth c ls hx hb hr hlk _ X hs hl => ?_
  subst hs
  have hS : va_S (MA wM ad s.heap.size) s.heap s.heap [] := va_S.rf
  have hl : lv_has ls 4 [(0, .ref (ad 0))] := hl
  have kc57 : ∀ (st : GS) (x1 : Int32) (x2 : Int32) (x3 : Int32) (H : Heap) (locs : List Loc) (ls : Array Slot), GW ρ wM ad st H → va_S (MA wM ad s.heap.size) s.heap H locs → lv_has ls 4 [(0, .ref (ad 0)), (1, .int x1), (2, .int x2), (3, .int x3)] → mo_time_57 st x1 x2 x3 = some res → W p l e ({ frames := 5, cells := 0, slots := 0, locals := 110 } : Room) s m args below meth c H locs 0 0 (MQ below (mQ (fun v H1 => v = none ∧ GW ρ wM ad res H1) (MA wM ad s.heap.size)) args s 0 0 (MA wM ad s.heap.size)) (F0 m 57 ls []) := by
    intro st x1 x2 x3 H locs ls hW hS hl h
    unfold mo_time_57 at h
    refine lv_aload_n (pc := 57) hx hb d229_57 rfl (lv_at hl 0 rfl) ?_
    refine m_get (pc := 58) X hW 22 (v := .int (st.1 0 22)) wd1388 rfl rfl d229_58 ?_
    refine lv_if_eq (pc := 61) (tgt := 65) hx hb d229_61 (by decide) (fun c61 => ?_) (fun c61 => ?_)
    · have h := jb_t c61 h
      refine lv_aload_n (pc := 65) hx hb d229_65 rfl (lv_at hl 0 rfl) ?_
      refine lv_iload_n (pc := 66) hx hb d229_66 rfl (lv_at hl 1 rfl) ?_
      refine lv_i2l (pc := 67) hx hb d229_67 rfl ?_
      refine lv_ldc2 (pc := 68) hx hb X.1.2.2.2.1 (X.ts wd1904) d229_68 ?_
      refine lv_lmul (pc := 71) hx hb d229_71 ?_
      refine lv_iload_n (pc := 72) hx hb d229_72 rfl (lv_at hl 2 rfl) ?_
      refine lv_i2l (pc := 73) hx hb d229_73 rfl ?_
      refine lv_ldc2 (pc := 74) hx hb X.1.2.2.2.1 (X.ts wd1905) d229_74 ?_
      refine lv_lmul (pc := 77) hx hb d229_77 ?_
      refine lv_ladd (pc := 78) hx hb d229_78 ?_
      refine lv_iload_n (pc := 79) hx hb d229_79 rfl (lv_at hl 3 rfl) ?_
      refine lv_i2l (pc := 80) hx hb d229_80 rfl ?_
      refine lv_ladd (pc := 81) hx hb d229_81 ?_
      refine lv_ldc2 (pc := 82) hx hb X.1.2.2.2.1 (X.ts wd1906) d229_82 ?_
      refine lv_lrem (pc := 85) hx hb d229_85 (by decide) ?_
      refine lv_l2d (pc := 86) hx hb d229_86 ?_
      refine lv_ldc2d (pc := 87) hx hb X.1.2.2.2.1 (X.ts wd1907) d229_87 ?_
      obtain ⟨g1, h⟩ := jg_some h
      refine lv_ddiv (pc := 90) hx hb d229_90 (nn_ok g1) ?_
      obtain ⟨q2, hq2, h⟩ := jc_some h
      refine k_callV (pc := 91) (n := 1) X hS (c_mo_answerNumber l ρ ad _ st (FP.ddiv (FP.l2d ((((x1.toInt64 * (3600 : Int64)) + (x2.toInt64 * (60 : Int64))) + x3.toInt64) - (((x1.toInt64 * (3600 : Int64)) + (x2.toInt64 * (60 : Int64))) + x3.toInt64) / (86400 : Int64) * (86400 : Int64))) (4680673776000565248 : UInt64)) q2 hW hq2) wd1651 wd1648 wd1650 sl142 wd11 (by decide) ⟨rfl, rfl, by decide, by decide⟩ (m_recv X hW) (As := [.double (FP.ddiv (FP.l2d ((((x1.toInt64 * (3600 : Int64)) + (x2.toInt64 * (60 : Int64))) + x3.toInt64) - (((x1.toInt64 * (3600 : Int64)) + (x2.toInt64 * (60 : Int64))) + x3.toInt64) / (86400 : Int64) * (86400 : Int64))) (4680673776000565248 : UInt64))]) (rest := []) rfl rfl hl.1 (Nat.le_of_ble_eq_true rfl) d229_91 ⟨by decide, by decide⟩ (fun q hq => MA.mono hS.1 hq) (fun v H1 locs1 hv _ _ hSq2 => ?_)
      obtain ⟨rfl, hW⟩ := hv
      have hS := hSq2
      obtain rfl := Option.some.inj h
      exact m_vret (pc := 94) hx hb hr hlk hS ⟨rfl, hW⟩ (by decide) (by decide) d229_94
    · have h := jb_f c61 h
      obtain rfl := Option.some.inj h
      exact m_vret (pc := 64) hx hb hr hlk hS ⟨rfl, hW⟩ (by decide) (by decide) d229_64
  have kc51 : ∀ (st : GS) (x1 : Int32) (x2 : Int32) (x3 : Int32) (H : Heap) (locs : List Loc) (ls : Array Slot), GW ρ wM ad st H → va_S (MA wM ad s.heap.size) s.heap H locs → lv_has ls 4 [(0, .ref (ad 0)), (1, .int x1), (2, .int x2), (3, .int x3)] → mo_time_51 st x1 x2 x3 = some res → W p l e ({ frames := 5, cells := 0, slots := 0, locals := 110 } : Room) s m args below meth c H locs 0 0 (MQ below (mQ (fun v H1 => v = none ∧ GW ρ wM ad res H1) (MA wM ad s.heap.size)) args s 0 0 (MA wM ad s.heap.size)) (F0 m 51 ls []) := by
    intro st x1 x2 x3 H locs ls hW hS hl h
    unfold mo_time_51 at h
    refine lv_aload_n (pc := 51) hx hb d229_51 rfl (lv_at hl 0 rfl) ?_
    refine lv_bipush (pc := 52) (v := 6) hx hb d229_52 (by decide) ?_
    obtain ⟨q3, hq3, h⟩ := jc_some h
    refine k_callV (pc := 54) (n := 1) X hS (c_mo_fail l ρ ad _ st 6 q3 hW hq3) wd1621 wd1618 wd1620 sl170 wd11 (by decide) ⟨rfl, rfl, by decide, by decide⟩ (m_recv X hW) (As := [.int 6]) (rest := []) rfl rfl hl.1 (Nat.le_of_ble_eq_true rfl) d229_54 ⟨by decide, by decide⟩ (fun q hq => MA.mono hS.1 hq) (fun v H1 locs1 hv _ _ hSq3 => ?_)
    obtain ⟨rfl, hW⟩ := hv
    have hS := hSq3
    exact kc57  q3 x1 x2 x3 _ _ _ hW hS (lv_sub hl [0, 1, 2, 3] rfl) h
  unfold f_mo_time at h
  refine lv_aload_n (pc := 0) hx hb d229_0 rfl (lv_at hl 0 rfl) ?_
  refine lv_iconst (pc := 1) (v := 0) hx hb d229_1 (by decide) ?_
  obtain ⟨q4, hq4, h⟩ := jc_some h
  refine k_callV (pc := 2) (n := 1) X hS (c_mo_whole1 l ρ ad _ st 0 q4 hW hq4) wd1671 wd1668 wd1670 sl241 wd11 (by decide) ⟨rfl, rfl, by decide, by decide⟩ (m_recv X hW) (As := [.int 0]) (rest := []) rfl rfl hl.1 (Nat.le_of_ble_eq_true rfl) d229_2 ⟨by decide, by decide⟩ (fun q hq => MA.mono hS.1 hq) (fun v H1 locs1 hv _ _ hSq4 => ?_)
  obtain ⟨rfl, hW⟩ := hv
  have hS := hSq4
  refine lv_istore_n (pc := 5) (lv' := [(1, .int q4.1), (0, .ref (ad 0))]) hx hb d229_5 rfl hl (by decide) rfl (fun ls hl => ?_)
  refine lv_aload_n (pc := 6) hx hb d229_6 rfl (lv_at hl 1 rfl) ?_
  refine lv_iconst (pc := 7) (v := 1) hx hb d229_7 (by decide) ?_
  obtain ⟨q5, hq5, h⟩ := jc_some h
  refine k_callV (pc := 8) (n := 1) X hS (c_mo_whole1 l ρ ad _ q4.2 1 q5 hW hq5) wd1671 wd1668 wd1670 sl241 wd11 (by decide) ⟨rfl, rfl, by decide, by decide⟩ (m_recv X hW) (As := [.int 1]) (rest := []) rfl rfl hl.1 (Nat.le_of_ble_eq_true rfl) d229_8 ⟨by decide, by decide⟩ (fun q hq => MA.mono hS.1 hq) (fun v H1 locs1 hv _ _ hSq5 => ?_)
  obtain ⟨rfl, hW⟩ := hv
  have hS := hSq5
  refine lv_istore_n (pc := 11) (lv' := [(2, .int q5.1), (1, .int q4.1), (0, .ref (ad 0))]) hx hb d229_11 rfl hl (by decide) rfl (fun ls hl => ?_)
  refine lv_aload_n (pc := 12) hx hb d229_12 rfl (lv_at hl 2 rfl) ?_
  refine lv_iconst (pc := 13) (v := 2) hx hb d229_13 (by decide) ?_
  obtain ⟨q6, hq6, h⟩ := jc_some h
  refine k_callV (pc := 14) (n := 1) X hS (c_mo_whole1 l ρ ad _ q5.2 2 q6 hW hq6) wd1671 wd1668 wd1670 sl241 wd11 (by decide) ⟨rfl, rfl, by decide, by decide⟩ (m_recv X hW) (As := [.int 2]) (rest := []) rfl rfl hl.1 (Nat.le_of_ble_eq_true rfl) d229_14 ⟨by decide, by decide⟩ (fun q hq => MA.mono hS.1 hq) (fun v H1 locs1 hv _ _ hSq6 => ?_)
  obtain ⟨rfl, hW⟩ := hv
  have hS := hSq6
  refine lv_istore_n (pc := 17) (lv' := [(3, .int q6.1), (2, .int q5.1), (1, .int q4.1), (0, .ref (ad 0))]) hx hb d229_17 rfl hl (by decide) rfl (fun ls hl => ?_)
  refine lv_iload_n (pc := 18) hx hb d229_18 rfl (lv_at hl 2 rfl) ?_
  refine lv_if_lt (pc := 19) (tgt := 51) hx hb d229_19 (by decide) (fun c19 => ?_) (fun c19 => ?_)
  · have h := jb_t c19 h
    exact kc51  q6.2 q4.1 q5.1 q6.1 _ _ _ hW hS (lv_sub hl [3, 2, 1, 0] rfl) h
  · have h := jb_f c19 h
    refine lv_iload_n (pc := 22) hx hb d229_22 rfl (lv_at hl 2 rfl) ?_
    refine lv_sipush (pc := 23) (v := 32767) hx hb d229_23 (by decide) ?_
    refine lv_icmp_gt (pc := 26) (tgt := 51) hx hb d229_26 (by decide) (fun c26 => ?_) (fun c26 => ?_)
    · have h := jb_t c26 h
      exact kc51  q6.2 q4.1 q5.1 q6.1 _ _ _ hW hS (lv_sub hl [3, 2, 1, 0] rfl) h
    · have h := jb_f c26 h
      refine lv_iload_n (pc := 29) hx hb d229_29 rfl (lv_at hl 1 rfl) ?_
      refine lv_if_lt (pc := 30) (tgt := 51) hx hb d229_30 (by decide) (fun c30 => ?_) (fun c30 => ?_)
      · have h := jb_t c30 h
        exact kc51  q6.2 q4.1 q5.1 q6.1 _ _ _ hW hS (lv_sub hl [3, 2, 1, 0] rfl) h
      · have h := jb_f c30 h
        refine lv_iload_n (pc := 33) hx hb d229_33 rfl (lv_at hl 1 rfl) ?_
        refine lv_sipush (pc := 34) (v := 32767) hx hb d229_34 (by decide) ?_
        refine lv_icmp_gt (pc := 37) (tgt := 51) hx hb d229_37 (by decide) (fun c37 => ?_) (fun c37 => ?_)
        · have h := jb_t c37 h
          exact kc51  q6.2 q4.1 q5.1 q6.1 _ _ _ hW hS (lv_sub hl [3, 2, 1, 0] rfl) h
        · have h := jb_f c37 h
          refine lv_iload_n (pc := 40) hx hb d229_40 rfl (lv_at hl 0 rfl) ?_
          refine lv_if_lt (pc := 41) (tgt := 51) hx hb d229_41 (by decide) (fun c41 => ?_) (fun c41 => ?_)
          · have h := jb_t c41 h
            exact kc51  q6.2 q4.1 q5.1 q6.1 _ _ _ hW hS (lv_sub hl [3, 2, 1, 0] rfl) h
          · have h := jb_f c41 h
            refine lv_iload_n (pc := 44) hx hb d229_44 rfl (lv_at hl 0 rfl) ?_
            refine lv_sipush (pc := 45) (v := 32767) hx hb d229_45 (by decide) ?_
            refine lv_icmp_le (pc := 48) (tgt := 57) hx hb d229_48 (by decide) (fun c48 => ?_) (fun c48 => ?_)
            · have h := jb_t c48 h
              exact kc57  q6.2 q4.1 q5.1 q6.1 _ _ _ hW hS (lv_sub hl [3, 2, 1, 0] rfl) h
            · have h := jb_f c48 h
              exact kc51  q6.2 q4.1 q5.1 q6.1 _ _ _ hW hS (lv_sub hl [3, 2, 1, 0] rfl) h
def f_mo_floor  (p0 : UInt64) : Option (UInt64) := jc (f_mo_cut p0) (fun q1 => jb ((Op.cmpValue (FP.dcmp q1 p0) .l) ≤ 0) (some q1) (jg (nn (FP.dsub q1 FP.dconst1)) (some (FP.dsub q1 FP.dconst1))))
set_option maxHeartbeats 4000000 in
set_option maxRecDepth 100000 in
theorem c_mo_floor (l : Launch) (ρ : RH) (H : Heap) (p0 : UInt64) (res : UInt64) (h : f_mo_floor p0 = some res) : Met l y174 (wsOf y174 b174 4 (some .double)) ({ frames := 2, cells := 0, slots := 0, locals := 42 } : Room) (va_Pc [.double p0] (KP ρ H)) (mQ (fun v H1 => v = some (.double res) ∧ H1 = H) (fun _ => False)) 0 0 (fun _ => False) := by
  refine m_ofW (own := "WordFunctionsModel") (plainFor_of_name rfl) rfl (Nat.le_of_ble_eq_true rfl) fun p e s m args below meth c ls hx hb hr hlk _ X hs hl => ?_
  subst hs
  have hS : va_S (fun _ => False) s.heap s.heap [] := va_S.rf
  have hl : lv_has ls 4 [(0, .double p0)] := hl
  unfold f_mo_floor at h
  refine lv_dload_n (pc := 0) hx hb d174_0 rfl (lv_at hl 0 rfl) ?_
  obtain ⟨q1, hq1, h⟩ := jc_some h
  refine k_callS (pc := 1) (n := 1) X hS (c_mo_cut l ρ _ p0 q1 hq1) wd1690 wd1688 wd1689 wd11 (by decide) ⟨rfl, rfl, by decide, by decide⟩ (As := [.double p0]) (rest := []) rfl rfl hl.1 (Nat.le_of_ble_eq_true rfl) d174_1 ⟨by decide, by decide⟩ (fun q hq => False.elim hq) (fun v H1 locs1 hv _ _ hSq1 => ?_)
  obtain ⟨rfl, rfl⟩ := hv
  have hS := hSq1
  refine lv_dstore_n (pc := 4) (lv' := [(2, .double q1), (0, .double p0)]) hx hb d174_4 rfl hl (by decide) rfl (fun ls hl => ?_)
  refine lv_dload_n (pc := 5) hx hb d174_5 rfl (lv_at hl 0 rfl) ?_
  refine lv_dload_n (pc := 6) hx hb d174_6 rfl (lv_at hl 1 rfl) ?_
  refine lv_dcmp (pc := 7) hx hb d174_7 ?_
  refine lv_if_le (pc := 8) (tgt := 17) hx hb d174_8 (by decide) (fun c8 => ?_) (fun c8 => ?_)
  · have h := jb_t c8 h
    refine lv_dload_n (pc := 17) hx hb d174_17 rfl (lv_at hl 0 rfl) ?_
    obtain rfl := Option.some.inj h
    exact m_dret (pc := 18) hx hb hr hlk hS ⟨rfl, rfl⟩ (by decide) (by decide) d174_18
  · have h := jb_f c8 h
    refine lv_dload_n (pc := 11) hx hb d174_11 rfl (lv_at hl 0 rfl) ?_
    refine lv_dconst1 (pc := 12) hx hb d174_12 ?_
    obtain ⟨g2, h⟩ := jg_some h
    refine lv_dsub (pc := 13) hx hb d174_13 (nn_ok g2) ?_
    refine lv_goto (pc := 14) (tgt := 18) hx hb d174_14 (by decide) ?_
    obtain rfl := Option.some.inj h
    exact m_dret (pc := 18) hx hb hr hlk hS ⟨rfl, rfl⟩ (by decide) (by decide) d174_18
def mo_dayTaken_35  (st : GS) (x1 : UInt64) : Option (Int32 × GS) := jb ((st.1 0 22) = 0) (some ((FP.d2i x1), st)) (some (0, st))
def mo_dayTaken_29  (st : GS) (x1 : UInt64) : Option (Int32 × GS) := jc (f_mo_fail st 6) (fun q1 => mo_dayTaken_35  q1 x1)
def f_mo_dayTaken (st : GS) : Option (Int32 × GS) := jc (f_mo_numberTaken st) (fun q2 => jc (f_mo_floor q2.1) (fun q3 => jb ((q2.2.1 0 22) = 0) (jb ((Op.cmpValue (FP.dcmp q3 FP.dconst0) .g) < 0) (mo_dayTaken_29  q2.2 q3) (jb ((Op.cmpValue (FP.dcmp q3 (4703607666558107648 : UInt64)) .l) ≤ 0) (mo_dayTaken_35  q2.2 q3) (mo_dayTaken_29  q2.2 q3))) (mo_dayTaken_35  q2.2 q3)))
set_option maxHeartbeats 4000000 in
set_option maxRecDepth 100000 in
theorem c_mo_dayTaken (l : Launch) (ρ : RH) (ad : Nat → Nat) (H : Heap) (st : GS) (res : Int32 × GS) (hW : GW ρ wM ad st H) (h : f_mo_dayTaken st = some res) : Met l y162 (wsOf y162 b162 3 (some .int)) ({ frames := 3, cells := 0, slots := 0, locals := 66 } : Room) (va_Pc [.ref (ad 0)] (KP ρ H)) (mQ (fun v H1 => v = some (.int res.1) ∧ GW ρ wM ad res.2 H1) (MA wM ad H.size)) 0 0 (MA wM ad H.size) := by
  refine m_ofW (own := "WordFunctionsModel") (plainFor_of_name rfl) rfl (Nat.le_of_ble_eq_true rfl) fun p e s m args below meth c ls hx hb hr hlk _ X hs hl => ?_
  subst hs
  have hS : va_S (MA wM ad s.heap.size) s.heap s.heap [] := va_S.rf
  have hl : lv_has ls 3 [(0, .ref (ad 0))] := hl
  have kc35 : ∀ (st : GS) (x1 : UInt64) (H : Heap) (locs : List Loc) (ls : Array Slot), GW ρ wM ad st H → va_S (MA wM ad s.heap.size) s.heap H locs → lv_has ls 3 [(0, .ref (ad 0)), (1, .double x1)] → mo_dayTaken_35 st x1 = some res → W p l e ({ frames := 3, cells := 0, slots := 0, locals := 66 } : Room) s m args below meth c H locs 0 0 (MQ below (mQ (fun v H1 => v = some (.int res.1) ∧ GW ρ wM ad res.2 H1) (MA wM ad s.heap.size)) args s 0 0 (MA wM ad s.heap.size)) (F0 m 35 ls []) := by
    intro st x1 H locs ls hW hS hl h
    unfold mo_dayTaken_35 at h
    refine lv_aload_n (pc := 35) hx hb d162_35 rfl (lv_at hl 0 rfl) ?_
    refine m_get (pc := 36) X hW 22 (v := .int (st.1 0 22)) wd1388 rfl rfl d162_36 ?_
    refine lv_if_ne (pc := 39) (tgt := 47) hx hb d162_39 (by decide) (fun c39 => ?_) (fun c39 => ?_)
    · have h := jb_f c39 h
      refine lv_iconst (pc := 47) (v := 0) hx hb d162_47 (by decide) ?_
      obtain rfl := Option.some.inj h
      exact m_iret (pc := 48) hx hb hr hlk hS ⟨rfl, hW⟩ (by decide) (by decide) d162_48
    · have h := jb_t c39 h
      refine lv_dload_n (pc := 42) hx hb d162_42 rfl (lv_at hl 1 rfl) ?_
      refine lv_d2i (pc := 43) hx hb d162_43 ?_
      refine lv_goto (pc := 44) (tgt := 48) hx hb d162_44 (by decide) ?_
      obtain rfl := Option.some.inj h
      exact m_iret (pc := 48) hx hb hr hlk hS ⟨rfl, hW⟩ (by decide) (by decide) d162_48
  have kc29 : ∀ (st : GS) (x1 : UInt64) (H : Heap) (locs : List Loc) (ls : Array Slot), GW ρ wM ad st H → va_S (MA wM ad s.heap.size) s.heap H locs → lv_has ls 3 [(0, .ref (ad 0)), (1, .double x1)] → mo_dayTaken_29 st x1 = some res → W p l e ({ frames := 3, cells := 0, slots := 0, locals := 66 } : Room) s m args below meth c H locs 0 0 (MQ below (mQ (fun v H1 => v = some (.int res.1) ∧ GW ρ wM ad res.2 H1) (MA wM ad s.heap.size)) args s 0 0 (MA wM ad s.heap.size)) (F0 m 29 ls []) := by
    intro st x1 H locs ls hW hS hl h
    unfold mo_dayTaken_29 at h
    refine lv_aload_n (pc := 29) hx hb d162_29 rfl (lv_at hl 0 rfl) ?_
    refine lv_bipush (pc := 30) (v := 6) hx hb d162_30 (by decide) ?_
    obtain ⟨q1, hq1, h⟩ := jc_some h
    refine k_callV (pc := 32) (n := 1) X hS (c_mo_fail l ρ ad _ st 6 q1 hW hq1) wd1621 wd1618 wd1620 sl170 wd11 (by decide) ⟨rfl, rfl, by decide, by decide⟩ (m_recv X hW) (As := [.int 6]) (rest := []) rfl rfl hl.1 (Nat.le_of_ble_eq_true rfl) d162_32 ⟨by decide, by decide⟩ (fun q hq => MA.mono hS.1 hq) (fun v H1 locs1 hv _ _ hSq1 => ?_)
    obtain ⟨rfl, hW⟩ := hv
    have hS := hSq1
    exact kc35  q1 x1 _ _ _ hW hS (lv_sub hl [0, 1] rfl) h
  unfold f_mo_dayTaken at h
  refine lv_aload_n (pc := 0) hx hb d162_0 rfl (lv_at hl 0 rfl) ?_
  obtain ⟨q2, hq2, h⟩ := jc_some h
  refine k_callV (pc := 1) (n := 0) X hS (c_mo_numberTaken l ρ ad _ st q2 hW hq2) wd1679 wd1676 wd1678 sl205 wd11 (by decide) ⟨rfl, rfl, by decide, by decide⟩ (m_recv X hW) (As := []) (rest := []) rfl rfl hl.1 (Nat.le_of_ble_eq_true rfl) d162_1 ⟨by decide, by decide⟩ (fun q hq => MA.mono hS.1 hq) (fun v H1 locs1 hv _ _ hSq2 => ?_)
  obtain ⟨rfl, hW⟩ := hv
  have hS := hSq2
  obtain ⟨q3, hq3, h⟩ := jc_some h
  refine k_callS (pc := 4) (n := 1) X hS (c_mo_floor l ρ _ q2.1 q3 hq3) wd1922 wd1920 wd1921 wd11 (by decide) ⟨rfl, rfl, by decide, by decide⟩ (As := [.double q2.1]) (rest := []) rfl rfl hl.1 (Nat.le_of_ble_eq_true rfl) d162_4 ⟨by decide, by decide⟩ (fun q hq => False.elim hq) (fun v H1 locs1 hv _ _ hSq3 => ?_)
  obtain ⟨rfl, rfl⟩ := hv
  have hS := hSq3
  refine lv_dstore_n (pc := 7) (lv' := [(1, .double q3), (0, .ref (ad 0))]) hx hb d162_7 rfl hl (by decide) rfl (fun ls hl => ?_)
  refine lv_aload_n (pc := 8) hx hb d162_8 rfl (lv_at hl 1 rfl) ?_
  refine m_get (pc := 9) X hW 22 (v := .int (q2.2.1 0 22)) wd1388 rfl rfl d162_9 ?_
  refine lv_if_ne (pc := 12) (tgt := 35) hx hb d162_12 (by decide) (fun c12 => ?_) (fun c12 => ?_)
  · have h := jb_f c12 h
    exact kc35  q2.2 q3 _ _ _ hW hS (lv_sub hl [1, 0] rfl) h
  · have h := jb_t c12 h
    refine lv_dload_n (pc := 15) hx hb d162_15 rfl (lv_at hl 0 rfl) ?_
    refine lv_dconst0 (pc := 16) hx hb d162_16 ?_
    refine lv_dcmp (pc := 17) hx hb d162_17 ?_
    refine lv_if_lt (pc := 18) (tgt := 29) hx hb d162_18 (by decide) (fun c18 => ?_) (fun c18 => ?_)
    · have h := jb_t c18 h
      exact kc29  q2.2 q3 _ _ _ hW hS (lv_sub hl [1, 0] rfl) h
    · have h := jb_f c18 h
      refine lv_dload_n (pc := 21) hx hb d162_21 rfl (lv_at hl 0 rfl) ?_
      refine lv_ldc2d (pc := 22) hx hb X.1.2.2.2.1 (X.ts wd1923) d162_22 ?_
      refine lv_dcmp (pc := 25) hx hb d162_25 ?_
      refine lv_if_le (pc := 26) (tgt := 35) hx hb d162_26 (by decide) (fun c26 => ?_) (fun c26 => ?_)
      · have h := jb_t c26 h
        exact kc35  q2.2 q3 _ _ _ hW hS (lv_sub hl [1, 0] rfl) h
      · have h := jb_f c26 h
        exact kc29  q2.2 q3 _ _ _ hW hS (lv_sub hl [1, 0] rfl) h
def f_mo_dayOf (st : GS) (p0 : Int32) : Option (Int32 × GS) := jc (f_mo_takeOf st p0) (fun q1 => jc (f_mo_dayTaken q1) (fun q2 => some (q2.1, q2.2)))
set_option maxHeartbeats 4000000 in
set_option maxRecDepth 100000 in
theorem c_mo_dayOf (l : Launch) (ρ : RH) (ad : Nat → Nat) (H : Heap) (st : GS) (p0 : Int32) (res : Int32 × GS) (hW : GW ρ wM ad st H) (h : f_mo_dayOf st p0 = some res) : Met l y161 (wsOf y161 b161 2 (some .int)) ({ frames := 4, cells := 0, slots := 0, locals := 88 } : Room) (va_Pc [.ref (ad 0), .int p0] (KP ρ H)) (mQ (fun v H1 => v = some (.int res.1) ∧ GW ρ wM ad res.2 H1) (MA wM ad H.size)) 0 0 (MA wM ad H.size) := by
  refine m_ofW (own := "WordFunctionsModel") (plainFor_of_name rfl) rfl (Nat.le_of_ble_eq_true rfl) fun p e s m args below meth c ls hx hb hr hlk _ X hs hl => ?_
  subst hs
  have hS : va_S (MA wM ad s.heap.size) s.heap s.heap [] := va_S.rf
  have hl : lv_has ls 2 [(0, .ref (ad 0)), (1, .int p0)] := hl
  unfold f_mo_dayOf at h
  refine lv_aload_n (pc := 0) hx hb d161_0 rfl (lv_at hl 0 rfl) ?_
  refine lv_iload_n (pc := 1) hx hb d161_1 rfl (lv_at hl 1 rfl) ?_
  obtain ⟨q1, hq1, h⟩ := jc_some h
  refine k_callV (pc := 2) (n := 1) X hS (c_mo_takeOf l ρ ad _ st p0 q1 hW hq1) wd1601 wd1598 wd1600 sl224 wd11 (by decide) ⟨rfl, rfl, by decide, by decide⟩ (m_recv X hW) (As := [.int p0]) (rest := []) rfl rfl hl.1 (Nat.le_of_ble_eq_true rfl) d161_2 ⟨by decide, by decide⟩ (fun q hq => MA.mono hS.1 hq) (fun v H1 locs1 hv _ _ hSq1 => ?_)
  obtain ⟨rfl, hW⟩ := hv
  have hS := hSq1
  refine lv_aload_n (pc := 5) hx hb d161_5 rfl (lv_at hl 0 rfl) ?_
  obtain ⟨q2, hq2, h⟩ := jc_some h
  refine k_callV (pc := 6) (n := 0) X hS (c_mo_dayTaken l ρ ad _ q1 q2 hW hq2) wd1919 wd1916 wd1918 sl162 wd11 (by decide) ⟨rfl, rfl, by decide, by decide⟩ (m_recv X hW) (As := []) (rest := []) rfl rfl hl.1 (Nat.le_of_ble_eq_true rfl) d161_6 ⟨by decide, by decide⟩ (fun q hq => MA.mono hS.1 hq) (fun v H1 locs1 hv _ _ hSq2 => ?_)
  obtain ⟨rfl, hW⟩ := hv
  have hS := hSq2
  obtain rfl := Option.some.inj h
  exact m_iret (pc := 9) hx hb hr hlk hS ⟨rfl, hW⟩ (by decide) (by decide) d161_9
def mo_dateOf_118  : Nat → GS → Int32 → Option (GS)
  | 0, _, _ => none
  | fu + 1, st, x2 => jc (f_mo_daysOf (st.1 0 42) (st.1 0 43)) (fun q1 => jb (x2 ≤ q1) (jn (uI st 0 44 x2) (fun st2 => some st2)) (jc (f_mo_daysOf (st.1 0 42) (st.1 0 43)) (fun q3 => jn (x2 - q3) (fun v4 => jn (uI st 0 43 ((st.1 0 43) + 1)) (fun st5 => mo_dateOf_118 fu st5 v4)))))
def mo_dateOf_98 (K18 : GS → Int32 → Option (GS)) (st : GS) (z0 : Int32) (z1 : Int32) : Option (GS) := jn (z0 - z1) (fun v6 => jn (uI st 0 42 ((st.1 0 42) + 1)) (fun st7 => jn (uI st7 0 43 1) (fun st8 => K18 st8 v6)))
def mo_dateOf_64 (K18 : GS → Int32 → Option (GS)) (st : GS) (x2 : Int32) : Option (GS) := jb ((st.1 0 43) = 12) (mo_dateOf_98 K18  st x2 31) (jc (f_mo_isLeap (st.1 0 42)) (fun q9 => jb (q9 = 0) (mo_dateOf_98 K18  st x2 365) (mo_dateOf_98 K18  st x2 366)))
def mo_dateOf_61 (K18 : GS → Int32 → Option (GS)) (st : GS) (x2 : Int32) (z0 : Int32) (z1 : Int32) : Option (GS) := jb (z0 ≤ z1) (mo_dateOf_118 FU st x2) (mo_dateOf_64 K18  st x2)
def mo_dateOf_33 (K18 : GS → Int32 → Option (GS)) (st : GS) (x2 : Int32) : Option (GS) := jb ((st.1 0 43) = 1) (jc (f_mo_isLeap (st.1 0 42)) (fun q10 => jb (q10 = 0) (mo_dateOf_61 K18  st x2 x2 365) (mo_dateOf_61 K18  st x2 x2 366))) (mo_dateOf_118 FU st x2)
def mo_dateOf_18  : Nat → GS → Int32 → Option (GS)
  | 0, _, _ => none
  | fu + 1, st, x2 => jb ((st.1 0 43) = 12) (jb (31 < x2) (mo_dateOf_64 (mo_dateOf_18 fu)  st x2) (mo_dateOf_33 (mo_dateOf_18 fu)  st x2)) (mo_dateOf_33 (mo_dateOf_18 fu)  st x2)
def f_mo_dateOf (st : GS) (p0 : Int32) : Option (GS) := jn (uI st 0 42 1899) (fun st11 => jn (uI st11 0 43 12) (fun st12 => jn (p0 + 30) (fun v13 => mo_dateOf_18 FU st12 v13)))
set_option maxHeartbeats 4000000 in
set_option maxRecDepth 100000 in
theorem c_mo_dateOf (l : Launch) (ρ : RH) (ad : Nat → Nat) (H : Heap) (st : GS) (p0 : Int32) (res : GS) (hW : GW ρ wM ad st H) (h : f_mo_dateOf st p0 = some res) : Met l y158 (wsOf y158 b158 3 none) ({ frames := 2, cells := 0, slots := 0, locals := 41 } : Room) (va_Pc [.ref (ad 0), .int p0] (KP ρ H)) (mQ (fun v H1 => v = none ∧ GW ρ wM ad res H1) (MA wM ad H.size)) 0 0 (MA wM ad H.size) := by
  refine m_ofW (own := "WordFunctionsModel") (plainFor_of_name rfl) rfl (Nat.le_of_ble_eq_true rfl) fun p e s m args below meth c ls hx hb hr hlk _ X hs hl => ?_
  subst hs
  have hS : va_S (MA wM ad s.heap.size) s.heap s.heap [] := va_S.rf
  have hl : lv_has ls 3 [(0, .ref (ad 0)), (1, .int p0)] := hl
  have kc118 : ∀ (fu : Nat), ∀ (st : GS) (x2 : Int32) (H : Heap) (locs : List Loc) (ls : Array Slot), GW ρ wM ad st H → va_S (MA wM ad s.heap.size) s.heap H locs → lv_has ls 3 [(0, .ref (ad 0)), (2, .int x2)] → mo_dateOf_118 fu st x2 = some res → W p l e ({ frames := 2, cells := 0, slots := 0, locals := 41 } : Room) s m args below meth c H locs 0 0 (MQ below (mQ (fun v H1 => v = none ∧ GW ρ wM ad res H1) (MA wM ad s.heap.size)) args s 0 0 (MA wM ad s.heap.size)) (F0 m 118 ls []) := by
    intro  fu
    induction fu with
    | zero => intro st x2 H locs ls hW hS hl h; cases h
    | succ fu hK118 =>
      intro st x2 H locs ls hW hS hl h
      unfold mo_dateOf_118 at h
      refine lv_iload_n (pc := 118) hx hb d158_118 rfl (lv_at hl 1 rfl) ?_
      refine lv_aload_n (pc := 119) hx hb d158_119 rfl (lv_at hl 0 rfl) ?_
      refine m_get (pc := 120) X hW 42 (v := .int (st.1 0 42)) wd1408 rfl rfl d158_120 ?_
      refine lv_aload_n (pc := 123) hx hb d158_123 rfl (lv_at hl 0 rfl) ?_
      refine m_get (pc := 124) X hW 43 (v := .int (st.1 0 43)) wd1409 rfl rfl d158_124 ?_
      obtain ⟨q1, hq1, h⟩ := jc_some h
      refine k_callS (pc := 127) (n := 2) X hS (c_mo_daysOf l ρ _ (st.1 0 42) (st.1 0 43) q1 hq1) wd1893 wd1891 wd1892 wd11 (by decide) ⟨rfl, rfl, by decide, by decide⟩ (As := [.int (st.1 0 42), .int (st.1 0 43)]) (rest := [.int x2]) rfl rfl hl.1 (Nat.le_of_ble_eq_true rfl) d158_127 ⟨by decide, by decide⟩ (fun q hq => False.elim hq) (fun v H1 locs1 hv _ _ hSq1 => ?_)
      obtain ⟨rfl, rfl⟩ := hv
      have hS := hSq1
      refine lv_icmp_le (pc := 130) (tgt := 160) hx hb d158_130 (by decide) (fun c130 => ?_) (fun c130 => ?_)
      · have h := jb_t c130 h
        refine lv_aload_n (pc := 160) hx hb d158_160 rfl (lv_at hl 0 rfl) ?_
        refine lv_iload_n (pc := 161) hx hb d158_161 rfl (lv_at hl 1 rfl) ?_
        obtain ⟨st2, est2, h⟩ := jn_ex h
        refine m_putI (pc := 162) X hW hS 44 est2 wd1410 rfl rfl rfl rfl rfl d158_162 (fun H locs hW hS => ?_)
        obtain rfl := Option.some.inj h
        exact m_vret (pc := 165) hx hb hr hlk hS ⟨rfl, hW⟩ (by decide) (by decide) d158_165
      · have h := jb_f c130 h
        refine lv_iload_n (pc := 133) hx hb d158_133 rfl (lv_at hl 1 rfl) ?_
        refine lv_aload_n (pc := 134) hx hb d158_134 rfl (lv_at hl 0 rfl) ?_
        refine m_get (pc := 135) X hW 42 (v := .int (st.1 0 42)) wd1408 rfl rfl d158_135 ?_
        refine lv_aload_n (pc := 138) hx hb d158_138 rfl (lv_at hl 0 rfl) ?_
        refine m_get (pc := 139) X hW 43 (v := .int (st.1 0 43)) wd1409 rfl rfl d158_139 ?_
        obtain ⟨q3, hq3, h⟩ := jc_some h
        refine k_callS (pc := 142) (n := 2) X hS (c_mo_daysOf l ρ _ (st.1 0 42) (st.1 0 43) q3 hq3) wd1893 wd1891 wd1892 wd11 (by decide) ⟨rfl, rfl, by decide, by decide⟩ (As := [.int (st.1 0 42), .int (st.1 0 43)]) (rest := [.int x2]) rfl rfl hl.1 (Nat.le_of_ble_eq_true rfl) d158_142 ⟨by decide, by decide⟩ (fun q hq => False.elim hq) (fun v H1 locs1 hv _ _ hSq3 => ?_)
        obtain ⟨rfl, rfl⟩ := hv
        have hS := hSq3
        refine lv_isub (pc := 145) hx hb d158_145 ?_
        obtain ⟨v4, ev4, h⟩ := jn_ex h
        refine nm_i ev4 ?_
        refine lv_istore_n (pc := 146) (lv' := [(2, .int v4), (0, .ref (ad 0))]) hx hb d158_146 rfl hl (by decide) rfl (fun ls hl => ?_)
        refine lv_aload_n (pc := 147) hx hb d158_147 rfl (lv_at hl 1 rfl) ?_
        refine lv_dup (pc := 148) hx hb d158_148 rfl ?_
        refine m_get (pc := 149) X hW 43 (v := .int (st.1 0 43)) wd1409 rfl rfl d158_149 ?_
        refine lv_iconst (pc := 152) (v := 1) hx hb d158_152 (by decide) ?_
        refine lv_iadd (pc := 153) hx hb d158_153 ?_
        obtain ⟨st5, est5, h⟩ := jn_ex h
        refine m_putI (pc := 154) X hW hS 43 est5 wd1409 rfl rfl rfl rfl rfl d158_154 (fun H locs hW hS => ?_)
        refine lv_goto (pc := 157) (tgt := 118) hx hb d158_157 (by decide) ?_
        exact hK118 st5 v4 _ _ _ hW hS (lv_sub hl [1, 0] rfl) h
  have kc98 : ∀ (K18 : GS → Int32 → Option (GS)) (hK18 : ∀ (st : GS) (x2 : Int32) (H : Heap) (locs : List Loc) (ls : Array Slot), GW ρ wM ad st H → va_S (MA wM ad s.heap.size) s.heap H locs → lv_has ls 3 [(0, .ref (ad 0)), (2, .int x2)] → K18 st x2 = some res → W p l e ({ frames := 2, cells := 0, slots := 0, locals := 41 } : Room) s m args below meth c H locs 0 0 (MQ below (mQ (fun v H1 => v = none ∧ GW ρ wM ad res H1) (MA wM ad s.heap.size)) args s 0 0 (MA wM ad s.heap.size)) (F0 m 18 ls [])), ∀ (st : GS) (z0 : Int32) (z1 : Int32) (H : Heap) (locs : List Loc) (ls : Array Slot), GW ρ wM ad st H → va_S (MA wM ad s.heap.size) s.heap H locs → lv_has ls 3 [(0, .ref (ad 0))] → mo_dateOf_98 K18 st z0 z1 = some res → W p l e ({ frames := 2, cells := 0, slots := 0, locals := 41 } : Room) s m args below meth c H locs 0 0 (MQ below (mQ (fun v H1 => v = none ∧ GW ρ wM ad res H1) (MA wM ad s.heap.size)) args s 0 0 (MA wM ad s.heap.size)) (F0 m 98 ls [.int z1, .int z0]) := by
    intro K18 hK18
    intro st z0 z1 H locs ls hW hS hl h
    unfold mo_dateOf_98 at h
    refine lv_isub (pc := 98) hx hb d158_98 ?_
    obtain ⟨v6, ev6, h⟩ := jn_ex h
    refine nm_i ev6 ?_
    refine lv_istore_n (pc := 99) (lv' := [(2, .int v6), (0, .ref (ad 0))]) hx hb d158_99 rfl hl (by decide) rfl (fun ls hl => ?_)
    refine lv_aload_n (pc := 100) hx hb d158_100 rfl (lv_at hl 1 rfl) ?_
    refine lv_dup (pc := 101) hx hb d158_101 rfl ?_
    refine m_get (pc := 102) X hW 42 (v := .int (st.1 0 42)) wd1408 rfl rfl d158_102 ?_
    refine lv_iconst (pc := 105) (v := 1) hx hb d158_105 (by decide) ?_
    refine lv_iadd (pc := 106) hx hb d158_106 ?_
    obtain ⟨st7, est7, h⟩ := jn_ex h
    refine m_putI (pc := 107) X hW hS 42 est7 wd1408 rfl rfl rfl rfl rfl d158_107 (fun H locs hW hS => ?_)
    refine lv_aload_n (pc := 110) hx hb d158_110 rfl (lv_at hl 1 rfl) ?_
    refine lv_iconst (pc := 111) (v := 1) hx hb d158_111 (by decide) ?_
    obtain ⟨st8, est8, h⟩ := jn_ex h
    refine m_putI (pc := 112) X hW hS 43 est8 wd1409 rfl rfl rfl rfl rfl d158_112 (fun H locs hW hS => ?_)
    refine lv_goto (pc := 115) (tgt := 18) hx hb d158_115 (by decide) ?_
    exact hK18 st8 v6 _ _ _ hW hS (lv_sub hl [1, 0] rfl) h
  have kc64 : ∀ (K18 : GS → Int32 → Option (GS)) (hK18 : ∀ (st : GS) (x2 : Int32) (H : Heap) (locs : List Loc) (ls : Array Slot), GW ρ wM ad st H → va_S (MA wM ad s.heap.size) s.heap H locs → lv_has ls 3 [(0, .ref (ad 0)), (2, .int x2)] → K18 st x2 = some res → W p l e ({ frames := 2, cells := 0, slots := 0, locals := 41 } : Room) s m args below meth c H locs 0 0 (MQ below (mQ (fun v H1 => v = none ∧ GW ρ wM ad res H1) (MA wM ad s.heap.size)) args s 0 0 (MA wM ad s.heap.size)) (F0 m 18 ls [])), ∀ (st : GS) (x2 : Int32) (H : Heap) (locs : List Loc) (ls : Array Slot), GW ρ wM ad st H → va_S (MA wM ad s.heap.size) s.heap H locs → lv_has ls 3 [(0, .ref (ad 0)), (2, .int x2)] → mo_dateOf_64 K18 st x2 = some res → W p l e ({ frames := 2, cells := 0, slots := 0, locals := 41 } : Room) s m args below meth c H locs 0 0 (MQ below (mQ (fun v H1 => v = none ∧ GW ρ wM ad res H1) (MA wM ad s.heap.size)) args s 0 0 (MA wM ad s.heap.size)) (F0 m 64 ls []) := by
    intro K18 hK18
    intro st x2 H locs ls hW hS hl h
    unfold mo_dateOf_64 at h
    refine lv_iload_n (pc := 64) hx hb d158_64 rfl (lv_at hl 1 rfl) ?_
    refine lv_aload_n (pc := 65) hx hb d158_65 rfl (lv_at hl 0 rfl) ?_
    refine m_get (pc := 66) X hW 43 (v := .int (st.1 0 43)) wd1409 rfl rfl d158_66 ?_
    refine lv_bipush (pc := 69) (v := 12) hx hb d158_69 (by decide) ?_
    refine lv_icmp_ne (pc := 71) (tgt := 79) hx hb d158_71 (by decide) (fun c71 => ?_) (fun c71 => ?_)
    · have h := jb_f c71 h
      refine lv_aload_n (pc := 79) hx hb d158_79 rfl (lv_at hl 0 rfl) ?_
      refine m_get (pc := 80) X hW 42 (v := .int (st.1 0 42)) wd1408 rfl rfl d158_80 ?_
      obtain ⟨q9, hq9, h⟩ := jc_some h
      refine k_callS (pc := 83) (n := 1) X hS (c_mo_isLeap l ρ _ (st.1 0 42) q9 hq9) wd1888 wd1886 wd1887 wd11 (by decide) ⟨rfl, rfl, by decide, by decide⟩ (As := [.int (st.1 0 42)]) (rest := [.int x2]) rfl rfl hl.1 (Nat.le_of_ble_eq_true rfl) d158_83 ⟨by decide, by decide⟩ (fun q hq => False.elim hq) (fun v H1 locs1 hv _ _ hSq9 => ?_)
      obtain ⟨rfl, rfl⟩ := hv
      have hS := hSq9
      refine lv_if_eq (pc := 86) (tgt := 95) hx hb d158_86 (by decide) (fun c86 => ?_) (fun c86 => ?_)
      · have h := jb_t c86 h
        refine lv_sipush (pc := 95) (v := 365) hx hb d158_95 (by decide) ?_
        exact kc98 _ hK18 st x2 365 _ _ _ hW hS (lv_sub hl [0] rfl) h
      · have h := jb_f c86 h
        refine lv_sipush (pc := 89) (v := 366) hx hb d158_89 (by decide) ?_
        refine lv_goto (pc := 92) (tgt := 98) hx hb d158_92 (by decide) ?_
        exact kc98 _ hK18 st x2 366 _ _ _ hW hS (lv_sub hl [0] rfl) h
    · have h := jb_t c71 h
      refine lv_bipush (pc := 74) (v := 31) hx hb d158_74 (by decide) ?_
      refine lv_goto (pc := 76) (tgt := 98) hx hb d158_76 (by decide) ?_
      exact kc98 _ hK18 st x2 31 _ _ _ hW hS (lv_sub hl [0] rfl) h
  have kc61 : ∀ (K18 : GS → Int32 → Option (GS)) (hK18 : ∀ (st : GS) (x2 : Int32) (H : Heap) (locs : List Loc) (ls : Array Slot), GW ρ wM ad st H → va_S (MA wM ad s.heap.size) s.heap H locs → lv_has ls 3 [(0, .ref (ad 0)), (2, .int x2)] → K18 st x2 = some res → W p l e ({ frames := 2, cells := 0, slots := 0, locals := 41 } : Room) s m args below meth c H locs 0 0 (MQ below (mQ (fun v H1 => v = none ∧ GW ρ wM ad res H1) (MA wM ad s.heap.size)) args s 0 0 (MA wM ad s.heap.size)) (F0 m 18 ls [])), ∀ (st : GS) (x2 : Int32) (z0 : Int32) (z1 : Int32) (H : Heap) (locs : List Loc) (ls : Array Slot), GW ρ wM ad st H → va_S (MA wM ad s.heap.size) s.heap H locs → lv_has ls 3 [(0, .ref (ad 0)), (2, .int x2)] → mo_dateOf_61 K18 st x2 z0 z1 = some res → W p l e ({ frames := 2, cells := 0, slots := 0, locals := 41 } : Room) s m args below meth c H locs 0 0 (MQ below (mQ (fun v H1 => v = none ∧ GW ρ wM ad res H1) (MA wM ad s.heap.size)) args s 0 0 (MA wM ad s.heap.size)) (F0 m 61 ls [.int z1, .int z0]) := by
    intro K18 hK18
    intro st x2 z0 z1 H locs ls hW hS hl h
    unfold mo_dateOf_61 at h
    refine lv_icmp_le (pc := 61) (tgt := 118) hx hb d158_61 (by decide) (fun c61 => ?_) (fun c61 => ?_)
    · have h := jb_t c61 h
      exact kc118  FU st x2 _ _ _ hW hS (lv_sub hl [0, 1] rfl) h
    · have h := jb_f c61 h
      exact kc64 _ hK18 st x2 _ _ _ hW hS (lv_sub hl [0, 1] rfl) h
  have kc33 : ∀ (K18 : GS → Int32 → Option (GS)) (hK18 : ∀ (st : GS) (x2 : Int32) (H : Heap) (locs : List Loc) (ls : Array Slot), GW ρ wM ad st H → va_S (MA wM ad s.heap.size) s.heap H locs → lv_has ls 3 [(0, .ref (ad 0)), (2, .int x2)] → K18 st x2 = some res → W p l e ({ frames := 2, cells := 0, slots := 0, locals := 41 } : Room) s m args below meth c H locs 0 0 (MQ below (mQ (fun v H1 => v = none ∧ GW ρ wM ad res H1) (MA wM ad s.heap.size)) args s 0 0 (MA wM ad s.heap.size)) (F0 m 18 ls [])), ∀ (st : GS) (x2 : Int32) (H : Heap) (locs : List Loc) (ls : Array Slot), GW ρ wM ad st H → va_S (MA wM ad s.heap.size) s.heap H locs → lv_has ls 3 [(0, .ref (ad 0)), (2, .int x2)] → mo_dateOf_33 K18 st x2 = some res → W p l e ({ frames := 2, cells := 0, slots := 0, locals := 41 } : Room) s m args below meth c H locs 0 0 (MQ below (mQ (fun v H1 => v = none ∧ GW ρ wM ad res H1) (MA wM ad s.heap.size)) args s 0 0 (MA wM ad s.heap.size)) (F0 m 33 ls []) := by
    intro K18 hK18
    intro st x2 H locs ls hW hS hl h
    unfold mo_dateOf_33 at h
    refine lv_aload_n (pc := 33) hx hb d158_33 rfl (lv_at hl 0 rfl) ?_
    refine m_get (pc := 34) X hW 43 (v := .int (st.1 0 43)) wd1409 rfl rfl d158_34 ?_
    refine lv_iconst (pc := 37) (v := 1) hx hb d158_37 (by decide) ?_
    refine lv_icmp_ne (pc := 38) (tgt := 118) hx hb d158_38 (by decide) (fun c38 => ?_) (fun c38 => ?_)
    · have h := jb_f c38 h
      exact kc118  FU st x2 _ _ _ hW hS (lv_sub hl [0, 1] rfl) h
    · have h := jb_t c38 h
      refine lv_iload_n (pc := 41) hx hb d158_41 rfl (lv_at hl 1 rfl) ?_
      refine lv_aload_n (pc := 42) hx hb d158_42 rfl (lv_at hl 0 rfl) ?_
      refine m_get (pc := 43) X hW 42 (v := .int (st.1 0 42)) wd1408 rfl rfl d158_43 ?_
      obtain ⟨q10, hq10, h⟩ := jc_some h
      refine k_callS (pc := 46) (n := 1) X hS (c_mo_isLeap l ρ _ (st.1 0 42) q10 hq10) wd1888 wd1886 wd1887 wd11 (by decide) ⟨rfl, rfl, by decide, by decide⟩ (As := [.int (st.1 0 42)]) (rest := [.int x2]) rfl rfl hl.1 (Nat.le_of_ble_eq_true rfl) d158_46 ⟨by decide, by decide⟩ (fun q hq => False.elim hq) (fun v H1 locs1 hv _ _ hSq10 => ?_)
      obtain ⟨rfl, rfl⟩ := hv
      have hS := hSq10
      refine lv_if_eq (pc := 49) (tgt := 58) hx hb d158_49 (by decide) (fun c49 => ?_) (fun c49 => ?_)
      · have h := jb_t c49 h
        refine lv_sipush (pc := 58) (v := 365) hx hb d158_58 (by decide) ?_
        exact kc61 _ hK18 st x2 x2 365 _ _ _ hW hS (lv_sub hl [0, 1] rfl) h
      · have h := jb_f c49 h
        refine lv_sipush (pc := 52) (v := 366) hx hb d158_52 (by decide) ?_
        refine lv_goto (pc := 55) (tgt := 61) hx hb d158_55 (by decide) ?_
        exact kc61 _ hK18 st x2 x2 366 _ _ _ hW hS (lv_sub hl [0, 1] rfl) h
  have kc18 : ∀ (fu : Nat), ∀ (st : GS) (x2 : Int32) (H : Heap) (locs : List Loc) (ls : Array Slot), GW ρ wM ad st H → va_S (MA wM ad s.heap.size) s.heap H locs → lv_has ls 3 [(0, .ref (ad 0)), (2, .int x2)] → mo_dateOf_18 fu st x2 = some res → W p l e ({ frames := 2, cells := 0, slots := 0, locals := 41 } : Room) s m args below meth c H locs 0 0 (MQ below (mQ (fun v H1 => v = none ∧ GW ρ wM ad res H1) (MA wM ad s.heap.size)) args s 0 0 (MA wM ad s.heap.size)) (F0 m 18 ls []) := by
    intro  fu
    induction fu with
    | zero => intro st x2 H locs ls hW hS hl h; cases h
    | succ fu hK18 =>
      intro st x2 H locs ls hW hS hl h
      unfold mo_dateOf_18 at h
      refine lv_aload_n (pc := 18) hx hb d158_18 rfl (lv_at hl 0 rfl) ?_
      refine m_get (pc := 19) X hW 43 (v := .int (st.1 0 43)) wd1409 rfl rfl d158_19 ?_
      refine lv_bipush (pc := 22) (v := 12) hx hb d158_22 (by decide) ?_
      refine lv_icmp_ne (pc := 24) (tgt := 33) hx hb d158_24 (by decide) (fun c24 => ?_) (fun c24 => ?_)
      · have h := jb_f c24 h
        exact kc33 _ hK18 st x2 _ _ _ hW hS (lv_sub hl [0, 1] rfl) h
      · have h := jb_t c24 h
        refine lv_iload_n (pc := 27) hx hb d158_27 rfl (lv_at hl 1 rfl) ?_
        refine lv_bipush (pc := 28) (v := 31) hx hb d158_28 (by decide) ?_
        refine lv_icmp_gt (pc := 30) (tgt := 64) hx hb d158_30 (by decide) (fun c30 => ?_) (fun c30 => ?_)
        · have h := jb_t c30 h
          exact kc64 _ hK18 st x2 _ _ _ hW hS (lv_sub hl [0, 1] rfl) h
        · have h := jb_f c30 h
          exact kc33 _ hK18 st x2 _ _ _ hW hS (lv_sub hl [0, 1] rfl) h
  unfold f_mo_dateOf at h
  refine lv_aload_n (pc := 0) hx hb d158_0 rfl (lv_at hl 0 rfl) ?_
  refine lv_sipush (pc := 1) (v := 1899) hx hb d158_1 (by decide) ?_
  obtain ⟨st11, est11, h⟩ := jn_ex h
  refine m_putI (pc := 4) X hW hS 42 est11 wd1408 rfl rfl rfl rfl rfl d158_4 (fun H locs hW hS => ?_)
  refine lv_aload_n (pc := 7) hx hb d158_7 rfl (lv_at hl 0 rfl) ?_
  refine lv_bipush (pc := 8) (v := 12) hx hb d158_8 (by decide) ?_
  obtain ⟨st12, est12, h⟩ := jn_ex h
  refine m_putI (pc := 10) X hW hS 43 est12 wd1409 rfl rfl rfl rfl rfl d158_10 (fun H locs hW hS => ?_)
  refine lv_iload_n (pc := 13) hx hb d158_13 rfl (lv_at hl 1 rfl) ?_
  refine lv_bipush (pc := 14) (v := 30) hx hb d158_14 (by decide) ?_
  refine lv_iadd (pc := 16) hx hb d158_16 ?_
  obtain ⟨v13, ev13, h⟩ := jn_ex h
  refine nm_i ev13 ?_
  refine lv_istore_n (pc := 17) (lv' := [(2, .int v13), (0, .ref (ad 0)), (1, .int p0)]) hx hb d158_17 rfl hl (by decide) rfl (fun ls hl => ?_)
  exact kc18  FU st12 v13 _ _ _ hW hS (lv_sub hl [1, 0] rfl) h
def mo_datePart_53  (st : GS) (z1 : UInt64) : Option (GS) := jc (f_mo_answerNumber st z1) (fun q1 => some q1)
def f_mo_datePart (st : GS) (p0 : Int32) : Option (GS) := jc (f_mo_dayOf st 0) (fun q2 => jb ((q2.2.1 0 22) = 0) (jc (f_mo_dateOf q2.2 q2.1) (fun q3 => jb (p0 = 103) (mo_datePart_53  q3 (FP.i2d (q3.1 0 42))) (jb (p0 = 104) (mo_datePart_53  q3 (FP.i2d (q3.1 0 43))) (mo_datePart_53  q3 (FP.i2d (q3.1 0 44)))))) (some q2.2))
set_option maxHeartbeats 4000000 in
set_option maxRecDepth 100000 in
theorem c_mo_datePart (l : Launch) (ρ : RH) (ad : Nat → Nat) (H : Heap) (st : GS) (p0 : Int32) (res : GS) (hW : GW ρ wM ad st H) (h : f_mo_datePart st p0 = some res) : Met l y159 (wsOf y159 b159 3 none) ({ frames := 5, cells := 0, slots := 0, locals := 109 } : Room) (va_Pc [.ref (ad 0), .int p0] (KP ρ H)) (mQ (fun v H1 => v = none ∧ GW ρ wM ad res H1) (MA wM ad H.size)) 0 0 (MA wM ad H.size) := by
  refine m_ofW (own := "WordFunctionsModel") (plainFor_of_name rfl) rfl (Nat.le_of_ble_eq_true rfl) fun p e s m args below meth c ls hx hb hr hlk _ X hs hl => ?_
  subst hs
  have hS : va_S (MA wM ad s.heap.size) s.heap s.heap [] := va_S.rf
  have hl : lv_has ls 3 [(0, .ref (ad 0)), (1, .int p0)] := hl
  have kc53 : ∀ (st : GS) (z1 : UInt64) (H : Heap) (locs : List Loc) (ls : Array Slot), GW ρ wM ad st H → va_S (MA wM ad s.heap.size) s.heap H locs → lv_has ls 3 [] → mo_datePart_53 st z1 = some res → W p l e ({ frames := 5, cells := 0, slots := 0, locals := 109 } : Room) s m args below meth c H locs 0 0 (MQ below (mQ (fun v H1 => v = none ∧ GW ρ wM ad res H1) (MA wM ad s.heap.size)) args s 0 0 (MA wM ad s.heap.size)) (F0 m 53 ls [.double z1, .ref (ad 0)]) := by
    intro st z1 H locs ls hW hS hl h
    unfold mo_datePart_53 at h
    obtain ⟨q1, hq1, h⟩ := jc_some h
    refine k_callV (pc := 53) (n := 1) X hS (c_mo_answerNumber l ρ ad _ st z1 q1 hW hq1) wd1651 wd1648 wd1650 sl142 wd11 (by decide) ⟨rfl, rfl, by decide, by decide⟩ (m_recv X hW) (As := [.double z1]) (rest := []) rfl rfl hl.1 (Nat.le_of_ble_eq_true rfl) d159_53 ⟨by decide, by decide⟩ (fun q hq => MA.mono hS.1 hq) (fun v H1 locs1 hv _ _ hSq1 => ?_)
    obtain ⟨rfl, hW⟩ := hv
    have hS := hSq1
    obtain rfl := Option.some.inj h
    exact m_vret (pc := 56) hx hb hr hlk hS ⟨rfl, hW⟩ (by decide) (by decide) d159_56
  unfold f_mo_datePart at h
  refine lv_aload_n (pc := 0) hx hb d159_0 rfl (lv_at hl 0 rfl) ?_
  refine lv_iconst (pc := 1) (v := 0) hx hb d159_1 (by decide) ?_
  obtain ⟨q2, hq2, h⟩ := jc_some h
  refine k_callV (pc := 2) (n := 1) X hS (c_mo_dayOf l ρ ad _ st 0 q2 hW hq2) wd1915 wd1912 wd1914 sl161 wd11 (by decide) ⟨rfl, rfl, by decide, by decide⟩ (m_recv X hW) (As := [.int 0]) (rest := []) rfl rfl hl.1 (Nat.le_of_ble_eq_true rfl) d159_2 ⟨by decide, by decide⟩ (fun q hq => MA.mono hS.1 hq) (fun v H1 locs1 hv _ _ hSq2 => ?_)
  obtain ⟨rfl, hW⟩ := hv
  have hS := hSq2
  refine lv_istore_n (pc := 5) (lv' := [(2, .int q2.1), (0, .ref (ad 0)), (1, .int p0)]) hx hb d159_5 rfl hl (by decide) rfl (fun ls hl => ?_)
  refine lv_aload_n (pc := 6) hx hb d159_6 rfl (lv_at hl 1 rfl) ?_
  refine m_get (pc := 7) X hW 22 (v := .int (q2.2.1 0 22)) wd1388 rfl rfl d159_7 ?_
  refine lv_if_eq (pc := 10) (tgt := 14) hx hb d159_10 (by decide) (fun c10 => ?_) (fun c10 => ?_)
  · have h := jb_t c10 h
    refine lv_aload_n (pc := 14) hx hb d159_14 rfl (lv_at hl 1 rfl) ?_
    refine lv_iload_n (pc := 15) hx hb d159_15 rfl (lv_at hl 0 rfl) ?_
    obtain ⟨q3, hq3, h⟩ := jc_some h
    refine k_callV (pc := 16) (n := 1) X hS (c_mo_dateOf l ρ ad _ q2.2 q2.1 q3 hW hq3) wd1927 wd1924 wd1926 sl158 wd11 (by decide) ⟨rfl, rfl, by decide, by decide⟩ (m_recv X hW) (As := [.int q2.1]) (rest := []) rfl rfl hl.1 (Nat.le_of_ble_eq_true rfl) d159_16 ⟨by decide, by decide⟩ (fun q hq => MA.mono hS.1 hq) (fun v H1 locs1 hv _ _ hSq3 => ?_)
    obtain ⟨rfl, hW⟩ := hv
    have hS := hSq3
    refine lv_aload_n (pc := 19) hx hb d159_19 rfl (lv_at hl 1 rfl) ?_
    refine lv_iload_n (pc := 20) hx hb d159_20 rfl (lv_at hl 2 rfl) ?_
    refine lv_bipush (pc := 21) (v := 103) hx hb d159_21 (by decide) ?_
    refine lv_icmp_ne (pc := 23) (tgt := 34) hx hb d159_23 (by decide) (fun c23 => ?_) (fun c23 => ?_)
    · have h := jb_f c23 h
      refine lv_iload_n (pc := 34) hx hb d159_34 rfl (lv_at hl 2 rfl) ?_
      refine lv_bipush (pc := 35) (v := 104) hx hb d159_35 (by decide) ?_
      refine lv_icmp_ne (pc := 37) (tgt := 48) hx hb d159_37 (by decide) (fun c37 => ?_) (fun c37 => ?_)
      · have h := jb_f c37 h
        refine lv_aload_n (pc := 48) hx hb d159_48 rfl (lv_at hl 1 rfl) ?_
        refine m_get (pc := 49) X hW 44 (v := .int (q3.1 0 44)) wd1410 rfl rfl d159_49 ?_
        refine lv_i2d (pc := 52) hx hb d159_52 ?_
        exact kc53  q3 (FP.i2d (q3.1 0 44)) _ _ _ hW hS (lv_sub hl [] rfl) h
      · have h := jb_t c37 h
        refine lv_aload_n (pc := 40) hx hb d159_40 rfl (lv_at hl 1 rfl) ?_
        refine m_get (pc := 41) X hW 43 (v := .int (q3.1 0 43)) wd1409 rfl rfl d159_41 ?_
        refine lv_i2d (pc := 44) hx hb d159_44 ?_
        refine lv_goto (pc := 45) (tgt := 53) hx hb d159_45 (by decide) ?_
        exact kc53  q3 (FP.i2d (q3.1 0 43)) _ _ _ hW hS (lv_sub hl [] rfl) h
    · have h := jb_t c23 h
      refine lv_aload_n (pc := 26) hx hb d159_26 rfl (lv_at hl 1 rfl) ?_
      refine m_get (pc := 27) X hW 42 (v := .int (q3.1 0 42)) wd1408 rfl rfl d159_27 ?_
      refine lv_i2d (pc := 30) hx hb d159_30 ?_
      refine lv_goto (pc := 31) (tgt := 53) hx hb d159_31 (by decide) ?_
      exact kc53  q3 (FP.i2d (q3.1 0 42)) _ _ _ hW hS (lv_sub hl [] rfl) h
  · have h := jb_f c10 h
    obtain rfl := Option.some.inj h
    exact m_vret (pc := 13) hx hb hr hlk hS ⟨rfl, hW⟩ (by decide) (by decide) d159_13
def mo_timePart_86  (st : GS) (z1 : UInt64) : Option (GS) := jc (f_mo_answerNumber st z1) (fun q1 => some q1)
def f_mo_timePart (st : GS) (p0 : Int32) : Option (GS) := jc (f_mo_takeOf st 0) (fun q2 => jc (f_mo_numberTaken q2) (fun q3 => jc (f_mo_dayTaken q3.2) (fun q4 => jb ((q4.2.1 0 22) = 0) (jg (nn (FP.dsub q3.1 (FP.i2d q4.1))) (jg (nn (FP.dmul (FP.dsub q3.1 (FP.i2d q4.1)) (4680673776000565248 : UInt64))) (jg (nn (FP.dadd (FP.dmul (FP.dsub q3.1 (FP.i2d q4.1)) (4680673776000565248 : UInt64)) (4602678819172646912 : UInt64))) (jn ((FP.d2l (FP.dadd (FP.dmul (FP.dsub q3.1 (FP.i2d q4.1)) (4680673776000565248 : UInt64)) (4602678819172646912 : UInt64))).toInt32 - (FP.d2l (FP.dadd (FP.dmul (FP.dsub q3.1 (FP.i2d q4.1)) (4680673776000565248 : UInt64)) (4602678819172646912 : UInt64))).toInt32 / 86400 * 86400) (fun v8 => jb (p0 = 106) (mo_timePart_86  q4.2 (FP.i2d (v8 / 3600))) (jb (p0 = 107) (mo_timePart_86  q4.2 (FP.i2d ((v8 / 60) - (v8 / 60) / 60 * 60))) (mo_timePart_86  q4.2 (FP.i2d (v8 - v8 / 60 * 60))))))))) (some q4.2))))
set_option maxHeartbeats 4000000 in
set_option maxRecDepth 100000 in
theorem c_mo_timePart (l : Launch) (ρ : RH) (ad : Nat → Nat) (H : Heap) (st : GS) (p0 : Int32) (res : GS) (hW : GW ρ wM ad st H) (h : f_mo_timePart st p0 = some res) : Met l y230 (wsOf y230 b230 6 none) ({ frames := 4, cells := 0, slots := 0, locals := 88 } : Room) (va_Pc [.ref (ad 0), .int p0] (KP ρ H)) (mQ (fun v H1 => v = none ∧ GW ρ wM ad res H1) (MA wM ad H.size)) 0 0 (MA wM ad H.size) := by
  refine m_ofW (own := "WordFunctionsModel") (plainFor_of_name rfl) rfl (Nat.le_of_ble_eq_true rfl) fun p e s m args below meth c ls hx hb hr hlk _ X hs hl => ?_
  subst hs
  have hS : va_S (MA wM ad s.heap.size) s.heap s.heap [] := va_S.rf
  have hl : lv_has ls 6 [(0, .ref (ad 0)), (1, .int p0)] := hl
  have kc86 : ∀ (st : GS) (z1 : UInt64) (H : Heap) (locs : List Loc) (ls : Array Slot), GW ρ wM ad st H → va_S (MA wM ad s.heap.size) s.heap H locs → lv_has ls 6 [] → mo_timePart_86 st z1 = some res → W p l e ({ frames := 4, cells := 0, slots := 0, locals := 88 } : Room) s m args below meth c H locs 0 0 (MQ below (mQ (fun v H1 => v = none ∧ GW ρ wM ad res H1) (MA wM ad s.heap.size)) args s 0 0 (MA wM ad s.heap.size)) (F0 m 86 ls [.double z1, .ref (ad 0)]) := by
    intro st z1 H locs ls hW hS hl h
    unfold mo_timePart_86 at h
    obtain ⟨q1, hq1, h⟩ := jc_some h
    refine k_callV (pc := 86) (n := 1) X hS (c_mo_answerNumber l ρ ad _ st z1 q1 hW hq1) wd1651 wd1648 wd1650 sl142 wd11 (by decide) ⟨rfl, rfl, by decide, by decide⟩ (m_recv X hW) (As := [.double z1]) (rest := []) rfl rfl hl.1 (Nat.le_of_ble_eq_true rfl) d230_86 ⟨by decide, by decide⟩ (fun q hq => MA.mono hS.1 hq) (fun v H1 locs1 hv _ _ hSq1 => ?_)
    obtain ⟨rfl, hW⟩ := hv
    have hS := hSq1
    obtain rfl := Option.some.inj h
    exact m_vret (pc := 89) hx hb hr hlk hS ⟨rfl, hW⟩ (by decide) (by decide) d230_89
  unfold f_mo_timePart at h
  refine lv_aload_n (pc := 0) hx hb d230_0 rfl (lv_at hl 0 rfl) ?_
  refine lv_iconst (pc := 1) (v := 0) hx hb d230_1 (by decide) ?_
  obtain ⟨q2, hq2, h⟩ := jc_some h
  refine k_callV (pc := 2) (n := 1) X hS (c_mo_takeOf l ρ ad _ st 0 q2 hW hq2) wd1601 wd1598 wd1600 sl224 wd11 (by decide) ⟨rfl, rfl, by decide, by decide⟩ (m_recv X hW) (As := [.int 0]) (rest := []) rfl rfl hl.1 (Nat.le_of_ble_eq_true rfl) d230_2 ⟨by decide, by decide⟩ (fun q hq => MA.mono hS.1 hq) (fun v H1 locs1 hv _ _ hSq2 => ?_)
  obtain ⟨rfl, hW⟩ := hv
  have hS := hSq2
  refine lv_aload_n (pc := 5) hx hb d230_5 rfl (lv_at hl 0 rfl) ?_
  obtain ⟨q3, hq3, h⟩ := jc_some h
  refine k_callV (pc := 6) (n := 0) X hS (c_mo_numberTaken l ρ ad _ q2 q3 hW hq3) wd1679 wd1676 wd1678 sl205 wd11 (by decide) ⟨rfl, rfl, by decide, by decide⟩ (m_recv X hW) (As := []) (rest := []) rfl rfl hl.1 (Nat.le_of_ble_eq_true rfl) d230_6 ⟨by decide, by decide⟩ (fun q hq => MA.mono hS.1 hq) (fun v H1 locs1 hv _ _ hSq3 => ?_)
  obtain ⟨rfl, hW⟩ := hv
  have hS := hSq3
  refine lv_dstore_n (pc := 9) (lv' := [(2, .double q3.1), (0, .ref (ad 0)), (1, .int p0)]) hx hb d230_9 rfl hl (by decide) rfl (fun ls hl => ?_)
  refine lv_aload_n (pc := 10) hx hb d230_10 rfl (lv_at hl 1 rfl) ?_
  obtain ⟨q4, hq4, h⟩ := jc_some h
  refine k_callV (pc := 11) (n := 0) X hS (c_mo_dayTaken l ρ ad _ q3.2 q4 hW hq4) wd1919 wd1916 wd1918 sl162 wd11 (by decide) ⟨rfl, rfl, by decide, by decide⟩ (m_recv X hW) (As := []) (rest := []) rfl rfl hl.1 (Nat.le_of_ble_eq_true rfl) d230_11 ⟨by decide, by decide⟩ (fun q hq => MA.mono hS.1 hq) (fun v H1 locs1 hv _ _ hSq4 => ?_)
  obtain ⟨rfl, hW⟩ := hv
  have hS := hSq4
  refine lv_istore (pc := 14) (lv' := [(4, .int q4.1), (2, .double q3.1), (0, .ref (ad 0)), (1, .int p0)]) hx hb d230_14 hl (by decide) rfl (fun ls hl => ?_)
  refine lv_aload_n (pc := 16) hx hb d230_16 rfl (lv_at hl 2 rfl) ?_
  refine m_get (pc := 17) X hW 22 (v := .int (q4.2.1 0 22)) wd1388 rfl rfl d230_17 ?_
  refine lv_if_eq (pc := 20) (tgt := 24) hx hb d230_20 (by decide) (fun c20 => ?_) (fun c20 => ?_)
  · have h := jb_t c20 h
    refine lv_dload_n (pc := 24) hx hb d230_24 rfl (lv_at hl 1 rfl) ?_
    refine lv_iload (pc := 25) hx hb d230_25 (lv_at hl 0 rfl) ?_
    refine lv_i2d (pc := 27) hx hb d230_27 ?_
    obtain ⟨g5, h⟩ := jg_some h
    refine lv_dsub (pc := 28) hx hb d230_28 (nn_ok g5) ?_
    refine lv_ldc2d (pc := 29) hx hb X.1.2.2.2.1 (X.ts wd1907) d230_29 ?_
    obtain ⟨g6, h⟩ := jg_some h
    refine lv_dmul (pc := 32) hx hb d230_32 (nn_ok g6) ?_
    refine lv_ldc2d (pc := 33) hx hb X.1.2.2.2.1 (X.ts wd1638) d230_33 ?_
    obtain ⟨g7, h⟩ := jg_some h
    refine lv_dadd (pc := 36) hx hb d230_36 (nn_ok g7) ?_
    refine lv_d2l (pc := 37) hx hb d230_37 ?_
    refine lv_l2i (pc := 38) hx hb d230_38 rfl ?_
    refine lv_ldcw (pc := 39) hx hb X.1.2.2.2.1 (X.ts wd1932) d230_39 ?_
    refine lv_irem (pc := 42) hx hb d230_42 (by decide) ?_
    obtain ⟨v8, ev8, h⟩ := jn_ex h
    refine nm_i ev8 ?_
    refine lv_istore (pc := 43) (lv' := [(5, .int v8), (4, .int q4.1), (2, .double q3.1), (0, .ref (ad 0)), (1, .int p0)]) hx hb d230_43 hl (by decide) rfl (fun ls hl => ?_)
    refine lv_aload_n (pc := 45) hx hb d230_45 rfl (lv_at hl 3 rfl) ?_
    refine lv_iload_n (pc := 46) hx hb d230_46 rfl (lv_at hl 4 rfl) ?_
    refine lv_bipush (pc := 47) (v := 106) hx hb d230_47 (by decide) ?_
    refine lv_icmp_ne (pc := 49) (tgt := 62) hx hb d230_49 (by decide) (fun c49 => ?_) (fun c49 => ?_)
    · have h := jb_f c49 h
      refine lv_iload_n (pc := 62) hx hb d230_62 rfl (lv_at hl 4 rfl) ?_
      refine lv_bipush (pc := 63) (v := 107) hx hb d230_63 (by decide) ?_
      refine lv_icmp_ne (pc := 65) (tgt := 80) hx hb d230_65 (by decide) (fun c65 => ?_) (fun c65 => ?_)
      · have h := jb_f c65 h
        refine lv_iload (pc := 80) hx hb d230_80 (lv_at hl 0 rfl) ?_
        refine lv_bipush (pc := 82) (v := 60) hx hb d230_82 (by decide) ?_
        refine lv_irem (pc := 84) hx hb d230_84 (by decide) ?_
        refine lv_i2d (pc := 85) hx hb d230_85 ?_
        exact kc86  q4.2 (FP.i2d (v8 - v8 / 60 * 60)) _ _ _ hW hS (lv_sub hl [] rfl) h
      · have h := jb_t c65 h
        refine lv_iload (pc := 68) hx hb d230_68 (lv_at hl 0 rfl) ?_
        refine lv_bipush (pc := 70) (v := 60) hx hb d230_70 (by decide) ?_
        refine lv_idiv (pc := 72) hx hb d230_72 (by decide) ?_
        refine lv_bipush (pc := 73) (v := 60) hx hb d230_73 (by decide) ?_
        refine lv_irem (pc := 75) hx hb d230_75 (by decide) ?_
        refine lv_i2d (pc := 76) hx hb d230_76 ?_
        refine lv_goto (pc := 77) (tgt := 86) hx hb d230_77 (by decide) ?_
        exact kc86  q4.2 (FP.i2d ((v8 / 60) - (v8 / 60) / 60 * 60)) _ _ _ hW hS (lv_sub hl [] rfl) h
    · have h := jb_t c49 h
      refine lv_iload (pc := 52) hx hb d230_52 (lv_at hl 0 rfl) ?_
      refine lv_sipush (pc := 54) (v := 3600) hx hb d230_54 (by decide) ?_
      refine lv_idiv (pc := 57) hx hb d230_57 (by decide) ?_
      refine lv_i2d (pc := 58) hx hb d230_58 ?_
      refine lv_goto (pc := 59) (tgt := 86) hx hb d230_59 (by decide) ?_
      exact kc86  q4.2 (FP.i2d (v8 / 3600)) _ _ _ hW hS (lv_sub hl [] rfl) h
  · have h := jb_f c20 h
    obtain rfl := Option.some.inj h
    exact m_vret (pc := 23) hx hb hr hlk hS ⟨rfl, hW⟩ (by decide) (by decide) d230_23
def mo_weekday_82  (st : GS) (z1 : UInt64) : Option (GS) := jc (f_mo_answerNumber st z1) (fun q1 => some q1)
def mo_weekday_29  (st : GS) (x1 : Int32) (x2 : Int32) : Option (GS) := jb ((st.1 0 22) = 0) (jn ((x1 + 6) - (x1 + 6) / 7 * 7) (fun v2 => jn ((x1 + 5) - (x1 + 5) / 7 * 7) (fun v3 => jb (x2 = 1) (mo_weekday_82  st (FP.i2d (v2 + 1))) (jb (x2 = 2) (mo_weekday_82  st (FP.i2d (v3 + 1))) (mo_weekday_82  st (FP.i2d v3)))))) (some st)
def mo_weekday_23  (st : GS) (x1 : Int32) (x2 : Int32) : Option (GS) := jc (f_mo_fail st 6) (fun q4 => mo_weekday_29  q4 x1 x2)
def f_mo_weekday (st : GS) : Option (GS) := jc (f_mo_dayOf st 0) (fun q5 => jc (f_mo_whole2 q5.2 1 1) (fun q6 => jb (q6.1 < 1) (mo_weekday_23  q6.2 q5.1 q6.1) (jb (q6.1 ≤ 3) (mo_weekday_29  q6.2 q5.1 q6.1) (mo_weekday_23  q6.2 q5.1 q6.1))))
set_option maxHeartbeats 4000000 in
set_option maxRecDepth 100000 in
theorem c_mo_weekday (l : Launch) (ρ : RH) (ad : Nat → Nat) (H : Heap) (st : GS) (res : GS) (hW : GW ρ wM ad st H) (h : f_mo_weekday st = some res) : Met l y240 (wsOf y240 b240 5 none) ({ frames := 6, cells := 0, slots := 0, locals := 132 } : Room) (va_Pc [.ref (ad 0)] (KP ρ H)) (mQ (fun v H1 => v = none ∧ GW ρ wM ad res H1) (MA wM ad H.size)) 0 0 (MA wM ad H.size) := by
  refine m_ofW (own := "WordFunctionsModel") (plainFor_of_name rfl) rfl (Nat.le_of_ble_eq_true rfl) fun p e s m args below meth c ls hx hb hr hlk _ X hs hl => ?_
  subst hs
  have hS : va_S (MA wM ad s.heap.size) s.heap s.heap [] := va_S.rf
  have hl : lv_has ls 5 [(0, .ref (ad 0))] := hl
  have kc82 : ∀ (st : GS) (z1 : UInt64) (H : Heap) (locs : List Loc) (ls : Array Slot), GW ρ wM ad st H → va_S (MA wM ad s.heap.size) s.heap H locs → lv_has ls 5 [] → mo_weekday_82 st z1 = some res → W p l e ({ frames := 6, cells := 0, slots := 0, locals := 132 } : Room) s m args below meth c H locs 0 0 (MQ below (mQ (fun v H1 => v = none ∧ GW ρ wM ad res H1) (MA wM ad s.heap.size)) args s 0 0 (MA wM ad s.heap.size)) (F0 m 82 ls [.double z1, .ref (ad 0)]) := by
    intro st z1 H locs ls hW hS hl h
    unfold mo_weekday_82 at h
    obtain ⟨q1, hq1, h⟩ := jc_some h
    refine k_callV (pc := 82) (n := 1) X hS (c_mo_answerNumber l ρ ad _ st z1 q1 hW hq1) wd1651 wd1648 wd1650 sl142 wd11 (by decide) ⟨rfl, rfl, by decide, by decide⟩ (m_recv X hW) (As := [.double z1]) (rest := []) rfl rfl hl.1 (Nat.le_of_ble_eq_true rfl) d240_82 ⟨by decide, by decide⟩ (fun q hq => MA.mono hS.1 hq) (fun v H1 locs1 hv _ _ hSq1 => ?_)
    obtain ⟨rfl, hW⟩ := hv
    have hS := hSq1
    obtain rfl := Option.some.inj h
    exact m_vret (pc := 85) hx hb hr hlk hS ⟨rfl, hW⟩ (by decide) (by decide) d240_85
  have kc29 : ∀ (st : GS) (x1 : Int32) (x2 : Int32) (H : Heap) (locs : List Loc) (ls : Array Slot), GW ρ wM ad st H → va_S (MA wM ad s.heap.size) s.heap H locs → lv_has ls 5 [(0, .ref (ad 0)), (1, .int x1), (2, .int x2)] → mo_weekday_29 st x1 x2 = some res → W p l e ({ frames := 6, cells := 0, slots := 0, locals := 132 } : Room) s m args below meth c H locs 0 0 (MQ below (mQ (fun v H1 => v = none ∧ GW ρ wM ad res H1) (MA wM ad s.heap.size)) args s 0 0 (MA wM ad s.heap.size)) (F0 m 29 ls []) := by
    intro st x1 x2 H locs ls hW hS hl h
    unfold mo_weekday_29 at h
    refine lv_aload_n (pc := 29) hx hb d240_29 rfl (lv_at hl 0 rfl) ?_
    refine m_get (pc := 30) X hW 22 (v := .int (st.1 0 22)) wd1388 rfl rfl d240_30 ?_
    refine lv_if_eq (pc := 33) (tgt := 37) hx hb d240_33 (by decide) (fun c33 => ?_) (fun c33 => ?_)
    · have h := jb_t c33 h
      refine lv_iload_n (pc := 37) hx hb d240_37 rfl (lv_at hl 1 rfl) ?_
      refine lv_bipush (pc := 38) (v := 6) hx hb d240_38 (by decide) ?_
      refine lv_iadd (pc := 40) hx hb d240_40 ?_
      refine lv_bipush (pc := 41) (v := 7) hx hb d240_41 (by decide) ?_
      refine lv_irem (pc := 43) hx hb d240_43 (by decide) ?_
      obtain ⟨v2, ev2, h⟩ := jn_ex h
      refine nm_i ev2 ?_
      refine lv_istore_n (pc := 44) (lv' := [(3, .int v2), (0, .ref (ad 0)), (1, .int x1), (2, .int x2)]) hx hb d240_44 rfl hl (by decide) rfl (fun ls hl => ?_)
      refine lv_iload_n (pc := 45) hx hb d240_45 rfl (lv_at hl 2 rfl) ?_
      refine lv_iconst (pc := 46) (v := 5) hx hb d240_46 (by decide) ?_
      refine lv_iadd (pc := 47) hx hb d240_47 ?_
      refine lv_bipush (pc := 48) (v := 7) hx hb d240_48 (by decide) ?_
      refine lv_irem (pc := 50) hx hb d240_50 (by decide) ?_
      obtain ⟨v3, ev3, h⟩ := jn_ex h
      refine nm_i ev3 ?_
      refine lv_istore (pc := 51) (lv' := [(4, .int v3), (3, .int v2), (0, .ref (ad 0)), (1, .int x1), (2, .int x2)]) hx hb d240_51 hl (by decide) rfl (fun ls hl => ?_)
      refine lv_aload_n (pc := 53) hx hb d240_53 rfl (lv_at hl 2 rfl) ?_
      refine lv_iload_n (pc := 54) hx hb d240_54 rfl (lv_at hl 4 rfl) ?_
      refine lv_iconst (pc := 55) (v := 1) hx hb d240_55 (by decide) ?_
      refine lv_icmp_ne (pc := 56) (tgt := 66) hx hb d240_56 (by decide) (fun c56 => ?_) (fun c56 => ?_)
      · have h := jb_f c56 h
        refine lv_iload_n (pc := 66) hx hb d240_66 rfl (lv_at hl 4 rfl) ?_
        refine lv_iconst (pc := 67) (v := 2) hx hb d240_67 (by decide) ?_
        refine lv_icmp_ne (pc := 68) (tgt := 79) hx hb d240_68 (by decide) (fun c68 => ?_) (fun c68 => ?_)
        · have h := jb_f c68 h
          refine lv_iload (pc := 79) hx hb d240_79 (lv_at hl 0 rfl) ?_
          refine lv_i2d (pc := 81) hx hb d240_81 ?_
          exact kc82  st (FP.i2d v3) _ _ _ hW hS (lv_sub hl [] rfl) h
        · have h := jb_t c68 h
          refine lv_iload (pc := 71) hx hb d240_71 (lv_at hl 0 rfl) ?_
          refine lv_iconst (pc := 73) (v := 1) hx hb d240_73 (by decide) ?_
          refine lv_iadd (pc := 74) hx hb d240_74 ?_
          refine lv_i2d (pc := 75) hx hb d240_75 ?_
          refine lv_goto (pc := 76) (tgt := 82) hx hb d240_76 (by decide) ?_
          exact kc82  st (FP.i2d (v3 + 1)) _ _ _ hW hS (lv_sub hl [] rfl) h
      · have h := jb_t c56 h
        refine lv_iload_n (pc := 59) hx hb d240_59 rfl (lv_at hl 1 rfl) ?_
        refine lv_iconst (pc := 60) (v := 1) hx hb d240_60 (by decide) ?_
        refine lv_iadd (pc := 61) hx hb d240_61 ?_
        refine lv_i2d (pc := 62) hx hb d240_62 ?_
        refine lv_goto (pc := 63) (tgt := 82) hx hb d240_63 (by decide) ?_
        exact kc82  st (FP.i2d (v2 + 1)) _ _ _ hW hS (lv_sub hl [] rfl) h
    · have h := jb_f c33 h
      obtain rfl := Option.some.inj h
      exact m_vret (pc := 36) hx hb hr hlk hS ⟨rfl, hW⟩ (by decide) (by decide) d240_36
  have kc23 : ∀ (st : GS) (x1 : Int32) (x2 : Int32) (H : Heap) (locs : List Loc) (ls : Array Slot), GW ρ wM ad st H → va_S (MA wM ad s.heap.size) s.heap H locs → lv_has ls 5 [(0, .ref (ad 0)), (1, .int x1), (2, .int x2)] → mo_weekday_23 st x1 x2 = some res → W p l e ({ frames := 6, cells := 0, slots := 0, locals := 132 } : Room) s m args below meth c H locs 0 0 (MQ below (mQ (fun v H1 => v = none ∧ GW ρ wM ad res H1) (MA wM ad s.heap.size)) args s 0 0 (MA wM ad s.heap.size)) (F0 m 23 ls []) := by
    intro st x1 x2 H locs ls hW hS hl h
    unfold mo_weekday_23 at h
    refine lv_aload_n (pc := 23) hx hb d240_23 rfl (lv_at hl 0 rfl) ?_
    refine lv_bipush (pc := 24) (v := 6) hx hb d240_24 (by decide) ?_
    obtain ⟨q4, hq4, h⟩ := jc_some h
    refine k_callV (pc := 26) (n := 1) X hS (c_mo_fail l ρ ad _ st 6 q4 hW hq4) wd1621 wd1618 wd1620 sl170 wd11 (by decide) ⟨rfl, rfl, by decide, by decide⟩ (m_recv X hW) (As := [.int 6]) (rest := []) rfl rfl hl.1 (Nat.le_of_ble_eq_true rfl) d240_26 ⟨by decide, by decide⟩ (fun q hq => MA.mono hS.1 hq) (fun v H1 locs1 hv _ _ hSq4 => ?_)
    obtain ⟨rfl, hW⟩ := hv
    have hS := hSq4
    exact kc29  q4 x1 x2 _ _ _ hW hS (lv_sub hl [0, 1, 2] rfl) h
  unfold f_mo_weekday at h
  refine lv_aload_n (pc := 0) hx hb d240_0 rfl (lv_at hl 0 rfl) ?_
  refine lv_iconst (pc := 1) (v := 0) hx hb d240_1 (by decide) ?_
  obtain ⟨q5, hq5, h⟩ := jc_some h
  refine k_callV (pc := 2) (n := 1) X hS (c_mo_dayOf l ρ ad _ st 0 q5 hW hq5) wd1915 wd1912 wd1914 sl161 wd11 (by decide) ⟨rfl, rfl, by decide, by decide⟩ (m_recv X hW) (As := [.int 0]) (rest := []) rfl rfl hl.1 (Nat.le_of_ble_eq_true rfl) d240_2 ⟨by decide, by decide⟩ (fun q hq => MA.mono hS.1 hq) (fun v H1 locs1 hv _ _ hSq5 => ?_)
  obtain ⟨rfl, hW⟩ := hv
  have hS := hSq5
  refine lv_istore_n (pc := 5) (lv' := [(1, .int q5.1), (0, .ref (ad 0))]) hx hb d240_5 rfl hl (by decide) rfl (fun ls hl => ?_)
  refine lv_aload_n (pc := 6) hx hb d240_6 rfl (lv_at hl 1 rfl) ?_
  refine lv_iconst (pc := 7) (v := 1) hx hb d240_7 (by decide) ?_
  refine lv_iconst (pc := 8) (v := 1) hx hb d240_8 (by decide) ?_
  obtain ⟨q6, hq6, h⟩ := jc_some h
  refine k_callV (pc := 9) (n := 2) X hS (c_mo_whole2 l ρ ad _ q5.2 1 1 q6 hW hq6) wd1663 wd1660 wd1662 sl242 wd11 (by decide) ⟨rfl, rfl, by decide, by decide⟩ (m_recv X hW) (As := [.int 1, .int 1]) (rest := []) rfl rfl hl.1 (Nat.le_of_ble_eq_true rfl) d240_9 ⟨by decide, by decide⟩ (fun q hq => MA.mono hS.1 hq) (fun v H1 locs1 hv _ _ hSq6 => ?_)
  obtain ⟨rfl, hW⟩ := hv
  have hS := hSq6
  refine lv_istore_n (pc := 12) (lv' := [(2, .int q6.1), (1, .int q5.1), (0, .ref (ad 0))]) hx hb d240_12 rfl hl (by decide) rfl (fun ls hl => ?_)
  refine lv_iload_n (pc := 13) hx hb d240_13 rfl (lv_at hl 0 rfl) ?_
  refine lv_iconst (pc := 14) (v := 1) hx hb d240_14 (by decide) ?_
  refine lv_icmp_lt (pc := 15) (tgt := 23) hx hb d240_15 (by decide) (fun c15 => ?_) (fun c15 => ?_)
  · have h := jb_t c15 h
    exact kc23  q6.2 q5.1 q6.1 _ _ _ hW hS (lv_sub hl [2, 1, 0] rfl) h
  · have h := jb_f c15 h
    refine lv_iload_n (pc := 18) hx hb d240_18 rfl (lv_at hl 0 rfl) ?_
    refine lv_iconst (pc := 19) (v := 3) hx hb d240_19 (by decide) ?_
    refine lv_icmp_le (pc := 20) (tgt := 29) hx hb d240_20 (by decide) (fun c20 => ?_) (fun c20 => ?_)
    · have h := jb_t c20 h
      exact kc29  q6.2 q5.1 q6.1 _ _ _ hW hS (lv_sub hl [2, 1, 0] rfl) h
    · have h := jb_f c20 h
      exact kc23  q6.2 q5.1 q6.1 _ _ _ hW hS (lv_sub hl [2, 1, 0] rfl) h
