abbrev b239 : ByteArray := prog_13_method_93_code
theorem d239_0 : decode b239 0 = .ok ((.aload_n 0), 1) := by decide +kernel
theorem d239_1 : decode b239 1 = .ok ((.iconst 0), 1) := by decide +kernel
theorem d239_2 : decode b239 2 = .ok ((.invokevirtual 431), 3) := by decide +kernel
theorem d239_5 : decode b239 5 = .ok ((.istore_n 1), 1) := by decide +kernel
theorem d239_6 : decode b239 6 = .ok ((.aload_n 0), 1) := by decide +kernel
theorem d239_7 : decode b239 7 = .ok ((.iconst 1), 1) := by decide +kernel
theorem d239_8 : decode b239 8 = .ok ((.iconst 1), 1) := by decide +kernel
theorem d239_9 : decode b239 9 = .ok ((.invokevirtual 274), 3) := by decide +kernel
theorem d239_12 : decode b239 12 = .ok ((.istore_n 2), 1) := by decide +kernel
theorem d239_13 : decode b239 13 = .ok ((.iload_n 2), 1) := by decide +kernel
theorem d239_14 : decode b239 14 = .ok ((.iconst 1), 1) := by decide +kernel
theorem d239_15 : decode b239 15 = .ok ((.if_icmp .eq 14), 3) := by decide +kernel
theorem d239_18 : decode b239 18 = .ok ((.iload_n 2), 1) := by decide +kernel
theorem d239_19 : decode b239 19 = .ok ((.iconst 2), 1) := by decide +kernel
theorem d239_20 : decode b239 20 = .ok ((.if_icmp .eq 9), 3) := by decide +kernel
theorem d239_23 : decode b239 23 = .ok ((.aload_n 0), 1) := by decide +kernel
theorem d239_24 : decode b239 24 = .ok ((.bipush 6), 2) := by decide +kernel
theorem d239_26 : decode b239 26 = .ok ((.invokevirtual 176), 3) := by decide +kernel
theorem d239_29 : decode b239 29 = .ok ((.aload_n 0), 1) := by decide +kernel
theorem d239_30 : decode b239 30 = .ok ((.getfield 143), 3) := by decide +kernel
theorem d239_33 : decode b239 33 = .ok ((.ifCond .eq 4), 3) := by decide +kernel
theorem d239_36 : decode b239 36 = .ok (.return_, 1) := by decide +kernel
theorem d239_37 : decode b239 37 = .ok ((.aload_n 0), 1) := by decide +kernel
theorem d239_38 : decode b239 38 = .ok ((.iload_n 1), 1) := by decide +kernel
theorem d239_39 : decode b239 39 = .ok ((.invokevirtual 434), 3) := by decide +kernel
theorem d239_42 : decode b239 42 = .ok ((.iconst 1), 1) := by decide +kernel
theorem d239_43 : decode b239 43 = .ok ((.istore_n 3), 1) := by decide +kernel
theorem d239_44 : decode b239 44 = .ok ((.ldc2_w 414), 3) := by decide +kernel
theorem d239_47 : decode b239 47 = .ok ((.aload_n 0), 1) := by decide +kernel
theorem d239_48 : decode b239 48 = .ok ((.getfield 393), 3) := by decide +kernel
theorem d239_51 : decode b239 51 = .ok (.i2l, 1) := by decide +kernel
theorem d239_52 : decode b239 52 = .ok (.lmul, 1) := by decide +kernel
theorem d239_53 : decode b239 53 = .ok ((.invokestatic 416), 3) := by decide +kernel
theorem d239_56 : decode b239 56 = .ok (.l2i, 1) := by decide +kernel
theorem d239_57 : decode b239 57 = .ok ((.istore 4), 2) := by decide +kernel
theorem d239_59 : decode b239 59 = .ok ((.iload 4), 2) := by decide +kernel
theorem d239_61 : decode b239 61 = .ok ((.iconst 1), 1) := by decide +kernel
theorem d239_62 : decode b239 62 = .ok (.iadd, 1) := by decide +kernel
theorem d239_63 : decode b239 63 = .ok ((.istore 5), 2) := by decide +kernel
theorem d239_65 : decode b239 65 = .ok ((.iload 5), 2) := by decide +kernel
theorem d239_67 : decode b239 67 = .ok ((.iload_n 1), 1) := by decide +kernel
theorem d239_68 : decode b239 68 = .ok ((.if_icmp .gt 41), 3) := by decide +kernel
theorem d239_71 : decode b239 71 = .ok ((.iload_n 3), 1) := by decide +kernel
theorem d239_72 : decode b239 72 = .ok ((.iload 5), 2) := by decide +kernel
theorem d239_74 : decode b239 74 = .ok ((.sipush 7000), 3) := by decide +kernel
theorem d239_77 : decode b239 77 = .ok (.iadd, 1) := by decide +kernel
theorem d239_78 : decode b239 78 = .ok ((.iload_n 2), 1) := by decide +kernel
theorem d239_79 : decode b239 79 = .ok ((.iconst 1), 1) := by decide +kernel
theorem d239_80 : decode b239 80 = .ok ((.if_icmp .ne 8), 3) := by decide +kernel
theorem d239_83 : decode b239 83 = .ok ((.bipush 6), 2) := by decide +kernel
theorem d239_85 : decode b239 85 = .ok ((.goto 4), 3) := by decide +kernel
theorem d239_88 : decode b239 88 = .ok ((.iconst 5), 1) := by decide +kernel
theorem d239_89 : decode b239 89 = .ok (.iadd, 1) := by decide +kernel
theorem d239_90 : decode b239 90 = .ok ((.bipush 7), 2) := by decide +kernel
theorem d239_92 : decode b239 92 = .ok (.irem, 1) := by decide +kernel
theorem d239_93 : decode b239 93 = .ok ((.ifCond .ne 7), 3) := by decide +kernel
theorem d239_96 : decode b239 96 = .ok ((.iconst 1), 1) := by decide +kernel
theorem d239_97 : decode b239 97 = .ok ((.goto 4), 3) := by decide +kernel
theorem d239_100 : decode b239 100 = .ok ((.iconst 0), 1) := by decide +kernel
theorem d239_101 : decode b239 101 = .ok (.iadd, 1) := by decide +kernel
theorem d239_102 : decode b239 102 = .ok ((.istore_n 3), 1) := by decide +kernel
theorem d239_103 : decode b239 103 = .ok ((.iinc 5 1), 3) := by decide +kernel
theorem d239_106 : decode b239 106 = .ok ((.goto (-41)), 3) := by decide +kernel
theorem d239_109 : decode b239 109 = .ok ((.aload_n 0), 1) := by decide +kernel
theorem d239_110 : decode b239 110 = .ok ((.iload_n 3), 1) := by decide +kernel
theorem d239_111 : decode b239 111 = .ok (.i2d, 1) := by decide +kernel
theorem d239_112 : decode b239 112 = .ok ((.invokevirtual 305), 3) := by decide +kernel
theorem d239_115 : decode b239 115 = .ok (.return_, 1) := by decide +kernel
abbrev b202 : ByteArray := prog_13_method_94_code
theorem d202_0 : decode b202 0 = .ok ((.aload_n 0), 1) := by decide +kernel
theorem d202_1 : decode b202 1 = .ok ((.iconst 0), 1) := by decide +kernel
theorem d202_2 : decode b202 2 = .ok ((.invokevirtual 431), 3) := by decide +kernel
theorem d202_5 : decode b202 5 = .ok ((.istore_n 2), 1) := by decide +kernel
theorem d202_6 : decode b202 6 = .ok ((.aload_n 0), 1) := by decide +kernel
theorem d202_7 : decode b202 7 = .ok ((.iconst 1), 1) := by decide +kernel
theorem d202_8 : decode b202 8 = .ok ((.invokevirtual 206), 3) := by decide +kernel
theorem d202_11 : decode b202 11 = .ok ((.istore_n 3), 1) := by decide +kernel
theorem d202_12 : decode b202 12 = .ok ((.iload_n 3), 1) := by decide +kernel
theorem d202_13 : decode b202 13 = .ok ((.ldc_w 412), 3) := by decide +kernel
theorem d202_16 : decode b202 16 = .ok ((.if_icmp .gt 10), 3) := by decide +kernel
theorem d202_19 : decode b202 19 = .ok ((.iload_n 3), 1) := by decide +kernel
theorem d202_20 : decode b202 20 = .ok ((.ldc_w 413), 3) := by decide +kernel
theorem d202_23 : decode b202 23 = .ok ((.if_icmp .ge 9), 3) := by decide +kernel
theorem d202_26 : decode b202 26 = .ok ((.aload_n 0), 1) := by decide +kernel
theorem d202_27 : decode b202 27 = .ok ((.bipush 6), 2) := by decide +kernel
theorem d202_29 : decode b202 29 = .ok ((.invokevirtual 176), 3) := by decide +kernel
theorem d202_32 : decode b202 32 = .ok ((.aload_n 0), 1) := by decide +kernel
theorem d202_33 : decode b202 33 = .ok ((.getfield 143), 3) := by decide +kernel
theorem d202_36 : decode b202 36 = .ok ((.ifCond .eq 4), 3) := by decide +kernel
theorem d202_39 : decode b202 39 = .ok (.return_, 1) := by decide +kernel
theorem d202_40 : decode b202 40 = .ok ((.aload_n 0), 1) := by decide +kernel
theorem d202_41 : decode b202 41 = .ok ((.iload_n 2), 1) := by decide +kernel
theorem d202_42 : decode b202 42 = .ok ((.invokevirtual 434), 3) := by decide +kernel
theorem d202_45 : decode b202 45 = .ok ((.ldc2_w 414), 3) := by decide +kernel
theorem d202_48 : decode b202 48 = .ok ((.aload_n 0), 1) := by decide +kernel
theorem d202_49 : decode b202 49 = .ok ((.getfield 393), 3) := by decide +kernel
theorem d202_52 : decode b202 52 = .ok (.i2l, 1) := by decide +kernel
theorem d202_53 : decode b202 53 = .ok (.lmul, 1) := by decide +kernel
theorem d202_54 : decode b202 54 = .ok ((.aload_n 0), 1) := by decide +kernel
theorem d202_55 : decode b202 55 = .ok ((.getfield 396), 3) := by decide +kernel
theorem d202_58 : decode b202 58 = .ok (.i2l, 1) := by decide +kernel
theorem d202_59 : decode b202 59 = .ok (.ladd, 1) := by decide +kernel
theorem d202_60 : decode b202 60 = .ok ((.lconst 1), 1) := by decide +kernel
theorem d202_61 : decode b202 61 = .ok (.lsub, 1) := by decide +kernel
theorem d202_62 : decode b202 62 = .ok ((.iload_n 3), 1) := by decide +kernel
theorem d202_63 : decode b202 63 = .ok (.i2l, 1) := by decide +kernel
theorem d202_64 : decode b202 64 = .ok (.ladd, 1) := by decide +kernel
theorem d202_65 : decode b202 65 = .ok ((.invokestatic 416), 3) := by decide +kernel
theorem d202_68 : decode b202 68 = .ok ((.lstore 4), 2) := by decide +kernel
theorem d202_70 : decode b202 70 = .ok ((.ldc2_w 414), 3) := by decide +kernel
theorem d202_73 : decode b202 73 = .ok ((.aload_n 0), 1) := by decide +kernel
theorem d202_74 : decode b202 74 = .ok ((.getfield 393), 3) := by decide +kernel
theorem d202_77 : decode b202 77 = .ok (.i2l, 1) := by decide +kernel
theorem d202_78 : decode b202 78 = .ok (.lmul, 1) := by decide +kernel
theorem d202_79 : decode b202 79 = .ok ((.aload_n 0), 1) := by decide +kernel
theorem d202_80 : decode b202 80 = .ok ((.getfield 396), 3) := by decide +kernel
theorem d202_83 : decode b202 83 = .ok (.i2l, 1) := by decide +kernel
theorem d202_84 : decode b202 84 = .ok (.ladd, 1) := by decide +kernel
theorem d202_85 : decode b202 85 = .ok ((.iload_n 3), 1) := by decide +kernel
theorem d202_86 : decode b202 86 = .ok (.i2l, 1) := by decide +kernel
theorem d202_87 : decode b202 87 = .ok (.ladd, 1) := by decide +kernel
theorem d202_88 : decode b202 88 = .ok ((.invokestatic 416), 3) := by decide +kernel
theorem d202_91 : decode b202 91 = .ok ((.lstore 6), 2) := by decide +kernel
theorem d202_93 : decode b202 93 = .ok ((.lload 4), 2) := by decide +kernel
theorem d202_95 : decode b202 95 = .ok ((.aload_n 0), 1) := by decide +kernel
theorem d202_96 : decode b202 96 = .ok ((.getfield 399), 3) := by decide +kernel
theorem d202_99 : decode b202 99 = .ok (.i2l, 1) := by decide +kernel
theorem d202_100 : decode b202 100 = .ok (.ladd, 1) := by decide +kernel
theorem d202_101 : decode b202 101 = .ok ((.lconst 1), 1) := by decide +kernel
theorem d202_102 : decode b202 102 = .ok (.lsub, 1) := by decide +kernel
theorem d202_103 : decode b202 103 = .ok ((.lstore 8), 2) := by decide +kernel
theorem d202_105 : decode b202 105 = .ok ((.aload_n 0), 1) := by decide +kernel
theorem d202_106 : decode b202 106 = .ok ((.iload_n 1), 1) := by decide +kernel
theorem d202_107 : decode b202 107 = .ok ((.ifCond .ne 11), 3) := by decide +kernel
theorem d202_110 : decode b202 110 = .ok ((.lload 8), 2) := by decide +kernel
theorem d202_112 : decode b202 112 = .ok ((.lload 6), 2) := by decide +kernel
theorem d202_114 : decode b202 114 = .ok (.lcmp, 1) := by decide +kernel
theorem d202_115 : decode b202 115 = .ok ((.ifCond .lt 10), 3) := by decide +kernel
theorem d202_118 : decode b202 118 = .ok ((.lload 6), 2) := by decide +kernel
theorem d202_120 : decode b202 120 = .ok ((.lconst 1), 1) := by decide +kernel
theorem d202_121 : decode b202 121 = .ok (.lsub, 1) := by decide +kernel
theorem d202_122 : decode b202 122 = .ok ((.goto 5), 3) := by decide +kernel
theorem d202_125 : decode b202 125 = .ok ((.lload 8), 2) := by decide +kernel
theorem d202_127 : decode b202 127 = .ok ((.invokevirtual 420), 3) := by decide +kernel
theorem d202_130 : decode b202 130 = .ok (.return_, 1) := by decide +kernel
abbrev b203 : ByteArray := prog_13_method_95_code
theorem d203_0 : decode b203 0 = .ok ((.ldc2_w 414), 3) := by decide +kernel
theorem d203_3 : decode b203 3 = .ok ((.iload_n 1), 1) := by decide +kernel
theorem d203_4 : decode b203 4 = .ok (.i2l, 1) := by decide +kernel
theorem d203_5 : decode b203 5 = .ok (.lmul, 1) := by decide +kernel
theorem d203_6 : decode b203 6 = .ok ((.iload_n 2), 1) := by decide +kernel
theorem d203_7 : decode b203 7 = .ok (.i2l, 1) := by decide +kernel
theorem d203_8 : decode b203 8 = .ok (.ladd, 1) := by decide +kernel
theorem d203_9 : decode b203 9 = .ok ((.lconst 1), 1) := by decide +kernel
theorem d203_10 : decode b203 10 = .ok (.lsub, 1) := by decide +kernel
theorem d203_11 : decode b203 11 = .ok ((.iload 4), 2) := by decide +kernel
theorem d203_13 : decode b203 13 = .ok (.i2l, 1) := by decide +kernel
theorem d203_14 : decode b203 14 = .ok (.ladd, 1) := by decide +kernel
theorem d203_15 : decode b203 15 = .ok ((.invokestatic 416), 3) := by decide +kernel
theorem d203_18 : decode b203 18 = .ok ((.lstore 5), 2) := by decide +kernel
theorem d203_20 : decode b203 20 = .ok ((.ldc2_w 414), 3) := by decide +kernel
theorem d203_23 : decode b203 23 = .ok ((.iload_n 1), 1) := by decide +kernel
theorem d203_24 : decode b203 24 = .ok (.i2l, 1) := by decide +kernel
theorem d203_25 : decode b203 25 = .ok (.lmul, 1) := by decide +kernel
theorem d203_26 : decode b203 26 = .ok ((.iload_n 2), 1) := by decide +kernel
theorem d203_27 : decode b203 27 = .ok (.i2l, 1) := by decide +kernel
theorem d203_28 : decode b203 28 = .ok (.ladd, 1) := by decide +kernel
theorem d203_29 : decode b203 29 = .ok ((.iload 4), 2) := by decide +kernel
theorem d203_31 : decode b203 31 = .ok (.i2l, 1) := by decide +kernel
theorem d203_32 : decode b203 32 = .ok (.ladd, 1) := by decide +kernel
theorem d203_33 : decode b203 33 = .ok ((.invokestatic 416), 3) := by decide +kernel
theorem d203_36 : decode b203 36 = .ok ((.lstore 7), 2) := by decide +kernel
theorem d203_38 : decode b203 38 = .ok ((.lload 5), 2) := by decide +kernel
theorem d203_40 : decode b203 40 = .ok ((.iload_n 3), 1) := by decide +kernel
theorem d203_41 : decode b203 41 = .ok (.i2l, 1) := by decide +kernel
theorem d203_42 : decode b203 42 = .ok (.ladd, 1) := by decide +kernel
theorem d203_43 : decode b203 43 = .ok ((.lconst 1), 1) := by decide +kernel
theorem d203_44 : decode b203 44 = .ok (.lsub, 1) := by decide +kernel
theorem d203_45 : decode b203 45 = .ok ((.lload 7), 2) := by decide +kernel
theorem d203_47 : decode b203 47 = .ok (.lcmp, 1) := by decide +kernel
theorem d203_48 : decode b203 48 = .ok ((.ifCond .ge 13), 3) := by decide +kernel
theorem d203_51 : decode b203 51 = .ok ((.lload 5), 2) := by decide +kernel
theorem d203_53 : decode b203 53 = .ok ((.iload_n 3), 1) := by decide +kernel
theorem d203_54 : decode b203 54 = .ok (.i2l, 1) := by decide +kernel
theorem d203_55 : decode b203 55 = .ok (.ladd, 1) := by decide +kernel
theorem d203_56 : decode b203 56 = .ok ((.lconst 1), 1) := by decide +kernel
theorem d203_57 : decode b203 57 = .ok (.lsub, 1) := by decide +kernel
theorem d203_58 : decode b203 58 = .ok ((.goto 5), 3) := by decide +kernel
theorem d203_61 : decode b203 61 = .ok ((.lload 7), 2) := by decide +kernel
theorem d203_63 : decode b203 63 = .ok (.lreturn, 1) := by decide +kernel
abbrev b165 : ByteArray := prog_13_method_96_code
theorem d165_0 : decode b165 0 = .ok ((.aload_n 0), 1) := by decide +kernel
theorem d165_1 : decode b165 1 = .ok ((.iconst 0), 1) := by decide +kernel
theorem d165_2 : decode b165 2 = .ok ((.invokevirtual 431), 3) := by decide +kernel
theorem d165_5 : decode b165 5 = .ok ((.istore_n 1), 1) := by decide +kernel
theorem d165_6 : decode b165 6 = .ok ((.aload_n 0), 1) := by decide +kernel
theorem d165_7 : decode b165 7 = .ok ((.iconst 1), 1) := by decide +kernel
theorem d165_8 : decode b165 8 = .ok ((.invokevirtual 431), 3) := by decide +kernel
theorem d165_11 : decode b165 11 = .ok ((.istore_n 2), 1) := by decide +kernel
theorem d165_12 : decode b165 12 = .ok ((.aload_n 0), 1) := by decide +kernel
theorem d165_13 : decode b165 13 = .ok ((.iconst 2), 1) := by decide +kernel
theorem d165_14 : decode b165 14 = .ok ((.invokevirtual 268), 3) := by decide +kernel
theorem d165_17 : decode b165 17 = .ok ((.aload_n 0), 1) := by decide +kernel
theorem d165_18 : decode b165 18 = .ok ((.getfield 157), 3) := by decide +kernel
theorem d165_21 : decode b165 21 = .ok ((.ifCond .le 15), 3) := by decide +kernel
theorem d165_24 : decode b165 24 = .ok ((.aload_n 0), 1) := by decide +kernel
theorem d165_25 : decode b165 25 = .ok ((.getfield 55), 3) := by decide +kernel
theorem d165_28 : decode b165 28 = .ok ((.iconst 0), 1) := by decide +kernel
theorem d165_29 : decode b165 29 = .ok (.iaload, 1) := by decide +kernel
theorem d165_30 : decode b165 30 = .ok ((.invokestatic 291), 3) := by decide +kernel
theorem d165_33 : decode b165 33 = .ok ((.goto 4), 3) := by decide +kernel
theorem d165_36 : decode b165 36 = .ok ((.iconst 0), 1) := by decide +kernel
theorem d165_37 : decode b165 37 = .ok ((.istore_n 3), 1) := by decide +kernel
theorem d165_38 : decode b165 38 = .ok ((.aload_n 0), 1) := by decide +kernel
theorem d165_39 : decode b165 39 = .ok ((.getfield 157), 3) := by decide +kernel
theorem d165_42 : decode b165 42 = .ok ((.iconst 1), 1) := by decide +kernel
theorem d165_43 : decode b165 43 = .ok ((.if_icmp .le 15), 3) := by decide +kernel
theorem d165_46 : decode b165 46 = .ok ((.aload_n 0), 1) := by decide +kernel
theorem d165_47 : decode b165 47 = .ok ((.getfield 55), 3) := by decide +kernel
theorem d165_50 : decode b165 50 = .ok ((.iconst 1), 1) := by decide +kernel
theorem d165_51 : decode b165 51 = .ok (.iaload, 1) := by decide +kernel
theorem d165_52 : decode b165 52 = .ok ((.invokestatic 291), 3) := by decide +kernel
theorem d165_55 : decode b165 55 = .ok ((.goto 4), 3) := by decide +kernel
theorem d165_58 : decode b165 58 = .ok ((.iconst 0), 1) := by decide +kernel
theorem d165_59 : decode b165 59 = .ok ((.istore 4), 2) := by decide +kernel
theorem d165_61 : decode b165 61 = .ok ((.aload_n 0), 1) := by decide +kernel
theorem d165_62 : decode b165 62 = .ok ((.getfield 157), 3) := by decide +kernel
theorem d165_65 : decode b165 65 = .ok ((.iconst 1), 1) := by decide +kernel
theorem d165_66 : decode b165 66 = .ok ((.if_icmp .ne 37), 3) := by decide +kernel
theorem d165_69 : decode b165 69 = .ok ((.iload_n 3), 1) := by decide +kernel
theorem d165_70 : decode b165 70 = .ok ((.bipush 89), 2) := by decide +kernel
theorem d165_72 : decode b165 72 = .ok ((.if_icmp .ne 7), 3) := by decide +kernel
theorem d165_75 : decode b165 75 = .ok ((.iconst 1), 1) := by decide +kernel
theorem d165_76 : decode b165 76 = .ok ((.goto 92), 3) := by decide +kernel
theorem d165_79 : decode b165 79 = .ok ((.iload_n 3), 1) := by decide +kernel
theorem d165_80 : decode b165 80 = .ok ((.bipush 77), 2) := by decide +kernel
theorem d165_82 : decode b165 82 = .ok ((.if_icmp .ne 7), 3) := by decide +kernel
theorem d165_85 : decode b165 85 = .ok ((.iconst 2), 1) := by decide +kernel
theorem d165_86 : decode b165 86 = .ok ((.goto 82), 3) := by decide +kernel
theorem d165_89 : decode b165 89 = .ok ((.iload_n 3), 1) := by decide +kernel
theorem d165_90 : decode b165 90 = .ok ((.bipush 68), 2) := by decide +kernel
theorem d165_92 : decode b165 92 = .ok ((.if_icmp .ne 7), 3) := by decide +kernel
theorem d165_95 : decode b165 95 = .ok ((.iconst 3), 1) := by decide +kernel
theorem d165_96 : decode b165 96 = .ok ((.goto 72), 3) := by decide +kernel
theorem d165_99 : decode b165 99 = .ok ((.iconst 0), 1) := by decide +kernel
theorem d165_100 : decode b165 100 = .ok ((.goto 68), 3) := by decide +kernel
theorem d165_103 : decode b165 103 = .ok ((.aload_n 0), 1) := by decide +kernel
theorem d165_104 : decode b165 104 = .ok ((.getfield 157), 3) := by decide +kernel
theorem d165_107 : decode b165 107 = .ok ((.iconst 2), 1) := by decide +kernel
theorem d165_108 : decode b165 108 = .ok ((.if_icmp .ne 59), 3) := by decide +kernel
theorem d165_111 : decode b165 111 = .ok ((.iload_n 3), 1) := by decide +kernel
theorem d165_112 : decode b165 112 = .ok ((.bipush 89), 2) := by decide +kernel
theorem d165_114 : decode b165 114 = .ok ((.if_icmp .ne 14), 3) := by decide +kernel
theorem d165_117 : decode b165 117 = .ok ((.iload 4), 2) := by decide +kernel
theorem d165_119 : decode b165 119 = .ok ((.bipush 77), 2) := by decide +kernel
theorem d165_121 : decode b165 121 = .ok ((.if_icmp .ne 7), 3) := by decide +kernel
theorem d165_124 : decode b165 124 = .ok ((.iconst 4), 1) := by decide +kernel
theorem d165_125 : decode b165 125 = .ok ((.goto 43), 3) := by decide +kernel
theorem d165_128 : decode b165 128 = .ok ((.iload_n 3), 1) := by decide +kernel
theorem d165_129 : decode b165 129 = .ok ((.bipush 77), 2) := by decide +kernel
theorem d165_131 : decode b165 131 = .ok ((.if_icmp .ne 14), 3) := by decide +kernel
theorem d165_134 : decode b165 134 = .ok ((.iload 4), 2) := by decide +kernel
theorem d165_136 : decode b165 136 = .ok ((.bipush 68), 2) := by decide +kernel
theorem d165_138 : decode b165 138 = .ok ((.if_icmp .ne 7), 3) := by decide +kernel
theorem d165_141 : decode b165 141 = .ok ((.iconst 5), 1) := by decide +kernel
theorem d165_142 : decode b165 142 = .ok ((.goto 26), 3) := by decide +kernel
theorem d165_145 : decode b165 145 = .ok ((.iload_n 3), 1) := by decide +kernel
theorem d165_146 : decode b165 146 = .ok ((.bipush 89), 2) := by decide +kernel
theorem d165_148 : decode b165 148 = .ok ((.if_icmp .ne 15), 3) := by decide +kernel
theorem d165_151 : decode b165 151 = .ok ((.iload 4), 2) := by decide +kernel
theorem d165_153 : decode b165 153 = .ok ((.bipush 68), 2) := by decide +kernel
theorem d165_155 : decode b165 155 = .ok ((.if_icmp .ne 8), 3) := by decide +kernel
theorem d165_158 : decode b165 158 = .ok ((.bipush 6), 2) := by decide +kernel
theorem d165_160 : decode b165 160 = .ok ((.goto 8), 3) := by decide +kernel
theorem d165_163 : decode b165 163 = .ok ((.iconst 0), 1) := by decide +kernel
theorem d165_164 : decode b165 164 = .ok ((.goto 4), 3) := by decide +kernel
theorem d165_167 : decode b165 167 = .ok ((.iconst 0), 1) := by decide +kernel
theorem d165_168 : decode b165 168 = .ok ((.istore 5), 2) := by decide +kernel
theorem d165_170 : decode b165 170 = .ok ((.iload_n 1), 1) := by decide +kernel
theorem d165_171 : decode b165 171 = .ok ((.iload_n 2), 1) := by decide +kernel
theorem d165_172 : decode b165 172 = .ok ((.if_icmp .gt 8), 3) := by decide +kernel
theorem d165_175 : decode b165 175 = .ok ((.iload 5), 2) := by decide +kernel
theorem d165_177 : decode b165 177 = .ok ((.ifCond .ne 9), 3) := by decide +kernel
theorem d165_180 : decode b165 180 = .ok ((.aload_n 0), 1) := by decide +kernel
theorem d165_181 : decode b165 181 = .ok ((.bipush 6), 2) := by decide +kernel
theorem d165_183 : decode b165 183 = .ok ((.invokevirtual 176), 3) := by decide +kernel
theorem d165_186 : decode b165 186 = .ok ((.aload_n 0), 1) := by decide +kernel
theorem d165_187 : decode b165 187 = .ok ((.getfield 143), 3) := by decide +kernel
theorem d165_190 : decode b165 190 = .ok ((.ifCond .eq 4), 3) := by decide +kernel
theorem d165_193 : decode b165 193 = .ok (.return_, 1) := by decide +kernel
theorem d165_194 : decode b165 194 = .ok ((.aload_n 0), 1) := by decide +kernel
theorem d165_195 : decode b165 195 = .ok ((.iload_n 2), 1) := by decide +kernel
theorem d165_196 : decode b165 196 = .ok ((.invokevirtual 434), 3) := by decide +kernel
theorem d165_199 : decode b165 199 = .ok ((.bipush 12), 2) := by decide +kernel
theorem d165_201 : decode b165 201 = .ok ((.aload_n 0), 1) := by decide +kernel
theorem d165_202 : decode b165 202 = .ok ((.getfield 393), 3) := by decide +kernel
theorem d165_205 : decode b165 205 = .ok (.imul, 1) := by decide +kernel
theorem d165_206 : decode b165 206 = .ok ((.aload_n 0), 1) := by decide +kernel
theorem d165_207 : decode b165 207 = .ok ((.getfield 396), 3) := by decide +kernel
theorem d165_210 : decode b165 210 = .ok (.iadd, 1) := by decide +kernel
theorem d165_211 : decode b165 211 = .ok ((.istore 6), 2) := by decide +kernel
theorem d165_213 : decode b165 213 = .ok ((.aload_n 0), 1) := by decide +kernel
theorem d165_214 : decode b165 214 = .ok ((.iload_n 1), 1) := by decide +kernel
theorem d165_215 : decode b165 215 = .ok ((.invokevirtual 434), 3) := by decide +kernel
theorem d165_218 : decode b165 218 = .ok ((.iload 6), 2) := by decide +kernel
theorem d165_220 : decode b165 220 = .ok ((.bipush 12), 2) := by decide +kernel
theorem d165_222 : decode b165 222 = .ok ((.aload_n 0), 1) := by decide +kernel
theorem d165_223 : decode b165 223 = .ok ((.getfield 393), 3) := by decide +kernel
theorem d165_226 : decode b165 226 = .ok (.imul, 1) := by decide +kernel
theorem d165_227 : decode b165 227 = .ok (.isub, 1) := by decide +kernel
theorem d165_228 : decode b165 228 = .ok ((.aload_n 0), 1) := by decide +kernel
theorem d165_229 : decode b165 229 = .ok ((.getfield 396), 3) := by decide +kernel
theorem d165_232 : decode b165 232 = .ok (.isub, 1) := by decide +kernel
theorem d165_233 : decode b165 233 = .ok ((.iconst 1), 1) := by decide +kernel
theorem d165_234 : decode b165 234 = .ok (.iadd, 1) := by decide +kernel
theorem d165_235 : decode b165 235 = .ok ((.istore 6), 2) := by decide +kernel
theorem d165_237 : decode b165 237 = .ok ((.aload_n 0), 1) := by decide +kernel
theorem d165_238 : decode b165 238 = .ok ((.aload_n 0), 1) := by decide +kernel
theorem d165_239 : decode b165 239 = .ok ((.getfield 393), 3) := by decide +kernel
theorem d165_242 : decode b165 242 = .ok ((.aload_n 0), 1) := by decide +kernel
theorem d165_243 : decode b165 243 = .ok ((.getfield 396), 3) := by decide +kernel
theorem d165_246 : decode b165 246 = .ok ((.aload_n 0), 1) := by decide +kernel
theorem d165_247 : decode b165 247 = .ok ((.getfield 399), 3) := by decide +kernel
theorem d165_250 : decode b165 250 = .ok ((.iload 6), 2) := by decide +kernel
theorem d165_252 : decode b165 252 = .ok ((.invokevirtual 438), 3) := by decide +kernel
theorem d165_255 : decode b165 255 = .ok ((.iload_n 2), 1) := by decide +kernel
theorem d165_256 : decode b165 256 = .ok (.i2l, 1) := by decide +kernel
theorem d165_257 : decode b165 257 = .ok (.lcmp, 1) := by decide +kernel
theorem d165_258 : decode b165 258 = .ok ((.ifCond .le 9), 3) := by decide +kernel
theorem d165_261 : decode b165 261 = .ok ((.iinc 6 (-1)), 3) := by decide +kernel
theorem d165_264 : decode b165 264 = .ok ((.goto (-27)), 3) := by decide +kernel
theorem d165_267 : decode b165 267 = .ok ((.aload_n 0), 1) := by decide +kernel
theorem d165_268 : decode b165 268 = .ok ((.aload_n 0), 1) := by decide +kernel
theorem d165_269 : decode b165 269 = .ok ((.getfield 393), 3) := by decide +kernel
theorem d165_272 : decode b165 272 = .ok ((.aload_n 0), 1) := by decide +kernel
theorem d165_273 : decode b165 273 = .ok ((.getfield 396), 3) := by decide +kernel
theorem d165_276 : decode b165 276 = .ok ((.aload_n 0), 1) := by decide +kernel
theorem d165_277 : decode b165 277 = .ok ((.getfield 399), 3) := by decide +kernel
theorem d165_280 : decode b165 280 = .ok ((.iload 5), 2) := by decide +kernel
theorem d165_282 : decode b165 282 = .ok ((.iconst 5), 1) := by decide +kernel
theorem d165_283 : decode b165 283 = .ok ((.if_icmp .ne 8), 3) := by decide +kernel
theorem d165_286 : decode b165 286 = .ok ((.iload 6), 2) := by decide +kernel
theorem d165_288 : decode b165 288 = .ok ((.goto 11), 3) := by decide +kernel
theorem d165_291 : decode b165 291 = .ok ((.iload 6), 2) := by decide +kernel
theorem d165_293 : decode b165 293 = .ok ((.bipush 12), 2) := by decide +kernel
theorem d165_295 : decode b165 295 = .ok (.idiv, 1) := by decide +kernel
theorem d165_296 : decode b165 296 = .ok ((.bipush 12), 2) := by decide +kernel
theorem d165_298 : decode b165 298 = .ok (.imul, 1) := by decide +kernel
theorem d165_299 : decode b165 299 = .ok ((.invokevirtual 438), 3) := by decide +kernel
theorem d165_302 : decode b165 302 = .ok ((.lstore 7), 2) := by decide +kernel
theorem d165_304 : decode b165 304 = .ok ((.aload_n 0), 1) := by decide +kernel
theorem d165_305 : decode b165 305 = .ok ((.iload 5), 2) := by decide +kernel
theorem d165_307 : decode b165 307 = .ok ((.iconst 1), 1) := by decide +kernel
theorem d165_308 : decode b165 308 = .ok ((.if_icmp .ne 12), 3) := by decide +kernel
theorem d165_311 : decode b165 311 = .ok ((.iload 6), 2) := by decide +kernel
theorem d165_313 : decode b165 313 = .ok ((.bipush 12), 2) := by decide +kernel
theorem d165_315 : decode b165 315 = .ok (.idiv, 1) := by decide +kernel
theorem d165_316 : decode b165 316 = .ok (.i2d, 1) := by decide +kernel
theorem d165_317 : decode b165 317 = .ok ((.goto 49), 3) := by decide +kernel
theorem d165_320 : decode b165 320 = .ok ((.iload 5), 2) := by decide +kernel
theorem d165_322 : decode b165 322 = .ok ((.iconst 2), 1) := by decide +kernel
theorem d165_323 : decode b165 323 = .ok ((.if_icmp .ne 9), 3) := by decide +kernel
theorem d165_326 : decode b165 326 = .ok ((.iload 6), 2) := by decide +kernel
theorem d165_328 : decode b165 328 = .ok (.i2d, 1) := by decide +kernel
theorem d165_329 : decode b165 329 = .ok ((.goto 37), 3) := by decide +kernel
theorem d165_332 : decode b165 332 = .ok ((.iload 5), 2) := by decide +kernel
theorem d165_334 : decode b165 334 = .ok ((.iconst 3), 1) := by decide +kernel
theorem d165_335 : decode b165 335 = .ok ((.if_icmp .ne 10), 3) := by decide +kernel
theorem d165_338 : decode b165 338 = .ok ((.iload_n 2), 1) := by decide +kernel
theorem d165_339 : decode b165 339 = .ok ((.iload_n 1), 1) := by decide +kernel
theorem d165_340 : decode b165 340 = .ok (.isub, 1) := by decide +kernel
theorem d165_341 : decode b165 341 = .ok (.i2d, 1) := by decide +kernel
theorem d165_342 : decode b165 342 = .ok ((.goto 24), 3) := by decide +kernel
theorem d165_345 : decode b165 345 = .ok ((.iload 5), 2) := by decide +kernel
theorem d165_347 : decode b165 347 = .ok ((.iconst 4), 1) := by decide +kernel
theorem d165_348 : decode b165 348 = .ok ((.if_icmp .ne 12), 3) := by decide +kernel
theorem d165_351 : decode b165 351 = .ok ((.iload 6), 2) := by decide +kernel
theorem d165_353 : decode b165 353 = .ok ((.bipush 12), 2) := by decide +kernel
theorem d165_355 : decode b165 355 = .ok (.irem, 1) := by decide +kernel
theorem d165_356 : decode b165 356 = .ok (.i2d, 1) := by decide +kernel
theorem d165_357 : decode b165 357 = .ok ((.goto 9), 3) := by decide +kernel
theorem d165_360 : decode b165 360 = .ok ((.iload_n 2), 1) := by decide +kernel
theorem d165_361 : decode b165 361 = .ok (.i2l, 1) := by decide +kernel
theorem d165_362 : decode b165 362 = .ok ((.lload 7), 2) := by decide +kernel
theorem d165_364 : decode b165 364 = .ok (.lsub, 1) := by decide +kernel
theorem d165_365 : decode b165 365 = .ok (.l2d, 1) := by decide +kernel
theorem d165_366 : decode b165 366 = .ok ((.invokevirtual 305), 3) := by decide +kernel
theorem d165_369 : decode b165 369 = .ok (.return_, 1) := by decide +kernel
abbrev b184 : ByteArray := prog_13_method_97_code
theorem d184_0 : decode b184 0 = .ok ((.iload_n 1), 1) := by decide +kernel
theorem d184_1 : decode b184 1 = .ok ((.bipush 7), 2) := by decide +kernel
theorem d184_3 : decode b184 3 = .ok (.iadd, 1) := by decide +kernel
theorem d184_4 : decode b184 4 = .ok ((.bipush 7), 2) := by decide +kernel
theorem d184_6 : decode b184 6 = .ok (.irem, 1) := by decide +kernel
theorem d184_7 : decode b184 7 = .ok ((.iconst 1), 1) := by decide +kernel
theorem d184_8 : decode b184 8 = .ok ((.if_icmp .le 7), 3) := by decide +kernel
theorem d184_11 : decode b184 11 = .ok ((.iconst 1), 1) := by decide +kernel
theorem d184_12 : decode b184 12 = .ok ((.goto 4), 3) := by decide +kernel
theorem d184_15 : decode b184 15 = .ok ((.iconst 0), 1) := by decide +kernel
theorem d184_16 : decode b184 16 = .ok ((.istore_n 3), 1) := by decide +kernel
theorem d184_17 : decode b184 17 = .ok ((.iconst 0), 1) := by decide +kernel
theorem d184_18 : decode b184 18 = .ok ((.istore 4), 2) := by decide +kernel
theorem d184_20 : decode b184 20 = .ok ((.aload_n 0), 1) := by decide +kernel
theorem d184_21 : decode b184 21 = .ok ((.iload_n 2), 1) := by decide +kernel
theorem d184_22 : decode b184 22 = .ok ((.invokevirtual 203), 3) := by decide +kernel
theorem d184_25 : decode b184 25 = .ok ((.ifCond .eq 87), 3) := by decide +kernel
theorem d184_28 : decode b184 28 = .ok ((.iload 4), 2) := by decide +kernel
theorem d184_30 : decode b184 30 = .ok ((.aload_n 0), 1) := by decide +kernel
theorem d184_31 : decode b184 31 = .ok ((.iload_n 2), 1) := by decide +kernel
theorem d184_32 : decode b184 32 = .ok ((.invokevirtual 312), 3) := by decide +kernel
theorem d184_35 : decode b184 35 = .ok ((.aload_n 0), 1) := by decide +kernel
theorem d184_36 : decode b184 36 = .ok ((.iload_n 2), 1) := by decide +kernel
theorem d184_37 : decode b184 37 = .ok ((.invokevirtual 315), 3) := by decide +kernel
theorem d184_40 : decode b184 40 = .ok (.imul, 1) := by decide +kernel
theorem d184_41 : decode b184 41 = .ok ((.if_icmp .ge 71), 3) := by decide +kernel
theorem d184_44 : decode b184 44 = .ok ((.iload_n 3), 1) := by decide +kernel
theorem d184_45 : decode b184 45 = .ok ((.ifCond .eq 67), 3) := by decide +kernel
theorem d184_48 : decode b184 48 = .ok ((.aload_n 0), 1) := by decide +kernel
theorem d184_49 : decode b184 49 = .ok ((.iload_n 2), 1) := by decide +kernel
theorem d184_50 : decode b184 50 = .ok ((.invokevirtual 146), 3) := by decide +kernel
theorem d184_53 : decode b184 53 = .ok ((.ifCond .eq 9), 3) := by decide +kernel
theorem d184_56 : decode b184 56 = .ok ((.sipush 512), 3) := by decide +kernel
theorem d184_59 : decode b184 59 = .ok ((.goto 12), 3) := by decide +kernel
theorem d184_62 : decode b184 62 = .ok ((.aload_n 0), 1) := by decide +kernel
theorem d184_63 : decode b184 63 = .ok ((.getfield 26), 3) := by decide +kernel
theorem d184_66 : decode b184 66 = .ok ((.iload_n 2), 1) := by decide +kernel
theorem d184_67 : decode b184 67 = .ok (.iaload, 1) := by decide +kernel
theorem d184_68 : decode b184 68 = .ok ((.iload 4), 2) := by decide +kernel
theorem d184_70 : decode b184 70 = .ok (.iadd, 1) := by decide +kernel
theorem d184_71 : decode b184 71 = .ok ((.istore 5), 2) := by decide +kernel
theorem d184_73 : decode b184 73 = .ok ((.aload_n 0), 1) := by decide +kernel
theorem d184_74 : decode b184 74 = .ok ((.getfield 35), 3) := by decide +kernel
theorem d184_77 : decode b184 77 = .ok ((.iload 5), 2) := by decide +kernel
theorem d184_79 : decode b184 79 = .ok (.iaload, 1) := by decide +kernel
theorem d184_80 : decode b184 80 = .ok ((.iconst 1), 1) := by decide +kernel
theorem d184_81 : decode b184 81 = .ok ((.if_icmp .ne 19), 3) := by decide +kernel
theorem d184_84 : decode b184 84 = .ok ((.aload_n 0), 1) := by decide +kernel
theorem d184_85 : decode b184 85 = .ok ((.getfield 44), 3) := by decide +kernel
theorem d184_88 : decode b184 88 = .ok ((.iload 5), 2) := by decide +kernel
theorem d184_90 : decode b184 90 = .ok (.daload, 1) := by decide +kernel
theorem d184_91 : decode b184 91 = .ok ((.invokestatic 402), 3) := by decide +kernel
theorem d184_94 : decode b184 94 = .ok ((.iload_n 1), 1) := by decide +kernel
theorem d184_95 : decode b184 95 = .ok (.i2d, 1) := by decide +kernel
theorem d184_96 : decode b184 96 = .ok ((.dcmp .l), 1) := by decide +kernel
theorem d184_97 : decode b184 97 = .ok ((.ifCond .eq 7), 3) := by decide +kernel
theorem d184_100 : decode b184 100 = .ok ((.iconst 1), 1) := by decide +kernel
theorem d184_101 : decode b184 101 = .ok ((.goto 4), 3) := by decide +kernel
theorem d184_104 : decode b184 104 = .ok ((.iconst 0), 1) := by decide +kernel
theorem d184_105 : decode b184 105 = .ok ((.istore_n 3), 1) := by decide +kernel
theorem d184_106 : decode b184 106 = .ok ((.iinc 4 1), 3) := by decide +kernel
theorem d184_109 : decode b184 109 = .ok ((.goto (-89)), 3) := by decide +kernel
theorem d184_112 : decode b184 112 = .ok ((.iload_n 3), 1) := by decide +kernel
theorem d184_113 : decode b184 113 = .ok (.ireturn, 1) := by decide +kernel
abbrev b245 : ByteArray := prog_13_method_98_code
theorem d245_0 : decode b245 0 = .ok ((.aload_n 0), 1) := by decide +kernel
theorem d245_1 : decode b245 1 = .ok ((.iconst 0), 1) := by decide +kernel
theorem d245_2 : decode b245 2 = .ok ((.invokevirtual 431), 3) := by decide +kernel
theorem d245_5 : decode b245 5 = .ok ((.istore_n 1), 1) := by decide +kernel
theorem d245_6 : decode b245 6 = .ok ((.aload_n 0), 1) := by decide +kernel
theorem d245_7 : decode b245 7 = .ok ((.iconst 1), 1) := by decide +kernel
theorem d245_8 : decode b245 8 = .ok ((.invokevirtual 431), 3) := by decide +kernel
theorem d245_11 : decode b245 11 = .ok ((.istore_n 2), 1) := by decide +kernel
theorem d245_12 : decode b245 12 = .ok ((.aload_n 0), 1) := by decide +kernel
theorem d245_13 : decode b245 13 = .ok ((.getfield 143), 3) := by decide +kernel
theorem d245_16 : decode b245 16 = .ok ((.ifCond .eq 4), 3) := by decide +kernel
theorem d245_19 : decode b245 19 = .ok (.return_, 1) := by decide +kernel
theorem d245_20 : decode b245 20 = .ok ((.iconst 0), 1) := by decide +kernel
theorem d245_21 : decode b245 21 = .ok ((.istore_n 3), 1) := by decide +kernel
theorem d245_22 : decode b245 22 = .ok ((.iload_n 1), 1) := by decide +kernel
theorem d245_23 : decode b245 23 = .ok ((.iload_n 2), 1) := by decide +kernel
theorem d245_24 : decode b245 24 = .ok ((.invokestatic 277), 3) := by decide +kernel
theorem d245_27 : decode b245 27 = .ok ((.istore 4), 2) := by decide +kernel
theorem d245_29 : decode b245 29 = .ok ((.iload 4), 2) := by decide +kernel
theorem d245_31 : decode b245 31 = .ok ((.iload_n 1), 1) := by decide +kernel
theorem d245_32 : decode b245 32 = .ok ((.iload_n 2), 1) := by decide +kernel
theorem d245_33 : decode b245 33 = .ok ((.if_icmp .ge 7), 3) := by decide +kernel
theorem d245_36 : decode b245 36 = .ok ((.iload_n 2), 1) := by decide +kernel
theorem d245_37 : decode b245 37 = .ok ((.goto 4), 3) := by decide +kernel
theorem d245_40 : decode b245 40 = .ok ((.iload_n 1), 1) := by decide +kernel
theorem d245_41 : decode b245 41 = .ok ((.if_icmp .gt 27), 3) := by decide +kernel
theorem d245_44 : decode b245 44 = .ok ((.iload_n 3), 1) := by decide +kernel
theorem d245_45 : decode b245 45 = .ok ((.aload_n 0), 1) := by decide +kernel
theorem d245_46 : decode b245 46 = .ok ((.iload 4), 2) := by decide +kernel
theorem d245_48 : decode b245 48 = .ok ((.iconst 2), 1) := by decide +kernel
theorem d245_49 : decode b245 49 = .ok ((.invokevirtual 442), 3) := by decide +kernel
theorem d245_52 : decode b245 52 = .ok ((.ifCond .eq 7), 3) := by decide +kernel
theorem d245_55 : decode b245 55 = .ok ((.iconst 1), 1) := by decide +kernel
theorem d245_56 : decode b245 56 = .ok ((.goto 4), 3) := by decide +kernel
theorem d245_59 : decode b245 59 = .ok ((.iconst 0), 1) := by decide +kernel
theorem d245_60 : decode b245 60 = .ok (.iadd, 1) := by decide +kernel
theorem d245_61 : decode b245 61 = .ok ((.istore_n 3), 1) := by decide +kernel
theorem d245_62 : decode b245 62 = .ok ((.iinc 4 1), 3) := by decide +kernel
theorem d245_65 : decode b245 65 = .ok ((.goto (-36)), 3) := by decide +kernel
theorem d245_68 : decode b245 68 = .ok ((.aload_n 0), 1) := by decide +kernel
theorem d245_69 : decode b245 69 = .ok ((.iload_n 2), 1) := by decide +kernel
theorem d245_70 : decode b245 70 = .ok ((.iload_n 1), 1) := by decide +kernel
theorem d245_71 : decode b245 71 = .ok ((.if_icmp .ge 9), 3) := by decide +kernel
theorem d245_74 : decode b245 74 = .ok ((.iload_n 3), 1) := by decide +kernel
theorem d245_75 : decode b245 75 = .ok (.ineg, 1) := by decide +kernel
theorem d245_76 : decode b245 76 = .ok (.i2d, 1) := by decide +kernel
theorem d245_77 : decode b245 77 = .ok ((.goto 5), 3) := by decide +kernel
theorem d245_80 : decode b245 80 = .ok ((.iload_n 3), 1) := by decide +kernel
theorem d245_81 : decode b245 81 = .ok (.i2d, 1) := by decide +kernel
theorem d245_82 : decode b245 82 = .ok ((.invokevirtual 305), 3) := by decide +kernel
theorem d245_85 : decode b245 85 = .ok (.return_, 1) := by decide +kernel
abbrev b244 : ByteArray := prog_13_method_99_code
theorem d244_0 : decode b244 0 = .ok ((.aload_n 0), 1) := by decide +kernel
theorem d244_1 : decode b244 1 = .ok ((.iconst 0), 1) := by decide +kernel
theorem d244_2 : decode b244 2 = .ok ((.invokevirtual 431), 3) := by decide +kernel
theorem d244_5 : decode b244 5 = .ok ((.istore_n 1), 1) := by decide +kernel
theorem d244_6 : decode b244 6 = .ok ((.aload_n 0), 1) := by decide +kernel
theorem d244_7 : decode b244 7 = .ok ((.iconst 1), 1) := by decide +kernel
theorem d244_8 : decode b244 8 = .ok ((.invokevirtual 206), 3) := by decide +kernel
theorem d244_11 : decode b244 11 = .ok ((.istore_n 2), 1) := by decide +kernel
theorem d244_12 : decode b244 12 = .ok ((.iload_n 2), 1) := by decide +kernel
theorem d244_13 : decode b244 13 = .ok ((.ldc_w 412), 3) := by decide +kernel
theorem d244_16 : decode b244 16 = .ok ((.if_icmp .gt 10), 3) := by decide +kernel
theorem d244_19 : decode b244 19 = .ok ((.iload_n 2), 1) := by decide +kernel
theorem d244_20 : decode b244 20 = .ok ((.ldc_w 413), 3) := by decide +kernel
theorem d244_23 : decode b244 23 = .ok ((.if_icmp .ge 9), 3) := by decide +kernel
theorem d244_26 : decode b244 26 = .ok ((.aload_n 0), 1) := by decide +kernel
theorem d244_27 : decode b244 27 = .ok ((.bipush 6), 2) := by decide +kernel
theorem d244_29 : decode b244 29 = .ok ((.invokevirtual 176), 3) := by decide +kernel
theorem d244_32 : decode b244 32 = .ok ((.aload_n 0), 1) := by decide +kernel
theorem d244_33 : decode b244 33 = .ok ((.getfield 143), 3) := by decide +kernel
theorem d244_36 : decode b244 36 = .ok ((.ifCond .eq 4), 3) := by decide +kernel
theorem d244_39 : decode b244 39 = .ok (.return_, 1) := by decide +kernel
theorem d244_40 : decode b244 40 = .ok ((.iload_n 2), 1) := by decide +kernel
theorem d244_41 : decode b244 41 = .ok ((.ifCond .ge 8), 3) := by decide +kernel
theorem d244_44 : decode b244 44 = .ok ((.iload_n 2), 1) := by decide +kernel
theorem d244_45 : decode b244 45 = .ok (.ineg, 1) := by decide +kernel
theorem d244_46 : decode b244 46 = .ok ((.goto 4), 3) := by decide +kernel
theorem d244_49 : decode b244 49 = .ok ((.iload_n 2), 1) := by decide +kernel
theorem d244_50 : decode b244 50 = .ok ((.istore_n 3), 1) := by decide +kernel
theorem d244_51 : decode b244 51 = .ok ((.iload_n 3), 1) := by decide +kernel
theorem d244_52 : decode b244 52 = .ok ((.ifCond .le 50), 3) := by decide +kernel
theorem d244_55 : decode b244 55 = .ok ((.iload_n 1), 1) := by decide +kernel
theorem d244_56 : decode b244 56 = .ok ((.ifCond .lt 46), 3) := by decide +kernel
theorem d244_59 : decode b244 59 = .ok ((.iload_n 1), 1) := by decide +kernel
theorem d244_60 : decode b244 60 = .ok ((.ldc_w 445), 3) := by decide +kernel
theorem d244_63 : decode b244 63 = .ok ((.if_icmp .gt 39), 3) := by decide +kernel
theorem d244_66 : decode b244 66 = .ok ((.iload_n 1), 1) := by decide +kernel
theorem d244_67 : decode b244 67 = .ok ((.iload_n 2), 1) := by decide +kernel
theorem d244_68 : decode b244 68 = .ok ((.ifCond .ge 7), 3) := by decide +kernel
theorem d244_71 : decode b244 71 = .ok ((.iconst (-1)), 1) := by decide +kernel
theorem d244_72 : decode b244 72 = .ok ((.goto 4), 3) := by decide +kernel
theorem d244_75 : decode b244 75 = .ok ((.iconst 1), 1) := by decide +kernel
theorem d244_76 : decode b244 76 = .ok (.iadd, 1) := by decide +kernel
theorem d244_77 : decode b244 77 = .ok ((.istore_n 1), 1) := by decide +kernel
theorem d244_78 : decode b244 78 = .ok ((.iload_n 3), 1) := by decide +kernel
theorem d244_79 : decode b244 79 = .ok ((.iload_n 1), 1) := by decide +kernel
theorem d244_80 : decode b244 80 = .ok ((.ifCond .lt 16), 3) := by decide +kernel
theorem d244_83 : decode b244 83 = .ok ((.aload_n 0), 1) := by decide +kernel
theorem d244_84 : decode b244 84 = .ok ((.iload_n 1), 1) := by decide +kernel
theorem d244_85 : decode b244 85 = .ok ((.iconst 2), 1) := by decide +kernel
theorem d244_86 : decode b244 86 = .ok ((.invokevirtual 442), 3) := by decide +kernel
theorem d244_89 : decode b244 89 = .ok ((.ifCond .eq 7), 3) := by decide +kernel
theorem d244_92 : decode b244 92 = .ok ((.iconst 1), 1) := by decide +kernel
theorem d244_93 : decode b244 93 = .ok ((.goto 4), 3) := by decide +kernel
theorem d244_96 : decode b244 96 = .ok ((.iconst 0), 1) := by decide +kernel
theorem d244_97 : decode b244 97 = .ok (.isub, 1) := by decide +kernel
theorem d244_98 : decode b244 98 = .ok ((.istore_n 3), 1) := by decide +kernel
theorem d244_99 : decode b244 99 = .ok ((.goto (-48)), 3) := by decide +kernel
theorem d244_102 : decode b244 102 = .ok ((.aload_n 0), 1) := by decide +kernel
theorem d244_103 : decode b244 103 = .ok ((.iload_n 1), 1) := by decide +kernel
theorem d244_104 : decode b244 104 = .ok (.i2l, 1) := by decide +kernel
theorem d244_105 : decode b244 105 = .ok ((.invokevirtual 420), 3) := by decide +kernel
theorem d244_108 : decode b244 108 = .ok (.return_, 1) := by decide +kernel
abbrev b160 : ByteArray := prog_13_method_100_code
theorem d160_0 : decode b160 0 = .ok ((.iload_n 1), 1) := by decide +kernel
theorem d160_1 : decode b160 1 = .ok ((.tableswitch 172 101 115 #[75, 82, 89, 89, 89, 97, 97, 97, 105, 112, 119, 119, 137, 158, 165]), 75) := by decide +kernel
theorem d160_76 : decode b160 76 = .ok ((.aload_n 0), 1) := by decide +kernel
theorem d160_77 : decode b160 77 = .ok ((.invokevirtual 446), 3) := by decide +kernel
theorem d160_80 : decode b160 80 = .ok ((.goto 97), 3) := by decide +kernel
theorem d160_83 : decode b160 83 = .ok ((.aload_n 0), 1) := by decide +kernel
theorem d160_84 : decode b160 84 = .ok ((.invokevirtual 449), 3) := by decide +kernel
theorem d160_87 : decode b160 87 = .ok ((.goto 90), 3) := by decide +kernel
theorem d160_90 : decode b160 90 = .ok ((.aload_n 0), 1) := by decide +kernel
theorem d160_91 : decode b160 91 = .ok ((.iload_n 1), 1) := by decide +kernel
theorem d160_92 : decode b160 92 = .ok ((.invokevirtual 452), 3) := by decide +kernel
theorem d160_95 : decode b160 95 = .ok ((.goto 82), 3) := by decide +kernel
theorem d160_98 : decode b160 98 = .ok ((.aload_n 0), 1) := by decide +kernel
theorem d160_99 : decode b160 99 = .ok ((.iload_n 1), 1) := by decide +kernel
theorem d160_100 : decode b160 100 = .ok ((.invokevirtual 455), 3) := by decide +kernel
theorem d160_103 : decode b160 103 = .ok ((.goto 74), 3) := by decide +kernel
theorem d160_106 : decode b160 106 = .ok ((.aload_n 0), 1) := by decide +kernel
theorem d160_107 : decode b160 107 = .ok ((.invokevirtual 458), 3) := by decide +kernel
theorem d160_110 : decode b160 110 = .ok ((.goto 67), 3) := by decide +kernel
theorem d160_113 : decode b160 113 = .ok ((.aload_n 0), 1) := by decide +kernel
theorem d160_114 : decode b160 114 = .ok ((.invokevirtual 461), 3) := by decide +kernel
theorem d160_117 : decode b160 117 = .ok ((.goto 60), 3) := by decide +kernel
theorem d160_120 : decode b160 120 = .ok ((.aload_n 0), 1) := by decide +kernel
theorem d160_121 : decode b160 121 = .ok ((.iload_n 1), 1) := by decide +kernel
theorem d160_122 : decode b160 122 = .ok ((.bipush 112), 2) := by decide +kernel
theorem d160_124 : decode b160 124 = .ok ((.if_icmp .ne 7), 3) := by decide +kernel
theorem d160_127 : decode b160 127 = .ok ((.iconst 1), 1) := by decide +kernel
theorem d160_128 : decode b160 128 = .ok ((.goto 4), 3) := by decide +kernel
theorem d160_131 : decode b160 131 = .ok ((.iconst 0), 1) := by decide +kernel
theorem d160_132 : decode b160 132 = .ok ((.invokevirtual 464), 3) := by decide +kernel
theorem d160_135 : decode b160 135 = .ok ((.goto 42), 3) := by decide +kernel
theorem d160_138 : decode b160 138 = .ok ((.aload_n 0), 1) := by decide +kernel
theorem d160_139 : decode b160 139 = .ok ((.iconst 0), 1) := by decide +kernel
theorem d160_140 : decode b160 140 = .ok ((.invokevirtual 431), 3) := by decide +kernel
theorem d160_143 : decode b160 143 = .ok ((.istore_n 2), 1) := by decide +kernel
theorem d160_144 : decode b160 144 = .ok ((.aload_n 0), 1) := by decide +kernel
theorem d160_145 : decode b160 145 = .ok ((.iload_n 2), 1) := by decide +kernel
theorem d160_146 : decode b160 146 = .ok ((.aload_n 0), 1) := by decide +kernel
theorem d160_147 : decode b160 147 = .ok ((.iconst 1), 1) := by decide +kernel
theorem d160_148 : decode b160 148 = .ok ((.invokevirtual 431), 3) := by decide +kernel
theorem d160_151 : decode b160 151 = .ok (.isub, 1) := by decide +kernel
theorem d160_152 : decode b160 152 = .ok (.i2d, 1) := by decide +kernel
theorem d160_153 : decode b160 153 = .ok ((.invokevirtual 305), 3) := by decide +kernel
theorem d160_156 : decode b160 156 = .ok ((.goto 21), 3) := by decide +kernel
theorem d160_159 : decode b160 159 = .ok ((.aload_n 0), 1) := by decide +kernel
theorem d160_160 : decode b160 160 = .ok ((.invokevirtual 467), 3) := by decide +kernel
theorem d160_163 : decode b160 163 = .ok ((.goto 14), 3) := by decide +kernel
theorem d160_166 : decode b160 166 = .ok ((.aload_n 0), 1) := by decide +kernel
theorem d160_167 : decode b160 167 = .ok ((.invokevirtual 470), 3) := by decide +kernel
theorem d160_170 : decode b160 170 = .ok ((.goto 7), 3) := by decide +kernel
theorem d160_173 : decode b160 173 = .ok ((.aload_n 0), 1) := by decide +kernel
theorem d160_174 : decode b160 174 = .ok ((.invokevirtual 473), 3) := by decide +kernel
theorem d160_177 : decode b160 177 = .ok (.return_, 1) := by decide +kernel
abbrev b187 : ByteArray := prog_13_method_101_code
theorem d187_0 : decode b187 0 = .ok ((.iload_n 1), 1) := by decide +kernel
theorem d187_1 : decode b187 1 = .ok ((.bipush 127), 2) := by decide +kernel
theorem d187_3 : decode b187 3 = .ok ((.if_icmp .lt 17), 3) := by decide +kernel
theorem d187_6 : decode b187 6 = .ok ((.iload_n 1), 1) := by decide +kernel
theorem d187_7 : decode b187 7 = .ok ((.sipush 129), 3) := by decide +kernel
theorem d187_10 : decode b187 10 = .ok ((.if_icmp .le 15), 3) := by decide +kernel
theorem d187_13 : decode b187 13 = .ok ((.iload_n 1), 1) := by decide +kernel
theorem d187_14 : decode b187 14 = .ok ((.sipush 132), 3) := by decide +kernel
theorem d187_17 : decode b187 17 = .ok ((.if_icmp .ge 8), 3) := by decide +kernel
theorem d187_20 : decode b187 20 = .ok ((.aload_n 0), 1) := by decide +kernel
theorem d187_21 : decode b187 21 = .ok ((.iconst 0), 1) := by decide +kernel
theorem d187_22 : decode b187 22 = .ok ((.invokevirtual 183), 3) := by decide +kernel
theorem d187_25 : decode b187 25 = .ok ((.iload_n 1), 1) := by decide +kernel
theorem d187_26 : decode b187 26 = .ok ((.tableswitch 395 119 131 #[66, 85, 105, 125, 145, 165, 185, 216, 247, 247, 290, 299, 370]), 66) := by decide +kernel
theorem d187_92 : decode b187 92 = .ok ((.aload_n 0), 1) := by decide +kernel
theorem d187_93 : decode b187 93 = .ok ((.aload_n 0), 1) := by decide +kernel
theorem d187_94 : decode b187 94 = .ok ((.getfield 150), 3) := by decide +kernel
theorem d187_97 : decode b187 97 = .ok ((.ifCond .ne 7), 3) := by decide +kernel
theorem d187_100 : decode b187 100 = .ok ((.iconst 1), 1) := by decide +kernel
theorem d187_101 : decode b187 101 = .ok ((.goto 4), 3) := by decide +kernel
theorem d187_104 : decode b187 104 = .ok ((.iconst 0), 1) := by decide +kernel
theorem d187_105 : decode b187 105 = .ok ((.invokevirtual 318), 3) := by decide +kernel
theorem d187_108 : decode b187 108 = .ok ((.goto 320), 3) := by decide +kernel
theorem d187_111 : decode b187 111 = .ok ((.aload_n 0), 1) := by decide +kernel
theorem d187_112 : decode b187 112 = .ok ((.aload_n 0), 1) := by decide +kernel
theorem d187_113 : decode b187 113 = .ok ((.getfield 150), 3) := by decide +kernel
theorem d187_116 : decode b187 116 = .ok ((.iconst 1), 1) := by decide +kernel
theorem d187_117 : decode b187 117 = .ok ((.if_icmp .ne 7), 3) := by decide +kernel
theorem d187_120 : decode b187 120 = .ok ((.iconst 1), 1) := by decide +kernel
theorem d187_121 : decode b187 121 = .ok ((.goto 4), 3) := by decide +kernel
theorem d187_124 : decode b187 124 = .ok ((.iconst 0), 1) := by decide +kernel
theorem d187_125 : decode b187 125 = .ok ((.invokevirtual 318), 3) := by decide +kernel
theorem d187_128 : decode b187 128 = .ok ((.goto 300), 3) := by decide +kernel
theorem d187_131 : decode b187 131 = .ok ((.aload_n 0), 1) := by decide +kernel
theorem d187_132 : decode b187 132 = .ok ((.aload_n 0), 1) := by decide +kernel
theorem d187_133 : decode b187 133 = .ok ((.getfield 150), 3) := by decide +kernel
theorem d187_136 : decode b187 136 = .ok ((.iconst 2), 1) := by decide +kernel
theorem d187_137 : decode b187 137 = .ok ((.if_icmp .ne 7), 3) := by decide +kernel
theorem d187_140 : decode b187 140 = .ok ((.iconst 1), 1) := by decide +kernel
theorem d187_141 : decode b187 141 = .ok ((.goto 4), 3) := by decide +kernel
theorem d187_144 : decode b187 144 = .ok ((.iconst 0), 1) := by decide +kernel
theorem d187_145 : decode b187 145 = .ok ((.invokevirtual 318), 3) := by decide +kernel
theorem d187_148 : decode b187 148 = .ok ((.goto 280), 3) := by decide +kernel
theorem d187_151 : decode b187 151 = .ok ((.aload_n 0), 1) := by decide +kernel
theorem d187_152 : decode b187 152 = .ok ((.aload_n 0), 1) := by decide +kernel
theorem d187_153 : decode b187 153 = .ok ((.getfield 150), 3) := by decide +kernel
theorem d187_156 : decode b187 156 = .ok ((.iconst 2), 1) := by decide +kernel
theorem d187_157 : decode b187 157 = .ok ((.if_icmp .eq 7), 3) := by decide +kernel
theorem d187_160 : decode b187 160 = .ok ((.iconst 1), 1) := by decide +kernel
theorem d187_161 : decode b187 161 = .ok ((.goto 4), 3) := by decide +kernel
theorem d187_164 : decode b187 164 = .ok ((.iconst 0), 1) := by decide +kernel
theorem d187_165 : decode b187 165 = .ok ((.invokevirtual 318), 3) := by decide +kernel
theorem d187_168 : decode b187 168 = .ok ((.goto 260), 3) := by decide +kernel
theorem d187_171 : decode b187 171 = .ok ((.aload_n 0), 1) := by decide +kernel
theorem d187_172 : decode b187 172 = .ok ((.aload_n 0), 1) := by decide +kernel
theorem d187_173 : decode b187 173 = .ok ((.getfield 150), 3) := by decide +kernel
theorem d187_176 : decode b187 176 = .ok ((.iconst 3), 1) := by decide +kernel
theorem d187_177 : decode b187 177 = .ok ((.if_icmp .ne 7), 3) := by decide +kernel
theorem d187_180 : decode b187 180 = .ok ((.iconst 1), 1) := by decide +kernel
theorem d187_181 : decode b187 181 = .ok ((.goto 4), 3) := by decide +kernel
theorem d187_184 : decode b187 184 = .ok ((.iconst 0), 1) := by decide +kernel
theorem d187_185 : decode b187 185 = .ok ((.invokevirtual 318), 3) := by decide +kernel
theorem d187_188 : decode b187 188 = .ok ((.goto 240), 3) := by decide +kernel
theorem d187_191 : decode b187 191 = .ok ((.aload_n 0), 1) := by decide +kernel
theorem d187_192 : decode b187 192 = .ok ((.aload_n 0), 1) := by decide +kernel
theorem d187_193 : decode b187 193 = .ok ((.getfield 150), 3) := by decide +kernel
theorem d187_196 : decode b187 196 = .ok ((.iconst 4), 1) := by decide +kernel
theorem d187_197 : decode b187 197 = .ok ((.if_icmp .ne 7), 3) := by decide +kernel
theorem d187_200 : decode b187 200 = .ok ((.iconst 1), 1) := by decide +kernel
theorem d187_201 : decode b187 201 = .ok ((.goto 4), 3) := by decide +kernel
theorem d187_204 : decode b187 204 = .ok ((.iconst 0), 1) := by decide +kernel
theorem d187_205 : decode b187 205 = .ok ((.invokevirtual 318), 3) := by decide +kernel
theorem d187_208 : decode b187 208 = .ok ((.goto 220), 3) := by decide +kernel
theorem d187_211 : decode b187 211 = .ok ((.aload_n 0), 1) := by decide +kernel
theorem d187_212 : decode b187 212 = .ok ((.aload_n 0), 1) := by decide +kernel
theorem d187_213 : decode b187 213 = .ok ((.getfield 150), 3) := by decide +kernel
theorem d187_216 : decode b187 216 = .ok ((.iconst 4), 1) := by decide +kernel
theorem d187_217 : decode b187 217 = .ok ((.if_icmp .ne 18), 3) := by decide +kernel
theorem d187_220 : decode b187 220 = .ok ((.aload_n 0), 1) := by decide +kernel
theorem d187_221 : decode b187 221 = .ok ((.getfield 153), 3) := by decide +kernel
theorem d187_224 : decode b187 224 = .ok ((.ldc2_w 476), 3) := by decide +kernel
theorem d187_227 : decode b187 227 = .ok ((.dcmp .l), 1) := by decide +kernel
theorem d187_228 : decode b187 228 = .ok ((.ifCond .eq 7), 3) := by decide +kernel
theorem d187_231 : decode b187 231 = .ok ((.iconst 1), 1) := by decide +kernel
theorem d187_232 : decode b187 232 = .ok ((.goto 4), 3) := by decide +kernel
theorem d187_235 : decode b187 235 = .ok ((.iconst 0), 1) := by decide +kernel
theorem d187_236 : decode b187 236 = .ok ((.invokevirtual 318), 3) := by decide +kernel
theorem d187_239 : decode b187 239 = .ok ((.goto 189), 3) := by decide +kernel
theorem d187_242 : decode b187 242 = .ok ((.aload_n 0), 1) := by decide +kernel
theorem d187_243 : decode b187 243 = .ok ((.aload_n 0), 1) := by decide +kernel
theorem d187_244 : decode b187 244 = .ok ((.getfield 150), 3) := by decide +kernel
theorem d187_247 : decode b187 247 = .ok ((.iconst 4), 1) := by decide +kernel
theorem d187_248 : decode b187 248 = .ok ((.if_icmp .ne 18), 3) := by decide +kernel
theorem d187_251 : decode b187 251 = .ok ((.aload_n 0), 1) := by decide +kernel
theorem d187_252 : decode b187 252 = .ok ((.getfield 153), 3) := by decide +kernel
theorem d187_255 : decode b187 255 = .ok ((.ldc2_w 476), 3) := by decide +kernel
theorem d187_258 : decode b187 258 = .ok ((.dcmp .l), 1) := by decide +kernel
theorem d187_259 : decode b187 259 = .ok ((.ifCond .ne 7), 3) := by decide +kernel
theorem d187_262 : decode b187 262 = .ok ((.iconst 1), 1) := by decide +kernel
theorem d187_263 : decode b187 263 = .ok ((.goto 4), 3) := by decide +kernel
theorem d187_266 : decode b187 266 = .ok ((.iconst 0), 1) := by decide +kernel
theorem d187_267 : decode b187 267 = .ok ((.invokevirtual 318), 3) := by decide +kernel
theorem d187_270 : decode b187 270 = .ok ((.goto 158), 3) := by decide +kernel
theorem d187_273 : decode b187 273 = .ok ((.aload_n 0), 1) := by decide +kernel
theorem d187_274 : decode b187 274 = .ok ((.iconst 0), 1) := by decide +kernel
theorem d187_275 : decode b187 275 = .ok ((.invokevirtual 206), 3) := by decide +kernel
theorem d187_278 : decode b187 278 = .ok ((.istore_n 2), 1) := by decide +kernel
theorem d187_279 : decode b187 279 = .ok ((.aload_n 0), 1) := by decide +kernel
theorem d187_280 : decode b187 280 = .ok ((.iload_n 2), 1) := by decide +kernel
theorem d187_281 : decode b187 281 = .ok ((.iconst 2), 1) := by decide +kernel
theorem d187_282 : decode b187 282 = .ok (.irem, 1) := by decide +kernel
theorem d187_283 : decode b187 283 = .ok ((.ifCond .ne 7), 3) := by decide +kernel
theorem d187_286 : decode b187 286 = .ok ((.iconst 1), 1) := by decide +kernel
theorem d187_287 : decode b187 287 = .ok ((.goto 4), 3) := by decide +kernel
theorem d187_290 : decode b187 290 = .ok ((.iconst 0), 1) := by decide +kernel
theorem d187_291 : decode b187 291 = .ok ((.iload_n 1), 1) := by decide +kernel
theorem d187_292 : decode b187 292 = .ok ((.bipush 127), 2) := by decide +kernel
theorem d187_294 : decode b187 294 = .ok ((.if_icmp .ne 7), 3) := by decide +kernel
theorem d187_297 : decode b187 297 = .ok ((.iconst 1), 1) := by decide +kernel
theorem d187_298 : decode b187 298 = .ok ((.goto 4), 3) := by decide +kernel
theorem d187_301 : decode b187 301 = .ok ((.iconst 0), 1) := by decide +kernel
theorem d187_302 : decode b187 302 = .ok ((.if_icmp .ne 7), 3) := by decide +kernel
theorem d187_305 : decode b187 305 = .ok ((.iconst 1), 1) := by decide +kernel
theorem d187_306 : decode b187 306 = .ok ((.goto 4), 3) := by decide +kernel
theorem d187_309 : decode b187 309 = .ok ((.iconst 0), 1) := by decide +kernel
theorem d187_310 : decode b187 310 = .ok ((.invokevirtual 318), 3) := by decide +kernel
theorem d187_313 : decode b187 313 = .ok ((.goto 115), 3) := by decide +kernel
theorem d187_316 : decode b187 316 = .ok ((.aload_n 0), 1) := by decide +kernel
theorem d187_317 : decode b187 317 = .ok ((.bipush 7), 2) := by decide +kernel
theorem d187_319 : decode b187 319 = .ok ((.invokevirtual 176), 3) := by decide +kernel
theorem d187_322 : decode b187 322 = .ok ((.goto 106), 3) := by decide +kernel
theorem d187_325 : decode b187 325 = .ok ((.aload_n 0), 1) := by decide +kernel
theorem d187_326 : decode b187 326 = .ok ((.aload_n 0), 1) := by decide +kernel
theorem d187_327 : decode b187 327 = .ok ((.iconst 0), 1) := by decide +kernel
theorem d187_328 : decode b187 328 = .ok ((.invokevirtual 312), 3) := by decide +kernel
theorem d187_331 : decode b187 331 = .ok ((.aload_n 0), 1) := by decide +kernel
theorem d187_332 : decode b187 332 = .ok ((.iconst 0), 1) := by decide +kernel
theorem d187_333 : decode b187 333 = .ok ((.invokevirtual 315), 3) := by decide +kernel
theorem d187_336 : decode b187 336 = .ok (.imul, 1) := by decide +kernel
theorem d187_337 : decode b187 337 = .ok ((.iconst 1), 1) := by decide +kernel
theorem d187_338 : decode b187 338 = .ok ((.if_icmp .le 9), 3) := by decide +kernel
theorem d187_341 : decode b187 341 = .ok ((.ldc2_w 478), 3) := by decide +kernel
theorem d187_344 : decode b187 344 = .ok ((.goto 46), 3) := by decide +kernel
theorem d187_347 : decode b187 347 = .ok ((.aload_n 0), 1) := by decide +kernel
theorem d187_348 : decode b187 348 = .ok ((.getfield 150), 3) := by decide +kernel
theorem d187_351 : decode b187 351 = .ok ((.iconst 2), 1) := by decide +kernel
theorem d187_352 : decode b187 352 = .ok ((.if_icmp .ne 9), 3) := by decide +kernel
theorem d187_355 : decode b187 355 = .ok ((.ldc2_w 480), 3) := by decide +kernel
theorem d187_358 : decode b187 358 = .ok ((.goto 32), 3) := by decide +kernel
theorem d187_361 : decode b187 361 = .ok ((.aload_n 0), 1) := by decide +kernel
theorem d187_362 : decode b187 362 = .ok ((.getfield 150), 3) := by decide +kernel
theorem d187_365 : decode b187 365 = .ok ((.iconst 3), 1) := by decide +kernel
theorem d187_366 : decode b187 366 = .ok ((.if_icmp .ne 9), 3) := by decide +kernel
theorem d187_369 : decode b187 369 = .ok ((.ldc2_w 482), 3) := by decide +kernel
theorem d187_372 : decode b187 372 = .ok ((.goto 18), 3) := by decide +kernel
theorem d187_375 : decode b187 375 = .ok ((.aload_n 0), 1) := by decide +kernel
theorem d187_376 : decode b187 376 = .ok ((.getfield 150), 3) := by decide +kernel
theorem d187_379 : decode b187 379 = .ok ((.iconst 4), 1) := by decide +kernel
theorem d187_380 : decode b187 380 = .ok ((.if_icmp .ne 9), 3) := by decide +kernel
theorem d187_383 : decode b187 383 = .ok ((.ldc2_w 484), 3) := by decide +kernel
theorem d187_386 : decode b187 386 = .ok ((.goto 4), 3) := by decide +kernel
theorem d187_389 : decode b187 389 = .ok ((.dconst 1), 1) := by decide +kernel
theorem d187_390 : decode b187 390 = .ok ((.invokevirtual 305), 3) := by decide +kernel
theorem d187_393 : decode b187 393 = .ok ((.goto 35), 3) := by decide +kernel
theorem d187_396 : decode b187 396 = .ok ((.aload_n 0), 1) := by decide +kernel
theorem d187_397 : decode b187 397 = .ok ((.getfield 150), 3) := by decide +kernel
theorem d187_400 : decode b187 400 = .ok ((.iconst 4), 1) := by decide +kernel
theorem d187_401 : decode b187 401 = .ok ((.if_icmp .eq 9), 3) := by decide +kernel
theorem d187_404 : decode b187 404 = .ok ((.aload_n 0), 1) := by decide +kernel
theorem d187_405 : decode b187 405 = .ok ((.bipush 7), 2) := by decide +kernel
theorem d187_407 : decode b187 407 = .ok ((.invokevirtual 176), 3) := by decide +kernel
theorem d187_410 : decode b187 410 = .ok ((.aload_n 0), 1) := by decide +kernel
theorem d187_411 : decode b187 411 = .ok ((.aload_n 0), 1) := by decide +kernel
theorem d187_412 : decode b187 412 = .ok ((.getfield 153), 3) := by decide +kernel
theorem d187_415 : decode b187 415 = .ok ((.invokevirtual 305), 3) := by decide +kernel
theorem d187_418 : decode b187 418 = .ok ((.goto 10), 3) := by decide +kernel
theorem d187_421 : decode b187 421 = .ok ((.aload_n 0), 1) := by decide +kernel
theorem d187_422 : decode b187 422 = .ok ((.ldc2_w 486), 3) := by decide +kernel
theorem d187_425 : decode b187 425 = .ok ((.invokevirtual 305), 3) := by decide +kernel
theorem d187_428 : decode b187 428 = .ok (.return_, 1) := by decide +kernel
abbrev b225 : ByteArray := prog_13_method_107_code
theorem d225_0 : decode b225 0 = .ok ((.aload_n 0), 1) := by decide +kernel
theorem d225_1 : decode b225 1 = .ok ((.aload_n 0), 1) := by decide +kernel
theorem d225_2 : decode b225 2 = .ok ((.getfield 90), 3) := by decide +kernel
theorem d225_5 : decode b225 5 = .ok ((.iload_n 1), 1) := by decide +kernel
theorem d225_6 : decode b225 6 = .ok (.iaload, 1) := by decide +kernel
theorem d225_7 : decode b225 7 = .ok ((.putfield 259), 3) := by decide +kernel
theorem d225_10 : decode b225 10 = .ok ((.aload_n 0), 1) := by decide +kernel
theorem d225_11 : decode b225 11 = .ok ((.aload_n 0), 1) := by decide +kernel
theorem d225_12 : decode b225 12 = .ok ((.getfield 99), 3) := by decide +kernel
theorem d225_15 : decode b225 15 = .ok ((.iload_n 1), 1) := by decide +kernel
theorem d225_16 : decode b225 16 = .ok (.daload, 1) := by decide +kernel
theorem d225_17 : decode b225 17 = .ok ((.putfield 265), 3) := by decide +kernel
theorem d225_20 : decode b225 20 = .ok ((.aload_n 0), 1) := by decide +kernel
theorem d225_21 : decode b225 21 = .ok ((.aload_n 0), 1) := by decide +kernel
theorem d225_22 : decode b225 22 = .ok ((.getfield 259), 3) := by decide +kernel
theorem d225_25 : decode b225 25 = .ok ((.iconst 2), 1) := by decide +kernel
theorem d225_26 : decode b225 26 = .ok ((.if_icmp .ne 12), 3) := by decide +kernel
theorem d225_29 : decode b225 29 = .ok ((.aload_n 0), 1) := by decide +kernel
theorem d225_30 : decode b225 30 = .ok ((.getfield 96), 3) := by decide +kernel
theorem d225_33 : decode b225 33 = .ok ((.iload_n 1), 1) := by decide +kernel
theorem d225_34 : decode b225 34 = .ok (.iaload, 1) := by decide +kernel
theorem d225_35 : decode b225 35 = .ok ((.goto 4), 3) := by decide +kernel
theorem d225_38 : decode b225 38 = .ok ((.iconst 0), 1) := by decide +kernel
theorem d225_39 : decode b225 39 = .ok ((.putfield 262), 3) := by decide +kernel
theorem d225_42 : decode b225 42 = .ok ((.iconst 0), 1) := by decide +kernel
theorem d225_43 : decode b225 43 = .ok ((.istore_n 2), 1) := by decide +kernel
theorem d225_44 : decode b225 44 = .ok ((.iload_n 2), 1) := by decide +kernel
theorem d225_45 : decode b225 45 = .ok ((.aload_n 0), 1) := by decide +kernel
theorem d225_46 : decode b225 46 = .ok ((.getfield 262), 3) := by decide +kernel
theorem d225_49 : decode b225 49 = .ok ((.if_icmp .ge 28), 3) := by decide +kernel
theorem d225_52 : decode b225 52 = .ok ((.aload_n 0), 1) := by decide +kernel
theorem d225_53 : decode b225 53 = .ok ((.getfield 67), 3) := by decide +kernel
theorem d225_56 : decode b225 56 = .ok ((.iload_n 2), 1) := by decide +kernel
theorem d225_57 : decode b225 57 = .ok ((.aload_n 0), 1) := by decide +kernel
theorem d225_58 : decode b225 58 = .ok ((.getfield 17), 3) := by decide +kernel
theorem d225_61 : decode b225 61 = .ok ((.aload_n 0), 1) := by decide +kernel
theorem d225_62 : decode b225 62 = .ok ((.getfield 93), 3) := by decide +kernel
theorem d225_65 : decode b225 65 = .ok ((.iload_n 1), 1) := by decide +kernel
theorem d225_66 : decode b225 66 = .ok (.iaload, 1) := by decide +kernel
theorem d225_67 : decode b225 67 = .ok ((.iload_n 2), 1) := by decide +kernel
theorem d225_68 : decode b225 68 = .ok (.iadd, 1) := by decide +kernel
theorem d225_69 : decode b225 69 = .ok (.iaload, 1) := by decide +kernel
theorem d225_70 : decode b225 70 = .ok (.iastore, 1) := by decide +kernel
theorem d225_71 : decode b225 71 = .ok ((.iinc 2 1), 3) := by decide +kernel
theorem d225_74 : decode b225 74 = .ok ((.goto (-30)), 3) := by decide +kernel
theorem d225_77 : decode b225 77 = .ok (.return_, 1) := by decide +kernel
abbrev b186 : ByteArray := prog_13_method_106_code
theorem d186_0 : decode b186 0 = .ok ((.aload_n 0), 1) := by decide +kernel
theorem d186_1 : decode b186 1 = .ok ((.aload_n 0), 1) := by decide +kernel
theorem d186_2 : decode b186 2 = .ok ((.getfield 70), 3) := by decide +kernel
theorem d186_5 : decode b186 5 = .ok ((.ifCond .ge 7), 3) := by decide +kernel
theorem d186_8 : decode b186 8 = .ok ((.iconst 1), 1) := by decide +kernel
theorem d186_9 : decode b186 9 = .ok ((.goto 21), 3) := by decide +kernel
theorem d186_12 : decode b186 12 = .ok ((.aload_n 0), 1) := by decide +kernel
theorem d186_13 : decode b186 13 = .ok ((.getfield 360), 3) := by decide +kernel
theorem d186_16 : decode b186 16 = .ok ((.ifCond .eq 10), 3) := by decide +kernel
theorem d186_19 : decode b186 19 = .ok ((.aload_n 0), 1) := by decide +kernel
theorem d186_20 : decode b186 20 = .ok ((.getfield 76), 3) := by decide +kernel
theorem d186_23 : decode b186 23 = .ok ((.goto 7), 3) := by decide +kernel
theorem d186_26 : decode b186 26 = .ok ((.aload_n 0), 1) := by decide +kernel
theorem d186_27 : decode b186 27 = .ok ((.getfield 73), 3) := by decide +kernel
theorem d186_30 : decode b186 30 = .ok ((.putfield 84), 3) := by decide +kernel
theorem d186_33 : decode b186 33 = .ok ((.aload_n 0), 1) := by decide +kernel
theorem d186_34 : decode b186 34 = .ok ((.aload_n 0), 1) := by decide +kernel
theorem d186_35 : decode b186 35 = .ok ((.getfield 70), 3) := by decide +kernel
theorem d186_38 : decode b186 38 = .ok ((.ifCond .ge 7), 3) := by decide +kernel
theorem d186_41 : decode b186 41 = .ok ((.iconst 1), 1) := by decide +kernel
theorem d186_42 : decode b186 42 = .ok ((.goto 21), 3) := by decide +kernel
theorem d186_45 : decode b186 45 = .ok ((.aload_n 0), 1) := by decide +kernel
theorem d186_46 : decode b186 46 = .ok ((.getfield 360), 3) := by decide +kernel
theorem d186_49 : decode b186 49 = .ok ((.ifCond .eq 10), 3) := by decide +kernel
theorem d186_52 : decode b186 52 = .ok ((.aload_n 0), 1) := by decide +kernel
theorem d186_53 : decode b186 53 = .ok ((.getfield 73), 3) := by decide +kernel
theorem d186_56 : decode b186 56 = .ok ((.goto 7), 3) := by decide +kernel
theorem d186_59 : decode b186 59 = .ok ((.aload_n 0), 1) := by decide +kernel
theorem d186_60 : decode b186 60 = .ok ((.getfield 76), 3) := by decide +kernel
theorem d186_63 : decode b186 63 = .ok ((.putfield 87), 3) := by decide +kernel
theorem d186_66 : decode b186 66 = .ok ((.iconst 0), 1) := by decide +kernel
theorem d186_67 : decode b186 67 = .ok ((.istore_n 1), 1) := by decide +kernel
theorem d186_68 : decode b186 68 = .ok ((.aload_n 0), 1) := by decide +kernel
theorem d186_69 : decode b186 69 = .ok ((.getfield 70), 3) := by decide +kernel
theorem d186_72 : decode b186 72 = .ok ((.ifCond .lt 157), 3) := by decide +kernel
theorem d186_75 : decode b186 75 = .ok ((.iload_n 1), 1) := by decide +kernel
theorem d186_76 : decode b186 76 = .ok ((.aload_n 0), 1) := by decide +kernel
theorem d186_77 : decode b186 77 = .ok ((.getfield 84), 3) := by decide +kernel
theorem d186_80 : decode b186 80 = .ok ((.aload_n 0), 1) := by decide +kernel
theorem d186_81 : decode b186 81 = .ok ((.getfield 87), 3) := by decide +kernel
theorem d186_84 : decode b186 84 = .ok (.imul, 1) := by decide +kernel
theorem d186_85 : decode b186 85 = .ok ((.if_icmp .ge 144), 3) := by decide +kernel
theorem d186_88 : decode b186 88 = .ok ((.iload_n 1), 1) := by decide +kernel
theorem d186_89 : decode b186 89 = .ok ((.aload_n 0), 1) := by decide +kernel
theorem d186_90 : decode b186 90 = .ok ((.getfield 87), 3) := by decide +kernel
theorem d186_93 : decode b186 93 = .ok (.idiv, 1) := by decide +kernel
theorem d186_94 : decode b186 94 = .ok ((.istore_n 2), 1) := by decide +kernel
theorem d186_95 : decode b186 95 = .ok ((.iload_n 1), 1) := by decide +kernel
theorem d186_96 : decode b186 96 = .ok ((.aload_n 0), 1) := by decide +kernel
theorem d186_97 : decode b186 97 = .ok ((.getfield 87), 3) := by decide +kernel
theorem d186_100 : decode b186 100 = .ok (.irem, 1) := by decide +kernel
theorem d186_101 : decode b186 101 = .ok ((.istore_n 3), 1) := by decide +kernel
theorem d186_102 : decode b186 102 = .ok ((.aload_n 0), 1) := by decide +kernel
theorem d186_103 : decode b186 103 = .ok ((.aload_n 0), 1) := by decide +kernel
theorem d186_104 : decode b186 104 = .ok ((.getfield 70), 3) := by decide +kernel
theorem d186_107 : decode b186 107 = .ok ((.aload_n 0), 1) := by decide +kernel
theorem d186_108 : decode b186 108 = .ok ((.getfield 354), 3) := by decide +kernel
theorem d186_111 : decode b186 111 = .ok ((.aload_n 0), 1) := by decide +kernel
theorem d186_112 : decode b186 112 = .ok ((.getfield 360), 3) := by decide +kernel
theorem d186_115 : decode b186 115 = .ok ((.ifCond .eq 7), 3) := by decide +kernel
theorem d186_118 : decode b186 118 = .ok ((.iload_n 3), 1) := by decide +kernel
theorem d186_119 : decode b186 119 = .ok ((.goto 4), 3) := by decide +kernel
theorem d186_122 : decode b186 122 = .ok ((.iload_n 2), 1) := by decide +kernel
theorem d186_123 : decode b186 123 = .ok (.iadd, 1) := by decide +kernel
theorem d186_124 : decode b186 124 = .ok ((.aload_n 0), 1) := by decide +kernel
theorem d186_125 : decode b186 125 = .ok ((.getfield 357), 3) := by decide +kernel
theorem d186_128 : decode b186 128 = .ok ((.aload_n 0), 1) := by decide +kernel
theorem d186_129 : decode b186 129 = .ok ((.getfield 360), 3) := by decide +kernel
theorem d186_132 : decode b186 132 = .ok ((.ifCond .eq 7), 3) := by decide +kernel
theorem d186_135 : decode b186 135 = .ok ((.iload_n 2), 1) := by decide +kernel
theorem d186_136 : decode b186 136 = .ok ((.goto 4), 3) := by decide +kernel
theorem d186_139 : decode b186 139 = .ok ((.iload_n 3), 1) := by decide +kernel
theorem d186_140 : decode b186 140 = .ok (.iadd, 1) := by decide +kernel
theorem d186_141 : decode b186 141 = .ok ((.invokevirtual 160), 3) := by decide +kernel
theorem d186_144 : decode b186 144 = .ok ((.istore 4), 2) := by decide +kernel
theorem d186_146 : decode b186 146 = .ok ((.aload_n 0), 1) := by decide +kernel
theorem d186_147 : decode b186 147 = .ok ((.getfield 90), 3) := by decide +kernel
theorem d186_150 : decode b186 150 = .ok ((.iload_n 1), 1) := by decide +kernel
theorem d186_151 : decode b186 151 = .ok ((.aload_n 0), 1) := by decide +kernel
theorem d186_152 : decode b186 152 = .ok ((.getfield 35), 3) := by decide +kernel
theorem d186_155 : decode b186 155 = .ok ((.iload 4), 2) := by decide +kernel
theorem d186_157 : decode b186 157 = .ok (.iaload, 1) := by decide +kernel
theorem d186_158 : decode b186 158 = .ok (.iastore, 1) := by decide +kernel
theorem d186_159 : decode b186 159 = .ok ((.aload_n 0), 1) := by decide +kernel
theorem d186_160 : decode b186 160 = .ok ((.getfield 99), 3) := by decide +kernel
theorem d186_163 : decode b186 163 = .ok ((.iload_n 1), 1) := by decide +kernel
theorem d186_164 : decode b186 164 = .ok ((.aload_n 0), 1) := by decide +kernel
theorem d186_165 : decode b186 165 = .ok ((.getfield 35), 3) := by decide +kernel
theorem d186_168 : decode b186 168 = .ok ((.iload 4), 2) := by decide +kernel
theorem d186_170 : decode b186 170 = .ok (.iaload, 1) := by decide +kernel
theorem d186_171 : decode b186 171 = .ok ((.ifCond .eq 14), 3) := by decide +kernel
theorem d186_174 : decode b186 174 = .ok ((.aload_n 0), 1) := by decide +kernel
theorem d186_175 : decode b186 175 = .ok ((.getfield 35), 3) := by decide +kernel
theorem d186_178 : decode b186 178 = .ok ((.iload 4), 2) := by decide +kernel
theorem d186_180 : decode b186 180 = .ok (.iaload, 1) := by decide +kernel
theorem d186_181 : decode b186 181 = .ok ((.iconst 2), 1) := by decide +kernel
theorem d186_182 : decode b186 182 = .ok ((.if_icmp .ne 7), 3) := by decide +kernel
theorem d186_185 : decode b186 185 = .ok ((.dconst 0), 1) := by decide +kernel
theorem d186_186 : decode b186 186 = .ok ((.goto 10), 3) := by decide +kernel
theorem d186_189 : decode b186 189 = .ok ((.aload_n 0), 1) := by decide +kernel
theorem d186_190 : decode b186 190 = .ok ((.getfield 44), 3) := by decide +kernel
theorem d186_193 : decode b186 193 = .ok ((.iload 4), 2) := by decide +kernel
theorem d186_195 : decode b186 195 = .ok (.daload, 1) := by decide +kernel
theorem d186_196 : decode b186 196 = .ok (.dastore, 1) := by decide +kernel
theorem d186_197 : decode b186 197 = .ok ((.aload_n 0), 1) := by decide +kernel
theorem d186_198 : decode b186 198 = .ok ((.getfield 93), 3) := by decide +kernel
theorem d186_201 : decode b186 201 = .ok ((.iload_n 1), 1) := by decide +kernel
theorem d186_202 : decode b186 202 = .ok ((.aload_n 0), 1) := by decide +kernel
theorem d186_203 : decode b186 203 = .ok ((.getfield 38), 3) := by decide +kernel
theorem d186_206 : decode b186 206 = .ok ((.iload 4), 2) := by decide +kernel
theorem d186_208 : decode b186 208 = .ok (.iaload, 1) := by decide +kernel
theorem d186_209 : decode b186 209 = .ok (.iastore, 1) := by decide +kernel
theorem d186_210 : decode b186 210 = .ok ((.aload_n 0), 1) := by decide +kernel
theorem d186_211 : decode b186 211 = .ok ((.getfield 96), 3) := by decide +kernel
theorem d186_214 : decode b186 214 = .ok ((.iload_n 1), 1) := by decide +kernel
theorem d186_215 : decode b186 215 = .ok ((.aload_n 0), 1) := by decide +kernel
theorem d186_216 : decode b186 216 = .ok ((.getfield 41), 3) := by decide +kernel
theorem d186_219 : decode b186 219 = .ok ((.iload 4), 2) := by decide +kernel
theorem d186_221 : decode b186 221 = .ok (.iaload, 1) := by decide +kernel
theorem d186_222 : decode b186 222 = .ok (.iastore, 1) := by decide +kernel
theorem d186_223 : decode b186 223 = .ok ((.iinc 1 1), 3) := by decide +kernel
theorem d186_226 : decode b186 226 = .ok ((.goto (-158)), 3) := by decide +kernel
theorem d186_229 : decode b186 229 = .ok ((.aload_n 0), 1) := by decide +kernel
theorem d186_230 : decode b186 230 = .ok ((.getfield 70), 3) := by decide +kernel
theorem d186_233 : decode b186 233 = .ok ((.ifCond .lt 8), 3) := by decide +kernel
theorem d186_236 : decode b186 236 = .ok ((.aload_n 0), 1) := by decide +kernel
theorem d186_237 : decode b186 237 = .ok ((.iconst 0), 1) := by decide +kernel
theorem d186_238 : decode b186 238 = .ok ((.invokevirtual 567), 3) := by decide +kernel
theorem d186_241 : decode b186 241 = .ok (.return_, 1) := by decide +kernel
abbrev b151 : ByteArray := prog_13_method_105_code
theorem d151_0 : decode b151 0 = .ok ((.iload_n 1), 1) := by decide +kernel
theorem d151_1 : decode b151 1 = .ok ((.invokestatic 549), 3) := by decide +kernel
theorem d151_4 : decode b151 4 = .ok ((.istore_n 2), 1) := by decide +kernel
theorem d151_5 : decode b151 5 = .ok ((.aload_n 0), 1) := by decide +kernel
theorem d151_6 : decode b151 6 = .ok ((.iload_n 2), 1) := by decide +kernel
theorem d151_7 : decode b151 7 = .ok ((.ifCond .lt 25), 3) := by decide +kernel
theorem d151_10 : decode b151 10 = .ok ((.aload_n 0), 1) := by decide +kernel
theorem d151_11 : decode b151 11 = .ok ((.getfield 123), 3) := by decide +kernel
theorem d151_14 : decode b151 14 = .ok ((.iload_n 2), 1) := by decide +kernel
theorem d151_15 : decode b151 15 = .ok ((.bipush 100), 2) := by decide +kernel
theorem d151_17 : decode b151 17 = .ok (.idiv, 1) := by decide +kernel
theorem d151_18 : decode b151 18 = .ok ((.if_icmp .lt 14), 3) := by decide +kernel
theorem d151_21 : decode b151 21 = .ok ((.aload_n 0), 1) := by decide +kernel
theorem d151_22 : decode b151 22 = .ok ((.getfield 123), 3) := by decide +kernel
theorem d151_25 : decode b151 25 = .ok ((.iload_n 2), 1) := by decide +kernel
theorem d151_26 : decode b151 26 = .ok ((.bipush 100), 2) := by decide +kernel
theorem d151_28 : decode b151 28 = .ok (.irem, 1) := by decide +kernel
theorem d151_29 : decode b151 29 = .ok ((.if_icmp .le 7), 3) := by decide +kernel
theorem d151_32 : decode b151 32 = .ok ((.iconst 1), 1) := by decide +kernel
theorem d151_33 : decode b151 33 = .ok ((.goto 4), 3) := by decide +kernel
theorem d151_36 : decode b151 36 = .ok ((.iconst 0), 1) := by decide +kernel
theorem d151_37 : decode b151 37 = .ok ((.putfield 102), 3) := by decide +kernel
theorem d151_40 : decode b151 40 = .ok ((.aload_n 0), 1) := by decide +kernel
theorem d151_41 : decode b151 41 = .ok ((.getfield 102), 3) := by decide +kernel
theorem d151_44 : decode b151 44 = .ok ((.ifCond .eq 5), 3) := by decide +kernel
theorem d151_47 : decode b151 47 = .ok ((.iconst 0), 1) := by decide +kernel
theorem d151_48 : decode b151 48 = .ok (.ireturn, 1) := by decide +kernel
theorem d151_49 : decode b151 49 = .ok ((.aload_n 0), 1) := by decide +kernel
theorem d151_50 : decode b151 50 = .ok ((.iconst 0), 1) := by decide +kernel
theorem d151_51 : decode b151 51 = .ok ((.putfield 143), 3) := by decide +kernel
theorem d151_54 : decode b151 54 = .ok ((.aload_n 0), 1) := by decide +kernel
theorem d151_55 : decode b151 55 = .ok ((.iconst 0), 1) := by decide +kernel
theorem d151_56 : decode b151 56 = .ok ((.putfield 249), 3) := by decide +kernel
theorem d151_59 : decode b151 59 = .ok ((.aload_n 0), 1) := by decide +kernel
theorem d151_60 : decode b151 60 = .ok ((.iconst 0), 1) := by decide +kernel
theorem d151_61 : decode b151 61 = .ok ((.putfield 253), 3) := by decide +kernel
theorem d151_64 : decode b151 64 = .ok ((.aload_n 0), 1) := by decide +kernel
theorem d151_65 : decode b151 65 = .ok ((.iconst (-1)), 1) := by decide +kernel
theorem d151_66 : decode b151 66 = .ok ((.putfield 70), 3) := by decide +kernel
theorem d151_69 : decode b151 69 = .ok ((.aload_n 0), 1) := by decide +kernel
theorem d151_70 : decode b151 70 = .ok ((.iconst 0), 1) := by decide +kernel
theorem d151_71 : decode b151 71 = .ok ((.putfield 259), 3) := by decide +kernel
theorem d151_74 : decode b151 74 = .ok ((.aload_n 0), 1) := by decide +kernel
theorem d151_75 : decode b151 75 = .ok ((.dconst 0), 1) := by decide +kernel
theorem d151_76 : decode b151 76 = .ok ((.putfield 265), 3) := by decide +kernel
theorem d151_79 : decode b151 79 = .ok ((.aload_n 0), 1) := by decide +kernel
theorem d151_80 : decode b151 80 = .ok ((.iconst 0), 1) := by decide +kernel
theorem d151_81 : decode b151 81 = .ok ((.putfield 262), 3) := by decide +kernel
theorem d151_84 : decode b151 84 = .ok ((.iload_n 1), 1) := by decide +kernel
theorem d151_85 : decode b151 85 = .ok ((.bipush 90), 2) := by decide +kernel
theorem d151_87 : decode b151 87 = .ok ((.if_icmp .ge 11), 3) := by decide +kernel
theorem d151_90 : decode b151 90 = .ok ((.aload_n 0), 1) := by decide +kernel
theorem d151_91 : decode b151 91 = .ok ((.iload_n 1), 1) := by decide +kernel
theorem d151_92 : decode b151 92 = .ok ((.invokevirtual 552), 3) := by decide +kernel
theorem d151_95 : decode b151 95 = .ok ((.goto 36), 3) := by decide +kernel
theorem d151_98 : decode b151 98 = .ok ((.iload_n 1), 1) := by decide +kernel
theorem d151_99 : decode b151 99 = .ok ((.bipush 101), 2) := by decide +kernel
theorem d151_101 : decode b151 101 = .ok ((.if_icmp .ge 11), 3) := by decide +kernel
theorem d151_104 : decode b151 104 = .ok ((.aload_n 0), 1) := by decide +kernel
theorem d151_105 : decode b151 105 = .ok ((.iload_n 1), 1) := by decide +kernel
theorem d151_106 : decode b151 106 = .ok ((.invokevirtual 555), 3) := by decide +kernel
theorem d151_109 : decode b151 109 = .ok ((.goto 22), 3) := by decide +kernel
theorem d151_112 : decode b151 112 = .ok ((.iload_n 1), 1) := by decide +kernel
theorem d151_113 : decode b151 113 = .ok ((.bipush 117), 2) := by decide +kernel
theorem d151_115 : decode b151 115 = .ok ((.if_icmp .ge 11), 3) := by decide +kernel
theorem d151_118 : decode b151 118 = .ok ((.aload_n 0), 1) := by decide +kernel
theorem d151_119 : decode b151 119 = .ok ((.iload_n 1), 1) := by decide +kernel
theorem d151_120 : decode b151 120 = .ok ((.invokevirtual 558), 3) := by decide +kernel
theorem d151_123 : decode b151 123 = .ok ((.goto 8), 3) := by decide +kernel
theorem d151_126 : decode b151 126 = .ok ((.aload_n 0), 1) := by decide +kernel
theorem d151_127 : decode b151 127 = .ok ((.iload_n 1), 1) := by decide +kernel
theorem d151_128 : decode b151 128 = .ok ((.invokevirtual 561), 3) := by decide +kernel
theorem d151_131 : decode b151 131 = .ok ((.aload_n 0), 1) := by decide +kernel
theorem d151_132 : decode b151 132 = .ok ((.getfield 143), 3) := by decide +kernel
theorem d151_135 : decode b151 135 = .ok ((.ifCond .eq 22), 3) := by decide +kernel
theorem d151_138 : decode b151 138 = .ok ((.aload_n 0), 1) := by decide +kernel
theorem d151_139 : decode b151 139 = .ok ((.iconst (-1)), 1) := by decide +kernel
theorem d151_140 : decode b151 140 = .ok ((.putfield 70), 3) := by decide +kernel
theorem d151_143 : decode b151 143 = .ok ((.aload_n 0), 1) := by decide +kernel
theorem d151_144 : decode b151 144 = .ok ((.iconst 4), 1) := by decide +kernel
theorem d151_145 : decode b151 145 = .ok ((.putfield 259), 3) := by decide +kernel
theorem d151_148 : decode b151 148 = .ok ((.aload_n 0), 1) := by decide +kernel
theorem d151_149 : decode b151 149 = .ok ((.aload_n 0), 1) := by decide +kernel
theorem d151_150 : decode b151 150 = .ok ((.getfield 143), 3) := by decide +kernel
theorem d151_153 : decode b151 153 = .ok (.i2d, 1) := by decide +kernel
theorem d151_154 : decode b151 154 = .ok ((.putfield 265), 3) := by decide +kernel
theorem d151_157 : decode b151 157 = .ok ((.aload_n 0), 1) := by decide +kernel
theorem d151_158 : decode b151 158 = .ok ((.invokevirtual 564), 3) := by decide +kernel
theorem d151_161 : decode b151 161 = .ok ((.aload_n 0), 1) := by decide +kernel
theorem d151_162 : decode b151 162 = .ok ((.iconst 0), 1) := by decide +kernel
theorem d151_163 : decode b151 163 = .ok ((.putfield 123), 3) := by decide +kernel
theorem d151_166 : decode b151 166 = .ok ((.aload_n 0), 1) := by decide +kernel
theorem d151_167 : decode b151 167 = .ok ((.iconst 0), 1) := by decide +kernel
theorem d151_168 : decode b151 168 = .ok ((.putfield 120), 3) := by decide +kernel
theorem d151_171 : decode b151 171 = .ok ((.aload_n 0), 1) := by decide +kernel
theorem d151_172 : decode b151 172 = .ok ((.aload_n 0), 1) := by decide +kernel
theorem d151_173 : decode b151 173 = .ok ((.getfield 70), 3) := by decide +kernel
theorem d151_176 : decode b151 176 = .ok ((.ifCond .ge 7), 3) := by decide +kernel
theorem d151_179 : decode b151 179 = .ok ((.iconst 0), 1) := by decide +kernel
theorem d151_180 : decode b151 180 = .ok ((.goto 7), 3) := by decide +kernel
theorem d151_183 : decode b151 183 = .ok ((.aload_n 0), 1) := by decide +kernel
theorem d151_184 : decode b151 184 = .ok ((.getfield 140), 3) := by decide +kernel
theorem d151_187 : decode b151 187 = .ok ((.putfield 140), 3) := by decide +kernel
theorem d151_190 : decode b151 190 = .ok ((.aload_n 0), 1) := by decide +kernel
theorem d151_191 : decode b151 191 = .ok ((.getfield 70), 3) := by decide +kernel
theorem d151_194 : decode b151 194 = .ok ((.ifCond .ge 10), 3) := by decide +kernel
theorem d151_197 : decode b151 197 = .ok ((.aload_n 0), 1) := by decide +kernel
theorem d151_198 : decode b151 198 = .ok ((.getfield 259), 3) := by decide +kernel
theorem d151_201 : decode b151 201 = .ok ((.goto 5), 3) := by decide +kernel
theorem d151_204 : decode b151 204 = .ok ((.bipush 64), 2) := by decide +kernel
theorem d151_206 : decode b151 206 = .ok (.ireturn, 1) := by decide +kernel
abbrev b166 : ByteArray := prog_13_method_5_code
theorem d166_0 : decode b166 0 = .ok ((.aload_n 0), 1) := by decide +kernel
theorem d166_1 : decode b166 1 = .ok ((.iconst 0), 1) := by decide +kernel
theorem d166_2 : decode b166 2 = .ok ((.putfield 102), 3) := by decide +kernel
theorem d166_5 : decode b166 5 = .ok ((.iload_n 1), 1) := by decide +kernel
theorem d166_6 : decode b166 6 = .ok ((.ifCond .lt 18), 3) := by decide +kernel
theorem d166_9 : decode b166 9 = .ok ((.iload_n 1), 1) := by decide +kernel
theorem d166_10 : decode b166 10 = .ok ((.aload_n 0), 1) := by decide +kernel
theorem d166_11 : decode b166 11 = .ok ((.getfield 105), 3) := by decide +kernel
theorem d166_14 : decode b166 14 = .ok ((.if_icmp .gt 10), 3) := by decide +kernel
theorem d166_17 : decode b166 17 = .ok ((.iload_n 1), 1) := by decide +kernel
theorem d166_18 : decode b166 18 = .ok ((.sipush 255), 3) := by decide +kernel
theorem d166_21 : decode b166 21 = .ok ((.if_icmp .le 5), 3) := by decide +kernel
theorem d166_24 : decode b166 24 = .ok ((.iconst 0), 1) := by decide +kernel
theorem d166_25 : decode b166 25 = .ok (.ireturn, 1) := by decide +kernel
theorem d166_26 : decode b166 26 = .ok ((.iconst 0), 1) := by decide +kernel
theorem d166_27 : decode b166 27 = .ok ((.istore_n 2), 1) := by decide +kernel
theorem d166_28 : decode b166 28 = .ok ((.iload_n 2), 1) := by decide +kernel
theorem d166_29 : decode b166 29 = .ok ((.iload_n 1), 1) := by decide +kernel
theorem d166_30 : decode b166 30 = .ok ((.if_icmp .ge 21), 3) := by decide +kernel
theorem d166_33 : decode b166 33 = .ok ((.aload_n 0), 1) := by decide +kernel
theorem d166_34 : decode b166 34 = .ok ((.getfield 13), 3) := by decide +kernel
theorem d166_37 : decode b166 37 = .ok ((.iload_n 2), 1) := by decide +kernel
theorem d166_38 : decode b166 38 = .ok ((.aload_n 0), 1) := by decide +kernel
theorem d166_39 : decode b166 39 = .ok ((.getfield 7), 3) := by decide +kernel
theorem d166_42 : decode b166 42 = .ok ((.iload_n 2), 1) := by decide +kernel
theorem d166_43 : decode b166 43 = .ok (.iaload, 1) := by decide +kernel
theorem d166_44 : decode b166 44 = .ok (.iastore, 1) := by decide +kernel
theorem d166_45 : decode b166 45 = .ok ((.iinc 2 1), 3) := by decide +kernel
theorem d166_48 : decode b166 48 = .ok ((.goto (-20)), 3) := by decide +kernel
theorem d166_51 : decode b166 51 = .ok ((.aload_n 0), 1) := by decide +kernel
theorem d166_52 : decode b166 52 = .ok ((.iload_n 1), 1) := by decide +kernel
theorem d166_53 : decode b166 53 = .ok ((.putfield 112), 3) := by decide +kernel
theorem d166_56 : decode b166 56 = .ok ((.aload_n 0), 1) := by decide +kernel
theorem d166_57 : decode b166 57 = .ok ((.iconst 0), 1) := by decide +kernel
theorem d166_58 : decode b166 58 = .ok ((.putfield 105), 3) := by decide +kernel
theorem d166_61 : decode b166 61 = .ok ((.iconst 1), 1) := by decide +kernel
theorem d166_62 : decode b166 62 = .ok (.ireturn, 1) := by decide +kernel
abbrev b168 : ByteArray := prog_13_method_12_code
theorem d168_0 : decode b168 0 = .ok ((.ldc2_w 138), 3) := by decide +kernel
theorem d168_3 : decode b168 3 = .ok ((.dstore_n 2), 1) := by decide +kernel
theorem d168_4 : decode b168 4 = .ok ((.iconst 1), 1) := by decide +kernel
theorem d168_5 : decode b168 5 = .ok ((.istore 4), 2) := by decide +kernel
theorem d168_7 : decode b168 7 = .ok ((.iload 4), 2) := by decide +kernel
theorem d168_9 : decode b168 9 = .ok ((.bipush 9), 2) := by decide +kernel
theorem d168_11 : decode b168 11 = .ok ((.if_icmp .ge 19), 3) := by decide +kernel
theorem d168_14 : decode b168 14 = .ok ((.dload_n 0), 1) := by decide +kernel
theorem d168_15 : decode b168 15 = .ok ((.iload 4), 2) := by decide +kernel
theorem d168_17 : decode b168 17 = .ok (.i2d, 1) := by decide +kernel
theorem d168_18 : decode b168 18 = .ok ((.dcmp .l), 1) := by decide +kernel
theorem d168_19 : decode b168 19 = .ok ((.ifCond .ne 5), 3) := by decide +kernel
theorem d168_22 : decode b168 22 = .ok ((.dload_n 0), 1) := by decide +kernel
theorem d168_23 : decode b168 23 = .ok ((.dstore_n 2), 1) := by decide +kernel
theorem d168_24 : decode b168 24 = .ok ((.iinc 4 1), 3) := by decide +kernel
theorem d168_27 : decode b168 27 = .ok ((.goto (-20)), 3) := by decide +kernel
theorem d168_30 : decode b168 30 = .ok ((.dload_n 2), 1) := by decide +kernel
theorem d168_31 : decode b168 31 = .ok (.dreturn, 1) := by decide +kernel
abbrev b208 : ByteArray := prog_13_method_3_code
theorem d208_0 : decode b208 0 = .ok ((.bipush 24), 2) := by decide +kernel
theorem d208_2 : decode b208 2 = .ok ((.istore_n 2), 1) := by decide +kernel
theorem d208_3 : decode b208 3 = .ok ((.iload_n 2), 1) := by decide +kernel
theorem d208_4 : decode b208 4 = .ok ((.ifCond .lt 35), 3) := by decide +kernel
theorem d208_7 : decode b208 7 = .ok ((.aload_n 0), 1) := by decide +kernel
theorem d208_8 : decode b208 8 = .ok ((.getfield 7), 3) := by decide +kernel
theorem d208_11 : decode b208 11 = .ok ((.aload_n 0), 1) := by decide +kernel
theorem d208_12 : decode b208 12 = .ok ((.getfield 105), 3) := by decide +kernel
theorem d208_15 : decode b208 15 = .ok ((.iload_n 1), 1) := by decide +kernel
theorem d208_16 : decode b208 16 = .ok ((.iload_n 2), 1) := by decide +kernel
theorem d208_17 : decode b208 17 = .ok (.ishr, 1) := by decide +kernel
theorem d208_18 : decode b208 18 = .ok ((.sipush 255), 3) := by decide +kernel
theorem d208_21 : decode b208 21 = .ok (.iand, 1) := by decide +kernel
theorem d208_22 : decode b208 22 = .ok (.iastore, 1) := by decide +kernel
theorem d208_23 : decode b208 23 = .ok ((.aload_n 0), 1) := by decide +kernel
theorem d208_24 : decode b208 24 = .ok (.dup, 1) := by decide +kernel
theorem d208_25 : decode b208 25 = .ok ((.getfield 105), 3) := by decide +kernel
theorem d208_28 : decode b208 28 = .ok ((.iconst 1), 1) := by decide +kernel
theorem d208_29 : decode b208 29 = .ok (.iadd, 1) := by decide +kernel
theorem d208_30 : decode b208 30 = .ok ((.putfield 105), 3) := by decide +kernel
theorem d208_33 : decode b208 33 = .ok ((.iinc 2 (-8)), 3) := by decide +kernel
theorem d208_36 : decode b208 36 = .ok ((.goto (-33)), 3) := by decide +kernel
theorem d208_39 : decode b208 39 = .ok (.return_, 1) := by decide +kernel
abbrev b171 : ByteArray := prog_13_method_4_code
theorem d171_0 : decode b171 0 = .ok ((.aload_n 0), 1) := by decide +kernel
theorem d171_1 : decode b171 1 = .ok ((.iconst 0), 1) := by decide +kernel
theorem d171_2 : decode b171 2 = .ok ((.putfield 102), 3) := by decide +kernel
theorem d171_5 : decode b171 5 = .ok ((.aload_n 0), 1) := by decide +kernel
theorem d171_6 : decode b171 6 = .ok ((.getfield 105), 3) := by decide +kernel
theorem d171_9 : decode b171 9 = .ok ((.sipush 260), 3) := by decide +kernel
theorem d171_12 : decode b171 12 = .ok ((.if_icmp .ne 5), 3) := by decide +kernel
theorem d171_15 : decode b171 15 = .ok ((.iconst 0), 1) := by decide +kernel
theorem d171_16 : decode b171 16 = .ok (.ireturn, 1) := by decide +kernel
theorem d171_17 : decode b171 17 = .ok ((.aload_n 0), 1) := by decide +kernel
theorem d171_18 : decode b171 18 = .ok ((.iload_n 1), 1) := by decide +kernel
theorem d171_19 : decode b171 19 = .ok ((.invokevirtual 108), 3) := by decide +kernel
theorem d171_22 : decode b171 22 = .ok ((.aload_n 0), 1) := by decide +kernel
theorem d171_23 : decode b171 23 = .ok ((.iload_n 2), 1) := by decide +kernel
theorem d171_24 : decode b171 24 = .ok ((.invokevirtual 108), 3) := by decide +kernel
theorem d171_27 : decode b171 27 = .ok ((.aload_n 0), 1) := by decide +kernel
theorem d171_28 : decode b171 28 = .ok ((.iload_n 3), 1) := by decide +kernel
theorem d171_29 : decode b171 29 = .ok ((.invokevirtual 108), 3) := by decide +kernel
theorem d171_32 : decode b171 32 = .ok ((.aload_n 0), 1) := by decide +kernel
theorem d171_33 : decode b171 33 = .ok ((.iload 4), 2) := by decide +kernel
theorem d171_35 : decode b171 35 = .ok ((.invokevirtual 108), 3) := by decide +kernel
theorem d171_38 : decode b171 38 = .ok ((.aload_n 0), 1) := by decide +kernel
theorem d171_39 : decode b171 39 = .ok ((.iload 5), 2) := by decide +kernel
theorem d171_41 : decode b171 41 = .ok ((.invokevirtual 108), 3) := by decide +kernel
theorem d171_44 : decode b171 44 = .ok ((.iconst 1), 1) := by decide +kernel
theorem d171_45 : decode b171 45 = .ok (.ireturn, 1) := by decide +kernel
abbrev b176 : ByteArray := prog_13_method_7_code
theorem d176_0 : decode b176 0 = .ok ((.aload_n 0), 1) := by decide +kernel
theorem d176_1 : decode b176 1 = .ok ((.iconst 0), 1) := by decide +kernel
theorem d176_2 : decode b176 2 = .ok ((.putfield 102), 3) := by decide +kernel
theorem d176_5 : decode b176 5 = .ok ((.iload_n 1), 1) := by decide +kernel
theorem d176_6 : decode b176 6 = .ok ((.iload_n 2), 1) := by decide +kernel
theorem d176_7 : decode b176 7 = .ok ((.invokestatic 116), 3) := by decide +kernel
theorem d176_10 : decode b176 10 = .ok ((.ifCond .ne 5), 3) := by decide +kernel
theorem d176_13 : decode b176 13 = .ok ((.iconst 0), 1) := by decide +kernel
theorem d176_14 : decode b176 14 = .ok (.ireturn, 1) := by decide +kernel
theorem d176_15 : decode b176 15 = .ok ((.aload_n 0), 1) := by decide +kernel
theorem d176_16 : decode b176 16 = .ok ((.iload_n 1), 1) := by decide +kernel
theorem d176_17 : decode b176 17 = .ok ((.putfield 48), 3) := by decide +kernel
theorem d176_20 : decode b176 20 = .ok ((.aload_n 0), 1) := by decide +kernel
theorem d176_21 : decode b176 21 = .ok ((.iload_n 2), 1) := by decide +kernel
theorem d176_22 : decode b176 22 = .ok ((.putfield 52), 3) := by decide +kernel
theorem d176_25 : decode b176 25 = .ok ((.iconst 1), 1) := by decide +kernel
theorem d176_26 : decode b176 26 = .ok (.ireturn, 1) := by decide +kernel
abbrev b189 : ByteArray := prog_13_method_111_code
theorem d189_0 : decode b189 0 = .ok ((.aload_n 0), 1) := by decide +kernel
theorem d189_1 : decode b189 1 = .ok ((.iconst 0), 1) := by decide +kernel
theorem d189_2 : decode b189 2 = .ok ((.putfield 102), 3) := by decide +kernel
theorem d189_5 : decode b189 5 = .ok ((.aload_n 0), 1) := by decide +kernel
theorem d189_6 : decode b189 6 = .ok ((.getfield 259), 3) := by decide +kernel
theorem d189_9 : decode b189 9 = .ok ((.iconst 2), 1) := by decide +kernel
theorem d189_10 : decode b189 10 = .ok ((.if_icmp .ne 24), 3) := by decide +kernel
theorem d189_13 : decode b189 13 = .ok ((.iload_n 1), 1) := by decide +kernel
theorem d189_14 : decode b189 14 = .ok ((.ifCond .lt 20), 3) := by decide +kernel
theorem d189_17 : decode b189 17 = .ok ((.iload_n 1), 1) := by decide +kernel
theorem d189_18 : decode b189 18 = .ok ((.aload_n 0), 1) := by decide +kernel
theorem d189_19 : decode b189 19 = .ok ((.getfield 262), 3) := by decide +kernel
theorem d189_22 : decode b189 22 = .ok ((.if_icmp .ge 12), 3) := by decide +kernel
theorem d189_25 : decode b189 25 = .ok ((.aload_n 0), 1) := by decide +kernel
theorem d189_26 : decode b189 26 = .ok ((.getfield 67), 3) := by decide +kernel
theorem d189_29 : decode b189 29 = .ok ((.iload_n 1), 1) := by decide +kernel
theorem d189_30 : decode b189 30 = .ok (.iaload, 1) := by decide +kernel
theorem d189_31 : decode b189 31 = .ok ((.goto 4), 3) := by decide +kernel
theorem d189_34 : decode b189 34 = .ok ((.iconst (-1)), 1) := by decide +kernel
theorem d189_35 : decode b189 35 = .ok (.ireturn, 1) := by decide +kernel
abbrev b191 : ByteArray := prog_13_method_109_code
theorem d191_0 : decode b191 0 = .ok ((.aload_n 0), 1) := by decide +kernel
theorem d191_1 : decode b191 1 = .ok ((.iconst 0), 1) := by decide +kernel
theorem d191_2 : decode b191 2 = .ok ((.putfield 102), 3) := by decide +kernel
theorem d191_5 : decode b191 5 = .ok ((.iload_n 1), 1) := by decide +kernel
theorem d191_6 : decode b191 6 = .ok ((.ifCond .lt 23), 3) := by decide +kernel
theorem d191_9 : decode b191 9 = .ok ((.iload_n 2), 1) := by decide +kernel
theorem d191_10 : decode b191 10 = .ok ((.ifCond .lt 19), 3) := by decide +kernel
theorem d191_13 : decode b191 13 = .ok ((.iload_n 1), 1) := by decide +kernel
theorem d191_14 : decode b191 14 = .ok ((.aload_n 0), 1) := by decide +kernel
theorem d191_15 : decode b191 15 = .ok ((.getfield 84), 3) := by decide +kernel
theorem d191_18 : decode b191 18 = .ok ((.if_icmp .ge 11), 3) := by decide +kernel
theorem d191_21 : decode b191 21 = .ok ((.iload_n 2), 1) := by decide +kernel
theorem d191_22 : decode b191 22 = .ok ((.aload_n 0), 1) := by decide +kernel
theorem d191_23 : decode b191 23 = .ok ((.getfield 87), 3) := by decide +kernel
theorem d191_26 : decode b191 26 = .ok ((.if_icmp .lt 5), 3) := by decide +kernel
theorem d191_29 : decode b191 29 = .ok ((.iconst (-1)), 1) := by decide +kernel
theorem d191_30 : decode b191 30 = .ok (.ireturn, 1) := by decide +kernel
theorem d191_31 : decode b191 31 = .ok ((.aload_n 0), 1) := by decide +kernel
theorem d191_32 : decode b191 32 = .ok ((.getfield 70), 3) := by decide +kernel
theorem d191_35 : decode b191 35 = .ok ((.ifCond .lt 15), 3) := by decide +kernel
theorem d191_38 : decode b191 38 = .ok ((.aload_n 0), 1) := by decide +kernel
theorem d191_39 : decode b191 39 = .ok ((.iload_n 1), 1) := by decide +kernel
theorem d191_40 : decode b191 40 = .ok ((.aload_n 0), 1) := by decide +kernel
theorem d191_41 : decode b191 41 = .ok ((.getfield 87), 3) := by decide +kernel
theorem d191_44 : decode b191 44 = .ok (.imul, 1) := by decide +kernel
theorem d191_45 : decode b191 45 = .ok ((.iload_n 2), 1) := by decide +kernel
theorem d191_46 : decode b191 46 = .ok (.iadd, 1) := by decide +kernel
theorem d191_47 : decode b191 47 = .ok ((.invokevirtual 567), 3) := by decide +kernel
theorem d191_50 : decode b191 50 = .ok ((.aload_n 0), 1) := by decide +kernel
theorem d191_51 : decode b191 51 = .ok ((.getfield 259), 3) := by decide +kernel
theorem d191_54 : decode b191 54 = .ok (.ireturn, 1) := by decide +kernel
abbrev b206 : ByteArray := prog_13_method_10_code
theorem d206_0 : decode b206 0 = .ok ((.aload_n 0), 1) := by decide +kernel
theorem d206_1 : decode b206 1 = .ok ((.getfield 123), 3) := by decide +kernel
theorem d206_4 : decode b206 4 = .ok ((.ifCond .eq 34), 3) := by decide +kernel
theorem d206_7 : decode b206 7 = .ok ((.iload_n 1), 1) := by decide +kernel
theorem d206_8 : decode b206 8 = .ok ((.ifCond .lt 30), 3) := by decide +kernel
theorem d206_11 : decode b206 11 = .ok ((.iload_n 1), 1) := by decide +kernel
theorem d206_12 : decode b206 12 = .ok ((.aload_n 0), 1) := by decide +kernel
theorem d206_13 : decode b206 13 = .ok ((.getfield 20), 3) := by decide +kernel
theorem d206_16 : decode b206 16 = .ok ((.aload_n 0), 1) := by decide +kernel
theorem d206_17 : decode b206 17 = .ok ((.getfield 123), 3) := by decide +kernel
theorem d206_20 : decode b206 20 = .ok ((.iconst 1), 1) := by decide +kernel
theorem d206_21 : decode b206 21 = .ok (.isub, 1) := by decide +kernel
theorem d206_22 : decode b206 22 = .ok (.iaload, 1) := by decide +kernel
theorem d206_23 : decode b206 23 = .ok ((.aload_n 0), 1) := by decide +kernel
theorem d206_24 : decode b206 24 = .ok ((.getfield 23), 3) := by decide +kernel
theorem d206_27 : decode b206 27 = .ok ((.aload_n 0), 1) := by decide +kernel
theorem d206_28 : decode b206 28 = .ok ((.getfield 123), 3) := by decide +kernel
theorem d206_31 : decode b206 31 = .ok ((.iconst 1), 1) := by decide +kernel
theorem d206_32 : decode b206 32 = .ok (.isub, 1) := by decide +kernel
theorem d206_33 : decode b206 33 = .ok (.iaload, 1) := by decide +kernel
theorem d206_34 : decode b206 34 = .ok (.imul, 1) := by decide +kernel
theorem d206_35 : decode b206 35 = .ok ((.if_icmp .lt 7), 3) := by decide +kernel
theorem d206_38 : decode b206 38 = .ok ((.iconst (-1)), 1) := by decide +kernel
theorem d206_39 : decode b206 39 = .ok ((.goto 16), 3) := by decide +kernel
theorem d206_42 : decode b206 42 = .ok ((.aload_n 0), 1) := by decide +kernel
theorem d206_43 : decode b206 43 = .ok ((.getfield 26), 3) := by decide +kernel
theorem d206_46 : decode b206 46 = .ok ((.aload_n 0), 1) := by decide +kernel
theorem d206_47 : decode b206 47 = .ok ((.getfield 123), 3) := by decide +kernel
theorem d206_50 : decode b206 50 = .ok ((.iconst 1), 1) := by decide +kernel
theorem d206_51 : decode b206 51 = .ok (.isub, 1) := by decide +kernel
theorem d206_52 : decode b206 52 = .ok (.iaload, 1) := by decide +kernel
theorem d206_53 : decode b206 53 = .ok ((.iload_n 1), 1) := by decide +kernel
theorem d206_54 : decode b206 54 = .ok (.iadd, 1) := by decide +kernel
theorem d206_55 : decode b206 55 = .ok (.ireturn, 1) := by decide +kernel
abbrev b207 : ByteArray := prog_13_method_11_code
theorem d207_0 : decode b207 0 = .ok ((.aload_n 0), 1) := by decide +kernel
theorem d207_1 : decode b207 1 = .ok ((.iconst 0), 1) := by decide +kernel
theorem d207_2 : decode b207 2 = .ok ((.putfield 102), 3) := by decide +kernel
theorem d207_5 : decode b207 5 = .ok ((.aload_n 0), 1) := by decide +kernel
theorem d207_6 : decode b207 6 = .ok ((.iload_n 1), 1) := by decide +kernel
theorem d207_7 : decode b207 7 = .ok ((.invokevirtual 126), 3) := by decide +kernel
theorem d207_10 : decode b207 10 = .ok ((.istore 5), 2) := by decide +kernel
theorem d207_12 : decode b207 12 = .ok ((.iload_n 2), 1) := by decide +kernel
theorem d207_13 : decode b207 13 = .ok ((.ifCond .eq 34), 3) := by decide +kernel
theorem d207_16 : decode b207 16 = .ok ((.iload_n 2), 1) := by decide +kernel
theorem d207_17 : decode b207 17 = .ok ((.iconst 3), 1) := by decide +kernel
theorem d207_18 : decode b207 18 = .ok ((.if_icmp .eq 29), 3) := by decide +kernel
theorem d207_21 : decode b207 21 = .ok ((.iload_n 2), 1) := by decide +kernel
theorem d207_22 : decode b207 22 = .ok ((.iconst 4), 1) := by decide +kernel
theorem d207_23 : decode b207 23 = .ok ((.if_icmp .eq 24), 3) := by decide +kernel
theorem d207_26 : decode b207 26 = .ok ((.iload_n 2), 1) := by decide +kernel
theorem d207_27 : decode b207 27 = .ok ((.iconst 1), 1) := by decide +kernel
theorem d207_28 : decode b207 28 = .ok ((.if_icmp .ne 23), 3) := by decide +kernel
theorem d207_31 : decode b207 31 = .ok ((.dload_n 3), 1) := by decide +kernel
theorem d207_32 : decode b207 32 = .ok ((.ldc2_w 130), 3) := by decide +kernel
theorem d207_35 : decode b207 35 = .ok ((.dcmp .g), 1) := by decide +kernel
theorem d207_36 : decode b207 36 = .ok ((.ifCond .ge 15), 3) := by decide +kernel
theorem d207_39 : decode b207 39 = .ok ((.dload_n 3), 1) := by decide +kernel
theorem d207_40 : decode b207 40 = .ok ((.ldc2_w 132), 3) := by decide +kernel
theorem d207_43 : decode b207 43 = .ok ((.dcmp .l), 1) := by decide +kernel
theorem d207_44 : decode b207 44 = .ok ((.ifCond .le 7), 3) := by decide +kernel
theorem d207_47 : decode b207 47 = .ok ((.iconst 1), 1) := by decide +kernel
theorem d207_48 : decode b207 48 = .ok ((.goto 4), 3) := by decide +kernel
theorem d207_51 : decode b207 51 = .ok ((.iconst 0), 1) := by decide +kernel
theorem d207_52 : decode b207 52 = .ok ((.istore 6), 2) := by decide +kernel
theorem d207_54 : decode b207 54 = .ok ((.iload 5), 2) := by decide +kernel
theorem d207_56 : decode b207 56 = .ok ((.ifCond .lt 8), 3) := by decide +kernel
theorem d207_59 : decode b207 59 = .ok ((.iload 6), 2) := by decide +kernel
theorem d207_61 : decode b207 61 = .ok ((.ifCond .ne 5), 3) := by decide +kernel
theorem d207_64 : decode b207 64 = .ok ((.iconst 0), 1) := by decide +kernel
theorem d207_65 : decode b207 65 = .ok (.ireturn, 1) := by decide +kernel
theorem d207_66 : decode b207 66 = .ok ((.aload_n 0), 1) := by decide +kernel
theorem d207_67 : decode b207 67 = .ok ((.getfield 35), 3) := by decide +kernel
theorem d207_70 : decode b207 70 = .ok ((.iload 5), 2) := by decide +kernel
theorem d207_72 : decode b207 72 = .ok ((.iload_n 2), 1) := by decide +kernel
theorem d207_73 : decode b207 73 = .ok (.iastore, 1) := by decide +kernel
theorem d207_74 : decode b207 74 = .ok ((.aload_n 0), 1) := by decide +kernel
theorem d207_75 : decode b207 75 = .ok ((.getfield 44), 3) := by decide +kernel
theorem d207_78 : decode b207 78 = .ok ((.iload 5), 2) := by decide +kernel
theorem d207_80 : decode b207 80 = .ok ((.iload_n 2), 1) := by decide +kernel
theorem d207_81 : decode b207 81 = .ok ((.iconst 1), 1) := by decide +kernel
theorem d207_82 : decode b207 82 = .ok ((.if_icmp .ne 17), 3) := by decide +kernel
theorem d207_85 : decode b207 85 = .ok ((.dload_n 3), 1) := by decide +kernel
theorem d207_86 : decode b207 86 = .ok ((.dconst 0), 1) := by decide +kernel
theorem d207_87 : decode b207 87 = .ok ((.dcmp .l), 1) := by decide +kernel
theorem d207_88 : decode b207 88 = .ok ((.ifCond .ne 7), 3) := by decide +kernel
theorem d207_91 : decode b207 91 = .ok ((.dconst 0), 1) := by decide +kernel
theorem d207_92 : decode b207 92 = .ok ((.goto 39), 3) := by decide +kernel
theorem d207_95 : decode b207 95 = .ok ((.dload_n 3), 1) := by decide +kernel
theorem d207_96 : decode b207 96 = .ok ((.goto 35), 3) := by decide +kernel
theorem d207_99 : decode b207 99 = .ok ((.iload_n 2), 1) := by decide +kernel
theorem d207_100 : decode b207 100 = .ok ((.iconst 3), 1) := by decide +kernel
theorem d207_101 : decode b207 101 = .ok ((.if_icmp .ne 17), 3) := by decide +kernel
theorem d207_104 : decode b207 104 = .ok ((.dload_n 3), 1) := by decide +kernel
theorem d207_105 : decode b207 105 = .ok ((.dconst 0), 1) := by decide +kernel
theorem d207_106 : decode b207 106 = .ok ((.dcmp .l), 1) := by decide +kernel
theorem d207_107 : decode b207 107 = .ok ((.ifCond .ne 7), 3) := by decide +kernel
theorem d207_110 : decode b207 110 = .ok ((.dconst 0), 1) := by decide +kernel
theorem d207_111 : decode b207 111 = .ok ((.goto 20), 3) := by decide +kernel
theorem d207_114 : decode b207 114 = .ok ((.dconst 1), 1) := by decide +kernel
theorem d207_115 : decode b207 115 = .ok ((.goto 16), 3) := by decide +kernel
theorem d207_118 : decode b207 118 = .ok ((.iload_n 2), 1) := by decide +kernel
theorem d207_119 : decode b207 119 = .ok ((.iconst 4), 1) := by decide +kernel
theorem d207_120 : decode b207 120 = .ok ((.if_icmp .ne 10), 3) := by decide +kernel
theorem d207_123 : decode b207 123 = .ok ((.dload_n 3), 1) := by decide +kernel
theorem d207_124 : decode b207 124 = .ok ((.invokestatic 134), 3) := by decide +kernel
theorem d207_127 : decode b207 127 = .ok ((.goto 4), 3) := by decide +kernel
theorem d207_130 : decode b207 130 = .ok ((.dconst 0), 1) := by decide +kernel
theorem d207_131 : decode b207 131 = .ok (.dastore, 1) := by decide +kernel
theorem d207_132 : decode b207 132 = .ok ((.iconst 1), 1) := by decide +kernel
theorem d207_133 : decode b207 133 = .ok (.ireturn, 1) := by decide +kernel
abbrev b209 : ByteArray := prog_13_method_13_code
theorem d209_0 : decode b209 0 = .ok ((.aload_n 0), 1) := by decide +kernel
theorem d209_1 : decode b209 1 = .ok ((.iconst 0), 1) := by decide +kernel
theorem d209_2 : decode b209 2 = .ok ((.putfield 102), 3) := by decide +kernel
theorem d209_5 : decode b209 5 = .ok ((.aload_n 0), 1) := by decide +kernel
theorem d209_6 : decode b209 6 = .ok ((.iload_n 1), 1) := by decide +kernel
theorem d209_7 : decode b209 7 = .ok ((.invokevirtual 126), 3) := by decide +kernel
theorem d209_10 : decode b209 10 = .ok ((.istore_n 2), 1) := by decide +kernel
theorem d209_11 : decode b209 11 = .ok ((.iload_n 2), 1) := by decide +kernel
theorem d209_12 : decode b209 12 = .ok ((.ifCond .ge 5), 3) := by decide +kernel
theorem d209_15 : decode b209 15 = .ok ((.iconst 0), 1) := by decide +kernel
theorem d209_16 : decode b209 16 = .ok (.ireturn, 1) := by decide +kernel
theorem d209_17 : decode b209 17 = .ok ((.aload_n 0), 1) := by decide +kernel
theorem d209_18 : decode b209 18 = .ok ((.getfield 35), 3) := by decide +kernel
theorem d209_21 : decode b209 21 = .ok ((.iload_n 2), 1) := by decide +kernel
theorem d209_22 : decode b209 22 = .ok ((.iconst 2), 1) := by decide +kernel
theorem d209_23 : decode b209 23 = .ok (.iastore, 1) := by decide +kernel
theorem d209_24 : decode b209 24 = .ok ((.aload_n 0), 1) := by decide +kernel
theorem d209_25 : decode b209 25 = .ok ((.getfield 44), 3) := by decide +kernel
theorem d209_28 : decode b209 28 = .ok ((.iload_n 2), 1) := by decide +kernel
theorem d209_29 : decode b209 29 = .ok ((.dconst 0), 1) := by decide +kernel
theorem d209_30 : decode b209 30 = .ok (.dastore, 1) := by decide +kernel
theorem d209_31 : decode b209 31 = .ok ((.aload_n 0), 1) := by decide +kernel
theorem d209_32 : decode b209 32 = .ok ((.getfield 38), 3) := by decide +kernel
theorem d209_35 : decode b209 35 = .ok ((.iload_n 2), 1) := by decide +kernel
theorem d209_36 : decode b209 36 = .ok ((.aload_n 0), 1) := by decide +kernel
theorem d209_37 : decode b209 37 = .ok ((.getfield 140), 3) := by decide +kernel
theorem d209_40 : decode b209 40 = .ok (.iastore, 1) := by decide +kernel
theorem d209_41 : decode b209 41 = .ok ((.aload_n 0), 1) := by decide +kernel
theorem d209_42 : decode b209 42 = .ok ((.getfield 41), 3) := by decide +kernel
theorem d209_45 : decode b209 45 = .ok ((.iload_n 2), 1) := by decide +kernel
theorem d209_46 : decode b209 46 = .ok ((.aload_n 0), 1) := by decide +kernel
theorem d209_47 : decode b209 47 = .ok ((.getfield 112), 3) := by decide +kernel
theorem d209_50 : decode b209 50 = .ok (.iastore, 1) := by decide +kernel
theorem d209_51 : decode b209 51 = .ok ((.iconst 0), 1) := by decide +kernel
theorem d209_52 : decode b209 52 = .ok ((.istore_n 3), 1) := by decide +kernel
theorem d209_53 : decode b209 53 = .ok ((.iload_n 3), 1) := by decide +kernel
theorem d209_54 : decode b209 54 = .ok ((.aload_n 0), 1) := by decide +kernel
theorem d209_55 : decode b209 55 = .ok ((.getfield 112), 3) := by decide +kernel
theorem d209_58 : decode b209 58 = .ok ((.if_icmp .ge 26), 3) := by decide +kernel
theorem d209_61 : decode b209 61 = .ok ((.aload_n 0), 1) := by decide +kernel
theorem d209_62 : decode b209 62 = .ok ((.getfield 17), 3) := by decide +kernel
theorem d209_65 : decode b209 65 = .ok ((.aload_n 0), 1) := by decide +kernel
theorem d209_66 : decode b209 66 = .ok ((.getfield 140), 3) := by decide +kernel
theorem d209_69 : decode b209 69 = .ok ((.iload_n 3), 1) := by decide +kernel
theorem d209_70 : decode b209 70 = .ok (.iadd, 1) := by decide +kernel
theorem d209_71 : decode b209 71 = .ok ((.aload_n 0), 1) := by decide +kernel
theorem d209_72 : decode b209 72 = .ok ((.getfield 13), 3) := by decide +kernel
theorem d209_75 : decode b209 75 = .ok ((.iload_n 3), 1) := by decide +kernel
theorem d209_76 : decode b209 76 = .ok (.iaload, 1) := by decide +kernel
theorem d209_77 : decode b209 77 = .ok (.iastore, 1) := by decide +kernel
theorem d209_78 : decode b209 78 = .ok ((.iinc 3 1), 3) := by decide +kernel
theorem d209_81 : decode b209 81 = .ok ((.goto (-28)), 3) := by decide +kernel
theorem d209_84 : decode b209 84 = .ok ((.aload_n 0), 1) := by decide +kernel
theorem d209_85 : decode b209 85 = .ok (.dup, 1) := by decide +kernel
theorem d209_86 : decode b209 86 = .ok ((.getfield 140), 3) := by decide +kernel
theorem d209_89 : decode b209 89 = .ok ((.aload_n 0), 1) := by decide +kernel
theorem d209_90 : decode b209 90 = .ok ((.getfield 112), 3) := by decide +kernel
theorem d209_93 : decode b209 93 = .ok (.iadd, 1) := by decide +kernel
theorem d209_94 : decode b209 94 = .ok ((.putfield 140), 3) := by decide +kernel
theorem d209_97 : decode b209 97 = .ok ((.iconst 1), 1) := by decide +kernel
theorem d209_98 : decode b209 98 = .ok (.ireturn, 1) := by decide +kernel
abbrev b210 : ByteArray := prog_13_method_9_code
theorem d210_0 : decode b210 0 = .ok ((.aload_n 0), 1) := by decide +kernel
theorem d210_1 : decode b210 1 = .ok ((.iconst 0), 1) := by decide +kernel
theorem d210_2 : decode b210 2 = .ok ((.putfield 102), 3) := by decide +kernel
theorem d210_5 : decode b210 5 = .ok ((.aload_n 0), 1) := by decide +kernel
theorem d210_6 : decode b210 6 = .ok ((.getfield 123), 3) := by decide +kernel
theorem d210_9 : decode b210 9 = .ok ((.iconst 1), 1) := by decide +kernel
theorem d210_10 : decode b210 10 = .ok (.isub, 1) := by decide +kernel
theorem d210_11 : decode b210 11 = .ok ((.istore_n 3), 1) := by decide +kernel
theorem d210_12 : decode b210 12 = .ok ((.iload_n 3), 1) := by decide +kernel
theorem d210_13 : decode b210 13 = .ok ((.ifCond .lt 46), 3) := by decide +kernel
theorem d210_16 : decode b210 16 = .ok ((.aload_n 0), 1) := by decide +kernel
theorem d210_17 : decode b210 17 = .ok ((.getfield 20), 3) := by decide +kernel
theorem d210_20 : decode b210 20 = .ok ((.iload_n 3), 1) := by decide +kernel
theorem d210_21 : decode b210 21 = .ok (.iaload, 1) := by decide +kernel
theorem d210_22 : decode b210 22 = .ok ((.ifCond .eq 37), 3) := by decide +kernel
theorem d210_25 : decode b210 25 = .ok ((.iload_n 1), 1) := by decide +kernel
theorem d210_26 : decode b210 26 = .ok ((.iload_n 2), 1) := by decide +kernel
theorem d210_27 : decode b210 27 = .ok ((.invokestatic 116), 3) := by decide +kernel
theorem d210_30 : decode b210 30 = .ok ((.ifCond .eq 29), 3) := by decide +kernel
theorem d210_33 : decode b210 33 = .ok ((.iload_n 1), 1) := by decide +kernel
theorem d210_34 : decode b210 34 = .ok ((.aload_n 0), 1) := by decide +kernel
theorem d210_35 : decode b210 35 = .ok ((.getfield 20), 3) := by decide +kernel
theorem d210_38 : decode b210 38 = .ok ((.iload_n 3), 1) := by decide +kernel
theorem d210_39 : decode b210 39 = .ok (.iaload, 1) := by decide +kernel
theorem d210_40 : decode b210 40 = .ok (.iadd, 1) := by decide +kernel
theorem d210_41 : decode b210 41 = .ok ((.iconst 1), 1) := by decide +kernel
theorem d210_42 : decode b210 42 = .ok (.isub, 1) := by decide +kernel
theorem d210_43 : decode b210 43 = .ok ((.iload_n 2), 1) := by decide +kernel
theorem d210_44 : decode b210 44 = .ok ((.aload_n 0), 1) := by decide +kernel
theorem d210_45 : decode b210 45 = .ok ((.getfield 23), 3) := by decide +kernel
theorem d210_48 : decode b210 48 = .ok ((.iload_n 3), 1) := by decide +kernel
theorem d210_49 : decode b210 49 = .ok (.iaload, 1) := by decide +kernel
theorem d210_50 : decode b210 50 = .ok (.iadd, 1) := by decide +kernel
theorem d210_51 : decode b210 51 = .ok ((.iconst 1), 1) := by decide +kernel
theorem d210_52 : decode b210 52 = .ok (.isub, 1) := by decide +kernel
theorem d210_53 : decode b210 53 = .ok ((.invokestatic 116), 3) := by decide +kernel
theorem d210_56 : decode b210 56 = .ok ((.ifCond .ne 5), 3) := by decide +kernel
theorem d210_59 : decode b210 59 = .ok ((.iconst 0), 1) := by decide +kernel
theorem d210_60 : decode b210 60 = .ok (.ireturn, 1) := by decide +kernel
theorem d210_61 : decode b210 61 = .ok ((.aload_n 0), 1) := by decide +kernel
theorem d210_62 : decode b210 62 = .ok ((.getfield 29), 3) := by decide +kernel
theorem d210_65 : decode b210 65 = .ok ((.iload_n 3), 1) := by decide +kernel
theorem d210_66 : decode b210 66 = .ok ((.iload_n 1), 1) := by decide +kernel
theorem d210_67 : decode b210 67 = .ok (.iastore, 1) := by decide +kernel
theorem d210_68 : decode b210 68 = .ok ((.aload_n 0), 1) := by decide +kernel
theorem d210_69 : decode b210 69 = .ok ((.getfield 32), 3) := by decide +kernel
theorem d210_72 : decode b210 72 = .ok ((.iload_n 3), 1) := by decide +kernel
theorem d210_73 : decode b210 73 = .ok ((.iload_n 2), 1) := by decide +kernel
theorem d210_74 : decode b210 74 = .ok (.iastore, 1) := by decide +kernel
theorem d210_75 : decode b210 75 = .ok ((.iconst 1), 1) := by decide +kernel
theorem d210_76 : decode b210 76 = .ok (.ireturn, 1) := by decide +kernel
abbrev b217 : ByteArray := prog_13_method_108_code
theorem d217_0 : decode b217 0 = .ok ((.aload_n 0), 1) := by decide +kernel
theorem d217_1 : decode b217 1 = .ok ((.iconst 0), 1) := by decide +kernel
theorem d217_2 : decode b217 2 = .ok ((.putfield 102), 3) := by decide +kernel
theorem d217_5 : decode b217 5 = .ok ((.iload_n 1), 1) := by decide +kernel
theorem d217_6 : decode b217 6 = .ok ((.ifCond .eq 10), 3) := by decide +kernel
theorem d217_9 : decode b217 9 = .ok ((.aload_n 0), 1) := by decide +kernel
theorem d217_10 : decode b217 10 = .ok ((.getfield 87), 3) := by decide +kernel
theorem d217_13 : decode b217 13 = .ok ((.goto 7), 3) := by decide +kernel
theorem d217_16 : decode b217 16 = .ok ((.aload_n 0), 1) := by decide +kernel
theorem d217_17 : decode b217 17 = .ok ((.getfield 84), 3) := by decide +kernel
theorem d217_20 : decode b217 20 = .ok (.ireturn, 1) := by decide +kernel
abbrev b228 : ByteArray := prog_13_method_2_code
theorem d228_0 : decode b228 0 = .ok ((.aload_n 0), 1) := by decide +kernel
theorem d228_1 : decode b228 1 = .ok ((.getfield 102), 3) := by decide +kernel
theorem d228_4 : decode b228 4 = .ok (.ireturn, 1) := by decide +kernel
abbrev b236 : ByteArray := prog_13_method_110_code
theorem d236_0 : decode b236 0 = .ok ((.aload_n 0), 1) := by decide +kernel
theorem d236_1 : decode b236 1 = .ok ((.iconst 0), 1) := by decide +kernel
theorem d236_2 : decode b236 2 = .ok ((.putfield 102), 3) := by decide +kernel
theorem d236_5 : decode b236 5 = .ok ((.aload_n 0), 1) := by decide +kernel
theorem d236_6 : decode b236 6 = .ok ((.getfield 259), 3) := by decide +kernel
theorem d236_9 : decode b236 9 = .ok ((.iconst 2), 1) := by decide +kernel
theorem d236_10 : decode b236 10 = .ok ((.if_icmp .ne 11), 3) := by decide +kernel
theorem d236_13 : decode b236 13 = .ok ((.aload_n 0), 1) := by decide +kernel
theorem d236_14 : decode b236 14 = .ok ((.getfield 262), 3) := by decide +kernel
theorem d236_17 : decode b236 17 = .ok (.i2d, 1) := by decide +kernel
theorem d236_18 : decode b236 18 = .ok ((.goto 18), 3) := by decide +kernel
theorem d236_21 : decode b236 21 = .ok ((.aload_n 0), 1) := by decide +kernel
theorem d236_22 : decode b236 22 = .ok ((.getfield 259), 3) := by decide +kernel
theorem d236_25 : decode b236 25 = .ok ((.ifCond .ne 7), 3) := by decide +kernel
theorem d236_28 : decode b236 28 = .ok ((.dconst 0), 1) := by decide +kernel
theorem d236_29 : decode b236 29 = .ok ((.goto 7), 3) := by decide +kernel
theorem d236_32 : decode b236 32 = .ok ((.aload_n 0), 1) := by decide +kernel
theorem d236_33 : decode b236 33 = .ok ((.getfield 265), 3) := by decide +kernel
theorem d236_36 : decode b236 36 = .ok (.dreturn, 1) := by decide +kernel
def mo_weekNumber_101 (K65 : GS → Int32 → Int32 → Int32 → Int32 → Option (GS)) (st : GS) (x1 : Int32) (x2 : Int32) (x5 : Int32) (z0 : Int32) (z1 : Int32) : Option (GS) := jn (z0 + z1) (fun v1 => jn (x5 + 1) (fun v2 => K65 st x1 x2 v1 v2))
def mo_weekNumber_89 (K65 : GS → Int32 → Int32 → Int32 → Int32 → Option (GS)) (st : GS) (x1 : Int32) (x2 : Int32) (x5 : Int32) (z0 : Int32) (z1 : Int32) (z2 : Int32) : Option (GS) := jb (((z1 + z2) - (z1 + z2) / 7 * 7) = 0) (mo_weekNumber_101 K65  st x1 x2 x5 z0 1) (mo_weekNumber_101 K65  st x1 x2 x5 z0 0)
def mo_weekNumber_65  : Nat → GS → Int32 → Int32 → Int32 → Int32 → Option (GS)
  | 0, _, _, _, _, _ => none
  | fu + 1, st, x1, x2, x3, x5 => jb (x1 < x5) (jc (f_mo_answerNumber st (FP.i2d x3)) (fun q3 => some q3)) (jb (x2 = 1) (mo_weekNumber_89 (mo_weekNumber_65 fu)  st x1 x2 x5 x3 (x5 + 7000) 6) (mo_weekNumber_89 (mo_weekNumber_65 fu)  st x1 x2 x5 x3 (x5 + 7000) 5))
def mo_weekNumber_29  (st : GS) (x1 : Int32) (x2 : Int32) : Option (GS) := jb ((st.1 0 22) = 0) (jc (f_mo_dateOf st x1) (fun q4 => jc (f_mo_monthFirst ((12 : Int64) * (q4.1 0 42).toInt64)) (fun q5 => jn (q5.toInt32 + 1) (fun v6 => mo_weekNumber_65 FU q4 x1 x2 1 v6)))) (some st)
def f_mo_weekNumber (st : GS) : Option (GS) := jc (f_mo_dayOf st 0) (fun q7 => jc (f_mo_whole2 q7.2 1 1) (fun q8 => jb (q8.1 = 1) (mo_weekNumber_29  q8.2 q7.1 q8.1) (jb (q8.1 = 2) (mo_weekNumber_29  q8.2 q7.1 q8.1) (jc (f_mo_fail q8.2 6) (fun q9 => mo_weekNumber_29  q9 q7.1 q8.1)))))
set_option maxHeartbeats 4000000 in
set_option maxRecDepth 100000 in
theorem c_mo_weekNumber (l : Launch) (ρ : RH) (ad : Nat → Nat) (H : Heap) (st : GS) (res : GS) (hW : GW ρ wM ad st H) (h : f_mo_weekNumber st = some res) : Met l y239 (wsOf y239 b239 6 none) ({ frames := 6, cells := 0, slots := 0, locals := 132 } : Room) (va_Pc [.ref (ad 0)] (KP ρ H)) (mQ (fun v H1 => v = none ∧ GW ρ wM ad res H1) (MA wM ad H.size)) 0 0 (MA wM ad H.size) := by
  refine m_ofW (own := "WordFunctionsModel") (plainFor_of_name rfl) rfl (Nat.le_of_ble_eq_true rfl) fun p e s m args below meth c ls hx hb hr hlk _ X hs hl => ?_
  subst hs
  have hS : va_S (MA wM ad s.heap.size) s.heap s.heap [] := va_S.rf
  have hl : lv_has ls 6 [(0, .ref (ad 0))] := hl
  have kc101 : ∀ (K65 : GS → Int32 → Int32 → Int32 → Int32 → Option (GS)) (hK65 : ∀ (st : GS) (x1 : Int32) (x2 : Int32) (x3 : Int32) (x5 : Int32) (H : Heap) (locs : List Loc) (ls : Array Slot), GW ρ wM ad st H → va_S (MA wM ad s.heap.size) s.heap H locs → lv_has ls 6 [(0, .ref (ad 0)), (1, .int x1), (2, .int x2), (3, .int x3), (5, .int x5)] → K65 st x1 x2 x3 x5 = some res → W p l e ({ frames := 6, cells := 0, slots := 0, locals := 132 } : Room) s m args below meth c H locs 0 0 (MQ below (mQ (fun v H1 => v = none ∧ GW ρ wM ad res H1) (MA wM ad s.heap.size)) args s 0 0 (MA wM ad s.heap.size)) (F0 m 65 ls [])), ∀ (st : GS) (x1 : Int32) (x2 : Int32) (x5 : Int32) (z0 : Int32) (z1 : Int32) (H : Heap) (locs : List Loc) (ls : Array Slot), GW ρ wM ad st H → va_S (MA wM ad s.heap.size) s.heap H locs → lv_has ls 6 [(0, .ref (ad 0)), (1, .int x1), (2, .int x2), (5, .int x5)] → mo_weekNumber_101 K65 st x1 x2 x5 z0 z1 = some res → W p l e ({ frames := 6, cells := 0, slots := 0, locals := 132 } : Room) s m args below meth c H locs 0 0 (MQ below (mQ (fun v H1 => v = none ∧ GW ρ wM ad res H1) (MA wM ad s.heap.size)) args s 0 0 (MA wM ad s.heap.size)) (F0 m 101 ls [.int z1, .int z0]) := by
    intro K65 hK65
    intro st x1 x2 x5 z0 z1 H locs ls hW hS hl h
    unfold mo_weekNumber_101 at h
    refine lv_iadd (pc := 101) hx hb d239_101 ?_
    obtain ⟨v1, ev1, h⟩ := jn_ex h
    refine nm_i ev1 ?_
    refine lv_istore_n (pc := 102) (lv' := [(3, .int v1), (0, .ref (ad 0)), (1, .int x1), (2, .int x2), (5, .int x5)]) hx hb d239_102 rfl hl (by decide) rfl (fun ls hl => ?_)
    obtain ⟨v2, ev2, h⟩ := jn_ex h
    refine lv_iinc (pc := 103) (v := v2) (lv' := [(5, .int v2), (3, .int v1), (0, .ref (ad 0)), (1, .int x1), (2, .int x2)]) hx hb d239_103 hl (k := 4) rfl (by rw [ev2]; rfl) (by decide) rfl (fun ls hl => ?_)
    refine lv_goto (pc := 106) (tgt := 65) hx hb d239_106 (by decide) ?_
    exact hK65 st x1 x2 v1 v2 _ _ _ hW hS (lv_sub hl [2, 3, 4, 1, 0] rfl) h
  have kc89 : ∀ (K65 : GS → Int32 → Int32 → Int32 → Int32 → Option (GS)) (hK65 : ∀ (st : GS) (x1 : Int32) (x2 : Int32) (x3 : Int32) (x5 : Int32) (H : Heap) (locs : List Loc) (ls : Array Slot), GW ρ wM ad st H → va_S (MA wM ad s.heap.size) s.heap H locs → lv_has ls 6 [(0, .ref (ad 0)), (1, .int x1), (2, .int x2), (3, .int x3), (5, .int x5)] → K65 st x1 x2 x3 x5 = some res → W p l e ({ frames := 6, cells := 0, slots := 0, locals := 132 } : Room) s m args below meth c H locs 0 0 (MQ below (mQ (fun v H1 => v = none ∧ GW ρ wM ad res H1) (MA wM ad s.heap.size)) args s 0 0 (MA wM ad s.heap.size)) (F0 m 65 ls [])), ∀ (st : GS) (x1 : Int32) (x2 : Int32) (x5 : Int32) (z0 : Int32) (z1 : Int32) (z2 : Int32) (H : Heap) (locs : List Loc) (ls : Array Slot), GW ρ wM ad st H → va_S (MA wM ad s.heap.size) s.heap H locs → lv_has ls 6 [(0, .ref (ad 0)), (1, .int x1), (2, .int x2), (5, .int x5)] → mo_weekNumber_89 K65 st x1 x2 x5 z0 z1 z2 = some res → W p l e ({ frames := 6, cells := 0, slots := 0, locals := 132 } : Room) s m args below meth c H locs 0 0 (MQ below (mQ (fun v H1 => v = none ∧ GW ρ wM ad res H1) (MA wM ad s.heap.size)) args s 0 0 (MA wM ad s.heap.size)) (F0 m 89 ls [.int z2, .int z1, .int z0]) := by
    intro K65 hK65
    intro st x1 x2 x5 z0 z1 z2 H locs ls hW hS hl h
    unfold mo_weekNumber_89 at h
    refine lv_iadd (pc := 89) hx hb d239_89 ?_
    refine lv_bipush (pc := 90) (v := 7) hx hb d239_90 (by decide) ?_
    refine lv_irem (pc := 92) hx hb d239_92 (by decide) ?_
    refine lv_if_ne (pc := 93) (tgt := 100) hx hb d239_93 (by decide) (fun c93 => ?_) (fun c93 => ?_)
    · have h := jb_f c93 h
      refine lv_iconst (pc := 100) (v := 0) hx hb d239_100 (by decide) ?_
      exact kc101 _ hK65 st x1 x2 x5 z0 0 _ _ _ hW hS (lv_sub hl [0, 1, 2, 3] rfl) h
    · have h := jb_t c93 h
      refine lv_iconst (pc := 96) (v := 1) hx hb d239_96 (by decide) ?_
      refine lv_goto (pc := 97) (tgt := 101) hx hb d239_97 (by decide) ?_
      exact kc101 _ hK65 st x1 x2 x5 z0 1 _ _ _ hW hS (lv_sub hl [0, 1, 2, 3] rfl) h
  have kc65 : ∀ (fu : Nat), ∀ (st : GS) (x1 : Int32) (x2 : Int32) (x3 : Int32) (x5 : Int32) (H : Heap) (locs : List Loc) (ls : Array Slot), GW ρ wM ad st H → va_S (MA wM ad s.heap.size) s.heap H locs → lv_has ls 6 [(0, .ref (ad 0)), (1, .int x1), (2, .int x2), (3, .int x3), (5, .int x5)] → mo_weekNumber_65 fu st x1 x2 x3 x5 = some res → W p l e ({ frames := 6, cells := 0, slots := 0, locals := 132 } : Room) s m args below meth c H locs 0 0 (MQ below (mQ (fun v H1 => v = none ∧ GW ρ wM ad res H1) (MA wM ad s.heap.size)) args s 0 0 (MA wM ad s.heap.size)) (F0 m 65 ls []) := by
    intro  fu
    induction fu with
    | zero => intro st x1 x2 x3 x5 H locs ls hW hS hl h; cases h
    | succ fu hK65 =>
      intro st x1 x2 x3 x5 H locs ls hW hS hl h
      unfold mo_weekNumber_65 at h
      refine lv_iload (pc := 65) hx hb d239_65 (lv_at hl 4 rfl) ?_
      refine lv_iload_n (pc := 67) hx hb d239_67 rfl (lv_at hl 1 rfl) ?_
      refine lv_icmp_gt (pc := 68) (tgt := 109) hx hb d239_68 (by decide) (fun c68 => ?_) (fun c68 => ?_)
      · have h := jb_t c68 h
        refine lv_aload_n (pc := 109) hx hb d239_109 rfl (lv_at hl 0 rfl) ?_
        refine lv_iload_n (pc := 110) hx hb d239_110 rfl (lv_at hl 3 rfl) ?_
        refine lv_i2d (pc := 111) hx hb d239_111 ?_
        obtain ⟨q3, hq3, h⟩ := jc_some h
        refine k_callV (pc := 112) (n := 1) X hS (c_mo_answerNumber l ρ ad _ st (FP.i2d x3) q3 hW hq3) wd1651 wd1648 wd1650 sl142 wd11 (by decide) ⟨rfl, rfl, by decide, by decide⟩ (m_recv X hW) (As := [.double (FP.i2d x3)]) (rest := []) rfl rfl hl.1 (Nat.le_of_ble_eq_true rfl) d239_112 ⟨by decide, by decide⟩ (fun q hq => MA.mono hS.1 hq) (fun v H1 locs1 hv _ _ hSq3 => ?_)
        obtain ⟨rfl, hW⟩ := hv
        have hS := hSq3
        obtain rfl := Option.some.inj h
        exact m_vret (pc := 115) hx hb hr hlk hS ⟨rfl, hW⟩ (by decide) (by decide) d239_115
      · have h := jb_f c68 h
        refine lv_iload_n (pc := 71) hx hb d239_71 rfl (lv_at hl 3 rfl) ?_
        refine lv_iload (pc := 72) hx hb d239_72 (lv_at hl 4 rfl) ?_
        refine lv_sipush (pc := 74) (v := 7000) hx hb d239_74 (by decide) ?_
        refine lv_iadd (pc := 77) hx hb d239_77 ?_
        refine lv_iload_n (pc := 78) hx hb d239_78 rfl (lv_at hl 2 rfl) ?_
        refine lv_iconst (pc := 79) (v := 1) hx hb d239_79 (by decide) ?_
        refine lv_icmp_ne (pc := 80) (tgt := 88) hx hb d239_80 (by decide) (fun c80 => ?_) (fun c80 => ?_)
        · have h := jb_f c80 h
          refine lv_iconst (pc := 88) (v := 5) hx hb d239_88 (by decide) ?_
          exact kc89 _ hK65 st x1 x2 x5 x3 (x5 + 7000) 5 _ _ _ hW hS (lv_sub hl [0, 1, 2, 4] rfl) h
        · have h := jb_t c80 h
          refine lv_bipush (pc := 83) (v := 6) hx hb d239_83 (by decide) ?_
          refine lv_goto (pc := 85) (tgt := 89) hx hb d239_85 (by decide) ?_
          exact kc89 _ hK65 st x1 x2 x5 x3 (x5 + 7000) 6 _ _ _ hW hS (lv_sub hl [0, 1, 2, 4] rfl) h
  have kc29 : ∀ (st : GS) (x1 : Int32) (x2 : Int32) (H : Heap) (locs : List Loc) (ls : Array Slot), GW ρ wM ad st H → va_S (MA wM ad s.heap.size) s.heap H locs → lv_has ls 6 [(0, .ref (ad 0)), (1, .int x1), (2, .int x2)] → mo_weekNumber_29 st x1 x2 = some res → W p l e ({ frames := 6, cells := 0, slots := 0, locals := 132 } : Room) s m args below meth c H locs 0 0 (MQ below (mQ (fun v H1 => v = none ∧ GW ρ wM ad res H1) (MA wM ad s.heap.size)) args s 0 0 (MA wM ad s.heap.size)) (F0 m 29 ls []) := by
    intro st x1 x2 H locs ls hW hS hl h
    unfold mo_weekNumber_29 at h
    refine lv_aload_n (pc := 29) hx hb d239_29 rfl (lv_at hl 0 rfl) ?_
    refine m_get (pc := 30) X hW 22 (v := .int (st.1 0 22)) wd1388 rfl rfl d239_30 ?_
    refine lv_if_eq (pc := 33) (tgt := 37) hx hb d239_33 (by decide) (fun c33 => ?_) (fun c33 => ?_)
    · have h := jb_t c33 h
      refine lv_aload_n (pc := 37) hx hb d239_37 rfl (lv_at hl 0 rfl) ?_
      refine lv_iload_n (pc := 38) hx hb d239_38 rfl (lv_at hl 1 rfl) ?_
      obtain ⟨q4, hq4, h⟩ := jc_some h
      refine k_callV (pc := 39) (n := 1) X hS (c_mo_dateOf l ρ ad _ st x1 q4 hW hq4) wd1927 wd1924 wd1926 sl158 wd11 (by decide) ⟨rfl, rfl, by decide, by decide⟩ (m_recv X hW) (As := [.int x1]) (rest := []) rfl rfl hl.1 (Nat.le_of_ble_eq_true rfl) d239_39 ⟨by decide, by decide⟩ (fun q hq => MA.mono hS.1 hq) (fun v H1 locs1 hv _ _ hSq4 => ?_)
      obtain ⟨rfl, hW⟩ := hv
      have hS := hSq4
      refine lv_iconst (pc := 42) (v := 1) hx hb d239_42 (by decide) ?_
      refine lv_istore_n (pc := 43) (lv' := [(3, .int 1), (0, .ref (ad 0)), (1, .int x1), (2, .int x2)]) hx hb d239_43 rfl hl (by decide) rfl (fun ls hl => ?_)
      refine lv_ldc2 (pc := 44) hx hb X.1.2.2.2.1 (X.ts wd1880) d239_44 ?_
      refine lv_aload_n (pc := 47) hx hb d239_47 rfl (lv_at hl 1 rfl) ?_
      refine m_get (pc := 48) X hW 42 (v := .int (q4.1 0 42)) wd1408 rfl rfl d239_48 ?_
      refine lv_i2l (pc := 51) hx hb d239_51 rfl ?_
      refine lv_lmul (pc := 52) hx hb d239_52 ?_
      obtain ⟨q5, hq5, h⟩ := jc_some h
      refine k_callS (pc := 53) (n := 1) X hS (c_mo_monthFirst l ρ _ ((12 : Int64) * (q4.1 0 42).toInt64) q5 hq5) wd1883 wd1881 wd1882 wd11 (by decide) ⟨rfl, rfl, by decide, by decide⟩ (As := [.long ((12 : Int64) * (q4.1 0 42).toInt64)]) (rest := []) rfl rfl hl.1 (Nat.le_of_ble_eq_true rfl) d239_53 ⟨by decide, by decide⟩ (fun q hq => False.elim hq) (fun v H1 locs1 hv _ _ hSq5 => ?_)
      obtain ⟨rfl, rfl⟩ := hv
      have hS := hSq5
      refine lv_l2i (pc := 56) hx hb d239_56 rfl ?_
      refine lv_istore (pc := 57) (lv' := [(4, .int q5.toInt32), (3, .int 1), (0, .ref (ad 0)), (1, .int x1), (2, .int x2)]) hx hb d239_57 hl (by decide) rfl (fun ls hl => ?_)
      refine lv_iload (pc := 59) hx hb d239_59 (lv_at hl 0 rfl) ?_
      refine lv_iconst (pc := 61) (v := 1) hx hb d239_61 (by decide) ?_
      refine lv_iadd (pc := 62) hx hb d239_62 ?_
      obtain ⟨v6, ev6, h⟩ := jn_ex h
      refine nm_i ev6 ?_
      refine lv_istore (pc := 63) (lv' := [(5, .int v6), (4, .int q5.toInt32), (3, .int 1), (0, .ref (ad 0)), (1, .int x1), (2, .int x2)]) hx hb d239_63 hl (by decide) rfl (fun ls hl => ?_)
      exact kc65  FU q4 x1 x2 1 v6 _ _ _ hW hS (lv_sub hl [3, 4, 5, 2, 0] rfl) h
    · have h := jb_f c33 h
      obtain rfl := Option.some.inj h
      exact m_vret (pc := 36) hx hb hr hlk hS ⟨rfl, hW⟩ (by decide) (by decide) d239_36
  unfold f_mo_weekNumber at h
  refine lv_aload_n (pc := 0) hx hb d239_0 rfl (lv_at hl 0 rfl) ?_
  refine lv_iconst (pc := 1) (v := 0) hx hb d239_1 (by decide) ?_
  obtain ⟨q7, hq7, h⟩ := jc_some h
  refine k_callV (pc := 2) (n := 1) X hS (c_mo_dayOf l ρ ad _ st 0 q7 hW hq7) wd1915 wd1912 wd1914 sl161 wd11 (by decide) ⟨rfl, rfl, by decide, by decide⟩ (m_recv X hW) (As := [.int 0]) (rest := []) rfl rfl hl.1 (Nat.le_of_ble_eq_true rfl) d239_2 ⟨by decide, by decide⟩ (fun q hq => MA.mono hS.1 hq) (fun v H1 locs1 hv _ _ hSq7 => ?_)
  obtain ⟨rfl, hW⟩ := hv
  have hS := hSq7
  refine lv_istore_n (pc := 5) (lv' := [(1, .int q7.1), (0, .ref (ad 0))]) hx hb d239_5 rfl hl (by decide) rfl (fun ls hl => ?_)
  refine lv_aload_n (pc := 6) hx hb d239_6 rfl (lv_at hl 1 rfl) ?_
  refine lv_iconst (pc := 7) (v := 1) hx hb d239_7 (by decide) ?_
  refine lv_iconst (pc := 8) (v := 1) hx hb d239_8 (by decide) ?_
  obtain ⟨q8, hq8, h⟩ := jc_some h
  refine k_callV (pc := 9) (n := 2) X hS (c_mo_whole2 l ρ ad _ q7.2 1 1 q8 hW hq8) wd1663 wd1660 wd1662 sl242 wd11 (by decide) ⟨rfl, rfl, by decide, by decide⟩ (m_recv X hW) (As := [.int 1, .int 1]) (rest := []) rfl rfl hl.1 (Nat.le_of_ble_eq_true rfl) d239_9 ⟨by decide, by decide⟩ (fun q hq => MA.mono hS.1 hq) (fun v H1 locs1 hv _ _ hSq8 => ?_)
  obtain ⟨rfl, hW⟩ := hv
  have hS := hSq8
  refine lv_istore_n (pc := 12) (lv' := [(2, .int q8.1), (1, .int q7.1), (0, .ref (ad 0))]) hx hb d239_12 rfl hl (by decide) rfl (fun ls hl => ?_)
  refine lv_iload_n (pc := 13) hx hb d239_13 rfl (lv_at hl 0 rfl) ?_
  refine lv_iconst (pc := 14) (v := 1) hx hb d239_14 (by decide) ?_
  refine lv_icmp_eq (pc := 15) (tgt := 29) hx hb d239_15 (by decide) (fun c15 => ?_) (fun c15 => ?_)
  · have h := jb_t c15 h
    exact kc29  q8.2 q7.1 q8.1 _ _ _ hW hS (lv_sub hl [2, 1, 0] rfl) h
  · have h := jb_f c15 h
    refine lv_iload_n (pc := 18) hx hb d239_18 rfl (lv_at hl 0 rfl) ?_
    refine lv_iconst (pc := 19) (v := 2) hx hb d239_19 (by decide) ?_
    refine lv_icmp_eq (pc := 20) (tgt := 29) hx hb d239_20 (by decide) (fun c20 => ?_) (fun c20 => ?_)
    · have h := jb_t c20 h
      exact kc29  q8.2 q7.1 q8.1 _ _ _ hW hS (lv_sub hl [2, 1, 0] rfl) h
    · have h := jb_f c20 h
      refine lv_aload_n (pc := 23) hx hb d239_23 rfl (lv_at hl 2 rfl) ?_
      refine lv_bipush (pc := 24) (v := 6) hx hb d239_24 (by decide) ?_
      obtain ⟨q9, hq9, h⟩ := jc_some h
      refine k_callV (pc := 26) (n := 1) X hS (c_mo_fail l ρ ad _ q8.2 6 q9 hW hq9) wd1621 wd1618 wd1620 sl170 wd11 (by decide) ⟨rfl, rfl, by decide, by decide⟩ (m_recv X hW) (As := [.int 6]) (rest := []) rfl rfl hl.1 (Nat.le_of_ble_eq_true rfl) d239_26 ⟨by decide, by decide⟩ (fun q hq => MA.mono hS.1 hq) (fun v H1 locs1 hv _ _ hSq9 => ?_)
      obtain ⟨rfl, hW⟩ := hv
      have hS := hSq9
      exact kc29  q9 q7.1 q8.1 _ _ _ hW hS (lv_sub hl [2, 1, 0] rfl) h
def mo_monthsLater_127  (st : GS) (z1 : Int64) : Option (GS) := jc (f_mo_answerDay st z1) (fun q1 => some q1)
def mo_monthsLater_118  (st : GS) (x6 : Int64) : Option (GS) := mo_monthsLater_127  st (x6 - 1)
def mo_monthsLater_32  (st : GS) (x1 : Int32) (x2 : Int32) (x3 : Int32) : Option (GS) := jb ((st.1 0 22) = 0) (jc (f_mo_dateOf st x2) (fun q2 => jc (f_mo_monthFirst (((((12 : Int64) * (q2.1 0 42).toInt64) + (q2.1 0 43).toInt64) - 1) + x3.toInt64)) (fun q3 => jc (f_mo_monthFirst ((((12 : Int64) * (q2.1 0 42).toInt64) + (q2.1 0 43).toInt64) + x3.toInt64)) (fun q4 => jn ((q3 + (q2.1 0 44).toInt64) - 1) (fun v5 => jb (x1 = 0) (jb ((lg_cmp v5 q4) < 0) (mo_monthsLater_127  q2 v5) (mo_monthsLater_118  q2 q4)) (mo_monthsLater_118  q2 q4)))))) (some st)
def mo_monthsLater_26  (st : GS) (x1 : Int32) (x2 : Int32) (x3 : Int32) : Option (GS) := jc (f_mo_fail st 6) (fun q6 => mo_monthsLater_32  q6 x1 x2 x3)
def f_mo_monthsLater (st : GS) (p0 : Int32) : Option (GS) := jc (f_mo_dayOf st 0) (fun q7 => jc (f_mo_whole1 q7.2 1) (fun q8 => jb (100000 < q8.1) (mo_monthsLater_26  q8.2 p0 q7.1 q8.1) (jb ((-100000) ≤ q8.1) (mo_monthsLater_32  q8.2 p0 q7.1 q8.1) (mo_monthsLater_26  q8.2 p0 q7.1 q8.1))))
set_option maxHeartbeats 4000000 in
set_option maxRecDepth 100000 in
theorem c_mo_monthsLater (l : Launch) (ρ : RH) (ad : Nat → Nat) (H : Heap) (st : GS) (p0 : Int32) (res : GS) (hW : GW ρ wM ad st H) (h : f_mo_monthsLater st p0 = some res) : Met l y202 (wsOf y202 b202 10 none) ({ frames := 5, cells := 0, slots := 0, locals := 110 } : Room) (va_Pc [.ref (ad 0), .int p0] (KP ρ H)) (mQ (fun v H1 => v = none ∧ GW ρ wM ad res H1) (MA wM ad H.size)) 0 0 (MA wM ad H.size) := by
  refine m_ofW (own := "WordFunctionsModel") (plainFor_of_name rfl) rfl (Nat.le_of_ble_eq_true rfl) fun p e s m args below meth c ls hx hb hr hlk _ X hs hl => ?_
  subst hs
  have hS : va_S (MA wM ad s.heap.size) s.heap s.heap [] := va_S.rf
  have hl : lv_has ls 10 [(0, .ref (ad 0)), (1, .int p0)] := hl
  have kc127 : ∀ (st : GS) (z1 : Int64) (H : Heap) (locs : List Loc) (ls : Array Slot), GW ρ wM ad st H → va_S (MA wM ad s.heap.size) s.heap H locs → lv_has ls 10 [] → mo_monthsLater_127 st z1 = some res → W p l e ({ frames := 5, cells := 0, slots := 0, locals := 110 } : Room) s m args below meth c H locs 0 0 (MQ below (mQ (fun v H1 => v = none ∧ GW ρ wM ad res H1) (MA wM ad s.heap.size)) args s 0 0 (MA wM ad s.heap.size)) (F0 m 127 ls [.long z1, .ref (ad 0)]) := by
    intro st z1 H locs ls hW hS hl h
    unfold mo_monthsLater_127 at h
    obtain ⟨q1, hq1, h⟩ := jc_some h
    refine k_callV (pc := 127) (n := 1) X hS (c_mo_answerDay l ρ ad _ st z1 q1 hW hq1) wd1898 wd1895 wd1897 sl141 wd11 (by decide) ⟨rfl, rfl, by decide, by decide⟩ (m_recv X hW) (As := [.long z1]) (rest := []) rfl rfl hl.1 (Nat.le_of_ble_eq_true rfl) d202_127 ⟨by decide, by decide⟩ (fun q hq => MA.mono hS.1 hq) (fun v H1 locs1 hv _ _ hSq1 => ?_)
    obtain ⟨rfl, hW⟩ := hv
    have hS := hSq1
    obtain rfl := Option.some.inj h
    exact m_vret (pc := 130) hx hb hr hlk hS ⟨rfl, hW⟩ (by decide) (by decide) d202_130
  have kc118 : ∀ (st : GS) (x6 : Int64) (H : Heap) (locs : List Loc) (ls : Array Slot), GW ρ wM ad st H → va_S (MA wM ad s.heap.size) s.heap H locs → lv_has ls 10 [(6, .long x6)] → mo_monthsLater_118 st x6 = some res → W p l e ({ frames := 5, cells := 0, slots := 0, locals := 110 } : Room) s m args below meth c H locs 0 0 (MQ below (mQ (fun v H1 => v = none ∧ GW ρ wM ad res H1) (MA wM ad s.heap.size)) args s 0 0 (MA wM ad s.heap.size)) (F0 m 118 ls [.ref (ad 0)]) := by
    intro st x6 H locs ls hW hS hl h
    unfold mo_monthsLater_118 at h
    refine lv_lload (pc := 118) hx hb d202_118 (lv_at hl 0 rfl) ?_
    refine lv_lconst (pc := 120) (v := 1) hx hb d202_120 rfl ?_
    refine lv_lsub (pc := 121) hx hb d202_121 ?_
    refine lv_goto (pc := 122) (tgt := 127) hx hb d202_122 (by decide) ?_
    exact kc127  st (x6 - 1) _ _ _ hW hS (lv_sub hl [] rfl) h
  have kc32 : ∀ (st : GS) (x1 : Int32) (x2 : Int32) (x3 : Int32) (H : Heap) (locs : List Loc) (ls : Array Slot), GW ρ wM ad st H → va_S (MA wM ad s.heap.size) s.heap H locs → lv_has ls 10 [(0, .ref (ad 0)), (1, .int x1), (2, .int x2), (3, .int x3)] → mo_monthsLater_32 st x1 x2 x3 = some res → W p l e ({ frames := 5, cells := 0, slots := 0, locals := 110 } : Room) s m args below meth c H locs 0 0 (MQ below (mQ (fun v H1 => v = none ∧ GW ρ wM ad res H1) (MA wM ad s.heap.size)) args s 0 0 (MA wM ad s.heap.size)) (F0 m 32 ls []) := by
    intro st x1 x2 x3 H locs ls hW hS hl h
    unfold mo_monthsLater_32 at h
    refine lv_aload_n (pc := 32) hx hb d202_32 rfl (lv_at hl 0 rfl) ?_
    refine m_get (pc := 33) X hW 22 (v := .int (st.1 0 22)) wd1388 rfl rfl d202_33 ?_
    refine lv_if_eq (pc := 36) (tgt := 40) hx hb d202_36 (by decide) (fun c36 => ?_) (fun c36 => ?_)
    · have h := jb_t c36 h
      refine lv_aload_n (pc := 40) hx hb d202_40 rfl (lv_at hl 0 rfl) ?_
      refine lv_iload_n (pc := 41) hx hb d202_41 rfl (lv_at hl 2 rfl) ?_
      obtain ⟨q2, hq2, h⟩ := jc_some h
      refine k_callV (pc := 42) (n := 1) X hS (c_mo_dateOf l ρ ad _ st x2 q2 hW hq2) wd1927 wd1924 wd1926 sl158 wd11 (by decide) ⟨rfl, rfl, by decide, by decide⟩ (m_recv X hW) (As := [.int x2]) (rest := []) rfl rfl hl.1 (Nat.le_of_ble_eq_true rfl) d202_42 ⟨by decide, by decide⟩ (fun q hq => MA.mono hS.1 hq) (fun v H1 locs1 hv _ _ hSq2 => ?_)
      obtain ⟨rfl, hW⟩ := hv
      have hS := hSq2
      refine lv_ldc2 (pc := 45) hx hb X.1.2.2.2.1 (X.ts wd1880) d202_45 ?_
      refine lv_aload_n (pc := 48) hx hb d202_48 rfl (lv_at hl 0 rfl) ?_
      refine m_get (pc := 49) X hW 42 (v := .int (q2.1 0 42)) wd1408 rfl rfl d202_49 ?_
      refine lv_i2l (pc := 52) hx hb d202_52 rfl ?_
      refine lv_lmul (pc := 53) hx hb d202_53 ?_
      refine lv_aload_n (pc := 54) hx hb d202_54 rfl (lv_at hl 0 rfl) ?_
      refine m_get (pc := 55) X hW 43 (v := .int (q2.1 0 43)) wd1409 rfl rfl d202_55 ?_
      refine lv_i2l (pc := 58) hx hb d202_58 rfl ?_
      refine lv_ladd (pc := 59) hx hb d202_59 ?_
      refine lv_lconst (pc := 60) (v := 1) hx hb d202_60 rfl ?_
      refine lv_lsub (pc := 61) hx hb d202_61 ?_
      refine lv_iload_n (pc := 62) hx hb d202_62 rfl (lv_at hl 3 rfl) ?_
      refine lv_i2l (pc := 63) hx hb d202_63 rfl ?_
      refine lv_ladd (pc := 64) hx hb d202_64 ?_
      obtain ⟨q3, hq3, h⟩ := jc_some h
      refine k_callS (pc := 65) (n := 1) X hS (c_mo_monthFirst l ρ _ (((((12 : Int64) * (q2.1 0 42).toInt64) + (q2.1 0 43).toInt64) - 1) + x3.toInt64) q3 hq3) wd1883 wd1881 wd1882 wd11 (by decide) ⟨rfl, rfl, by decide, by decide⟩ (As := [.long (((((12 : Int64) * (q2.1 0 42).toInt64) + (q2.1 0 43).toInt64) - 1) + x3.toInt64)]) (rest := []) rfl rfl hl.1 (Nat.le_of_ble_eq_true rfl) d202_65 ⟨by decide, by decide⟩ (fun q hq => False.elim hq) (fun v H1 locs1 hv _ _ hSq3 => ?_)
      obtain ⟨rfl, rfl⟩ := hv
      have hS := hSq3
      refine lv_lstore (pc := 68) (lv' := [(4, .long q3), (0, .ref (ad 0)), (1, .int x1), (2, .int x2), (3, .int x3)]) hx hb d202_68 hl (by decide) rfl (fun ls hl => ?_)
      refine lv_ldc2 (pc := 70) hx hb X.1.2.2.2.1 (X.ts wd1880) d202_70 ?_
      refine lv_aload_n (pc := 73) hx hb d202_73 rfl (lv_at hl 1 rfl) ?_
      refine m_get (pc := 74) X hW 42 (v := .int (q2.1 0 42)) wd1408 rfl rfl d202_74 ?_
      refine lv_i2l (pc := 77) hx hb d202_77 rfl ?_
      refine lv_lmul (pc := 78) hx hb d202_78 ?_
      refine lv_aload_n (pc := 79) hx hb d202_79 rfl (lv_at hl 1 rfl) ?_
      refine m_get (pc := 80) X hW 43 (v := .int (q2.1 0 43)) wd1409 rfl rfl d202_80 ?_
      refine lv_i2l (pc := 83) hx hb d202_83 rfl ?_
      refine lv_ladd (pc := 84) hx hb d202_84 ?_
      refine lv_iload_n (pc := 85) hx hb d202_85 rfl (lv_at hl 4 rfl) ?_
      refine lv_i2l (pc := 86) hx hb d202_86 rfl ?_
      refine lv_ladd (pc := 87) hx hb d202_87 ?_
      obtain ⟨q4, hq4, h⟩ := jc_some h
      refine k_callS (pc := 88) (n := 1) X hS (c_mo_monthFirst l ρ _ ((((12 : Int64) * (q2.1 0 42).toInt64) + (q2.1 0 43).toInt64) + x3.toInt64) q4 hq4) wd1883 wd1881 wd1882 wd11 (by decide) ⟨rfl, rfl, by decide, by decide⟩ (As := [.long ((((12 : Int64) * (q2.1 0 42).toInt64) + (q2.1 0 43).toInt64) + x3.toInt64)]) (rest := []) rfl rfl hl.1 (Nat.le_of_ble_eq_true rfl) d202_88 ⟨by decide, by decide⟩ (fun q hq => False.elim hq) (fun v H1 locs1 hv _ _ hSq4 => ?_)
      obtain ⟨rfl, rfl⟩ := hv
      have hS := hSq4
      refine lv_lstore (pc := 91) (lv' := [(6, .long q4), (4, .long q3), (0, .ref (ad 0)), (1, .int x1), (2, .int x2), (3, .int x3)]) hx hb d202_91 hl (by decide) rfl (fun ls hl => ?_)
      refine lv_lload (pc := 93) hx hb d202_93 (lv_at hl 1 rfl) ?_
      refine lv_aload_n (pc := 95) hx hb d202_95 rfl (lv_at hl 2 rfl) ?_
      refine m_get (pc := 96) X hW 44 (v := .int (q2.1 0 44)) wd1410 rfl rfl d202_96 ?_
      refine lv_i2l (pc := 99) hx hb d202_99 rfl ?_
      refine lv_ladd (pc := 100) hx hb d202_100 ?_
      refine lv_lconst (pc := 101) (v := 1) hx hb d202_101 rfl ?_
      refine lv_lsub (pc := 102) hx hb d202_102 ?_
      obtain ⟨v5, ev5, h⟩ := jn_ex h
      refine nm_l ev5 ?_
      refine lv_lstore (pc := 103) (lv' := [(8, .long v5), (6, .long q4), (4, .long q3), (0, .ref (ad 0)), (1, .int x1), (2, .int x2), (3, .int x3)]) hx hb d202_103 hl (by decide) rfl (fun ls hl => ?_)
      refine lv_aload_n (pc := 105) hx hb d202_105 rfl (lv_at hl 3 rfl) ?_
      refine lv_iload_n (pc := 106) hx hb d202_106 rfl (lv_at hl 4 rfl) ?_
      refine lv_if_ne (pc := 107) (tgt := 118) hx hb d202_107 (by decide) (fun c107 => ?_) (fun c107 => ?_)
      · have h := jb_f c107 h
        exact kc118  q2 q4 _ _ _ hW hS (lv_sub hl [1] rfl) h
      · have h := jb_t c107 h
        refine lv_lload (pc := 110) hx hb d202_110 (lv_at hl 0 rfl) ?_
        refine lv_lload (pc := 112) hx hb d202_112 (lv_at hl 1 rfl) ?_
        refine W.lcmp (pc := 114) hx hb d202_114 ?_
        refine lv_if_lt (pc := 115) (tgt := 125) hx hb d202_115 (by decide) (fun c115 => ?_) (fun c115 => ?_)
        · have h := jb_t c115 h
          refine lv_lload (pc := 125) hx hb d202_125 (lv_at hl 0 rfl) ?_
          exact kc127  q2 v5 _ _ _ hW hS (lv_sub hl [] rfl) h
        · have h := jb_f c115 h
          exact kc118  q2 q4 _ _ _ hW hS (lv_sub hl [1] rfl) h
    · have h := jb_f c36 h
      obtain rfl := Option.some.inj h
      exact m_vret (pc := 39) hx hb hr hlk hS ⟨rfl, hW⟩ (by decide) (by decide) d202_39
  have kc26 : ∀ (st : GS) (x1 : Int32) (x2 : Int32) (x3 : Int32) (H : Heap) (locs : List Loc) (ls : Array Slot), GW ρ wM ad st H → va_S (MA wM ad s.heap.size) s.heap H locs → lv_has ls 10 [(0, .ref (ad 0)), (1, .int x1), (2, .int x2), (3, .int x3)] → mo_monthsLater_26 st x1 x2 x3 = some res → W p l e ({ frames := 5, cells := 0, slots := 0, locals := 110 } : Room) s m args below meth c H locs 0 0 (MQ below (mQ (fun v H1 => v = none ∧ GW ρ wM ad res H1) (MA wM ad s.heap.size)) args s 0 0 (MA wM ad s.heap.size)) (F0 m 26 ls []) := by
    intro st x1 x2 x3 H locs ls hW hS hl h
    unfold mo_monthsLater_26 at h
    refine lv_aload_n (pc := 26) hx hb d202_26 rfl (lv_at hl 0 rfl) ?_
    refine lv_bipush (pc := 27) (v := 6) hx hb d202_27 (by decide) ?_
    obtain ⟨q6, hq6, h⟩ := jc_some h
    refine k_callV (pc := 29) (n := 1) X hS (c_mo_fail l ρ ad _ st 6 q6 hW hq6) wd1621 wd1618 wd1620 sl170 wd11 (by decide) ⟨rfl, rfl, by decide, by decide⟩ (m_recv X hW) (As := [.int 6]) (rest := []) rfl rfl hl.1 (Nat.le_of_ble_eq_true rfl) d202_29 ⟨by decide, by decide⟩ (fun q hq => MA.mono hS.1 hq) (fun v H1 locs1 hv _ _ hSq6 => ?_)
    obtain ⟨rfl, hW⟩ := hv
    have hS := hSq6
    exact kc32  q6 x1 x2 x3 _ _ _ hW hS (lv_sub hl [0, 1, 2, 3] rfl) h
  unfold f_mo_monthsLater at h
  refine lv_aload_n (pc := 0) hx hb d202_0 rfl (lv_at hl 0 rfl) ?_
  refine lv_iconst (pc := 1) (v := 0) hx hb d202_1 (by decide) ?_
  obtain ⟨q7, hq7, h⟩ := jc_some h
  refine k_callV (pc := 2) (n := 1) X hS (c_mo_dayOf l ρ ad _ st 0 q7 hW hq7) wd1915 wd1912 wd1914 sl161 wd11 (by decide) ⟨rfl, rfl, by decide, by decide⟩ (m_recv X hW) (As := [.int 0]) (rest := []) rfl rfl hl.1 (Nat.le_of_ble_eq_true rfl) d202_2 ⟨by decide, by decide⟩ (fun q hq => MA.mono hS.1 hq) (fun v H1 locs1 hv _ _ hSq7 => ?_)
  obtain ⟨rfl, hW⟩ := hv
  have hS := hSq7
  refine lv_istore_n (pc := 5) (lv' := [(2, .int q7.1), (0, .ref (ad 0)), (1, .int p0)]) hx hb d202_5 rfl hl (by decide) rfl (fun ls hl => ?_)
  refine lv_aload_n (pc := 6) hx hb d202_6 rfl (lv_at hl 1 rfl) ?_
  refine lv_iconst (pc := 7) (v := 1) hx hb d202_7 (by decide) ?_
  obtain ⟨q8, hq8, h⟩ := jc_some h
  refine k_callV (pc := 8) (n := 1) X hS (c_mo_whole1 l ρ ad _ q7.2 1 q8 hW hq8) wd1671 wd1668 wd1670 sl241 wd11 (by decide) ⟨rfl, rfl, by decide, by decide⟩ (m_recv X hW) (As := [.int 1]) (rest := []) rfl rfl hl.1 (Nat.le_of_ble_eq_true rfl) d202_8 ⟨by decide, by decide⟩ (fun q hq => MA.mono hS.1 hq) (fun v H1 locs1 hv _ _ hSq8 => ?_)
  obtain ⟨rfl, hW⟩ := hv
  have hS := hSq8
  refine lv_istore_n (pc := 11) (lv' := [(3, .int q8.1), (2, .int q7.1), (0, .ref (ad 0)), (1, .int p0)]) hx hb d202_11 rfl hl (by decide) rfl (fun ls hl => ?_)
  refine lv_iload_n (pc := 12) hx hb d202_12 rfl (lv_at hl 0 rfl) ?_
  refine lv_ldcw (pc := 13) hx hb X.1.2.2.2.1 (X.ts wd1878) d202_13 ?_
  refine lv_icmp_gt (pc := 16) (tgt := 26) hx hb d202_16 (by decide) (fun c16 => ?_) (fun c16 => ?_)
  · have h := jb_t c16 h
    exact kc26  q8.2 p0 q7.1 q8.1 _ _ _ hW hS (lv_sub hl [2, 3, 1, 0] rfl) h
  · have h := jb_f c16 h
    refine lv_iload_n (pc := 19) hx hb d202_19 rfl (lv_at hl 0 rfl) ?_
    refine lv_ldcw (pc := 20) hx hb X.1.2.2.2.1 (X.ts wd1879) d202_20 ?_
    refine lv_icmp_ge (pc := 23) (tgt := 32) hx hb d202_23 (by decide) (fun c23 => ?_) (fun c23 => ?_)
    · have h := jb_t c23 h
      exact kc32  q8.2 p0 q7.1 q8.1 _ _ _ hW hS (lv_sub hl [2, 3, 1, 0] rfl) h
    · have h := jb_f c23 h
      exact kc26  q8.2 p0 q7.1 q8.1 _ _ _ hW hS (lv_sub hl [2, 3, 1, 0] rfl) h
def f_mo_monthsOver (st : GS) (p0 : Int32) (p1 : Int32) (p2 : Int32) (p3 : Int32) : Option (Int64) := jc (f_mo_monthFirst (((((12 : Int64) * p0.toInt64) + p1.toInt64) - 1) + p3.toInt64)) (fun q1 => jc (f_mo_monthFirst ((((12 : Int64) * p0.toInt64) + p1.toInt64) + p3.toInt64)) (fun q2 => jb (0 ≤ (lg_cmp ((q1 + p2.toInt64) - 1) q2)) (some q2) (some ((q1 + p2.toInt64) - 1))))
set_option maxHeartbeats 4000000 in
set_option maxRecDepth 100000 in
theorem c_mo_monthsOver (l : Launch) (ρ : RH) (ad : Nat → Nat) (H : Heap) (st : GS) (p0 : Int32) (p1 : Int32) (p2 : Int32) (p3 : Int32) (res : Int64) (hW : GW ρ wM ad st H) (h : f_mo_monthsOver st p0 p1 p2 p3 = some res) : Met l y203 (wsOf y203 b203 9 (some .long)) ({ frames := 3, cells := 0, slots := 0, locals := 68 } : Room) (va_Pc [.ref (ad 0), .int p0, .int p1, .int p2, .int p3] (KP ρ H)) (mQ (fun v H1 => v = some (.long res) ∧ H1 = H) (fun _ => False)) 0 0 (fun _ => False) := by
  refine m_ofW (own := "WordFunctionsModel") (plainFor_of_name rfl) rfl (Nat.le_of_ble_eq_true rfl) fun p e s m args below meth c ls hx hb hr hlk _ X hs hl => ?_
  subst hs
  have hS : va_S (fun _ => False) s.heap s.heap [] := va_S.rf
  have hl : lv_has ls 9 [(0, .ref (ad 0)), (1, .int p0), (2, .int p1), (3, .int p2), (4, .int p3)] := hl
  unfold f_mo_monthsOver at h
  refine lv_ldc2 (pc := 0) hx hb X.1.2.2.2.1 (X.ts wd1880) d203_0 ?_
  refine lv_iload_n (pc := 3) hx hb d203_3 rfl (lv_at hl 1 rfl) ?_
  refine lv_i2l (pc := 4) hx hb d203_4 rfl ?_
  refine lv_lmul (pc := 5) hx hb d203_5 ?_
  refine lv_iload_n (pc := 6) hx hb d203_6 rfl (lv_at hl 2 rfl) ?_
  refine lv_i2l (pc := 7) hx hb d203_7 rfl ?_
  refine lv_ladd (pc := 8) hx hb d203_8 ?_
  refine lv_lconst (pc := 9) (v := 1) hx hb d203_9 rfl ?_
  refine lv_lsub (pc := 10) hx hb d203_10 ?_
  refine lv_iload (pc := 11) hx hb d203_11 (lv_at hl 4 rfl) ?_
  refine lv_i2l (pc := 13) hx hb d203_13 rfl ?_
  refine lv_ladd (pc := 14) hx hb d203_14 ?_
  obtain ⟨q1, hq1, h⟩ := jc_some h
  refine k_callS (pc := 15) (n := 1) X hS (c_mo_monthFirst l ρ _ (((((12 : Int64) * p0.toInt64) + p1.toInt64) - 1) + p3.toInt64) q1 hq1) wd1883 wd1881 wd1882 wd11 (by decide) ⟨rfl, rfl, by decide, by decide⟩ (As := [.long (((((12 : Int64) * p0.toInt64) + p1.toInt64) - 1) + p3.toInt64)]) (rest := []) rfl rfl hl.1 (Nat.le_of_ble_eq_true rfl) d203_15 ⟨by decide, by decide⟩ (fun q hq => False.elim hq) (fun v H1 locs1 hv _ _ hSq1 => ?_)
  obtain ⟨rfl, rfl⟩ := hv
  have hS := hSq1
  refine lv_lstore (pc := 18) (lv' := [(5, .long q1), (0, .ref (ad 0)), (1, .int p0), (2, .int p1), (3, .int p2), (4, .int p3)]) hx hb d203_18 hl (by decide) rfl (fun ls hl => ?_)
  refine lv_ldc2 (pc := 20) hx hb X.1.2.2.2.1 (X.ts wd1880) d203_20 ?_
  refine lv_iload_n (pc := 23) hx hb d203_23 rfl (lv_at hl 2 rfl) ?_
  refine lv_i2l (pc := 24) hx hb d203_24 rfl ?_
  refine lv_lmul (pc := 25) hx hb d203_25 ?_
  refine lv_iload_n (pc := 26) hx hb d203_26 rfl (lv_at hl 3 rfl) ?_
  refine lv_i2l (pc := 27) hx hb d203_27 rfl ?_
  refine lv_ladd (pc := 28) hx hb d203_28 ?_
  refine lv_iload (pc := 29) hx hb d203_29 (lv_at hl 5 rfl) ?_
  refine lv_i2l (pc := 31) hx hb d203_31 rfl ?_
  refine lv_ladd (pc := 32) hx hb d203_32 ?_
  obtain ⟨q2, hq2, h⟩ := jc_some h
  refine k_callS (pc := 33) (n := 1) X hS (c_mo_monthFirst l ρ _ ((((12 : Int64) * p0.toInt64) + p1.toInt64) + p3.toInt64) q2 hq2) wd1883 wd1881 wd1882 wd11 (by decide) ⟨rfl, rfl, by decide, by decide⟩ (As := [.long ((((12 : Int64) * p0.toInt64) + p1.toInt64) + p3.toInt64)]) (rest := []) rfl rfl hl.1 (Nat.le_of_ble_eq_true rfl) d203_33 ⟨by decide, by decide⟩ (fun q hq => False.elim hq) (fun v H1 locs1 hv _ _ hSq2 => ?_)
  obtain ⟨rfl, rfl⟩ := hv
  have hS := hSq2
  refine lv_lstore (pc := 36) (lv' := [(7, .long q2), (5, .long q1), (0, .ref (ad 0)), (1, .int p0), (2, .int p1), (3, .int p2), (4, .int p3)]) hx hb d203_36 hl (by decide) rfl (fun ls hl => ?_)
  refine lv_lload (pc := 38) hx hb d203_38 (lv_at hl 1 rfl) ?_
  refine lv_iload_n (pc := 40) hx hb d203_40 rfl (lv_at hl 5 rfl) ?_
  refine lv_i2l (pc := 41) hx hb d203_41 rfl ?_
  refine lv_ladd (pc := 42) hx hb d203_42 ?_
  refine lv_lconst (pc := 43) (v := 1) hx hb d203_43 rfl ?_
  refine lv_lsub (pc := 44) hx hb d203_44 ?_
  refine lv_lload (pc := 45) hx hb d203_45 (lv_at hl 0 rfl) ?_
  refine W.lcmp (pc := 47) hx hb d203_47 ?_
  refine lv_if_ge (pc := 48) (tgt := 61) hx hb d203_48 (by decide) (fun c48 => ?_) (fun c48 => ?_)
  · have h := jb_t c48 h
    refine lv_lload (pc := 61) hx hb d203_61 (lv_at hl 0 rfl) ?_
    obtain rfl := Option.some.inj h
    exact m_lret (pc := 63) hx hb hr hlk hS ⟨rfl, rfl⟩ (by decide) (by decide) d203_63
  · have h := jb_f c48 h
    refine lv_lload (pc := 51) hx hb d203_51 (lv_at hl 1 rfl) ?_
    refine lv_iload_n (pc := 53) hx hb d203_53 rfl (lv_at hl 5 rfl) ?_
    refine lv_i2l (pc := 54) hx hb d203_54 rfl ?_
    refine lv_ladd (pc := 55) hx hb d203_55 ?_
    refine lv_lconst (pc := 56) (v := 1) hx hb d203_56 rfl ?_
    refine lv_lsub (pc := 57) hx hb d203_57 ?_
    refine lv_goto (pc := 58) (tgt := 63) hx hb d203_58 (by decide) ?_
    obtain rfl := Option.some.inj h
    exact m_lret (pc := 63) hx hb hr hlk hS ⟨rfl, rfl⟩ (by decide) (by decide) d203_63
def mo_difference_366  (st : GS) (z1 : UInt64) : Option (GS) := jc (f_mo_answerNumber st z1) (fun q1 => some q1)
def mo_difference_299  (st : GS) (x1 : Int32) (x2 : Int32) (x5 : Int32) (x6 : Int32) (z1 : Int32) (z2 : Int32) (z3 : Int32) (z4 : Int32) : Option (GS) := jc (f_mo_monthsOver st z1 z2 z3 z4) (fun q2 => jb (x5 = 1) (mo_difference_366  st (FP.i2d (x6 / 12))) (jb (x5 = 2) (mo_difference_366  st (FP.i2d x6)) (jb (x5 = 3) (mo_difference_366  st (FP.i2d (x2 - x1))) (jb (x5 = 4) (mo_difference_366  st (FP.i2d (x6 - x6 / 12 * 12))) (mo_difference_366  st (FP.l2d (x2.toInt64 - q2)))))))
def mo_difference_237  : Nat → GS → Int32 → Int32 → Int32 → Int32 → Option (GS)
  | 0, _, _, _, _, _ => none
  | fu + 1, st, x1, x2, x5, x6 => jc (f_mo_monthsOver st (st.1 0 42) (st.1 0 43) (st.1 0 44) x6) (fun q3 => jb ((lg_cmp q3 x2.toInt64) ≤ 0) (jb (x5 = 5) (mo_difference_299  st x1 x2 x5 x6 (st.1 0 42) (st.1 0 43) (st.1 0 44) x6) (mo_difference_299  st x1 x2 x5 x6 (st.1 0 42) (st.1 0 43) (st.1 0 44) ((x6 / 12) * 12))) (jn (x6 + (-1)) (fun v4 => mo_difference_237 fu st x1 x2 x5 v4)))
def mo_difference_186  (st : GS) (x1 : Int32) (x2 : Int32) (x5 : Int32) : Option (GS) := jb ((st.1 0 22) = 0) (jc (f_mo_dateOf st x2) (fun q5 => jn ((12 * (q5.1 0 42)) + (q5.1 0 43)) (fun v6 => jc (f_mo_dateOf q5 x1) (fun q7 => jn (((v6 - (12 * (q7.1 0 42))) - (q7.1 0 43)) + 1) (fun v8 => mo_difference_237 FU q7 x1 x2 x5 v8))))) (some st)
def mo_difference_180  (st : GS) (x1 : Int32) (x2 : Int32) (x5 : Int32) : Option (GS) := jc (f_mo_fail st 6) (fun q9 => mo_difference_186  q9 x1 x2 x5)
def mo_difference_168  (st : GS) (x1 : Int32) (x2 : Int32) (z0 : Int32) : Option (GS) := jb (x2 < x1) (mo_difference_180  st x1 x2 z0) (jb (z0 = 0) (mo_difference_180  st x1 x2 z0) (mo_difference_186  st x1 x2 z0))
def mo_difference_163  (st : GS) (x1 : Int32) (x2 : Int32) : Option (GS) := mo_difference_168  st x1 x2 0
def mo_difference_145  (st : GS) (x1 : Int32) (x2 : Int32) (x3 : Int32) (x4 : Int32) : Option (GS) := jb (x3 = 89) (jb (x4 = 68) (mo_difference_168  st x1 x2 6) (mo_difference_163  st x1 x2)) (mo_difference_163  st x1 x2)
def mo_difference_128  (st : GS) (x1 : Int32) (x2 : Int32) (x3 : Int32) (x4 : Int32) : Option (GS) := jb (x3 = 77) (jb (x4 = 68) (mo_difference_168  st x1 x2 5) (mo_difference_145  st x1 x2 x3 x4)) (mo_difference_145  st x1 x2 x3 x4)
def mo_difference_59  (st : GS) (x1 : Int32) (x2 : Int32) (x3 : Int32) (z0 : Int32) : Option (GS) := jb ((st.1 0 27) = 1) (jb (x3 = 89) (mo_difference_168  st x1 x2 1) (jb (x3 = 77) (mo_difference_168  st x1 x2 2) (jb (x3 = 68) (mo_difference_168  st x1 x2 3) (mo_difference_168  st x1 x2 0)))) (jb ((st.1 0 27) = 2) (jb (x3 = 89) (jb (z0 = 77) (mo_difference_168  st x1 x2 4) (mo_difference_128  st x1 x2 x3 z0)) (mo_difference_128  st x1 x2 x3 z0)) (mo_difference_168  st x1 x2 0))
def mo_difference_37  (st : GS) (x1 : Int32) (x2 : Int32) (z0 : Int32) : Option (GS) := jb ((st.1 0 27) ≤ 1) (mo_difference_59  st x1 x2 z0 0) (jg (inb 1 256) (jc (f_mo_great (st.1 13 (1 : Int32).toNatClampNeg)) (fun q11 => mo_difference_59  st x1 x2 z0 q11)))
def f_mo_difference (st : GS) : Option (GS) := jc (f_mo_dayOf st 0) (fun q12 => jc (f_mo_dayOf q12.2 1) (fun q13 => jc (f_mo_textOf q13.2 2) (fun q14 => jb ((q14.1 0 27) ≤ 0) (mo_difference_37  q14 q12.1 q13.1 0) (jg (inb 0 256) (jc (f_mo_great (q14.1 13 (0 : Int32).toNatClampNeg)) (fun q16 => mo_difference_37  q14 q12.1 q13.1 q16))))))
set_option maxHeartbeats 4000000 in
set_option maxRecDepth 100000 in
theorem c_mo_difference (l : Launch) (ρ : RH) (ad : Nat → Nat) (H : Heap) (st : GS) (res : GS) (hW : GW ρ wM ad st H) (h : f_mo_difference st = some res) : Met l y165 (wsOf y165 b165 9 none) ({ frames := 5, cells := 0, slots := 0, locals := 109 } : Room) (va_Pc [.ref (ad 0)] (KP ρ H)) (mQ (fun v H1 => v = none ∧ GW ρ wM ad res H1) (MA wM ad H.size)) 0 0 (MA wM ad H.size) := by
  refine m_ofW (own := "WordFunctionsModel") (plainFor_of_name rfl) rfl (Nat.le_of_ble_eq_true rfl) fun p e s m args below meth c ls hx hb hr hlk _ X hs hl => ?_
  subst hs
  have hS : va_S (MA wM ad s.heap.size) s.heap s.heap [] := va_S.rf
  have hl : lv_has ls 9 [(0, .ref (ad 0))] := hl
  have kc366 : ∀ (st : GS) (z1 : UInt64) (H : Heap) (locs : List Loc) (ls : Array Slot), GW ρ wM ad st H → va_S (MA wM ad s.heap.size) s.heap H locs → lv_has ls 9 [] → mo_difference_366 st z1 = some res → W p l e ({ frames := 5, cells := 0, slots := 0, locals := 109 } : Room) s m args below meth c H locs 0 0 (MQ below (mQ (fun v H1 => v = none ∧ GW ρ wM ad res H1) (MA wM ad s.heap.size)) args s 0 0 (MA wM ad s.heap.size)) (F0 m 366 ls [.double z1, .ref (ad 0)]) := by
    intro st z1 H locs ls hW hS hl h
    unfold mo_difference_366 at h
    obtain ⟨q1, hq1, h⟩ := jc_some h
    refine k_callV (pc := 366) (n := 1) X hS (c_mo_answerNumber l ρ ad _ st z1 q1 hW hq1) wd1651 wd1648 wd1650 sl142 wd11 (by decide) ⟨rfl, rfl, by decide, by decide⟩ (m_recv X hW) (As := [.double z1]) (rest := []) rfl rfl hl.1 (Nat.le_of_ble_eq_true rfl) d165_366 ⟨by decide, by decide⟩ (fun q hq => MA.mono hS.1 hq) (fun v H1 locs1 hv _ _ hSq1 => ?_)
    obtain ⟨rfl, hW⟩ := hv
    have hS := hSq1
    obtain rfl := Option.some.inj h
    exact m_vret (pc := 369) hx hb hr hlk hS ⟨rfl, hW⟩ (by decide) (by decide) d165_369
  have kc299 : ∀ (st : GS) (x1 : Int32) (x2 : Int32) (x5 : Int32) (x6 : Int32) (z1 : Int32) (z2 : Int32) (z3 : Int32) (z4 : Int32) (H : Heap) (locs : List Loc) (ls : Array Slot), GW ρ wM ad st H → va_S (MA wM ad s.heap.size) s.heap H locs → lv_has ls 9 [(0, .ref (ad 0)), (1, .int x1), (2, .int x2), (5, .int x5), (6, .int x6)] → mo_difference_299 st x1 x2 x5 x6 z1 z2 z3 z4 = some res → W p l e ({ frames := 5, cells := 0, slots := 0, locals := 109 } : Room) s m args below meth c H locs 0 0 (MQ below (mQ (fun v H1 => v = none ∧ GW ρ wM ad res H1) (MA wM ad s.heap.size)) args s 0 0 (MA wM ad s.heap.size)) (F0 m 299 ls [.int z4, .int z3, .int z2, .int z1, .ref (ad 0)]) := by
    intro st x1 x2 x5 x6 z1 z2 z3 z4 H locs ls hW hS hl h
    unfold mo_difference_299 at h
    obtain ⟨q2, hq2, h⟩ := jc_some h
    refine k_callV (pc := 299) (n := 4) X hS (c_mo_monthsOver l ρ ad _ st z1 z2 z3 z4 q2 hW hq2) wd1952 wd1949 wd1951 sl203 wd11 (by decide) ⟨rfl, rfl, by decide, by decide⟩ (m_recv X hW) (As := [.int z1, .int z2, .int z3, .int z4]) (rest := []) rfl rfl hl.1 (Nat.le_of_ble_eq_true rfl) d165_299 ⟨by decide, by decide⟩ (fun q hq => False.elim hq) (fun v H1 locs1 hv _ _ hSq2 => ?_)
    obtain ⟨rfl, rfl⟩ := hv
    have hS := hSq2
    refine lv_lstore (pc := 302) (lv' := [(7, .long q2), (0, .ref (ad 0)), (1, .int x1), (2, .int x2), (5, .int x5), (6, .int x6)]) hx hb d165_302 hl (by decide) rfl (fun ls hl => ?_)
    refine lv_aload_n (pc := 304) hx hb d165_304 rfl (lv_at hl 1 rfl) ?_
    refine lv_iload (pc := 305) hx hb d165_305 (lv_at hl 4 rfl) ?_
    refine lv_iconst (pc := 307) (v := 1) hx hb d165_307 (by decide) ?_
    refine lv_icmp_ne (pc := 308) (tgt := 320) hx hb d165_308 (by decide) (fun c308 => ?_) (fun c308 => ?_)
    · have h := jb_f c308 h
      refine lv_iload (pc := 320) hx hb d165_320 (lv_at hl 4 rfl) ?_
      refine lv_iconst (pc := 322) (v := 2) hx hb d165_322 (by decide) ?_
      refine lv_icmp_ne (pc := 323) (tgt := 332) hx hb d165_323 (by decide) (fun c323 => ?_) (fun c323 => ?_)
      · have h := jb_f c323 h
        refine lv_iload (pc := 332) hx hb d165_332 (lv_at hl 4 rfl) ?_
        refine lv_iconst (pc := 334) (v := 3) hx hb d165_334 (by decide) ?_
        refine lv_icmp_ne (pc := 335) (tgt := 345) hx hb d165_335 (by decide) (fun c335 => ?_) (fun c335 => ?_)
        · have h := jb_f c335 h
          refine lv_iload (pc := 345) hx hb d165_345 (lv_at hl 4 rfl) ?_
          refine lv_iconst (pc := 347) (v := 4) hx hb d165_347 (by decide) ?_
          refine lv_icmp_ne (pc := 348) (tgt := 360) hx hb d165_348 (by decide) (fun c348 => ?_) (fun c348 => ?_)
          · have h := jb_f c348 h
            refine lv_iload_n (pc := 360) hx hb d165_360 rfl (lv_at hl 3 rfl) ?_
            refine lv_i2l (pc := 361) hx hb d165_361 rfl ?_
            refine lv_lload (pc := 362) hx hb d165_362 (lv_at hl 0 rfl) ?_
            refine lv_lsub (pc := 364) hx hb d165_364 ?_
            refine lv_l2d (pc := 365) hx hb d165_365 ?_
            exact kc366  st (FP.l2d (x2.toInt64 - q2)) _ _ _ hW hS (lv_sub hl [] rfl) h
          · have h := jb_t c348 h
            refine lv_iload (pc := 351) hx hb d165_351 (lv_at hl 5 rfl) ?_
            refine lv_bipush (pc := 353) (v := 12) hx hb d165_353 (by decide) ?_
            refine lv_irem (pc := 355) hx hb d165_355 (by decide) ?_
            refine lv_i2d (pc := 356) hx hb d165_356 ?_
            refine lv_goto (pc := 357) (tgt := 366) hx hb d165_357 (by decide) ?_
            exact kc366  st (FP.i2d (x6 - x6 / 12 * 12)) _ _ _ hW hS (lv_sub hl [] rfl) h
        · have h := jb_t c335 h
          refine lv_iload_n (pc := 338) hx hb d165_338 rfl (lv_at hl 3 rfl) ?_
          refine lv_iload_n (pc := 339) hx hb d165_339 rfl (lv_at hl 2 rfl) ?_
          refine lv_isub (pc := 340) hx hb d165_340 ?_
          refine lv_i2d (pc := 341) hx hb d165_341 ?_
          refine lv_goto (pc := 342) (tgt := 366) hx hb d165_342 (by decide) ?_
          exact kc366  st (FP.i2d (x2 - x1)) _ _ _ hW hS (lv_sub hl [] rfl) h
      · have h := jb_t c323 h
        refine lv_iload (pc := 326) hx hb d165_326 (lv_at hl 5 rfl) ?_
        refine lv_i2d (pc := 328) hx hb d165_328 ?_
        refine lv_goto (pc := 329) (tgt := 366) hx hb d165_329 (by decide) ?_
        exact kc366  st (FP.i2d x6) _ _ _ hW hS (lv_sub hl [] rfl) h
    · have h := jb_t c308 h
      refine lv_iload (pc := 311) hx hb d165_311 (lv_at hl 5 rfl) ?_
      refine lv_bipush (pc := 313) (v := 12) hx hb d165_313 (by decide) ?_
      refine lv_idiv (pc := 315) hx hb d165_315 (by decide) ?_
      refine lv_i2d (pc := 316) hx hb d165_316 ?_
      refine lv_goto (pc := 317) (tgt := 366) hx hb d165_317 (by decide) ?_
      exact kc366  st (FP.i2d (x6 / 12)) _ _ _ hW hS (lv_sub hl [] rfl) h
  have kc237 : ∀ (fu : Nat), ∀ (st : GS) (x1 : Int32) (x2 : Int32) (x5 : Int32) (x6 : Int32) (H : Heap) (locs : List Loc) (ls : Array Slot), GW ρ wM ad st H → va_S (MA wM ad s.heap.size) s.heap H locs → lv_has ls 9 [(0, .ref (ad 0)), (1, .int x1), (2, .int x2), (5, .int x5), (6, .int x6)] → mo_difference_237 fu st x1 x2 x5 x6 = some res → W p l e ({ frames := 5, cells := 0, slots := 0, locals := 109 } : Room) s m args below meth c H locs 0 0 (MQ below (mQ (fun v H1 => v = none ∧ GW ρ wM ad res H1) (MA wM ad s.heap.size)) args s 0 0 (MA wM ad s.heap.size)) (F0 m 237 ls []) := by
    intro  fu
    induction fu with
    | zero => intro st x1 x2 x5 x6 H locs ls hW hS hl h; cases h
    | succ fu hK237 =>
      intro st x1 x2 x5 x6 H locs ls hW hS hl h
      unfold mo_difference_237 at h
      refine lv_aload_n (pc := 237) hx hb d165_237 rfl (lv_at hl 0 rfl) ?_
      refine lv_aload_n (pc := 238) hx hb d165_238 rfl (lv_at hl 0 rfl) ?_
      refine m_get (pc := 239) X hW 42 (v := .int (st.1 0 42)) wd1408 rfl rfl d165_239 ?_
      refine lv_aload_n (pc := 242) hx hb d165_242 rfl (lv_at hl 0 rfl) ?_
      refine m_get (pc := 243) X hW 43 (v := .int (st.1 0 43)) wd1409 rfl rfl d165_243 ?_
      refine lv_aload_n (pc := 246) hx hb d165_246 rfl (lv_at hl 0 rfl) ?_
      refine m_get (pc := 247) X hW 44 (v := .int (st.1 0 44)) wd1410 rfl rfl d165_247 ?_
      refine lv_iload (pc := 250) hx hb d165_250 (lv_at hl 4 rfl) ?_
      obtain ⟨q3, hq3, h⟩ := jc_some h
      refine k_callV (pc := 252) (n := 4) X hS (c_mo_monthsOver l ρ ad _ st (st.1 0 42) (st.1 0 43) (st.1 0 44) x6 q3 hW hq3) wd1952 wd1949 wd1951 sl203 wd11 (by decide) ⟨rfl, rfl, by decide, by decide⟩ (m_recv X hW) (As := [.int (st.1 0 42), .int (st.1 0 43), .int (st.1 0 44), .int x6]) (rest := []) rfl rfl hl.1 (Nat.le_of_ble_eq_true rfl) d165_252 ⟨by decide, by decide⟩ (fun q hq => False.elim hq) (fun v H1 locs1 hv _ _ hSq3 => ?_)
      obtain ⟨rfl, rfl⟩ := hv
      have hS := hSq3
      refine lv_iload_n (pc := 255) hx hb d165_255 rfl (lv_at hl 2 rfl) ?_
      refine lv_i2l (pc := 256) hx hb d165_256 rfl ?_
      refine W.lcmp (pc := 257) hx hb d165_257 ?_
      refine lv_if_le (pc := 258) (tgt := 267) hx hb d165_258 (by decide) (fun c258 => ?_) (fun c258 => ?_)
      · have h := jb_t c258 h
        refine lv_aload_n (pc := 267) hx hb d165_267 rfl (lv_at hl 0 rfl) ?_
        refine lv_aload_n (pc := 268) hx hb d165_268 rfl (lv_at hl 0 rfl) ?_
        refine m_get (pc := 269) X hW 42 (v := .int (st.1 0 42)) wd1408 rfl rfl d165_269 ?_
        refine lv_aload_n (pc := 272) hx hb d165_272 rfl (lv_at hl 0 rfl) ?_
        refine m_get (pc := 273) X hW 43 (v := .int (st.1 0 43)) wd1409 rfl rfl d165_273 ?_
        refine lv_aload_n (pc := 276) hx hb d165_276 rfl (lv_at hl 0 rfl) ?_
        refine m_get (pc := 277) X hW 44 (v := .int (st.1 0 44)) wd1410 rfl rfl d165_277 ?_
        refine lv_iload (pc := 280) hx hb d165_280 (lv_at hl 3 rfl) ?_
        refine lv_iconst (pc := 282) (v := 5) hx hb d165_282 (by decide) ?_
        refine lv_icmp_ne (pc := 283) (tgt := 291) hx hb d165_283 (by decide) (fun c283 => ?_) (fun c283 => ?_)
        · have h := jb_f c283 h
          refine lv_iload (pc := 291) hx hb d165_291 (lv_at hl 4 rfl) ?_
          refine lv_bipush (pc := 293) (v := 12) hx hb d165_293 (by decide) ?_
          refine lv_idiv (pc := 295) hx hb d165_295 (by decide) ?_
          refine lv_bipush (pc := 296) (v := 12) hx hb d165_296 (by decide) ?_
          refine lv_imul (pc := 298) hx hb d165_298 ?_
          exact kc299  st x1 x2 x5 x6 (st.1 0 42) (st.1 0 43) (st.1 0 44) ((x6 / 12) * 12) _ _ _ hW hS (lv_sub hl [0, 1, 2, 3, 4] rfl) h
        · have h := jb_t c283 h
          refine lv_iload (pc := 286) hx hb d165_286 (lv_at hl 4 rfl) ?_
          refine lv_goto (pc := 288) (tgt := 299) hx hb d165_288 (by decide) ?_
          exact kc299  st x1 x2 x5 x6 (st.1 0 42) (st.1 0 43) (st.1 0 44) x6 _ _ _ hW hS (lv_sub hl [0, 1, 2, 3, 4] rfl) h
      · have h := jb_f c258 h
        obtain ⟨v4, ev4, h⟩ := jn_ex h
        refine lv_iinc (pc := 261) (v := v4) (lv' := [(6, .int v4), (0, .ref (ad 0)), (1, .int x1), (2, .int x2), (5, .int x5)]) hx hb d165_261 hl (k := 4) rfl (by rw [ev4]; rfl) (by decide) rfl (fun ls hl => ?_)
        refine lv_goto (pc := 264) (tgt := 237) hx hb d165_264 (by decide) ?_
        exact hK237 st x1 x2 x5 v4 _ _ _ hW hS (lv_sub hl [1, 2, 3, 4, 0] rfl) h
  have kc186 : ∀ (st : GS) (x1 : Int32) (x2 : Int32) (x5 : Int32) (H : Heap) (locs : List Loc) (ls : Array Slot), GW ρ wM ad st H → va_S (MA wM ad s.heap.size) s.heap H locs → lv_has ls 9 [(0, .ref (ad 0)), (1, .int x1), (2, .int x2), (5, .int x5)] → mo_difference_186 st x1 x2 x5 = some res → W p l e ({ frames := 5, cells := 0, slots := 0, locals := 109 } : Room) s m args below meth c H locs 0 0 (MQ below (mQ (fun v H1 => v = none ∧ GW ρ wM ad res H1) (MA wM ad s.heap.size)) args s 0 0 (MA wM ad s.heap.size)) (F0 m 186 ls []) := by
    intro st x1 x2 x5 H locs ls hW hS hl h
    unfold mo_difference_186 at h
    refine lv_aload_n (pc := 186) hx hb d165_186 rfl (lv_at hl 0 rfl) ?_
    refine m_get (pc := 187) X hW 22 (v := .int (st.1 0 22)) wd1388 rfl rfl d165_187 ?_
    refine lv_if_eq (pc := 190) (tgt := 194) hx hb d165_190 (by decide) (fun c190 => ?_) (fun c190 => ?_)
    · have h := jb_t c190 h
      refine lv_aload_n (pc := 194) hx hb d165_194 rfl (lv_at hl 0 rfl) ?_
      refine lv_iload_n (pc := 195) hx hb d165_195 rfl (lv_at hl 2 rfl) ?_
      obtain ⟨q5, hq5, h⟩ := jc_some h
      refine k_callV (pc := 196) (n := 1) X hS (c_mo_dateOf l ρ ad _ st x2 q5 hW hq5) wd1927 wd1924 wd1926 sl158 wd11 (by decide) ⟨rfl, rfl, by decide, by decide⟩ (m_recv X hW) (As := [.int x2]) (rest := []) rfl rfl hl.1 (Nat.le_of_ble_eq_true rfl) d165_196 ⟨by decide, by decide⟩ (fun q hq => MA.mono hS.1 hq) (fun v H1 locs1 hv _ _ hSq5 => ?_)
      obtain ⟨rfl, hW⟩ := hv
      have hS := hSq5
      refine lv_bipush (pc := 199) (v := 12) hx hb d165_199 (by decide) ?_
      refine lv_aload_n (pc := 201) hx hb d165_201 rfl (lv_at hl 0 rfl) ?_
      refine m_get (pc := 202) X hW 42 (v := .int (q5.1 0 42)) wd1408 rfl rfl d165_202 ?_
      refine lv_imul (pc := 205) hx hb d165_205 ?_
      refine lv_aload_n (pc := 206) hx hb d165_206 rfl (lv_at hl 0 rfl) ?_
      refine m_get (pc := 207) X hW 43 (v := .int (q5.1 0 43)) wd1409 rfl rfl d165_207 ?_
      refine lv_iadd (pc := 210) hx hb d165_210 ?_
      obtain ⟨v6, ev6, h⟩ := jn_ex h
      refine nm_i ev6 ?_
      refine lv_istore (pc := 211) (lv' := [(6, .int v6), (0, .ref (ad 0)), (1, .int x1), (2, .int x2), (5, .int x5)]) hx hb d165_211 hl (by decide) rfl (fun ls hl => ?_)
      refine lv_aload_n (pc := 213) hx hb d165_213 rfl (lv_at hl 1 rfl) ?_
      refine lv_iload_n (pc := 214) hx hb d165_214 rfl (lv_at hl 2 rfl) ?_
      obtain ⟨q7, hq7, h⟩ := jc_some h
      refine k_callV (pc := 215) (n := 1) X hS (c_mo_dateOf l ρ ad _ q5 x1 q7 hW hq7) wd1927 wd1924 wd1926 sl158 wd11 (by decide) ⟨rfl, rfl, by decide, by decide⟩ (m_recv X hW) (As := [.int x1]) (rest := []) rfl rfl hl.1 (Nat.le_of_ble_eq_true rfl) d165_215 ⟨by decide, by decide⟩ (fun q hq => MA.mono hS.1 hq) (fun v H1 locs1 hv _ _ hSq7 => ?_)
      obtain ⟨rfl, hW⟩ := hv
      have hS := hSq7
      refine lv_iload (pc := 218) hx hb d165_218 (lv_at hl 0 rfl) ?_
      refine lv_bipush (pc := 220) (v := 12) hx hb d165_220 (by decide) ?_
      refine lv_aload_n (pc := 222) hx hb d165_222 rfl (lv_at hl 1 rfl) ?_
      refine m_get (pc := 223) X hW 42 (v := .int (q7.1 0 42)) wd1408 rfl rfl d165_223 ?_
      refine lv_imul (pc := 226) hx hb d165_226 ?_
      refine lv_isub (pc := 227) hx hb d165_227 ?_
      refine lv_aload_n (pc := 228) hx hb d165_228 rfl (lv_at hl 1 rfl) ?_
      refine m_get (pc := 229) X hW 43 (v := .int (q7.1 0 43)) wd1409 rfl rfl d165_229 ?_
      refine lv_isub (pc := 232) hx hb d165_232 ?_
      refine lv_iconst (pc := 233) (v := 1) hx hb d165_233 (by decide) ?_
      refine lv_iadd (pc := 234) hx hb d165_234 ?_
      obtain ⟨v8, ev8, h⟩ := jn_ex h
      refine nm_i ev8 ?_
      refine lv_istore (pc := 235) (lv' := [(6, .int v8), (0, .ref (ad 0)), (1, .int x1), (2, .int x2), (5, .int x5)]) hx hb d165_235 hl (by decide) rfl (fun ls hl => ?_)
      exact kc237  FU q7 x1 x2 x5 v8 _ _ _ hW hS (lv_sub hl [1, 2, 3, 4, 0] rfl) h
    · have h := jb_f c190 h
      obtain rfl := Option.some.inj h
      exact m_vret (pc := 193) hx hb hr hlk hS ⟨rfl, hW⟩ (by decide) (by decide) d165_193
  have kc180 : ∀ (st : GS) (x1 : Int32) (x2 : Int32) (x5 : Int32) (H : Heap) (locs : List Loc) (ls : Array Slot), GW ρ wM ad st H → va_S (MA wM ad s.heap.size) s.heap H locs → lv_has ls 9 [(0, .ref (ad 0)), (1, .int x1), (2, .int x2), (5, .int x5)] → mo_difference_180 st x1 x2 x5 = some res → W p l e ({ frames := 5, cells := 0, slots := 0, locals := 109 } : Room) s m args below meth c H locs 0 0 (MQ below (mQ (fun v H1 => v = none ∧ GW ρ wM ad res H1) (MA wM ad s.heap.size)) args s 0 0 (MA wM ad s.heap.size)) (F0 m 180 ls []) := by
    intro st x1 x2 x5 H locs ls hW hS hl h
    unfold mo_difference_180 at h
    refine lv_aload_n (pc := 180) hx hb d165_180 rfl (lv_at hl 0 rfl) ?_
    refine lv_bipush (pc := 181) (v := 6) hx hb d165_181 (by decide) ?_
    obtain ⟨q9, hq9, h⟩ := jc_some h
    refine k_callV (pc := 183) (n := 1) X hS (c_mo_fail l ρ ad _ st 6 q9 hW hq9) wd1621 wd1618 wd1620 sl170 wd11 (by decide) ⟨rfl, rfl, by decide, by decide⟩ (m_recv X hW) (As := [.int 6]) (rest := []) rfl rfl hl.1 (Nat.le_of_ble_eq_true rfl) d165_183 ⟨by decide, by decide⟩ (fun q hq => MA.mono hS.1 hq) (fun v H1 locs1 hv _ _ hSq9 => ?_)
    obtain ⟨rfl, hW⟩ := hv
    have hS := hSq9
    exact kc186  q9 x1 x2 x5 _ _ _ hW hS (lv_sub hl [0, 1, 2, 3] rfl) h
  have kc168 : ∀ (st : GS) (x1 : Int32) (x2 : Int32) (z0 : Int32) (H : Heap) (locs : List Loc) (ls : Array Slot), GW ρ wM ad st H → va_S (MA wM ad s.heap.size) s.heap H locs → lv_has ls 9 [(0, .ref (ad 0)), (1, .int x1), (2, .int x2)] → mo_difference_168 st x1 x2 z0 = some res → W p l e ({ frames := 5, cells := 0, slots := 0, locals := 109 } : Room) s m args below meth c H locs 0 0 (MQ below (mQ (fun v H1 => v = none ∧ GW ρ wM ad res H1) (MA wM ad s.heap.size)) args s 0 0 (MA wM ad s.heap.size)) (F0 m 168 ls [.int z0]) := by
    intro st x1 x2 z0 H locs ls hW hS hl h
    unfold mo_difference_168 at h
    refine lv_istore (pc := 168) (lv' := [(5, .int z0), (0, .ref (ad 0)), (1, .int x1), (2, .int x2)]) hx hb d165_168 hl (by decide) rfl (fun ls hl => ?_)
    refine lv_iload_n (pc := 170) hx hb d165_170 rfl (lv_at hl 2 rfl) ?_
    refine lv_iload_n (pc := 171) hx hb d165_171 rfl (lv_at hl 3 rfl) ?_
    refine lv_icmp_gt (pc := 172) (tgt := 180) hx hb d165_172 (by decide) (fun c172 => ?_) (fun c172 => ?_)
    · have h := jb_t c172 h
      exact kc180  st x1 x2 z0 _ _ _ hW hS (lv_sub hl [1, 2, 3, 0] rfl) h
    · have h := jb_f c172 h
      refine lv_iload (pc := 175) hx hb d165_175 (lv_at hl 0 rfl) ?_
      refine lv_if_ne (pc := 177) (tgt := 186) hx hb d165_177 (by decide) (fun c177 => ?_) (fun c177 => ?_)
      · have h := jb_f c177 h
        exact kc186  st x1 x2 z0 _ _ _ hW hS (lv_sub hl [1, 2, 3, 0] rfl) h
      · have h := jb_t c177 h
        exact kc180  st x1 x2 z0 _ _ _ hW hS (lv_sub hl [1, 2, 3, 0] rfl) h
  have kc163 : ∀ (st : GS) (x1 : Int32) (x2 : Int32) (H : Heap) (locs : List Loc) (ls : Array Slot), GW ρ wM ad st H → va_S (MA wM ad s.heap.size) s.heap H locs → lv_has ls 9 [(0, .ref (ad 0)), (1, .int x1), (2, .int x2)] → mo_difference_163 st x1 x2 = some res → W p l e ({ frames := 5, cells := 0, slots := 0, locals := 109 } : Room) s m args below meth c H locs 0 0 (MQ below (mQ (fun v H1 => v = none ∧ GW ρ wM ad res H1) (MA wM ad s.heap.size)) args s 0 0 (MA wM ad s.heap.size)) (F0 m 163 ls []) := by
    intro st x1 x2 H locs ls hW hS hl h
    unfold mo_difference_163 at h
    refine lv_iconst (pc := 163) (v := 0) hx hb d165_163 (by decide) ?_
    refine lv_goto (pc := 164) (tgt := 168) hx hb d165_164 (by decide) ?_
    exact kc168  st x1 x2 0 _ _ _ hW hS (lv_sub hl [0, 1, 2] rfl) h
  have kc145 : ∀ (st : GS) (x1 : Int32) (x2 : Int32) (x3 : Int32) (x4 : Int32) (H : Heap) (locs : List Loc) (ls : Array Slot), GW ρ wM ad st H → va_S (MA wM ad s.heap.size) s.heap H locs → lv_has ls 9 [(0, .ref (ad 0)), (1, .int x1), (2, .int x2), (3, .int x3), (4, .int x4)] → mo_difference_145 st x1 x2 x3 x4 = some res → W p l e ({ frames := 5, cells := 0, slots := 0, locals := 109 } : Room) s m args below meth c H locs 0 0 (MQ below (mQ (fun v H1 => v = none ∧ GW ρ wM ad res H1) (MA wM ad s.heap.size)) args s 0 0 (MA wM ad s.heap.size)) (F0 m 145 ls []) := by
    intro st x1 x2 x3 x4 H locs ls hW hS hl h
    unfold mo_difference_145 at h
    refine lv_iload_n (pc := 145) hx hb d165_145 rfl (lv_at hl 3 rfl) ?_
    refine lv_bipush (pc := 146) (v := 89) hx hb d165_146 (by decide) ?_
    refine lv_icmp_ne (pc := 148) (tgt := 163) hx hb d165_148 (by decide) (fun c148 => ?_) (fun c148 => ?_)
    · have h := jb_f c148 h
      exact kc163  st x1 x2 _ _ _ hW hS (lv_sub hl [0, 1, 2] rfl) h
    · have h := jb_t c148 h
      refine lv_iload (pc := 151) hx hb d165_151 (lv_at hl 4 rfl) ?_
      refine lv_bipush (pc := 153) (v := 68) hx hb d165_153 (by decide) ?_
      refine lv_icmp_ne (pc := 155) (tgt := 163) hx hb d165_155 (by decide) (fun c155 => ?_) (fun c155 => ?_)
      · have h := jb_f c155 h
        exact kc163  st x1 x2 _ _ _ hW hS (lv_sub hl [0, 1, 2] rfl) h
      · have h := jb_t c155 h
        refine lv_bipush (pc := 158) (v := 6) hx hb d165_158 (by decide) ?_
        refine lv_goto (pc := 160) (tgt := 168) hx hb d165_160 (by decide) ?_
        exact kc168  st x1 x2 6 _ _ _ hW hS (lv_sub hl [0, 1, 2] rfl) h
  have kc128 : ∀ (st : GS) (x1 : Int32) (x2 : Int32) (x3 : Int32) (x4 : Int32) (H : Heap) (locs : List Loc) (ls : Array Slot), GW ρ wM ad st H → va_S (MA wM ad s.heap.size) s.heap H locs → lv_has ls 9 [(0, .ref (ad 0)), (1, .int x1), (2, .int x2), (3, .int x3), (4, .int x4)] → mo_difference_128 st x1 x2 x3 x4 = some res → W p l e ({ frames := 5, cells := 0, slots := 0, locals := 109 } : Room) s m args below meth c H locs 0 0 (MQ below (mQ (fun v H1 => v = none ∧ GW ρ wM ad res H1) (MA wM ad s.heap.size)) args s 0 0 (MA wM ad s.heap.size)) (F0 m 128 ls []) := by
    intro st x1 x2 x3 x4 H locs ls hW hS hl h
    unfold mo_difference_128 at h
    refine lv_iload_n (pc := 128) hx hb d165_128 rfl (lv_at hl 3 rfl) ?_
    refine lv_bipush (pc := 129) (v := 77) hx hb d165_129 (by decide) ?_
    refine lv_icmp_ne (pc := 131) (tgt := 145) hx hb d165_131 (by decide) (fun c131 => ?_) (fun c131 => ?_)
    · have h := jb_f c131 h
      exact kc145  st x1 x2 x3 x4 _ _ _ hW hS (lv_sub hl [0, 1, 2, 3, 4] rfl) h
    · have h := jb_t c131 h
      refine lv_iload (pc := 134) hx hb d165_134 (lv_at hl 4 rfl) ?_
      refine lv_bipush (pc := 136) (v := 68) hx hb d165_136 (by decide) ?_
      refine lv_icmp_ne (pc := 138) (tgt := 145) hx hb d165_138 (by decide) (fun c138 => ?_) (fun c138 => ?_)
      · have h := jb_f c138 h
        exact kc145  st x1 x2 x3 x4 _ _ _ hW hS (lv_sub hl [0, 1, 2, 3, 4] rfl) h
      · have h := jb_t c138 h
        refine lv_iconst (pc := 141) (v := 5) hx hb d165_141 (by decide) ?_
        refine lv_goto (pc := 142) (tgt := 168) hx hb d165_142 (by decide) ?_
        exact kc168  st x1 x2 5 _ _ _ hW hS (lv_sub hl [0, 1, 2] rfl) h
  have kc59 : ∀ (st : GS) (x1 : Int32) (x2 : Int32) (x3 : Int32) (z0 : Int32) (H : Heap) (locs : List Loc) (ls : Array Slot), GW ρ wM ad st H → va_S (MA wM ad s.heap.size) s.heap H locs → lv_has ls 9 [(0, .ref (ad 0)), (1, .int x1), (2, .int x2), (3, .int x3)] → mo_difference_59 st x1 x2 x3 z0 = some res → W p l e ({ frames := 5, cells := 0, slots := 0, locals := 109 } : Room) s m args below meth c H locs 0 0 (MQ below (mQ (fun v H1 => v = none ∧ GW ρ wM ad res H1) (MA wM ad s.heap.size)) args s 0 0 (MA wM ad s.heap.size)) (F0 m 59 ls [.int z0]) := by
    intro st x1 x2 x3 z0 H locs ls hW hS hl h
    unfold mo_difference_59 at h
    refine lv_istore (pc := 59) (lv' := [(4, .int z0), (0, .ref (ad 0)), (1, .int x1), (2, .int x2), (3, .int x3)]) hx hb d165_59 hl (by decide) rfl (fun ls hl => ?_)
    refine lv_aload_n (pc := 61) hx hb d165_61 rfl (lv_at hl 1 rfl) ?_
    refine m_get (pc := 62) X hW 27 (v := .int (st.1 0 27)) wd1393 rfl rfl d165_62 ?_
    refine lv_iconst (pc := 65) (v := 1) hx hb d165_65 (by decide) ?_
    refine lv_icmp_ne (pc := 66) (tgt := 103) hx hb d165_66 (by decide) (fun c66 => ?_) (fun c66 => ?_)
    · have h := jb_f c66 h
      refine lv_aload_n (pc := 103) hx hb d165_103 rfl (lv_at hl 1 rfl) ?_
      refine m_get (pc := 104) X hW 27 (v := .int (st.1 0 27)) wd1393 rfl rfl d165_104 ?_
      refine lv_iconst (pc := 107) (v := 2) hx hb d165_107 (by decide) ?_
      refine lv_icmp_ne (pc := 108) (tgt := 167) hx hb d165_108 (by decide) (fun c108 => ?_) (fun c108 => ?_)
      · have h := jb_f c108 h
        refine lv_iconst (pc := 167) (v := 0) hx hb d165_167 (by decide) ?_
        exact kc168  st x1 x2 0 _ _ _ hW hS (lv_sub hl [1, 2, 3] rfl) h
      · have h := jb_t c108 h
        refine lv_iload_n (pc := 111) hx hb d165_111 rfl (lv_at hl 4 rfl) ?_
        refine lv_bipush (pc := 112) (v := 89) hx hb d165_112 (by decide) ?_
        refine lv_icmp_ne (pc := 114) (tgt := 128) hx hb d165_114 (by decide) (fun c114 => ?_) (fun c114 => ?_)
        · have h := jb_f c114 h
          exact kc128  st x1 x2 x3 z0 _ _ _ hW hS (lv_sub hl [1, 2, 3, 4, 0] rfl) h
        · have h := jb_t c114 h
          refine lv_iload (pc := 117) hx hb d165_117 (lv_at hl 0 rfl) ?_
          refine lv_bipush (pc := 119) (v := 77) hx hb d165_119 (by decide) ?_
          refine lv_icmp_ne (pc := 121) (tgt := 128) hx hb d165_121 (by decide) (fun c121 => ?_) (fun c121 => ?_)
          · have h := jb_f c121 h
            exact kc128  st x1 x2 x3 z0 _ _ _ hW hS (lv_sub hl [1, 2, 3, 4, 0] rfl) h
          · have h := jb_t c121 h
            refine lv_iconst (pc := 124) (v := 4) hx hb d165_124 (by decide) ?_
            refine lv_goto (pc := 125) (tgt := 168) hx hb d165_125 (by decide) ?_
            exact kc168  st x1 x2 4 _ _ _ hW hS (lv_sub hl [1, 2, 3] rfl) h
    · have h := jb_t c66 h
      refine lv_iload_n (pc := 69) hx hb d165_69 rfl (lv_at hl 4 rfl) ?_
      refine lv_bipush (pc := 70) (v := 89) hx hb d165_70 (by decide) ?_
      refine lv_icmp_ne (pc := 72) (tgt := 79) hx hb d165_72 (by decide) (fun c72 => ?_) (fun c72 => ?_)
      · have h := jb_f c72 h
        refine lv_iload_n (pc := 79) hx hb d165_79 rfl (lv_at hl 4 rfl) ?_
        refine lv_bipush (pc := 80) (v := 77) hx hb d165_80 (by decide) ?_
        refine lv_icmp_ne (pc := 82) (tgt := 89) hx hb d165_82 (by decide) (fun c82 => ?_) (fun c82 => ?_)
        · have h := jb_f c82 h
          refine lv_iload_n (pc := 89) hx hb d165_89 rfl (lv_at hl 4 rfl) ?_
          refine lv_bipush (pc := 90) (v := 68) hx hb d165_90 (by decide) ?_
          refine lv_icmp_ne (pc := 92) (tgt := 99) hx hb d165_92 (by decide) (fun c92 => ?_) (fun c92 => ?_)
          · have h := jb_f c92 h
            refine lv_iconst (pc := 99) (v := 0) hx hb d165_99 (by decide) ?_
            refine lv_goto (pc := 100) (tgt := 168) hx hb d165_100 (by decide) ?_
            exact kc168  st x1 x2 0 _ _ _ hW hS (lv_sub hl [1, 2, 3] rfl) h
          · have h := jb_t c92 h
            refine lv_iconst (pc := 95) (v := 3) hx hb d165_95 (by decide) ?_
            refine lv_goto (pc := 96) (tgt := 168) hx hb d165_96 (by decide) ?_
            exact kc168  st x1 x2 3 _ _ _ hW hS (lv_sub hl [1, 2, 3] rfl) h
        · have h := jb_t c82 h
          refine lv_iconst (pc := 85) (v := 2) hx hb d165_85 (by decide) ?_
          refine lv_goto (pc := 86) (tgt := 168) hx hb d165_86 (by decide) ?_
          exact kc168  st x1 x2 2 _ _ _ hW hS (lv_sub hl [1, 2, 3] rfl) h
      · have h := jb_t c72 h
        refine lv_iconst (pc := 75) (v := 1) hx hb d165_75 (by decide) ?_
        refine lv_goto (pc := 76) (tgt := 168) hx hb d165_76 (by decide) ?_
        exact kc168  st x1 x2 1 _ _ _ hW hS (lv_sub hl [1, 2, 3] rfl) h
  have kc37 : ∀ (st : GS) (x1 : Int32) (x2 : Int32) (z0 : Int32) (H : Heap) (locs : List Loc) (ls : Array Slot), GW ρ wM ad st H → va_S (MA wM ad s.heap.size) s.heap H locs → lv_has ls 9 [(0, .ref (ad 0)), (1, .int x1), (2, .int x2)] → mo_difference_37 st x1 x2 z0 = some res → W p l e ({ frames := 5, cells := 0, slots := 0, locals := 109 } : Room) s m args below meth c H locs 0 0 (MQ below (mQ (fun v H1 => v = none ∧ GW ρ wM ad res H1) (MA wM ad s.heap.size)) args s 0 0 (MA wM ad s.heap.size)) (F0 m 37 ls [.int z0]) := by
    intro st x1 x2 z0 H locs ls hW hS hl h
    unfold mo_difference_37 at h
    refine lv_istore_n (pc := 37) (lv' := [(3, .int z0), (0, .ref (ad 0)), (1, .int x1), (2, .int x2)]) hx hb d165_37 rfl hl (by decide) rfl (fun ls hl => ?_)
    refine lv_aload_n (pc := 38) hx hb d165_38 rfl (lv_at hl 1 rfl) ?_
    refine m_get (pc := 39) X hW 27 (v := .int (st.1 0 27)) wd1393 rfl rfl d165_39 ?_
    refine lv_iconst (pc := 42) (v := 1) hx hb d165_42 (by decide) ?_
    refine lv_icmp_le (pc := 43) (tgt := 58) hx hb d165_43 (by decide) (fun c43 => ?_) (fun c43 => ?_)
    · have h := jb_t c43 h
      refine lv_iconst (pc := 58) (v := 0) hx hb d165_58 (by decide) ?_
      exact kc59  st x1 x2 z0 0 _ _ _ hW hS (lv_sub hl [1, 2, 3, 0] rfl) h
    · have h := jb_f c43 h
      refine lv_aload_n (pc := 46) hx hb d165_46 rfl (lv_at hl 1 rfl) ?_
      refine m_get (pc := 47) X hW 23 (v := .ref (ad 13)) wd1389 rfl rfl d165_47 ?_
      refine lv_iconst (pc := 50) (v := 1) hx hb d165_50 (by decide) ?_
      obtain ⟨g10, h⟩ := jg_some h
      refine r_iald (pc := 51) X hW 13 (by decide) rfl (inb_in g10) d165_51 ?_
      obtain ⟨q11, hq11, h⟩ := jc_some h
      refine k_callS (pc := 52) (n := 1) X hS (c_mo_great l ρ _ (st.1 13 (1 : Int32).toNatClampNeg) q11 hq11) wd1729 wd1727 wd1728 wd11 (by decide) ⟨rfl, rfl, by decide, by decide⟩ (As := [.int (st.1 13 (1 : Int32).toNatClampNeg)]) (rest := []) rfl rfl hl.1 (Nat.le_of_ble_eq_true rfl) d165_52 ⟨by decide, by decide⟩ (fun q hq => False.elim hq) (fun v H1 locs1 hv _ _ hSq11 => ?_)
      obtain ⟨rfl, rfl⟩ := hv
      have hS := hSq11
      refine lv_goto (pc := 55) (tgt := 59) hx hb d165_55 (by decide) ?_
      exact kc59  st x1 x2 z0 q11 _ _ _ hW hS (lv_sub hl [1, 2, 3, 0] rfl) h
  unfold f_mo_difference at h
  refine lv_aload_n (pc := 0) hx hb d165_0 rfl (lv_at hl 0 rfl) ?_
  refine lv_iconst (pc := 1) (v := 0) hx hb d165_1 (by decide) ?_
  obtain ⟨q12, hq12, h⟩ := jc_some h
  refine k_callV (pc := 2) (n := 1) X hS (c_mo_dayOf l ρ ad _ st 0 q12 hW hq12) wd1915 wd1912 wd1914 sl161 wd11 (by decide) ⟨rfl, rfl, by decide, by decide⟩ (m_recv X hW) (As := [.int 0]) (rest := []) rfl rfl hl.1 (Nat.le_of_ble_eq_true rfl) d165_2 ⟨by decide, by decide⟩ (fun q hq => MA.mono hS.1 hq) (fun v H1 locs1 hv _ _ hSq12 => ?_)
  obtain ⟨rfl, hW⟩ := hv
  have hS := hSq12
  refine lv_istore_n (pc := 5) (lv' := [(1, .int q12.1), (0, .ref (ad 0))]) hx hb d165_5 rfl hl (by decide) rfl (fun ls hl => ?_)
  refine lv_aload_n (pc := 6) hx hb d165_6 rfl (lv_at hl 1 rfl) ?_
  refine lv_iconst (pc := 7) (v := 1) hx hb d165_7 (by decide) ?_
  obtain ⟨q13, hq13, h⟩ := jc_some h
  refine k_callV (pc := 8) (n := 1) X hS (c_mo_dayOf l ρ ad _ q12.2 1 q13 hW hq13) wd1915 wd1912 wd1914 sl161 wd11 (by decide) ⟨rfl, rfl, by decide, by decide⟩ (m_recv X hW) (As := [.int 1]) (rest := []) rfl rfl hl.1 (Nat.le_of_ble_eq_true rfl) d165_8 ⟨by decide, by decide⟩ (fun q hq => MA.mono hS.1 hq) (fun v H1 locs1 hv _ _ hSq13 => ?_)
  obtain ⟨rfl, hW⟩ := hv
  have hS := hSq13
  refine lv_istore_n (pc := 11) (lv' := [(2, .int q13.1), (1, .int q12.1), (0, .ref (ad 0))]) hx hb d165_11 rfl hl (by decide) rfl (fun ls hl => ?_)
  refine lv_aload_n (pc := 12) hx hb d165_12 rfl (lv_at hl 2 rfl) ?_
  refine lv_iconst (pc := 13) (v := 2) hx hb d165_13 (by decide) ?_
  obtain ⟨q14, hq14, h⟩ := jc_some h
  refine k_callV (pc := 14) (n := 1) X hS (c_mo_textOf l ρ ad _ q13.2 2 q14 hW hq14) wd1597 wd1594 wd1596 sl226 wd11 (by decide) ⟨rfl, rfl, by decide, by decide⟩ (m_recv X hW) (As := [.int 2]) (rest := []) rfl rfl hl.1 (Nat.le_of_ble_eq_true rfl) d165_14 ⟨by decide, by decide⟩ (fun q hq => MA.mono hS.1 hq) (fun v H1 locs1 hv _ _ hSq14 => ?_)
  obtain ⟨rfl, hW⟩ := hv
  have hS := hSq14
  refine lv_aload_n (pc := 17) hx hb d165_17 rfl (lv_at hl 2 rfl) ?_
  refine m_get (pc := 18) X hW 27 (v := .int (q14.1 0 27)) wd1393 rfl rfl d165_18 ?_
  refine lv_if_le (pc := 21) (tgt := 36) hx hb d165_21 (by decide) (fun c21 => ?_) (fun c21 => ?_)
  · have h := jb_t c21 h
    refine lv_iconst (pc := 36) (v := 0) hx hb d165_36 (by decide) ?_
    exact kc37  q14 q12.1 q13.1 0 _ _ _ hW hS (lv_sub hl [2, 1, 0] rfl) h
  · have h := jb_f c21 h
    refine lv_aload_n (pc := 24) hx hb d165_24 rfl (lv_at hl 2 rfl) ?_
    refine m_get (pc := 25) X hW 23 (v := .ref (ad 13)) wd1389 rfl rfl d165_25 ?_
    refine lv_iconst (pc := 28) (v := 0) hx hb d165_28 (by decide) ?_
    obtain ⟨g15, h⟩ := jg_some h
    refine r_iald (pc := 29) X hW 13 (by decide) rfl (inb_in g15) d165_29 ?_
    obtain ⟨q16, hq16, h⟩ := jc_some h
    refine k_callS (pc := 30) (n := 1) X hS (c_mo_great l ρ _ (q14.1 13 (0 : Int32).toNatClampNeg) q16 hq16) wd1729 wd1727 wd1728 wd11 (by decide) ⟨rfl, rfl, by decide, by decide⟩ (As := [.int (q14.1 13 (0 : Int32).toNatClampNeg)]) (rest := []) rfl rfl hl.1 (Nat.le_of_ble_eq_true rfl) d165_30 ⟨by decide, by decide⟩ (fun q hq => False.elim hq) (fun v H1 locs1 hv _ _ hSq16 => ?_)
    obtain ⟨rfl, rfl⟩ := hv
    have hS := hSq16
    refine lv_goto (pc := 33) (tgt := 37) hx hb d165_33 (by decide) ?_
    exact kc37  q14 q12.1 q13.1 q16 _ _ _ hW hS (lv_sub hl [2, 1, 0] rfl) h
def mo_isWork_105 (K20 : GS → Int32 → Int32 → Int32 → Int32 → Option (Int32)) (st : GS) (x1 : Int32) (x2 : Int32) (x4 : Int32) (z0 : Int32) : Option (Int32) := jn (x4 + 1) (fun v1 => K20 st x1 x2 z0 v1)
def mo_isWork_100 (K20 : GS → Int32 → Int32 → Int32 → Int32 → Option (Int32)) (st : GS) (x1 : Int32) (x2 : Int32) (x4 : Int32) : Option (Int32) := mo_isWork_105 K20  st x1 x2 x4 1
def mo_isWork_71 (K20 : GS → Int32 → Int32 → Int32 → Int32 → Option (Int32)) (st : GS) (x1 : Int32) (x2 : Int32) (x4 : Int32) (z0 : Int32) : Option (Int32) := jg (inb z0 513) (jb ((st.1 9 z0.toNatClampNeg) = 1) (jg (inb z0 513) (jc (f_mo_floor (st.2.1 12 z0.toNatClampNeg)) (fun q4 => jb ((Op.cmpValue (FP.dcmp q4 (FP.i2d x1)) .l) = 0) (mo_isWork_105 K20  st x1 x2 x4 0) (mo_isWork_100 K20  st x1 x2 x4)))) (mo_isWork_100 K20  st x1 x2 x4))
def mo_isWork_20  : Nat → GS → Int32 → Int32 → Int32 → Int32 → Option (Int32)
  | 0, _, _, _, _, _ => none
  | fu + 1, st, x1, x2, x3, x4 => jc (f_mo_isGiven st x2) (fun q5 => jb (q5 = 0) (jg (isB x3) (some x3)) (jc (f_mo_rowsOf st x2) (fun q7 => jc (f_mo_columnsOf st x2) (fun q8 => jb ((q7 * q8) ≤ x4) (jg (isB x3) (some x3)) (jb (x3 = 0) (jg (isB x3) (some x3)) (jc (f_mo_isOut st x2) (fun q11 => jb (q11 = 0) (jg (inb x2 30) (mo_isWork_71 (mo_isWork_20 fu)  st x1 x2 x4 ((st.1 6 x2.toNatClampNeg) + x4))) (mo_isWork_71 (mo_isWork_20 fu)  st x1 x2 x4 512))))))))
def mo_isWork_16  (st : GS) (x1 : Int32) (x2 : Int32) (z0 : Int32) : Option (Int32) := mo_isWork_20 FU st x1 x2 z0 0
def f_mo_isWork (st : GS) (p0 : Int32) (p1 : Int32) : Option (Int32) := jb (((p0 + 7) - (p0 + 7) / 7 * 7) ≤ 1) (mo_isWork_16  st p0 p1 0) (mo_isWork_16  st p0 p1 1)
set_option maxHeartbeats 4000000 in
set_option maxRecDepth 100000 in
theorem c_mo_isWork (l : Launch) (ρ : RH) (ad : Nat → Nat) (H : Heap) (st : GS) (p0 : Int32) (p1 : Int32) (res : Int32) (hW : GW ρ wM ad st H) (h : f_mo_isWork st p0 p1 = some res) : Met l y184 (wsOf y184 b184 6 (some .boolean)) ({ frames := 3, cells := 0, slots := 0, locals := 65 } : Room) (va_Pc [.ref (ad 0), .int p0, .int p1] (KP ρ H)) (mQ (fun v H1 => v = some (.int res) ∧ H1 = H) (fun _ => False)) 0 0 (fun _ => False) := by
  refine m_ofW (own := "WordFunctionsModel") (plainFor_of_name rfl) rfl (Nat.le_of_ble_eq_true rfl) fun p e s m args below meth c ls hx hb hr hlk _ X hs hl => ?_
  subst hs
  have hS : va_S (fun _ => False) s.heap s.heap [] := va_S.rf
  have hl : lv_has ls 6 [(0, .ref (ad 0)), (1, .int p0), (2, .int p1)] := hl
  have kc105 : ∀ (K20 : GS → Int32 → Int32 → Int32 → Int32 → Option (Int32)) (hK20 : ∀ (x1 : Int32) (x2 : Int32) (x3 : Int32) (x4 : Int32) (locs : List Loc) (ls : Array Slot), va_S (fun _ => False) s.heap s.heap locs → lv_has ls 6 [(0, .ref (ad 0)), (1, .int x1), (2, .int x2), (3, .int x3), (4, .int x4)] → K20 st x1 x2 x3 x4 = some res → W p l e ({ frames := 3, cells := 0, slots := 0, locals := 65 } : Room) s m args below meth c s.heap locs 0 0 (MQ below (mQ (fun v H1 => v = some (.int res) ∧ H1 = s.heap) (fun _ => False)) args s 0 0 (fun _ => False)) (F0 m 20 ls [])), ∀ (x1 : Int32) (x2 : Int32) (x4 : Int32) (z0 : Int32) (locs : List Loc) (ls : Array Slot), va_S (fun _ => False) s.heap s.heap locs → lv_has ls 6 [(0, .ref (ad 0)), (1, .int x1), (2, .int x2), (4, .int x4)] → mo_isWork_105 K20 st x1 x2 x4 z0 = some res → W p l e ({ frames := 3, cells := 0, slots := 0, locals := 65 } : Room) s m args below meth c s.heap locs 0 0 (MQ below (mQ (fun v H1 => v = some (.int res) ∧ H1 = s.heap) (fun _ => False)) args s 0 0 (fun _ => False)) (F0 m 105 ls [.int z0]) := by
    intro K20 hK20
    intro x1 x2 x4 z0 locs ls hS hl h
    unfold mo_isWork_105 at h
    refine lv_istore_n (pc := 105) (lv' := [(3, .int z0), (0, .ref (ad 0)), (1, .int x1), (2, .int x2), (4, .int x4)]) hx hb d184_105 rfl hl (by decide) rfl (fun ls hl => ?_)
    obtain ⟨v1, ev1, h⟩ := jn_ex h
    refine lv_iinc (pc := 106) (v := v1) (lv' := [(4, .int v1), (3, .int z0), (0, .ref (ad 0)), (1, .int x1), (2, .int x2)]) hx hb d184_106 hl (k := 4) rfl (by rw [ev1]; rfl) (by decide) rfl (fun ls hl => ?_)
    refine lv_goto (pc := 109) (tgt := 20) hx hb d184_109 (by decide) ?_
    exact hK20 x1 x2 z0 v1 _ _ hS (lv_sub hl [2, 3, 4, 1, 0] rfl) h
  have kc100 : ∀ (K20 : GS → Int32 → Int32 → Int32 → Int32 → Option (Int32)) (hK20 : ∀ (x1 : Int32) (x2 : Int32) (x3 : Int32) (x4 : Int32) (locs : List Loc) (ls : Array Slot), va_S (fun _ => False) s.heap s.heap locs → lv_has ls 6 [(0, .ref (ad 0)), (1, .int x1), (2, .int x2), (3, .int x3), (4, .int x4)] → K20 st x1 x2 x3 x4 = some res → W p l e ({ frames := 3, cells := 0, slots := 0, locals := 65 } : Room) s m args below meth c s.heap locs 0 0 (MQ below (mQ (fun v H1 => v = some (.int res) ∧ H1 = s.heap) (fun _ => False)) args s 0 0 (fun _ => False)) (F0 m 20 ls [])), ∀ (x1 : Int32) (x2 : Int32) (x4 : Int32) (locs : List Loc) (ls : Array Slot), va_S (fun _ => False) s.heap s.heap locs → lv_has ls 6 [(0, .ref (ad 0)), (1, .int x1), (2, .int x2), (4, .int x4)] → mo_isWork_100 K20 st x1 x2 x4 = some res → W p l e ({ frames := 3, cells := 0, slots := 0, locals := 65 } : Room) s m args below meth c s.heap locs 0 0 (MQ below (mQ (fun v H1 => v = some (.int res) ∧ H1 = s.heap) (fun _ => False)) args s 0 0 (fun _ => False)) (F0 m 100 ls []) := by
    intro K20 hK20
    intro x1 x2 x4 locs ls hS hl h
    unfold mo_isWork_100 at h
    refine lv_iconst (pc := 100) (v := 1) hx hb d184_100 (by decide) ?_
    refine lv_goto (pc := 101) (tgt := 105) hx hb d184_101 (by decide) ?_
    exact kc105 _ hK20 x1 x2 x4 1 _ _ hS (lv_sub hl [0, 1, 2, 3] rfl) h
  have kc71 : ∀ (K20 : GS → Int32 → Int32 → Int32 → Int32 → Option (Int32)) (hK20 : ∀ (x1 : Int32) (x2 : Int32) (x3 : Int32) (x4 : Int32) (locs : List Loc) (ls : Array Slot), va_S (fun _ => False) s.heap s.heap locs → lv_has ls 6 [(0, .ref (ad 0)), (1, .int x1), (2, .int x2), (3, .int x3), (4, .int x4)] → K20 st x1 x2 x3 x4 = some res → W p l e ({ frames := 3, cells := 0, slots := 0, locals := 65 } : Room) s m args below meth c s.heap locs 0 0 (MQ below (mQ (fun v H1 => v = some (.int res) ∧ H1 = s.heap) (fun _ => False)) args s 0 0 (fun _ => False)) (F0 m 20 ls [])), ∀ (x1 : Int32) (x2 : Int32) (x4 : Int32) (z0 : Int32) (locs : List Loc) (ls : Array Slot), va_S (fun _ => False) s.heap s.heap locs → lv_has ls 6 [(0, .ref (ad 0)), (1, .int x1), (2, .int x2), (4, .int x4)] → mo_isWork_71 K20 st x1 x2 x4 z0 = some res → W p l e ({ frames := 3, cells := 0, slots := 0, locals := 65 } : Room) s m args below meth c s.heap locs 0 0 (MQ below (mQ (fun v H1 => v = some (.int res) ∧ H1 = s.heap) (fun _ => False)) args s 0 0 (fun _ => False)) (F0 m 71 ls [.int z0]) := by
    intro K20 hK20
    intro x1 x2 x4 z0 locs ls hS hl h
    unfold mo_isWork_71 at h
    refine lv_istore (pc := 71) (lv' := [(5, .int z0), (0, .ref (ad 0)), (1, .int x1), (2, .int x2), (4, .int x4)]) hx hb d184_71 hl (by decide) rfl (fun ls hl => ?_)
    refine lv_aload_n (pc := 73) hx hb d184_73 rfl (lv_at hl 1 rfl) ?_
    refine m_get (pc := 74) X hW 14 (v := .ref (ad 9)) wd1380 rfl rfl d184_74 ?_
    refine lv_iload (pc := 77) hx hb d184_77 (lv_at hl 0 rfl) ?_
    obtain ⟨g2, h⟩ := jg_some h
    refine r_iald (pc := 79) X hW 9 (by decide) rfl (inb_in g2) d184_79 ?_
    refine lv_iconst (pc := 80) (v := 1) hx hb d184_80 (by decide) ?_
    refine lv_icmp_ne (pc := 81) (tgt := 100) hx hb d184_81 (by decide) (fun c81 => ?_) (fun c81 => ?_)
    · have h := jb_f c81 h
      exact kc100 _ hK20 x1 x2 x4 _ _ hS (lv_sub hl [1, 2, 3, 4] rfl) h
    · have h := jb_t c81 h
      refine lv_aload_n (pc := 84) hx hb d184_84 rfl (lv_at hl 1 rfl) ?_
      refine m_get (pc := 85) X hW 17 (v := .ref (ad 12)) wd1383 rfl rfl d184_85 ?_
      refine lv_iload (pc := 88) hx hb d184_88 (lv_at hl 0 rfl) ?_
      obtain ⟨g3, h⟩ := jg_some h
      refine r_dald (pc := 90) X hW 12 (by decide) rfl (inb_in g3) d184_90 ?_
      obtain ⟨q4, hq4, h⟩ := jc_some h
      refine k_callS (pc := 91) (n := 1) X hS (c_mo_floor l ρ _ (st.2.1 12 z0.toNatClampNeg) q4 hq4) wd1922 wd1920 wd1921 wd11 (by decide) ⟨rfl, rfl, by decide, by decide⟩ (As := [.double (st.2.1 12 z0.toNatClampNeg)]) (rest := []) rfl rfl hl.1 (Nat.le_of_ble_eq_true rfl) d184_91 ⟨by decide, by decide⟩ (fun q hq => False.elim hq) (fun v H1 locs1 hv _ _ hSq4 => ?_)
      obtain ⟨rfl, rfl⟩ := hv
      have hS := hSq4
      refine lv_iload_n (pc := 94) hx hb d184_94 rfl (lv_at hl 2 rfl) ?_
      refine lv_i2d (pc := 95) hx hb d184_95 ?_
      refine lv_dcmp (pc := 96) hx hb d184_96 ?_
      refine lv_if_eq (pc := 97) (tgt := 104) hx hb d184_97 (by decide) (fun c97 => ?_) (fun c97 => ?_)
      · have h := jb_t c97 h
        refine lv_iconst (pc := 104) (v := 0) hx hb d184_104 (by decide) ?_
        exact kc105 _ hK20 x1 x2 x4 0 _ _ hS (lv_sub hl [1, 2, 3, 4] rfl) h
      · have h := jb_f c97 h
        exact kc100 _ hK20 x1 x2 x4 _ _ hS (lv_sub hl [1, 2, 3, 4] rfl) h
  have kc20 : ∀ (fu : Nat), ∀ (x1 : Int32) (x2 : Int32) (x3 : Int32) (x4 : Int32) (locs : List Loc) (ls : Array Slot), va_S (fun _ => False) s.heap s.heap locs → lv_has ls 6 [(0, .ref (ad 0)), (1, .int x1), (2, .int x2), (3, .int x3), (4, .int x4)] → mo_isWork_20 fu st x1 x2 x3 x4 = some res → W p l e ({ frames := 3, cells := 0, slots := 0, locals := 65 } : Room) s m args below meth c s.heap locs 0 0 (MQ below (mQ (fun v H1 => v = some (.int res) ∧ H1 = s.heap) (fun _ => False)) args s 0 0 (fun _ => False)) (F0 m 20 ls []) := by
    intro  fu
    induction fu with
    | zero => intro x1 x2 x3 x4 locs ls hS hl h; cases h
    | succ fu hK20 =>
      intro x1 x2 x3 x4 locs ls hS hl h
      unfold mo_isWork_20 at h
      refine lv_aload_n (pc := 20) hx hb d184_20 rfl (lv_at hl 0 rfl) ?_
      refine lv_iload_n (pc := 21) hx hb d184_21 rfl (lv_at hl 2 rfl) ?_
      obtain ⟨q5, hq5, h⟩ := jc_some h
      refine k_callV (pc := 22) (n := 1) X hS (c_mo_isGiven l ρ ad _ st x2 q5 hW hq5) wd1667 wd1664 wd1666 sl181 wd11 (by decide) ⟨rfl, rfl, by decide, by decide⟩ (m_recv X hW) (As := [.int x2]) (rest := []) rfl rfl hl.1 (Nat.le_of_ble_eq_true rfl) d184_22 ⟨by decide, by decide⟩ (fun q hq => False.elim hq) (fun v H1 locs1 hv _ _ hSq5 => ?_)
      obtain ⟨rfl, rfl⟩ := hv
      have hS := hSq5
      refine lv_if_eq (pc := 25) (tgt := 112) hx hb d184_25 (by decide) (fun c25 => ?_) (fun c25 => ?_)
      · have h := jb_t c25 h
        refine lv_iload_n (pc := 112) hx hb d184_112 rfl (lv_at hl 3 rfl) ?_
        obtain ⟨g6, h⟩ := jg_some h
        obtain rfl := Option.some.inj h
        exact m_zret (pc := 113) hx hb hr hlk hS ⟨rfl, rfl⟩ (by decide) (by decide) d184_113 (isB_nar g6)
      · have h := jb_f c25 h
        refine lv_iload (pc := 28) hx hb d184_28 (lv_at hl 4 rfl) ?_
        refine lv_aload_n (pc := 30) hx hb d184_30 rfl (lv_at hl 0 rfl) ?_
        refine lv_iload_n (pc := 31) hx hb d184_31 rfl (lv_at hl 2 rfl) ?_
        obtain ⟨q7, hq7, h⟩ := jc_some h
        refine k_callV (pc := 32) (n := 1) X hS (c_mo_rowsOf l ρ ad _ st x2 q7 hW hq7) wd1772 wd1769 wd1771 sl215 wd11 (by decide) ⟨rfl, rfl, by decide, by decide⟩ (m_recv X hW) (As := [.int x2]) (rest := [.int x4]) rfl rfl hl.1 (Nat.le_of_ble_eq_true rfl) d184_32 ⟨by decide, by decide⟩ (fun q hq => False.elim hq) (fun v H1 locs1 hv _ _ hSq7 => ?_)
        obtain ⟨rfl, rfl⟩ := hv
        have hS := hSq7
        refine lv_aload_n (pc := 35) hx hb d184_35 rfl (lv_at hl 0 rfl) ?_
        refine lv_iload_n (pc := 36) hx hb d184_36 rfl (lv_at hl 2 rfl) ?_
        obtain ⟨q8, hq8, h⟩ := jc_some h
        refine k_callV (pc := 37) (n := 1) X hS (c_mo_columnsOf l ρ ad _ st x2 q8 hW hq8) wd1776 wd1773 wd1775 sl154 wd11 (by decide) ⟨rfl, rfl, by decide, by decide⟩ (m_recv X hW) (As := [.int x2]) (rest := [.int q7, .int x4]) rfl rfl hl.1 (Nat.le_of_ble_eq_true rfl) d184_37 ⟨by decide, by decide⟩ (fun q hq => False.elim hq) (fun v H1 locs1 hv _ _ hSq8 => ?_)
        obtain ⟨rfl, rfl⟩ := hv
        have hS := hSq8
        refine lv_imul (pc := 40) hx hb d184_40 ?_
        refine lv_icmp_ge (pc := 41) (tgt := 112) hx hb d184_41 (by decide) (fun c41 => ?_) (fun c41 => ?_)
        · have h := jb_t c41 h
          refine lv_iload_n (pc := 112) hx hb d184_112 rfl (lv_at hl 3 rfl) ?_
          obtain ⟨g9, h⟩ := jg_some h
          obtain rfl := Option.some.inj h
          exact m_zret (pc := 113) hx hb hr hlk hS ⟨rfl, rfl⟩ (by decide) (by decide) d184_113 (isB_nar g9)
        · have h := jb_f c41 h
          refine lv_iload_n (pc := 44) hx hb d184_44 rfl (lv_at hl 3 rfl) ?_
          refine lv_if_eq (pc := 45) (tgt := 112) hx hb d184_45 (by decide) (fun c45 => ?_) (fun c45 => ?_)
          · have h := jb_t c45 h
            refine lv_iload_n (pc := 112) hx hb d184_112 rfl (lv_at hl 3 rfl) ?_
            obtain ⟨g10, h⟩ := jg_some h
            obtain rfl := Option.some.inj h
            exact m_zret (pc := 113) hx hb hr hlk hS ⟨rfl, rfl⟩ (by decide) (by decide) d184_113 (isB_nar g10)
          · have h := jb_f c45 h
            refine lv_aload_n (pc := 48) hx hb d184_48 rfl (lv_at hl 0 rfl) ?_
            refine lv_iload_n (pc := 49) hx hb d184_49 rfl (lv_at hl 2 rfl) ?_
            obtain ⟨q11, hq11, h⟩ := jc_some h
            refine k_callV (pc := 50) (n := 1) X hS (c_mo_isOut l ρ ad _ st x2 q11 hW hq11) wd1609 wd1606 wd1608 sl183 wd11 (by decide) ⟨rfl, rfl, by decide, by decide⟩ (m_recv X hW) (As := [.int x2]) (rest := []) rfl rfl hl.1 (Nat.le_of_ble_eq_true rfl) d184_50 ⟨by decide, by decide⟩ (fun q hq => False.elim hq) (fun v H1 locs1 hv _ _ hSq11 => ?_)
            obtain ⟨rfl, rfl⟩ := hv
            have hS := hSq11
            refine lv_if_eq (pc := 53) (tgt := 62) hx hb d184_53 (by decide) (fun c53 => ?_) (fun c53 => ?_)
            · have h := jb_t c53 h
              refine lv_aload_n (pc := 62) hx hb d184_62 rfl (lv_at hl 0 rfl) ?_
              refine m_get (pc := 63) X hW 11 (v := .ref (ad 6)) wd1377 rfl rfl d184_63 ?_
              refine lv_iload_n (pc := 66) hx hb d184_66 rfl (lv_at hl 2 rfl) ?_
              obtain ⟨g12, h⟩ := jg_some h
              refine r_iald (pc := 67) X hW 6 (by decide) rfl (inb_in g12) d184_67 ?_
              refine lv_iload (pc := 68) hx hb d184_68 (lv_at hl 4 rfl) ?_
              refine lv_iadd (pc := 70) hx hb d184_70 ?_
              exact kc71 _ hK20 x1 x2 x4 ((st.1 6 x2.toNatClampNeg) + x4) _ _ hS (lv_sub hl [0, 1, 2, 4] rfl) h
            · have h := jb_f c53 h
              refine lv_sipush (pc := 56) (v := 512) hx hb d184_56 (by decide) ?_
              refine lv_goto (pc := 59) (tgt := 71) hx hb d184_59 (by decide) ?_
              exact kc71 _ hK20 x1 x2 x4 512 _ _ hS (lv_sub hl [0, 1, 2, 4] rfl) h
  have kc16 : ∀ (x1 : Int32) (x2 : Int32) (z0 : Int32) (locs : List Loc) (ls : Array Slot), va_S (fun _ => False) s.heap s.heap locs → lv_has ls 6 [(0, .ref (ad 0)), (1, .int x1), (2, .int x2)] → mo_isWork_16 st x1 x2 z0 = some res → W p l e ({ frames := 3, cells := 0, slots := 0, locals := 65 } : Room) s m args below meth c s.heap locs 0 0 (MQ below (mQ (fun v H1 => v = some (.int res) ∧ H1 = s.heap) (fun _ => False)) args s 0 0 (fun _ => False)) (F0 m 16 ls [.int z0]) := by
    intro x1 x2 z0 locs ls hS hl h
    unfold mo_isWork_16 at h
    refine lv_istore_n (pc := 16) (lv' := [(3, .int z0), (0, .ref (ad 0)), (1, .int x1), (2, .int x2)]) hx hb d184_16 rfl hl (by decide) rfl (fun ls hl => ?_)
    refine lv_iconst (pc := 17) (v := 0) hx hb d184_17 (by decide) ?_
    refine lv_istore (pc := 18) (lv' := [(4, .int 0), (3, .int z0), (0, .ref (ad 0)), (1, .int x1), (2, .int x2)]) hx hb d184_18 hl (by decide) rfl (fun ls hl => ?_)
    exact kc20  FU x1 x2 z0 0 _ _ hS (lv_sub hl [2, 3, 4, 1, 0] rfl) h
  unfold f_mo_isWork at h
  refine lv_iload_n (pc := 0) hx hb d184_0 rfl (lv_at hl 1 rfl) ?_
  refine lv_bipush (pc := 1) (v := 7) hx hb d184_1 (by decide) ?_
  refine lv_iadd (pc := 3) hx hb d184_3 ?_
  refine lv_bipush (pc := 4) (v := 7) hx hb d184_4 (by decide) ?_
  refine lv_irem (pc := 6) hx hb d184_6 (by decide) ?_
  refine lv_iconst (pc := 7) (v := 1) hx hb d184_7 (by decide) ?_
  refine lv_icmp_le (pc := 8) (tgt := 15) hx hb d184_8 (by decide) (fun c8 => ?_) (fun c8 => ?_)
  · have h := jb_t c8 h
    refine lv_iconst (pc := 15) (v := 0) hx hb d184_15 (by decide) ?_
    exact kc16  p0 p1 0 _ _ hS (lv_sub hl [0, 1, 2] rfl) h
  · have h := jb_f c8 h
    refine lv_iconst (pc := 11) (v := 1) hx hb d184_11 (by decide) ?_
    refine lv_goto (pc := 12) (tgt := 16) hx hb d184_12 (by decide) ?_
    exact kc16  p0 p1 1 _ _ hS (lv_sub hl [0, 1, 2] rfl) h
def mo_workDays_82  (st : GS) (z1 : UInt64) : Option (GS) := jc (f_mo_answerNumber st z1) (fun q1 => some q1)
def mo_workDays_60 (K29 : GS → Int32 → Int32 → Int32 → Int32 → Option (GS)) (st : GS) (x1 : Int32) (x2 : Int32) (x4 : Int32) (z0 : Int32) (z1 : Int32) : Option (GS) := jn (z0 + z1) (fun v2 => jn (x4 + 1) (fun v3 => K29 st x1 x2 v2 v3))
def mo_workDays_41 (K29 : GS → Int32 → Int32 → Int32 → Int32 → Option (GS)) (st : GS) (x1 : Int32) (x2 : Int32) (x3 : Int32) (x4 : Int32) (z0 : Int32) (z1 : Int32) : Option (GS) := jb (z1 < z0) (jb (x1 ≤ x2) (mo_workDays_82  st (FP.i2d x3)) (mo_workDays_82  st (FP.i2d (-x3)))) (jc (f_mo_isWork st x4 2) (fun q4 => jb (q4 = 0) (mo_workDays_60 K29  st x1 x2 x4 x3 0) (mo_workDays_60 K29  st x1 x2 x4 x3 1)))
def mo_workDays_29  : Nat → GS → Int32 → Int32 → Int32 → Int32 → Option (GS)
  | 0, _, _, _, _, _ => none
  | fu + 1, st, x1, x2, x3, x4 => jb (x2 ≤ x1) (mo_workDays_41 (mo_workDays_29 fu)  st x1 x2 x3 x4 x4 x1) (mo_workDays_41 (mo_workDays_29 fu)  st x1 x2 x3 x4 x4 x2)
def f_mo_workDays (st : GS) : Option (GS) := jc (f_mo_dayOf st 0) (fun q5 => jc (f_mo_dayOf q5.2 1) (fun q6 => jb ((q6.2.1 0 22) = 0) (jc (f_mo_lesser q5.1 q6.1) (fun q7 => mo_workDays_29 FU q6.2 q5.1 q6.1 0 q7)) (some q6.2)))
set_option maxHeartbeats 4000000 in
set_option maxRecDepth 100000 in
theorem c_mo_workDays (l : Launch) (ρ : RH) (ad : Nat → Nat) (H : Heap) (st : GS) (res : GS) (hW : GW ρ wM ad st H) (h : f_mo_workDays st = some res) : Met l y245 (wsOf y245 b245 5 none) ({ frames := 5, cells := 0, slots := 0, locals := 109 } : Room) (va_Pc [.ref (ad 0)] (KP ρ H)) (mQ (fun v H1 => v = none ∧ GW ρ wM ad res H1) (MA wM ad H.size)) 0 0 (MA wM ad H.size) := by
  refine m_ofW (own := "WordFunctionsModel") (plainFor_of_name rfl) rfl (Nat.le_of_ble_eq_true rfl) fun p e s m args below meth c ls hx hb hr hlk _ X hs hl => ?_
  subst hs
  have hS : va_S (MA wM ad s.heap.size) s.heap s.heap [] := va_S.rf
  have hl : lv_has ls 5 [(0, .ref (ad 0))] := hl
  have kc82 : ∀ (st : GS) (z1 : UInt64) (H : Heap) (locs : List Loc) (ls : Array Slot), GW ρ wM ad st H → va_S (MA wM ad s.heap.size) s.heap H locs → lv_has ls 5 [] → mo_workDays_82 st z1 = some res → W p l e ({ frames := 5, cells := 0, slots := 0, locals := 109 } : Room) s m args below meth c H locs 0 0 (MQ below (mQ (fun v H1 => v = none ∧ GW ρ wM ad res H1) (MA wM ad s.heap.size)) args s 0 0 (MA wM ad s.heap.size)) (F0 m 82 ls [.double z1, .ref (ad 0)]) := by
    intro st z1 H locs ls hW hS hl h
    unfold mo_workDays_82 at h
    obtain ⟨q1, hq1, h⟩ := jc_some h
    refine k_callV (pc := 82) (n := 1) X hS (c_mo_answerNumber l ρ ad _ st z1 q1 hW hq1) wd1651 wd1648 wd1650 sl142 wd11 (by decide) ⟨rfl, rfl, by decide, by decide⟩ (m_recv X hW) (As := [.double z1]) (rest := []) rfl rfl hl.1 (Nat.le_of_ble_eq_true rfl) d245_82 ⟨by decide, by decide⟩ (fun q hq => MA.mono hS.1 hq) (fun v H1 locs1 hv _ _ hSq1 => ?_)
    obtain ⟨rfl, hW⟩ := hv
    have hS := hSq1
    obtain rfl := Option.some.inj h
    exact m_vret (pc := 85) hx hb hr hlk hS ⟨rfl, hW⟩ (by decide) (by decide) d245_85
  have kc60 : ∀ (K29 : GS → Int32 → Int32 → Int32 → Int32 → Option (GS)) (hK29 : ∀ (st : GS) (x1 : Int32) (x2 : Int32) (x3 : Int32) (x4 : Int32) (H : Heap) (locs : List Loc) (ls : Array Slot), GW ρ wM ad st H → va_S (MA wM ad s.heap.size) s.heap H locs → lv_has ls 5 [(0, .ref (ad 0)), (1, .int x1), (2, .int x2), (3, .int x3), (4, .int x4)] → K29 st x1 x2 x3 x4 = some res → W p l e ({ frames := 5, cells := 0, slots := 0, locals := 109 } : Room) s m args below meth c H locs 0 0 (MQ below (mQ (fun v H1 => v = none ∧ GW ρ wM ad res H1) (MA wM ad s.heap.size)) args s 0 0 (MA wM ad s.heap.size)) (F0 m 29 ls [])), ∀ (st : GS) (x1 : Int32) (x2 : Int32) (x4 : Int32) (z0 : Int32) (z1 : Int32) (H : Heap) (locs : List Loc) (ls : Array Slot), GW ρ wM ad st H → va_S (MA wM ad s.heap.size) s.heap H locs → lv_has ls 5 [(0, .ref (ad 0)), (1, .int x1), (2, .int x2), (4, .int x4)] → mo_workDays_60 K29 st x1 x2 x4 z0 z1 = some res → W p l e ({ frames := 5, cells := 0, slots := 0, locals := 109 } : Room) s m args below meth c H locs 0 0 (MQ below (mQ (fun v H1 => v = none ∧ GW ρ wM ad res H1) (MA wM ad s.heap.size)) args s 0 0 (MA wM ad s.heap.size)) (F0 m 60 ls [.int z1, .int z0]) := by
    intro K29 hK29
    intro st x1 x2 x4 z0 z1 H locs ls hW hS hl h
    unfold mo_workDays_60 at h
    refine lv_iadd (pc := 60) hx hb d245_60 ?_
    obtain ⟨v2, ev2, h⟩ := jn_ex h
    refine nm_i ev2 ?_
    refine lv_istore_n (pc := 61) (lv' := [(3, .int v2), (0, .ref (ad 0)), (1, .int x1), (2, .int x2), (4, .int x4)]) hx hb d245_61 rfl hl (by decide) rfl (fun ls hl => ?_)
    obtain ⟨v3, ev3, h⟩ := jn_ex h
    refine lv_iinc (pc := 62) (v := v3) (lv' := [(4, .int v3), (3, .int v2), (0, .ref (ad 0)), (1, .int x1), (2, .int x2)]) hx hb d245_62 hl (k := 4) rfl (by rw [ev3]; rfl) (by decide) rfl (fun ls hl => ?_)
    refine lv_goto (pc := 65) (tgt := 29) hx hb d245_65 (by decide) ?_
    exact hK29 st x1 x2 v2 v3 _ _ _ hW hS (lv_sub hl [2, 3, 4, 1, 0] rfl) h
  have kc41 : ∀ (K29 : GS → Int32 → Int32 → Int32 → Int32 → Option (GS)) (hK29 : ∀ (st : GS) (x1 : Int32) (x2 : Int32) (x3 : Int32) (x4 : Int32) (H : Heap) (locs : List Loc) (ls : Array Slot), GW ρ wM ad st H → va_S (MA wM ad s.heap.size) s.heap H locs → lv_has ls 5 [(0, .ref (ad 0)), (1, .int x1), (2, .int x2), (3, .int x3), (4, .int x4)] → K29 st x1 x2 x3 x4 = some res → W p l e ({ frames := 5, cells := 0, slots := 0, locals := 109 } : Room) s m args below meth c H locs 0 0 (MQ below (mQ (fun v H1 => v = none ∧ GW ρ wM ad res H1) (MA wM ad s.heap.size)) args s 0 0 (MA wM ad s.heap.size)) (F0 m 29 ls [])), ∀ (st : GS) (x1 : Int32) (x2 : Int32) (x3 : Int32) (x4 : Int32) (z0 : Int32) (z1 : Int32) (H : Heap) (locs : List Loc) (ls : Array Slot), GW ρ wM ad st H → va_S (MA wM ad s.heap.size) s.heap H locs → lv_has ls 5 [(0, .ref (ad 0)), (1, .int x1), (2, .int x2), (3, .int x3), (4, .int x4)] → mo_workDays_41 K29 st x1 x2 x3 x4 z0 z1 = some res → W p l e ({ frames := 5, cells := 0, slots := 0, locals := 109 } : Room) s m args below meth c H locs 0 0 (MQ below (mQ (fun v H1 => v = none ∧ GW ρ wM ad res H1) (MA wM ad s.heap.size)) args s 0 0 (MA wM ad s.heap.size)) (F0 m 41 ls [.int z1, .int z0]) := by
    intro K29 hK29
    intro st x1 x2 x3 x4 z0 z1 H locs ls hW hS hl h
    unfold mo_workDays_41 at h
    refine lv_icmp_gt (pc := 41) (tgt := 68) hx hb d245_41 (by decide) (fun c41 => ?_) (fun c41 => ?_)
    · have h := jb_t c41 h
      refine lv_aload_n (pc := 68) hx hb d245_68 rfl (lv_at hl 0 rfl) ?_
      refine lv_iload_n (pc := 69) hx hb d245_69 rfl (lv_at hl 2 rfl) ?_
      refine lv_iload_n (pc := 70) hx hb d245_70 rfl (lv_at hl 1 rfl) ?_
      refine lv_icmp_ge (pc := 71) (tgt := 80) hx hb d245_71 (by decide) (fun c71 => ?_) (fun c71 => ?_)
      · have h := jb_t c71 h
        refine lv_iload_n (pc := 80) hx hb d245_80 rfl (lv_at hl 3 rfl) ?_
        refine lv_i2d (pc := 81) hx hb d245_81 ?_
        exact kc82  st (FP.i2d x3) _ _ _ hW hS (lv_sub hl [] rfl) h
      · have h := jb_f c71 h
        refine lv_iload_n (pc := 74) hx hb d245_74 rfl (lv_at hl 3 rfl) ?_
        refine lv_ineg (pc := 75) hx hb d245_75 ?_
        refine lv_i2d (pc := 76) hx hb d245_76 ?_
        refine lv_goto (pc := 77) (tgt := 82) hx hb d245_77 (by decide) ?_
        exact kc82  st (FP.i2d (-x3)) _ _ _ hW hS (lv_sub hl [] rfl) h
    · have h := jb_f c41 h
      refine lv_iload_n (pc := 44) hx hb d245_44 rfl (lv_at hl 3 rfl) ?_
      refine lv_aload_n (pc := 45) hx hb d245_45 rfl (lv_at hl 0 rfl) ?_
      refine lv_iload (pc := 46) hx hb d245_46 (lv_at hl 4 rfl) ?_
      refine lv_iconst (pc := 48) (v := 2) hx hb d245_48 (by decide) ?_
      obtain ⟨q4, hq4, h⟩ := jc_some h
      refine k_callV (pc := 49) (n := 2) X hS (c_mo_isWork l ρ ad _ st x4 2 q4 hW hq4) wd1960 wd1957 wd1959 sl184 wd11 (by decide) ⟨rfl, rfl, by decide, by decide⟩ (m_recv X hW) (As := [.int x4, .int 2]) (rest := [.int x3]) rfl rfl hl.1 (Nat.le_of_ble_eq_true rfl) d245_49 ⟨by decide, by decide⟩ (fun q hq => False.elim hq) (fun v H1 locs1 hv _ _ hSq4 => ?_)
      obtain ⟨rfl, rfl⟩ := hv
      have hS := hSq4
      refine lv_if_eq (pc := 52) (tgt := 59) hx hb d245_52 (by decide) (fun c52 => ?_) (fun c52 => ?_)
      · have h := jb_t c52 h
        refine lv_iconst (pc := 59) (v := 0) hx hb d245_59 (by decide) ?_
        exact kc60 _ hK29 st x1 x2 x4 x3 0 _ _ _ hW hS (lv_sub hl [0, 1, 2, 4] rfl) h
      · have h := jb_f c52 h
        refine lv_iconst (pc := 55) (v := 1) hx hb d245_55 (by decide) ?_
        refine lv_goto (pc := 56) (tgt := 60) hx hb d245_56 (by decide) ?_
        exact kc60 _ hK29 st x1 x2 x4 x3 1 _ _ _ hW hS (lv_sub hl [0, 1, 2, 4] rfl) h
  have kc29 : ∀ (fu : Nat), ∀ (st : GS) (x1 : Int32) (x2 : Int32) (x3 : Int32) (x4 : Int32) (H : Heap) (locs : List Loc) (ls : Array Slot), GW ρ wM ad st H → va_S (MA wM ad s.heap.size) s.heap H locs → lv_has ls 5 [(0, .ref (ad 0)), (1, .int x1), (2, .int x2), (3, .int x3), (4, .int x4)] → mo_workDays_29 fu st x1 x2 x3 x4 = some res → W p l e ({ frames := 5, cells := 0, slots := 0, locals := 109 } : Room) s m args below meth c H locs 0 0 (MQ below (mQ (fun v H1 => v = none ∧ GW ρ wM ad res H1) (MA wM ad s.heap.size)) args s 0 0 (MA wM ad s.heap.size)) (F0 m 29 ls []) := by
    intro  fu
    induction fu with
    | zero => intro st x1 x2 x3 x4 H locs ls hW hS hl h; cases h
    | succ fu hK29 =>
      intro st x1 x2 x3 x4 H locs ls hW hS hl h
      unfold mo_workDays_29 at h
      refine lv_iload (pc := 29) hx hb d245_29 (lv_at hl 4 rfl) ?_
      refine lv_iload_n (pc := 31) hx hb d245_31 rfl (lv_at hl 1 rfl) ?_
      refine lv_iload_n (pc := 32) hx hb d245_32 rfl (lv_at hl 2 rfl) ?_
      refine lv_icmp_ge (pc := 33) (tgt := 40) hx hb d245_33 (by decide) (fun c33 => ?_) (fun c33 => ?_)
      · have h := jb_t c33 h
        refine lv_iload_n (pc := 40) hx hb d245_40 rfl (lv_at hl 1 rfl) ?_
        exact kc41 _ hK29 st x1 x2 x3 x4 x4 x1 _ _ _ hW hS (lv_sub hl [0, 1, 2, 3, 4] rfl) h
      · have h := jb_f c33 h
        refine lv_iload_n (pc := 36) hx hb d245_36 rfl (lv_at hl 2 rfl) ?_
        refine lv_goto (pc := 37) (tgt := 41) hx hb d245_37 (by decide) ?_
        exact kc41 _ hK29 st x1 x2 x3 x4 x4 x2 _ _ _ hW hS (lv_sub hl [0, 1, 2, 3, 4] rfl) h
  unfold f_mo_workDays at h
  refine lv_aload_n (pc := 0) hx hb d245_0 rfl (lv_at hl 0 rfl) ?_
  refine lv_iconst (pc := 1) (v := 0) hx hb d245_1 (by decide) ?_
  obtain ⟨q5, hq5, h⟩ := jc_some h
  refine k_callV (pc := 2) (n := 1) X hS (c_mo_dayOf l ρ ad _ st 0 q5 hW hq5) wd1915 wd1912 wd1914 sl161 wd11 (by decide) ⟨rfl, rfl, by decide, by decide⟩ (m_recv X hW) (As := [.int 0]) (rest := []) rfl rfl hl.1 (Nat.le_of_ble_eq_true rfl) d245_2 ⟨by decide, by decide⟩ (fun q hq => MA.mono hS.1 hq) (fun v H1 locs1 hv _ _ hSq5 => ?_)
  obtain ⟨rfl, hW⟩ := hv
  have hS := hSq5
  refine lv_istore_n (pc := 5) (lv' := [(1, .int q5.1), (0, .ref (ad 0))]) hx hb d245_5 rfl hl (by decide) rfl (fun ls hl => ?_)
  refine lv_aload_n (pc := 6) hx hb d245_6 rfl (lv_at hl 1 rfl) ?_
  refine lv_iconst (pc := 7) (v := 1) hx hb d245_7 (by decide) ?_
  obtain ⟨q6, hq6, h⟩ := jc_some h
  refine k_callV (pc := 8) (n := 1) X hS (c_mo_dayOf l ρ ad _ q5.2 1 q6 hW hq6) wd1915 wd1912 wd1914 sl161 wd11 (by decide) ⟨rfl, rfl, by decide, by decide⟩ (m_recv X hW) (As := [.int 1]) (rest := []) rfl rfl hl.1 (Nat.le_of_ble_eq_true rfl) d245_8 ⟨by decide, by decide⟩ (fun q hq => MA.mono hS.1 hq) (fun v H1 locs1 hv _ _ hSq6 => ?_)
  obtain ⟨rfl, hW⟩ := hv
  have hS := hSq6
  refine lv_istore_n (pc := 11) (lv' := [(2, .int q6.1), (1, .int q5.1), (0, .ref (ad 0))]) hx hb d245_11 rfl hl (by decide) rfl (fun ls hl => ?_)
  refine lv_aload_n (pc := 12) hx hb d245_12 rfl (lv_at hl 2 rfl) ?_
  refine m_get (pc := 13) X hW 22 (v := .int (q6.2.1 0 22)) wd1388 rfl rfl d245_13 ?_
  refine lv_if_eq (pc := 16) (tgt := 20) hx hb d245_16 (by decide) (fun c16 => ?_) (fun c16 => ?_)
  · have h := jb_t c16 h
    refine lv_iconst (pc := 20) (v := 0) hx hb d245_20 (by decide) ?_
    refine lv_istore_n (pc := 21) (lv' := [(3, .int 0), (2, .int q6.1), (1, .int q5.1), (0, .ref (ad 0))]) hx hb d245_21 rfl hl (by decide) rfl (fun ls hl => ?_)
    refine lv_iload_n (pc := 22) hx hb d245_22 rfl (lv_at hl 2 rfl) ?_
    refine lv_iload_n (pc := 23) hx hb d245_23 rfl (lv_at hl 1 rfl) ?_
    obtain ⟨q7, hq7, h⟩ := jc_some h
    refine k_callS (pc := 24) (n := 2) X hS (c_mo_lesser l ρ _ q5.1 q6.1 q7 hq7) wd1695 wd1693 wd1694 wd11 (by decide) ⟨rfl, rfl, by decide, by decide⟩ (As := [.int q5.1, .int q6.1]) (rest := []) rfl rfl hl.1 (Nat.le_of_ble_eq_true rfl) d245_24 ⟨by decide, by decide⟩ (fun q hq => False.elim hq) (fun v H1 locs1 hv _ _ hSq7 => ?_)
    obtain ⟨rfl, rfl⟩ := hv
    have hS := hSq7
    refine lv_istore (pc := 27) (lv' := [(4, .int q7), (3, .int 0), (2, .int q6.1), (1, .int q5.1), (0, .ref (ad 0))]) hx hb d245_27 hl (by decide) rfl (fun ls hl => ?_)
    exact kc29  FU q6.2 q5.1 q6.1 0 q7 _ _ _ hW hS (lv_sub hl [4, 3, 2, 1, 0] rfl) h
  · have h := jb_f c16 h
    obtain rfl := Option.some.inj h
    exact m_vret (pc := 19) hx hb hr hlk hS ⟨rfl, hW⟩ (by decide) (by decide) d245_19
def mo_workDay_102  (st : GS) (x1 : Int32) : Option (GS) := jc (f_mo_answerDay st x1.toInt64) (fun q1 => some q1)
def mo_workDay_97 (K51 : GS → Int32 → Int32 → Int32 → Option (GS)) (st : GS) (x1 : Int32) (x2 : Int32) (z0 : Int32) (z1 : Int32) : Option (GS) := jn (z0 - z1) (fun v2 => K51 st x1 x2 v2)
def mo_workDay_96 (K51 : GS → Int32 → Int32 → Int32 → Option (GS)) (st : GS) (x1 : Int32) (x2 : Int32) (z0 : Int32) : Option (GS) := mo_workDay_97 K51  st x1 x2 z0 0
def mo_workDay_76 (K51 : GS → Int32 → Int32 → Int32 → Option (GS)) (st : GS) (x2 : Int32) (x3 : Int32) (z0 : Int32) (z1 : Int32) : Option (GS) := jn (z0 + z1) (fun v3 => jb (v3 < 0) (mo_workDay_96 K51  st v3 x2 x3) (jc (f_mo_isWork st v3 2) (fun q4 => jb (q4 = 0) (mo_workDay_96 K51  st v3 x2 x3) (mo_workDay_97 K51  st v3 x2 x3 1))))
def mo_workDay_51  : Nat → GS → Int32 → Int32 → Int32 → Option (GS)
  | 0, _, _, _, _ => none
  | fu + 1, st, x1, x2, x3 => jb (x3 ≤ 0) (mo_workDay_102  st x1) (jb (x1 < 0) (mo_workDay_102  st x1) (jb (2958465 < x1) (mo_workDay_102  st x1) (jb (0 ≤ x2) (mo_workDay_76 (mo_workDay_51 fu)  st x2 x3 x1 1) (mo_workDay_76 (mo_workDay_51 fu)  st x2 x3 x1 (-1)))))
def mo_workDay_50  (st : GS) (x1 : Int32) (x2 : Int32) (z0 : Int32) : Option (GS) := mo_workDay_51 FU st x1 x2 z0
def mo_workDay_32  (st : GS) (x1 : Int32) (x2 : Int32) : Option (GS) := jb ((st.1 0 22) = 0) (jb (0 ≤ x2) (mo_workDay_50  st x1 x2 x2) (mo_workDay_50  st x1 x2 (-x2))) (some st)
def mo_workDay_26  (st : GS) (x1 : Int32) (x2 : Int32) : Option (GS) := jc (f_mo_fail st 6) (fun q5 => mo_workDay_32  q5 x1 x2)
def f_mo_workDay (st : GS) : Option (GS) := jc (f_mo_dayOf st 0) (fun q6 => jc (f_mo_whole1 q6.2 1) (fun q7 => jb (100000 < q7.1) (mo_workDay_26  q7.2 q6.1 q7.1) (jb ((-100000) ≤ q7.1) (mo_workDay_32  q7.2 q6.1 q7.1) (mo_workDay_26  q7.2 q6.1 q7.1))))
set_option maxHeartbeats 4000000 in
set_option maxRecDepth 100000 in
theorem c_mo_workDay (l : Launch) (ρ : RH) (ad : Nat → Nat) (H : Heap) (st : GS) (res : GS) (hW : GW ρ wM ad st H) (h : f_mo_workDay st = some res) : Met l y244 (wsOf y244 b244 4 none) ({ frames := 5, cells := 0, slots := 0, locals := 110 } : Room) (va_Pc [.ref (ad 0)] (KP ρ H)) (mQ (fun v H1 => v = none ∧ GW ρ wM ad res H1) (MA wM ad H.size)) 0 0 (MA wM ad H.size) := by
  refine m_ofW (own := "WordFunctionsModel") (plainFor_of_name rfl) rfl (Nat.le_of_ble_eq_true rfl) fun p e s m args below meth c ls hx hb hr hlk _ X hs hl => ?_
  subst hs
  have hS : va_S (MA wM ad s.heap.size) s.heap s.heap [] := va_S.rf
  have hl : lv_has ls 4 [(0, .ref (ad 0))] := hl
  have kc102 : ∀ (st : GS) (x1 : Int32) (H : Heap) (locs : List Loc) (ls : Array Slot), GW ρ wM ad st H → va_S (MA wM ad s.heap.size) s.heap H locs → lv_has ls 4 [(0, .ref (ad 0)), (1, .int x1)] → mo_workDay_102 st x1 = some res → W p l e ({ frames := 5, cells := 0, slots := 0, locals := 110 } : Room) s m args below meth c H locs 0 0 (MQ below (mQ (fun v H1 => v = none ∧ GW ρ wM ad res H1) (MA wM ad s.heap.size)) args s 0 0 (MA wM ad s.heap.size)) (F0 m 102 ls []) := by
    intro st x1 H locs ls hW hS hl h
    unfold mo_workDay_102 at h
    refine lv_aload_n (pc := 102) hx hb d244_102 rfl (lv_at hl 0 rfl) ?_
    refine lv_iload_n (pc := 103) hx hb d244_103 rfl (lv_at hl 1 rfl) ?_
    refine lv_i2l (pc := 104) hx hb d244_104 rfl ?_
    obtain ⟨q1, hq1, h⟩ := jc_some h
    refine k_callV (pc := 105) (n := 1) X hS (c_mo_answerDay l ρ ad _ st x1.toInt64 q1 hW hq1) wd1898 wd1895 wd1897 sl141 wd11 (by decide) ⟨rfl, rfl, by decide, by decide⟩ (m_recv X hW) (As := [.long x1.toInt64]) (rest := []) rfl rfl hl.1 (Nat.le_of_ble_eq_true rfl) d244_105 ⟨by decide, by decide⟩ (fun q hq => MA.mono hS.1 hq) (fun v H1 locs1 hv _ _ hSq1 => ?_)
    obtain ⟨rfl, hW⟩ := hv
    have hS := hSq1
    obtain rfl := Option.some.inj h
    exact m_vret (pc := 108) hx hb hr hlk hS ⟨rfl, hW⟩ (by decide) (by decide) d244_108
  have kc97 : ∀ (K51 : GS → Int32 → Int32 → Int32 → Option (GS)) (hK51 : ∀ (st : GS) (x1 : Int32) (x2 : Int32) (x3 : Int32) (H : Heap) (locs : List Loc) (ls : Array Slot), GW ρ wM ad st H → va_S (MA wM ad s.heap.size) s.heap H locs → lv_has ls 4 [(0, .ref (ad 0)), (1, .int x1), (2, .int x2), (3, .int x3)] → K51 st x1 x2 x3 = some res → W p l e ({ frames := 5, cells := 0, slots := 0, locals := 110 } : Room) s m args below meth c H locs 0 0 (MQ below (mQ (fun v H1 => v = none ∧ GW ρ wM ad res H1) (MA wM ad s.heap.size)) args s 0 0 (MA wM ad s.heap.size)) (F0 m 51 ls [])), ∀ (st : GS) (x1 : Int32) (x2 : Int32) (z0 : Int32) (z1 : Int32) (H : Heap) (locs : List Loc) (ls : Array Slot), GW ρ wM ad st H → va_S (MA wM ad s.heap.size) s.heap H locs → lv_has ls 4 [(0, .ref (ad 0)), (1, .int x1), (2, .int x2)] → mo_workDay_97 K51 st x1 x2 z0 z1 = some res → W p l e ({ frames := 5, cells := 0, slots := 0, locals := 110 } : Room) s m args below meth c H locs 0 0 (MQ below (mQ (fun v H1 => v = none ∧ GW ρ wM ad res H1) (MA wM ad s.heap.size)) args s 0 0 (MA wM ad s.heap.size)) (F0 m 97 ls [.int z1, .int z0]) := by
    intro K51 hK51
    intro st x1 x2 z0 z1 H locs ls hW hS hl h
    unfold mo_workDay_97 at h
    refine lv_isub (pc := 97) hx hb d244_97 ?_
    obtain ⟨v2, ev2, h⟩ := jn_ex h
    refine nm_i ev2 ?_
    refine lv_istore_n (pc := 98) (lv' := [(3, .int v2), (0, .ref (ad 0)), (1, .int x1), (2, .int x2)]) hx hb d244_98 rfl hl (by decide) rfl (fun ls hl => ?_)
    refine lv_goto (pc := 99) (tgt := 51) hx hb d244_99 (by decide) ?_
    exact hK51 st x1 x2 v2 _ _ _ hW hS (lv_sub hl [1, 2, 3, 0] rfl) h
  have kc96 : ∀ (K51 : GS → Int32 → Int32 → Int32 → Option (GS)) (hK51 : ∀ (st : GS) (x1 : Int32) (x2 : Int32) (x3 : Int32) (H : Heap) (locs : List Loc) (ls : Array Slot), GW ρ wM ad st H → va_S (MA wM ad s.heap.size) s.heap H locs → lv_has ls 4 [(0, .ref (ad 0)), (1, .int x1), (2, .int x2), (3, .int x3)] → K51 st x1 x2 x3 = some res → W p l e ({ frames := 5, cells := 0, slots := 0, locals := 110 } : Room) s m args below meth c H locs 0 0 (MQ below (mQ (fun v H1 => v = none ∧ GW ρ wM ad res H1) (MA wM ad s.heap.size)) args s 0 0 (MA wM ad s.heap.size)) (F0 m 51 ls [])), ∀ (st : GS) (x1 : Int32) (x2 : Int32) (z0 : Int32) (H : Heap) (locs : List Loc) (ls : Array Slot), GW ρ wM ad st H → va_S (MA wM ad s.heap.size) s.heap H locs → lv_has ls 4 [(0, .ref (ad 0)), (1, .int x1), (2, .int x2)] → mo_workDay_96 K51 st x1 x2 z0 = some res → W p l e ({ frames := 5, cells := 0, slots := 0, locals := 110 } : Room) s m args below meth c H locs 0 0 (MQ below (mQ (fun v H1 => v = none ∧ GW ρ wM ad res H1) (MA wM ad s.heap.size)) args s 0 0 (MA wM ad s.heap.size)) (F0 m 96 ls [.int z0]) := by
    intro K51 hK51
    intro st x1 x2 z0 H locs ls hW hS hl h
    unfold mo_workDay_96 at h
    refine lv_iconst (pc := 96) (v := 0) hx hb d244_96 (by decide) ?_
    exact kc97 _ hK51 st x1 x2 z0 0 _ _ _ hW hS (lv_sub hl [0, 1, 2] rfl) h
  have kc76 : ∀ (K51 : GS → Int32 → Int32 → Int32 → Option (GS)) (hK51 : ∀ (st : GS) (x1 : Int32) (x2 : Int32) (x3 : Int32) (H : Heap) (locs : List Loc) (ls : Array Slot), GW ρ wM ad st H → va_S (MA wM ad s.heap.size) s.heap H locs → lv_has ls 4 [(0, .ref (ad 0)), (1, .int x1), (2, .int x2), (3, .int x3)] → K51 st x1 x2 x3 = some res → W p l e ({ frames := 5, cells := 0, slots := 0, locals := 110 } : Room) s m args below meth c H locs 0 0 (MQ below (mQ (fun v H1 => v = none ∧ GW ρ wM ad res H1) (MA wM ad s.heap.size)) args s 0 0 (MA wM ad s.heap.size)) (F0 m 51 ls [])), ∀ (st : GS) (x2 : Int32) (x3 : Int32) (z0 : Int32) (z1 : Int32) (H : Heap) (locs : List Loc) (ls : Array Slot), GW ρ wM ad st H → va_S (MA wM ad s.heap.size) s.heap H locs → lv_has ls 4 [(0, .ref (ad 0)), (2, .int x2), (3, .int x3)] → mo_workDay_76 K51 st x2 x3 z0 z1 = some res → W p l e ({ frames := 5, cells := 0, slots := 0, locals := 110 } : Room) s m args below meth c H locs 0 0 (MQ below (mQ (fun v H1 => v = none ∧ GW ρ wM ad res H1) (MA wM ad s.heap.size)) args s 0 0 (MA wM ad s.heap.size)) (F0 m 76 ls [.int z1, .int z0]) := by
    intro K51 hK51
    intro st x2 x3 z0 z1 H locs ls hW hS hl h
    unfold mo_workDay_76 at h
    refine lv_iadd (pc := 76) hx hb d244_76 ?_
    obtain ⟨v3, ev3, h⟩ := jn_ex h
    refine nm_i ev3 ?_
    refine lv_istore_n (pc := 77) (lv' := [(1, .int v3), (0, .ref (ad 0)), (2, .int x2), (3, .int x3)]) hx hb d244_77 rfl hl (by decide) rfl (fun ls hl => ?_)
    refine lv_iload_n (pc := 78) hx hb d244_78 rfl (lv_at hl 3 rfl) ?_
    refine lv_iload_n (pc := 79) hx hb d244_79 rfl (lv_at hl 0 rfl) ?_
    refine lv_if_lt (pc := 80) (tgt := 96) hx hb d244_80 (by decide) (fun c80 => ?_) (fun c80 => ?_)
    · have h := jb_t c80 h
      exact kc96 _ hK51 st v3 x2 x3 _ _ _ hW hS (lv_sub hl [1, 0, 2] rfl) h
    · have h := jb_f c80 h
      refine lv_aload_n (pc := 83) hx hb d244_83 rfl (lv_at hl 1 rfl) ?_
      refine lv_iload_n (pc := 84) hx hb d244_84 rfl (lv_at hl 0 rfl) ?_
      refine lv_iconst (pc := 85) (v := 2) hx hb d244_85 (by decide) ?_
      obtain ⟨q4, hq4, h⟩ := jc_some h
      refine k_callV (pc := 86) (n := 2) X hS (c_mo_isWork l ρ ad _ st v3 2 q4 hW hq4) wd1960 wd1957 wd1959 sl184 wd11 (by decide) ⟨rfl, rfl, by decide, by decide⟩ (m_recv X hW) (As := [.int v3, .int 2]) (rest := [.int x3]) rfl rfl hl.1 (Nat.le_of_ble_eq_true rfl) d244_86 ⟨by decide, by decide⟩ (fun q hq => False.elim hq) (fun v H1 locs1 hv _ _ hSq4 => ?_)
      obtain ⟨rfl, rfl⟩ := hv
      have hS := hSq4
      refine lv_if_eq (pc := 89) (tgt := 96) hx hb d244_89 (by decide) (fun c89 => ?_) (fun c89 => ?_)
      · have h := jb_t c89 h
        exact kc96 _ hK51 st v3 x2 x3 _ _ _ hW hS (lv_sub hl [1, 0, 2] rfl) h
      · have h := jb_f c89 h
        refine lv_iconst (pc := 92) (v := 1) hx hb d244_92 (by decide) ?_
        refine lv_goto (pc := 93) (tgt := 97) hx hb d244_93 (by decide) ?_
        exact kc97 _ hK51 st v3 x2 x3 1 _ _ _ hW hS (lv_sub hl [1, 0, 2] rfl) h
  have kc51 : ∀ (fu : Nat), ∀ (st : GS) (x1 : Int32) (x2 : Int32) (x3 : Int32) (H : Heap) (locs : List Loc) (ls : Array Slot), GW ρ wM ad st H → va_S (MA wM ad s.heap.size) s.heap H locs → lv_has ls 4 [(0, .ref (ad 0)), (1, .int x1), (2, .int x2), (3, .int x3)] → mo_workDay_51 fu st x1 x2 x3 = some res → W p l e ({ frames := 5, cells := 0, slots := 0, locals := 110 } : Room) s m args below meth c H locs 0 0 (MQ below (mQ (fun v H1 => v = none ∧ GW ρ wM ad res H1) (MA wM ad s.heap.size)) args s 0 0 (MA wM ad s.heap.size)) (F0 m 51 ls []) := by
    intro  fu
    induction fu with
    | zero => intro st x1 x2 x3 H locs ls hW hS hl h; cases h
    | succ fu hK51 =>
      intro st x1 x2 x3 H locs ls hW hS hl h
      unfold mo_workDay_51 at h
      refine lv_iload_n (pc := 51) hx hb d244_51 rfl (lv_at hl 3 rfl) ?_
      refine lv_if_le (pc := 52) (tgt := 102) hx hb d244_52 (by decide) (fun c52 => ?_) (fun c52 => ?_)
      · have h := jb_t c52 h
        exact kc102  st x1 _ _ _ hW hS (lv_sub hl [0, 1] rfl) h
      · have h := jb_f c52 h
        refine lv_iload_n (pc := 55) hx hb d244_55 rfl (lv_at hl 1 rfl) ?_
        refine lv_if_lt (pc := 56) (tgt := 102) hx hb d244_56 (by decide) (fun c56 => ?_) (fun c56 => ?_)
        · have h := jb_t c56 h
          exact kc102  st x1 _ _ _ hW hS (lv_sub hl [0, 1] rfl) h
        · have h := jb_f c56 h
          refine lv_iload_n (pc := 59) hx hb d244_59 rfl (lv_at hl 1 rfl) ?_
          refine lv_ldcw (pc := 60) hx hb X.1.2.2.2.1 (X.ts wd1965) d244_60 ?_
          refine lv_icmp_gt (pc := 63) (tgt := 102) hx hb d244_63 (by decide) (fun c63 => ?_) (fun c63 => ?_)
          · have h := jb_t c63 h
            exact kc102  st x1 _ _ _ hW hS (lv_sub hl [0, 1] rfl) h
          · have h := jb_f c63 h
            refine lv_iload_n (pc := 66) hx hb d244_66 rfl (lv_at hl 1 rfl) ?_
            refine lv_iload_n (pc := 67) hx hb d244_67 rfl (lv_at hl 2 rfl) ?_
            refine lv_if_ge (pc := 68) (tgt := 75) hx hb d244_68 (by decide) (fun c68 => ?_) (fun c68 => ?_)
            · have h := jb_t c68 h
              refine lv_iconst (pc := 75) (v := 1) hx hb d244_75 (by decide) ?_
              exact kc76 _ hK51 st x2 x3 x1 1 _ _ _ hW hS (lv_sub hl [0, 2, 3] rfl) h
            · have h := jb_f c68 h
              refine lv_iconst (pc := 71) (v := (-1)) hx hb d244_71 (by decide) ?_
              refine lv_goto (pc := 72) (tgt := 76) hx hb d244_72 (by decide) ?_
              exact kc76 _ hK51 st x2 x3 x1 (-1) _ _ _ hW hS (lv_sub hl [0, 2, 3] rfl) h
  have kc50 : ∀ (st : GS) (x1 : Int32) (x2 : Int32) (z0 : Int32) (H : Heap) (locs : List Loc) (ls : Array Slot), GW ρ wM ad st H → va_S (MA wM ad s.heap.size) s.heap H locs → lv_has ls 4 [(0, .ref (ad 0)), (1, .int x1), (2, .int x2)] → mo_workDay_50 st x1 x2 z0 = some res → W p l e ({ frames := 5, cells := 0, slots := 0, locals := 110 } : Room) s m args below meth c H locs 0 0 (MQ below (mQ (fun v H1 => v = none ∧ GW ρ wM ad res H1) (MA wM ad s.heap.size)) args s 0 0 (MA wM ad s.heap.size)) (F0 m 50 ls [.int z0]) := by
    intro st x1 x2 z0 H locs ls hW hS hl h
    unfold mo_workDay_50 at h
    refine lv_istore_n (pc := 50) (lv' := [(3, .int z0), (0, .ref (ad 0)), (1, .int x1), (2, .int x2)]) hx hb d244_50 rfl hl (by decide) rfl (fun ls hl => ?_)
    exact kc51  FU st x1 x2 z0 _ _ _ hW hS (lv_sub hl [1, 2, 3, 0] rfl) h
  have kc32 : ∀ (st : GS) (x1 : Int32) (x2 : Int32) (H : Heap) (locs : List Loc) (ls : Array Slot), GW ρ wM ad st H → va_S (MA wM ad s.heap.size) s.heap H locs → lv_has ls 4 [(0, .ref (ad 0)), (1, .int x1), (2, .int x2)] → mo_workDay_32 st x1 x2 = some res → W p l e ({ frames := 5, cells := 0, slots := 0, locals := 110 } : Room) s m args below meth c H locs 0 0 (MQ below (mQ (fun v H1 => v = none ∧ GW ρ wM ad res H1) (MA wM ad s.heap.size)) args s 0 0 (MA wM ad s.heap.size)) (F0 m 32 ls []) := by
    intro st x1 x2 H locs ls hW hS hl h
    unfold mo_workDay_32 at h
    refine lv_aload_n (pc := 32) hx hb d244_32 rfl (lv_at hl 0 rfl) ?_
    refine m_get (pc := 33) X hW 22 (v := .int (st.1 0 22)) wd1388 rfl rfl d244_33 ?_
    refine lv_if_eq (pc := 36) (tgt := 40) hx hb d244_36 (by decide) (fun c36 => ?_) (fun c36 => ?_)
    · have h := jb_t c36 h
      refine lv_iload_n (pc := 40) hx hb d244_40 rfl (lv_at hl 2 rfl) ?_
      refine lv_if_ge (pc := 41) (tgt := 49) hx hb d244_41 (by decide) (fun c41 => ?_) (fun c41 => ?_)
      · have h := jb_t c41 h
        refine lv_iload_n (pc := 49) hx hb d244_49 rfl (lv_at hl 2 rfl) ?_
        exact kc50  st x1 x2 x2 _ _ _ hW hS (lv_sub hl [0, 1, 2] rfl) h
      · have h := jb_f c41 h
        refine lv_iload_n (pc := 44) hx hb d244_44 rfl (lv_at hl 2 rfl) ?_
        refine lv_ineg (pc := 45) hx hb d244_45 ?_
        refine lv_goto (pc := 46) (tgt := 50) hx hb d244_46 (by decide) ?_
        exact kc50  st x1 x2 (-x2) _ _ _ hW hS (lv_sub hl [0, 1, 2] rfl) h
    · have h := jb_f c36 h
      obtain rfl := Option.some.inj h
      exact m_vret (pc := 39) hx hb hr hlk hS ⟨rfl, hW⟩ (by decide) (by decide) d244_39
  have kc26 : ∀ (st : GS) (x1 : Int32) (x2 : Int32) (H : Heap) (locs : List Loc) (ls : Array Slot), GW ρ wM ad st H → va_S (MA wM ad s.heap.size) s.heap H locs → lv_has ls 4 [(0, .ref (ad 0)), (1, .int x1), (2, .int x2)] → mo_workDay_26 st x1 x2 = some res → W p l e ({ frames := 5, cells := 0, slots := 0, locals := 110 } : Room) s m args below meth c H locs 0 0 (MQ below (mQ (fun v H1 => v = none ∧ GW ρ wM ad res H1) (MA wM ad s.heap.size)) args s 0 0 (MA wM ad s.heap.size)) (F0 m 26 ls []) := by
    intro st x1 x2 H locs ls hW hS hl h
    unfold mo_workDay_26 at h
    refine lv_aload_n (pc := 26) hx hb d244_26 rfl (lv_at hl 0 rfl) ?_
    refine lv_bipush (pc := 27) (v := 6) hx hb d244_27 (by decide) ?_
    obtain ⟨q5, hq5, h⟩ := jc_some h
    refine k_callV (pc := 29) (n := 1) X hS (c_mo_fail l ρ ad _ st 6 q5 hW hq5) wd1621 wd1618 wd1620 sl170 wd11 (by decide) ⟨rfl, rfl, by decide, by decide⟩ (m_recv X hW) (As := [.int 6]) (rest := []) rfl rfl hl.1 (Nat.le_of_ble_eq_true rfl) d244_29 ⟨by decide, by decide⟩ (fun q hq => MA.mono hS.1 hq) (fun v H1 locs1 hv _ _ hSq5 => ?_)
    obtain ⟨rfl, hW⟩ := hv
    have hS := hSq5
    exact kc32  q5 x1 x2 _ _ _ hW hS (lv_sub hl [0, 1, 2] rfl) h
  unfold f_mo_workDay at h
  refine lv_aload_n (pc := 0) hx hb d244_0 rfl (lv_at hl 0 rfl) ?_
  refine lv_iconst (pc := 1) (v := 0) hx hb d244_1 (by decide) ?_
  obtain ⟨q6, hq6, h⟩ := jc_some h
  refine k_callV (pc := 2) (n := 1) X hS (c_mo_dayOf l ρ ad _ st 0 q6 hW hq6) wd1915 wd1912 wd1914 sl161 wd11 (by decide) ⟨rfl, rfl, by decide, by decide⟩ (m_recv X hW) (As := [.int 0]) (rest := []) rfl rfl hl.1 (Nat.le_of_ble_eq_true rfl) d244_2 ⟨by decide, by decide⟩ (fun q hq => MA.mono hS.1 hq) (fun v H1 locs1 hv _ _ hSq6 => ?_)
  obtain ⟨rfl, hW⟩ := hv
  have hS := hSq6
  refine lv_istore_n (pc := 5) (lv' := [(1, .int q6.1), (0, .ref (ad 0))]) hx hb d244_5 rfl hl (by decide) rfl (fun ls hl => ?_)
  refine lv_aload_n (pc := 6) hx hb d244_6 rfl (lv_at hl 1 rfl) ?_
  refine lv_iconst (pc := 7) (v := 1) hx hb d244_7 (by decide) ?_
  obtain ⟨q7, hq7, h⟩ := jc_some h
  refine k_callV (pc := 8) (n := 1) X hS (c_mo_whole1 l ρ ad _ q6.2 1 q7 hW hq7) wd1671 wd1668 wd1670 sl241 wd11 (by decide) ⟨rfl, rfl, by decide, by decide⟩ (m_recv X hW) (As := [.int 1]) (rest := []) rfl rfl hl.1 (Nat.le_of_ble_eq_true rfl) d244_8 ⟨by decide, by decide⟩ (fun q hq => MA.mono hS.1 hq) (fun v H1 locs1 hv _ _ hSq7 => ?_)
  obtain ⟨rfl, hW⟩ := hv
  have hS := hSq7
  refine lv_istore_n (pc := 11) (lv' := [(2, .int q7.1), (1, .int q6.1), (0, .ref (ad 0))]) hx hb d244_11 rfl hl (by decide) rfl (fun ls hl => ?_)
  refine lv_iload_n (pc := 12) hx hb d244_12 rfl (lv_at hl 0 rfl) ?_
  refine lv_ldcw (pc := 13) hx hb X.1.2.2.2.1 (X.ts wd1878) d244_13 ?_
  refine lv_icmp_gt (pc := 16) (tgt := 26) hx hb d244_16 (by decide) (fun c16 => ?_) (fun c16 => ?_)
  · have h := jb_t c16 h
    exact kc26  q7.2 q6.1 q7.1 _ _ _ hW hS (lv_sub hl [2, 1, 0] rfl) h
  · have h := jb_f c16 h
    refine lv_iload_n (pc := 19) hx hb d244_19 rfl (lv_at hl 0 rfl) ?_
    refine lv_ldcw (pc := 20) hx hb X.1.2.2.2.1 (X.ts wd1879) d244_20 ?_
    refine lv_icmp_ge (pc := 23) (tgt := 32) hx hb d244_23 (by decide) (fun c23 => ?_) (fun c23 => ?_)
    · have h := jb_t c23 h
      exact kc32  q7.2 q6.1 q7.1 _ _ _ hW hS (lv_sub hl [2, 1, 0] rfl) h
    · have h := jb_f c23 h
      exact kc26  q7.2 q6.1 q7.1 _ _ _ hW hS (lv_sub hl [2, 1, 0] rfl) h
def mo_dates_132  (st : GS) (z1 : Int32) : Option (GS) := jc (f_mo_monthsLater st z1) (fun q1 => some q1)
def f_mo_dates (st : GS) (p0 : Int32) : Option (GS) := jb (p0 = 101) (jc (f_mo_date st) (fun q2 => some q2)) (jb (p0 = 102) (jc (f_mo_time st) (fun q3 => some q3)) (jb (p0 = 103) (jc (f_mo_datePart st p0) (fun q4 => some q4)) (jb (p0 = 104) (jc (f_mo_datePart st p0) (fun q5 => some q5)) (jb (p0 = 105) (jc (f_mo_datePart st p0) (fun q6 => some q6)) (jb (p0 = 106) (jc (f_mo_timePart st p0) (fun q7 => some q7)) (jb (p0 = 107) (jc (f_mo_timePart st p0) (fun q8 => some q8)) (jb (p0 = 108) (jc (f_mo_timePart st p0) (fun q9 => some q9)) (jb (p0 = 109) (jc (f_mo_weekday st) (fun q10 => some q10)) (jb (p0 = 110) (jc (f_mo_weekNumber st) (fun q11 => some q11)) (jb (p0 = 111) (jb (p0 = 112) (mo_dates_132  st 1) (mo_dates_132  st 0)) (jb (p0 = 112) (jb (p0 = 112) (mo_dates_132  st 1) (mo_dates_132  st 0)) (jb (p0 = 113) (jc (f_mo_dayOf st 0) (fun q12 => jc (f_mo_dayOf q12.2 1) (fun q13 => jc (f_mo_answerNumber q13.2 (FP.i2d (q12.1 - q13.1))) (fun q14 => some q14)))) (jb (p0 = 114) (jc (f_mo_difference st) (fun q15 => some q15)) (jb (p0 = 115) (jc (f_mo_workDays st) (fun q16 => some q16)) (jc (f_mo_workDay st) (fun q17 => some q17))))))))))))))))
set_option maxHeartbeats 4000000 in
set_option maxRecDepth 100000 in
theorem c_mo_dates (l : Launch) (ρ : RH) (ad : Nat → Nat) (H : Heap) (st : GS) (p0 : Int32) (res : GS) (hW : GW ρ wM ad st H) (h : f_mo_dates st p0 = some res) : Met l y160 (wsOf y160 b160 3 none) ({ frames := 7, cells := 0, slots := 0, locals := 157 } : Room) (va_Pc [.ref (ad 0), .int p0] (KP ρ H)) (mQ (fun v H1 => v = none ∧ GW ρ wM ad res H1) (MA wM ad H.size)) 0 0 (MA wM ad H.size) := by
  refine m_ofW (own := "WordFunctionsModel") (plainFor_of_name rfl) rfl (Nat.le_of_ble_eq_true rfl) fun p e s m args below meth c ls hx hb hr hlk _ X hs hl => ?_
  subst hs
  have hS : va_S (MA wM ad s.heap.size) s.heap s.heap [] := va_S.rf
  have hl : lv_has ls 3 [(0, .ref (ad 0)), (1, .int p0)] := hl
  have kc132 : ∀ (st : GS) (z1 : Int32) (H : Heap) (locs : List Loc) (ls : Array Slot), GW ρ wM ad st H → va_S (MA wM ad s.heap.size) s.heap H locs → lv_has ls 3 [] → mo_dates_132 st z1 = some res → W p l e ({ frames := 7, cells := 0, slots := 0, locals := 157 } : Room) s m args below meth c H locs 0 0 (MQ below (mQ (fun v H1 => v = none ∧ GW ρ wM ad res H1) (MA wM ad s.heap.size)) args s 0 0 (MA wM ad s.heap.size)) (F0 m 132 ls [.int z1, .ref (ad 0)]) := by
    intro st z1 H locs ls hW hS hl h
    unfold mo_dates_132 at h
    obtain ⟨q1, hq1, h⟩ := jc_some h
    refine k_callV (pc := 132) (n := 1) X hS (c_mo_monthsLater l ρ ad _ st z1 q1 hW hq1) wd1944 wd1941 wd1943 sl202 wd11 (by decide) ⟨rfl, rfl, by decide, by decide⟩ (m_recv X hW) (As := [.int z1]) (rest := []) rfl rfl hl.1 (Nat.le_of_ble_eq_true rfl) d160_132 ⟨by decide, by decide⟩ (fun q hq => MA.mono hS.1 hq) (fun v H1 locs1 hv _ _ hSq1 => ?_)
    obtain ⟨rfl, hW⟩ := hv
    have hS := hSq1
    refine lv_goto (pc := 135) (tgt := 177) hx hb d160_135 (by decide) ?_
    obtain rfl := Option.some.inj h
    exact m_vret (pc := 177) hx hb hr hlk hS ⟨rfl, hW⟩ (by decide) (by decide) d160_177
  unfold f_mo_dates at h
  refine lv_iload_n (pc := 0) hx hb d160_0 rfl (lv_at hl 1 rfl) ?_
  by_cases c1_101 : p0 = 101
  · have h := jb_t c1_101 h
    refine lv_tableIn (pc := 1) (off := 75) (tgt := 76) hx hb d160_1 (by rw [c1_101]; decide) (by rw [c1_101]; decide) (by rw [c1_101]; rfl) (by decide) ?_
    refine lv_aload_n (pc := 76) hx hb d160_76 rfl (lv_at hl 0 rfl) ?_
    obtain ⟨q2, hq2, h⟩ := jc_some h
    refine k_callV (pc := 77) (n := 0) X hS (c_mo_date l ρ ad _ st q2 hW hq2) wd1877 wd1874 wd1876 sl157 wd11 (by decide) ⟨rfl, rfl, by decide, by decide⟩ (m_recv X hW) (As := []) (rest := []) rfl rfl hl.1 (Nat.le_of_ble_eq_true rfl) d160_77 ⟨by decide, by decide⟩ (fun q hq => MA.mono hS.1 hq) (fun v H1 locs1 hv _ _ hSq2 => ?_)
    obtain ⟨rfl, hW⟩ := hv
    have hS := hSq2
    refine lv_goto (pc := 80) (tgt := 177) hx hb d160_80 (by decide) ?_
    obtain rfl := Option.some.inj h
    exact m_vret (pc := 177) hx hb hr hlk hS ⟨rfl, hW⟩ (by decide) (by decide) d160_177
  have h := jb_f c1_101 h
  by_cases c1_102 : p0 = 102
  · have h := jb_t c1_102 h
    refine lv_tableIn (pc := 1) (off := 82) (tgt := 83) hx hb d160_1 (by rw [c1_102]; decide) (by rw [c1_102]; decide) (by rw [c1_102]; rfl) (by decide) ?_
    refine lv_aload_n (pc := 83) hx hb d160_83 rfl (lv_at hl 0 rfl) ?_
    obtain ⟨q3, hq3, h⟩ := jc_some h
    refine k_callV (pc := 84) (n := 0) X hS (c_mo_time l ρ ad _ st q3 hW hq3) wd1903 wd1900 wd1902 sl229 wd11 (by decide) ⟨rfl, rfl, by decide, by decide⟩ (m_recv X hW) (As := []) (rest := []) rfl rfl hl.1 (Nat.le_of_ble_eq_true rfl) d160_84 ⟨by decide, by decide⟩ (fun q hq => MA.mono hS.1 hq) (fun v H1 locs1 hv _ _ hSq3 => ?_)
    obtain ⟨rfl, hW⟩ := hv
    have hS := hSq3
    refine lv_goto (pc := 87) (tgt := 177) hx hb d160_87 (by decide) ?_
    obtain rfl := Option.some.inj h
    exact m_vret (pc := 177) hx hb hr hlk hS ⟨rfl, hW⟩ (by decide) (by decide) d160_177
  have h := jb_f c1_102 h
  by_cases c1_103 : p0 = 103
  · have h := jb_t c1_103 h
    refine lv_tableIn (pc := 1) (off := 89) (tgt := 90) hx hb d160_1 (by rw [c1_103]; decide) (by rw [c1_103]; decide) (by rw [c1_103]; rfl) (by decide) ?_
    refine lv_aload_n (pc := 90) hx hb d160_90 rfl (lv_at hl 0 rfl) ?_
    refine lv_iload_n (pc := 91) hx hb d160_91 rfl (lv_at hl 1 rfl) ?_
    obtain ⟨q4, hq4, h⟩ := jc_some h
    refine k_callV (pc := 92) (n := 1) X hS (c_mo_datePart l ρ ad _ st p0 q4 hW hq4) wd1911 wd1908 wd1910 sl159 wd11 (by decide) ⟨rfl, rfl, by decide, by decide⟩ (m_recv X hW) (As := [.int p0]) (rest := []) rfl rfl hl.1 (Nat.le_of_ble_eq_true rfl) d160_92 ⟨by decide, by decide⟩ (fun q hq => MA.mono hS.1 hq) (fun v H1 locs1 hv _ _ hSq4 => ?_)
    obtain ⟨rfl, hW⟩ := hv
    have hS := hSq4
    refine lv_goto (pc := 95) (tgt := 177) hx hb d160_95 (by decide) ?_
    obtain rfl := Option.some.inj h
    exact m_vret (pc := 177) hx hb hr hlk hS ⟨rfl, hW⟩ (by decide) (by decide) d160_177
  have h := jb_f c1_103 h
  by_cases c1_104 : p0 = 104
  · have h := jb_t c1_104 h
    refine lv_tableIn (pc := 1) (off := 89) (tgt := 90) hx hb d160_1 (by rw [c1_104]; decide) (by rw [c1_104]; decide) (by rw [c1_104]; rfl) (by decide) ?_
    refine lv_aload_n (pc := 90) hx hb d160_90 rfl (lv_at hl 0 rfl) ?_
    refine lv_iload_n (pc := 91) hx hb d160_91 rfl (lv_at hl 1 rfl) ?_
    obtain ⟨q5, hq5, h⟩ := jc_some h
    refine k_callV (pc := 92) (n := 1) X hS (c_mo_datePart l ρ ad _ st p0 q5 hW hq5) wd1911 wd1908 wd1910 sl159 wd11 (by decide) ⟨rfl, rfl, by decide, by decide⟩ (m_recv X hW) (As := [.int p0]) (rest := []) rfl rfl hl.1 (Nat.le_of_ble_eq_true rfl) d160_92 ⟨by decide, by decide⟩ (fun q hq => MA.mono hS.1 hq) (fun v H1 locs1 hv _ _ hSq5 => ?_)
    obtain ⟨rfl, hW⟩ := hv
    have hS := hSq5
    refine lv_goto (pc := 95) (tgt := 177) hx hb d160_95 (by decide) ?_
    obtain rfl := Option.some.inj h
    exact m_vret (pc := 177) hx hb hr hlk hS ⟨rfl, hW⟩ (by decide) (by decide) d160_177
  have h := jb_f c1_104 h
  by_cases c1_105 : p0 = 105
  · have h := jb_t c1_105 h
    refine lv_tableIn (pc := 1) (off := 89) (tgt := 90) hx hb d160_1 (by rw [c1_105]; decide) (by rw [c1_105]; decide) (by rw [c1_105]; rfl) (by decide) ?_
    refine lv_aload_n (pc := 90) hx hb d160_90 rfl (lv_at hl 0 rfl) ?_
    refine lv_iload_n (pc := 91) hx hb d160_91 rfl (lv_at hl 1 rfl) ?_
    obtain ⟨q6, hq6, h⟩ := jc_some h
    refine k_callV (pc := 92) (n := 1) X hS (c_mo_datePart l ρ ad _ st p0 q6 hW hq6) wd1911 wd1908 wd1910 sl159 wd11 (by decide) ⟨rfl, rfl, by decide, by decide⟩ (m_recv X hW) (As := [.int p0]) (rest := []) rfl rfl hl.1 (Nat.le_of_ble_eq_true rfl) d160_92 ⟨by decide, by decide⟩ (fun q hq => MA.mono hS.1 hq) (fun v H1 locs1 hv _ _ hSq6 => ?_)
    obtain ⟨rfl, hW⟩ := hv
    have hS := hSq6
    refine lv_goto (pc := 95) (tgt := 177) hx hb d160_95 (by decide) ?_
    obtain rfl := Option.some.inj h
    exact m_vret (pc := 177) hx hb hr hlk hS ⟨rfl, hW⟩ (by decide) (by decide) d160_177
  have h := jb_f c1_105 h
  by_cases c1_106 : p0 = 106
  · have h := jb_t c1_106 h
    refine lv_tableIn (pc := 1) (off := 97) (tgt := 98) hx hb d160_1 (by rw [c1_106]; decide) (by rw [c1_106]; decide) (by rw [c1_106]; rfl) (by decide) ?_
    refine lv_aload_n (pc := 98) hx hb d160_98 rfl (lv_at hl 0 rfl) ?_
    refine lv_iload_n (pc := 99) hx hb d160_99 rfl (lv_at hl 1 rfl) ?_
    obtain ⟨q7, hq7, h⟩ := jc_some h
    refine k_callV (pc := 100) (n := 1) X hS (c_mo_timePart l ρ ad _ st p0 q7 hW hq7) wd1931 wd1928 wd1930 sl230 wd11 (by decide) ⟨rfl, rfl, by decide, by decide⟩ (m_recv X hW) (As := [.int p0]) (rest := []) rfl rfl hl.1 (Nat.le_of_ble_eq_true rfl) d160_100 ⟨by decide, by decide⟩ (fun q hq => MA.mono hS.1 hq) (fun v H1 locs1 hv _ _ hSq7 => ?_)
    obtain ⟨rfl, hW⟩ := hv
    have hS := hSq7
    refine lv_goto (pc := 103) (tgt := 177) hx hb d160_103 (by decide) ?_
    obtain rfl := Option.some.inj h
    exact m_vret (pc := 177) hx hb hr hlk hS ⟨rfl, hW⟩ (by decide) (by decide) d160_177
  have h := jb_f c1_106 h
  by_cases c1_107 : p0 = 107
  · have h := jb_t c1_107 h
    refine lv_tableIn (pc := 1) (off := 97) (tgt := 98) hx hb d160_1 (by rw [c1_107]; decide) (by rw [c1_107]; decide) (by rw [c1_107]; rfl) (by decide) ?_
    refine lv_aload_n (pc := 98) hx hb d160_98 rfl (lv_at hl 0 rfl) ?_
    refine lv_iload_n (pc := 99) hx hb d160_99 rfl (lv_at hl 1 rfl) ?_
    obtain ⟨q8, hq8, h⟩ := jc_some h
    refine k_callV (pc := 100) (n := 1) X hS (c_mo_timePart l ρ ad _ st p0 q8 hW hq8) wd1931 wd1928 wd1930 sl230 wd11 (by decide) ⟨rfl, rfl, by decide, by decide⟩ (m_recv X hW) (As := [.int p0]) (rest := []) rfl rfl hl.1 (Nat.le_of_ble_eq_true rfl) d160_100 ⟨by decide, by decide⟩ (fun q hq => MA.mono hS.1 hq) (fun v H1 locs1 hv _ _ hSq8 => ?_)
    obtain ⟨rfl, hW⟩ := hv
    have hS := hSq8
    refine lv_goto (pc := 103) (tgt := 177) hx hb d160_103 (by decide) ?_
    obtain rfl := Option.some.inj h
    exact m_vret (pc := 177) hx hb hr hlk hS ⟨rfl, hW⟩ (by decide) (by decide) d160_177
  have h := jb_f c1_107 h
  by_cases c1_108 : p0 = 108
  · have h := jb_t c1_108 h
    refine lv_tableIn (pc := 1) (off := 97) (tgt := 98) hx hb d160_1 (by rw [c1_108]; decide) (by rw [c1_108]; decide) (by rw [c1_108]; rfl) (by decide) ?_
    refine lv_aload_n (pc := 98) hx hb d160_98 rfl (lv_at hl 0 rfl) ?_
    refine lv_iload_n (pc := 99) hx hb d160_99 rfl (lv_at hl 1 rfl) ?_
    obtain ⟨q9, hq9, h⟩ := jc_some h
    refine k_callV (pc := 100) (n := 1) X hS (c_mo_timePart l ρ ad _ st p0 q9 hW hq9) wd1931 wd1928 wd1930 sl230 wd11 (by decide) ⟨rfl, rfl, by decide, by decide⟩ (m_recv X hW) (As := [.int p0]) (rest := []) rfl rfl hl.1 (Nat.le_of_ble_eq_true rfl) d160_100 ⟨by decide, by decide⟩ (fun q hq => MA.mono hS.1 hq) (fun v H1 locs1 hv _ _ hSq9 => ?_)
    obtain ⟨rfl, hW⟩ := hv
    have hS := hSq9
    refine lv_goto (pc := 103) (tgt := 177) hx hb d160_103 (by decide) ?_
    obtain rfl := Option.some.inj h
    exact m_vret (pc := 177) hx hb hr hlk hS ⟨rfl, hW⟩ (by decide) (by decide) d160_177
  have h := jb_f c1_108 h
  by_cases c1_109 : p0 = 109
  · have h := jb_t c1_109 h
    refine lv_tableIn (pc := 1) (off := 105) (tgt := 106) hx hb d160_1 (by rw [c1_109]; decide) (by rw [c1_109]; decide) (by rw [c1_109]; rfl) (by decide) ?_
    refine lv_aload_n (pc := 106) hx hb d160_106 rfl (lv_at hl 0 rfl) ?_
    obtain ⟨q10, hq10, h⟩ := jc_some h
    refine k_callV (pc := 107) (n := 0) X hS (c_mo_weekday l ρ ad _ st q10 hW hq10) wd1936 wd1933 wd1935 sl240 wd11 (by decide) ⟨rfl, rfl, by decide, by decide⟩ (m_recv X hW) (As := []) (rest := []) rfl rfl hl.1 (Nat.le_of_ble_eq_true rfl) d160_107 ⟨by decide, by decide⟩ (fun q hq => MA.mono hS.1 hq) (fun v H1 locs1 hv _ _ hSq10 => ?_)
    obtain ⟨rfl, hW⟩ := hv
    have hS := hSq10
    refine lv_goto (pc := 110) (tgt := 177) hx hb d160_110 (by decide) ?_
    obtain rfl := Option.some.inj h
    exact m_vret (pc := 177) hx hb hr hlk hS ⟨rfl, hW⟩ (by decide) (by decide) d160_177
  have h := jb_f c1_109 h
  by_cases c1_110 : p0 = 110
  · have h := jb_t c1_110 h
    refine lv_tableIn (pc := 1) (off := 112) (tgt := 113) hx hb d160_1 (by rw [c1_110]; decide) (by rw [c1_110]; decide) (by rw [c1_110]; rfl) (by decide) ?_
    refine lv_aload_n (pc := 113) hx hb d160_113 rfl (lv_at hl 0 rfl) ?_
    obtain ⟨q11, hq11, h⟩ := jc_some h
    refine k_callV (pc := 114) (n := 0) X hS (c_mo_weekNumber l ρ ad _ st q11 hW hq11) wd1940 wd1937 wd1939 sl239 wd11 (by decide) ⟨rfl, rfl, by decide, by decide⟩ (m_recv X hW) (As := []) (rest := []) rfl rfl hl.1 (Nat.le_of_ble_eq_true rfl) d160_114 ⟨by decide, by decide⟩ (fun q hq => MA.mono hS.1 hq) (fun v H1 locs1 hv _ _ hSq11 => ?_)
    obtain ⟨rfl, hW⟩ := hv
    have hS := hSq11
    refine lv_goto (pc := 117) (tgt := 177) hx hb d160_117 (by decide) ?_
    obtain rfl := Option.some.inj h
    exact m_vret (pc := 177) hx hb hr hlk hS ⟨rfl, hW⟩ (by decide) (by decide) d160_177
  have h := jb_f c1_110 h
  by_cases c1_111 : p0 = 111
  · have h := jb_t c1_111 h
    refine lv_tableIn (pc := 1) (off := 119) (tgt := 120) hx hb d160_1 (by rw [c1_111]; decide) (by rw [c1_111]; decide) (by rw [c1_111]; rfl) (by decide) ?_
    refine lv_aload_n (pc := 120) hx hb d160_120 rfl (lv_at hl 0 rfl) ?_
    refine lv_iload_n (pc := 121) hx hb d160_121 rfl (lv_at hl 1 rfl) ?_
    refine lv_bipush (pc := 122) (v := 112) hx hb d160_122 (by decide) ?_
    refine lv_icmp_ne (pc := 124) (tgt := 131) hx hb d160_124 (by decide) (fun c124 => ?_) (fun c124 => ?_)
    · have h := jb_f c124 h
      refine lv_iconst (pc := 131) (v := 0) hx hb d160_131 (by decide) ?_
      exact kc132  st 0 _ _ _ hW hS (lv_sub hl [] rfl) h
    · have h := jb_t c124 h
      refine lv_iconst (pc := 127) (v := 1) hx hb d160_127 (by decide) ?_
      refine lv_goto (pc := 128) (tgt := 132) hx hb d160_128 (by decide) ?_
      exact kc132  st 1 _ _ _ hW hS (lv_sub hl [] rfl) h
  have h := jb_f c1_111 h
  by_cases c1_112 : p0 = 112
  · have h := jb_t c1_112 h
    refine lv_tableIn (pc := 1) (off := 119) (tgt := 120) hx hb d160_1 (by rw [c1_112]; decide) (by rw [c1_112]; decide) (by rw [c1_112]; rfl) (by decide) ?_
    refine lv_aload_n (pc := 120) hx hb d160_120 rfl (lv_at hl 0 rfl) ?_
    refine lv_iload_n (pc := 121) hx hb d160_121 rfl (lv_at hl 1 rfl) ?_
    refine lv_bipush (pc := 122) (v := 112) hx hb d160_122 (by decide) ?_
    refine lv_icmp_ne (pc := 124) (tgt := 131) hx hb d160_124 (by decide) (fun c124 => ?_) (fun c124 => ?_)
    · have h := jb_f c124 h
      refine lv_iconst (pc := 131) (v := 0) hx hb d160_131 (by decide) ?_
      exact kc132  st 0 _ _ _ hW hS (lv_sub hl [] rfl) h
    · have h := jb_t c124 h
      refine lv_iconst (pc := 127) (v := 1) hx hb d160_127 (by decide) ?_
      refine lv_goto (pc := 128) (tgt := 132) hx hb d160_128 (by decide) ?_
      exact kc132  st 1 _ _ _ hW hS (lv_sub hl [] rfl) h
  have h := jb_f c1_112 h
  by_cases c1_113 : p0 = 113
  · have h := jb_t c1_113 h
    refine lv_tableIn (pc := 1) (off := 137) (tgt := 138) hx hb d160_1 (by rw [c1_113]; decide) (by rw [c1_113]; decide) (by rw [c1_113]; rfl) (by decide) ?_
    refine lv_aload_n (pc := 138) hx hb d160_138 rfl (lv_at hl 0 rfl) ?_
    refine lv_iconst (pc := 139) (v := 0) hx hb d160_139 (by decide) ?_
    obtain ⟨q12, hq12, h⟩ := jc_some h
    refine k_callV (pc := 140) (n := 1) X hS (c_mo_dayOf l ρ ad _ st 0 q12 hW hq12) wd1915 wd1912 wd1914 sl161 wd11 (by decide) ⟨rfl, rfl, by decide, by decide⟩ (m_recv X hW) (As := [.int 0]) (rest := []) rfl rfl hl.1 (Nat.le_of_ble_eq_true rfl) d160_140 ⟨by decide, by decide⟩ (fun q hq => MA.mono hS.1 hq) (fun v H1 locs1 hv _ _ hSq12 => ?_)
    obtain ⟨rfl, hW⟩ := hv
    have hS := hSq12
    refine lv_istore_n (pc := 143) (lv' := [(2, .int q12.1), (0, .ref (ad 0)), (1, .int p0)]) hx hb d160_143 rfl hl (by decide) rfl (fun ls hl => ?_)
    refine lv_aload_n (pc := 144) hx hb d160_144 rfl (lv_at hl 1 rfl) ?_
    refine lv_iload_n (pc := 145) hx hb d160_145 rfl (lv_at hl 0 rfl) ?_
    refine lv_aload_n (pc := 146) hx hb d160_146 rfl (lv_at hl 1 rfl) ?_
    refine lv_iconst (pc := 147) (v := 1) hx hb d160_147 (by decide) ?_
    obtain ⟨q13, hq13, h⟩ := jc_some h
    refine k_callV (pc := 148) (n := 1) X hS (c_mo_dayOf l ρ ad _ q12.2 1 q13 hW hq13) wd1915 wd1912 wd1914 sl161 wd11 (by decide) ⟨rfl, rfl, by decide, by decide⟩ (m_recv X hW) (As := [.int 1]) (rest := [.int q12.1, .ref (ad 0)]) rfl rfl hl.1 (Nat.le_of_ble_eq_true rfl) d160_148 ⟨by decide, by decide⟩ (fun q hq => MA.mono hS.1 hq) (fun v H1 locs1 hv _ _ hSq13 => ?_)
    obtain ⟨rfl, hW⟩ := hv
    have hS := hSq13
    refine lv_isub (pc := 151) hx hb d160_151 ?_
    refine lv_i2d (pc := 152) hx hb d160_152 ?_
    obtain ⟨q14, hq14, h⟩ := jc_some h
    refine k_callV (pc := 153) (n := 1) X hS (c_mo_answerNumber l ρ ad _ q13.2 (FP.i2d (q12.1 - q13.1)) q14 hW hq14) wd1651 wd1648 wd1650 sl142 wd11 (by decide) ⟨rfl, rfl, by decide, by decide⟩ (m_recv X hW) (As := [.double (FP.i2d (q12.1 - q13.1))]) (rest := []) rfl rfl hl.1 (Nat.le_of_ble_eq_true rfl) d160_153 ⟨by decide, by decide⟩ (fun q hq => MA.mono hS.1 hq) (fun v H1 locs1 hv _ _ hSq14 => ?_)
    obtain ⟨rfl, hW⟩ := hv
    have hS := hSq14
    refine lv_goto (pc := 156) (tgt := 177) hx hb d160_156 (by decide) ?_
    obtain rfl := Option.some.inj h
    exact m_vret (pc := 177) hx hb hr hlk hS ⟨rfl, hW⟩ (by decide) (by decide) d160_177
  have h := jb_f c1_113 h
  by_cases c1_114 : p0 = 114
  · have h := jb_t c1_114 h
    refine lv_tableIn (pc := 1) (off := 158) (tgt := 159) hx hb d160_1 (by rw [c1_114]; decide) (by rw [c1_114]; decide) (by rw [c1_114]; rfl) (by decide) ?_
    refine lv_aload_n (pc := 159) hx hb d160_159 rfl (lv_at hl 0 rfl) ?_
    obtain ⟨q15, hq15, h⟩ := jc_some h
    refine k_callV (pc := 160) (n := 0) X hS (c_mo_difference l ρ ad _ st q15 hW hq15) wd1948 wd1945 wd1947 sl165 wd11 (by decide) ⟨rfl, rfl, by decide, by decide⟩ (m_recv X hW) (As := []) (rest := []) rfl rfl hl.1 (Nat.le_of_ble_eq_true rfl) d160_160 ⟨by decide, by decide⟩ (fun q hq => MA.mono hS.1 hq) (fun v H1 locs1 hv _ _ hSq15 => ?_)
    obtain ⟨rfl, hW⟩ := hv
    have hS := hSq15
    refine lv_goto (pc := 163) (tgt := 177) hx hb d160_163 (by decide) ?_
    obtain rfl := Option.some.inj h
    exact m_vret (pc := 177) hx hb hr hlk hS ⟨rfl, hW⟩ (by decide) (by decide) d160_177
  have h := jb_f c1_114 h
  by_cases c1_115 : p0 = 115
  · have h := jb_t c1_115 h
    refine lv_tableIn (pc := 1) (off := 165) (tgt := 166) hx hb d160_1 (by rw [c1_115]; decide) (by rw [c1_115]; decide) (by rw [c1_115]; rfl) (by decide) ?_
    refine lv_aload_n (pc := 166) hx hb d160_166 rfl (lv_at hl 0 rfl) ?_
    obtain ⟨q16, hq16, h⟩ := jc_some h
    refine k_callV (pc := 167) (n := 0) X hS (c_mo_workDays l ρ ad _ st q16 hW hq16) wd1956 wd1953 wd1955 sl245 wd11 (by decide) ⟨rfl, rfl, by decide, by decide⟩ (m_recv X hW) (As := []) (rest := []) rfl rfl hl.1 (Nat.le_of_ble_eq_true rfl) d160_167 ⟨by decide, by decide⟩ (fun q hq => MA.mono hS.1 hq) (fun v H1 locs1 hv _ _ hSq16 => ?_)
    obtain ⟨rfl, hW⟩ := hv
    have hS := hSq16
    refine lv_goto (pc := 170) (tgt := 177) hx hb d160_170 (by decide) ?_
    obtain rfl := Option.some.inj h
    exact m_vret (pc := 177) hx hb hr hlk hS ⟨rfl, hW⟩ (by decide) (by decide) d160_177
  have h := jb_f c1_115 h
  refine lv_tableOut (pc := 1) (tgt := 173) hx hb d160_1 (sw_out 15 (by decide) (by
    intro i hi
    match i, hi with
    | 0, _ => exact fun z => c1_101 (Int32.toInt_inj.mp (by rw [z]; decide))
    | 1, _ => exact fun z => c1_102 (Int32.toInt_inj.mp (by rw [z]; decide))
    | 2, _ => exact fun z => c1_103 (Int32.toInt_inj.mp (by rw [z]; decide))
    | 3, _ => exact fun z => c1_104 (Int32.toInt_inj.mp (by rw [z]; decide))
    | 4, _ => exact fun z => c1_105 (Int32.toInt_inj.mp (by rw [z]; decide))
    | 5, _ => exact fun z => c1_106 (Int32.toInt_inj.mp (by rw [z]; decide))
    | 6, _ => exact fun z => c1_107 (Int32.toInt_inj.mp (by rw [z]; decide))
    | 7, _ => exact fun z => c1_108 (Int32.toInt_inj.mp (by rw [z]; decide))
    | 8, _ => exact fun z => c1_109 (Int32.toInt_inj.mp (by rw [z]; decide))
    | 9, _ => exact fun z => c1_110 (Int32.toInt_inj.mp (by rw [z]; decide))
    | 10, _ => exact fun z => c1_111 (Int32.toInt_inj.mp (by rw [z]; decide))
    | 11, _ => exact fun z => c1_112 (Int32.toInt_inj.mp (by rw [z]; decide))
    | 12, _ => exact fun z => c1_113 (Int32.toInt_inj.mp (by rw [z]; decide))
    | 13, _ => exact fun z => c1_114 (Int32.toInt_inj.mp (by rw [z]; decide))
    | 14, _ => exact fun z => c1_115 (Int32.toInt_inj.mp (by rw [z]; decide))
    | i + 15, q => exact absurd q (by omega))) (by decide) ?_
  refine lv_aload_n (pc := 173) hx hb d160_173 rfl (lv_at hl 0 rfl) ?_
  obtain ⟨q17, hq17, h⟩ := jc_some h
  refine k_callV (pc := 174) (n := 0) X hS (c_mo_workDay l ρ ad _ st q17 hW hq17) wd1964 wd1961 wd1963 sl244 wd11 (by decide) ⟨rfl, rfl, by decide, by decide⟩ (m_recv X hW) (As := []) (rest := []) rfl rfl hl.1 (Nat.le_of_ble_eq_true rfl) d160_174 ⟨by decide, by decide⟩ (fun q hq => MA.mono hS.1 hq) (fun v H1 locs1 hv _ _ hSq17 => ?_)
  obtain ⟨rfl, hW⟩ := hv
  have hS := hSq17
  obtain rfl := Option.some.inj h
  exact m_vret (pc := 177) hx hb hr hlk hS ⟨rfl, hW⟩ (by decide) (by decide) d160_177
def mo_kindOf_410  (st : GS)  : Option (GS) := jc (f_mo_answerNumber st (st.2.1 0 21)) (fun q1 => some q1)
def mo_kindOf_390  (st : GS) (z1 : UInt64) : Option (GS) := jc (f_mo_answerNumber st z1) (fun q2 => some q2)
def mo_kindOf_310  (st : GS) (z1 : Int32) : Option (GS) := jc (f_mo_answerTruth st z1) (fun q3 => some q3)
def mo_kindOf_302  (st : GS) (z1 : Int32) (z2 : Int32) : Option (GS) := jb (z1 = z2) (mo_kindOf_310  st 1) (mo_kindOf_310  st 0)
def mo_kindOf_291  (st : GS) (x1 : Int32) (z1 : Int32) : Option (GS) := jb (x1 = 127) (mo_kindOf_302  st z1 1) (mo_kindOf_302  st z1 0)
def mo_kindOf_267  (st : GS) (z1 : Int32) : Option (GS) := jc (f_mo_answerTruth st z1) (fun q4 => some q4)
def mo_kindOf_266  (st : GS)  : Option (GS) := mo_kindOf_267  st 0
def mo_kindOf_236  (st : GS) (z1 : Int32) : Option (GS) := jc (f_mo_answerTruth st z1) (fun q5 => some q5)
def mo_kindOf_235  (st : GS)  : Option (GS) := mo_kindOf_236  st 0
def mo_kindOf_205  (st : GS) (z1 : Int32) : Option (GS) := jc (f_mo_answerTruth st z1) (fun q6 => some q6)
def mo_kindOf_185  (st : GS) (z1 : Int32) : Option (GS) := jc (f_mo_answerTruth st z1) (fun q7 => some q7)
def mo_kindOf_165  (st : GS) (z1 : Int32) : Option (GS) := jc (f_mo_answerTruth st z1) (fun q8 => some q8)
def mo_kindOf_145  (st : GS) (z1 : Int32) : Option (GS) := jc (f_mo_answerTruth st z1) (fun q9 => some q9)
def mo_kindOf_125  (st : GS) (z1 : Int32) : Option (GS) := jc (f_mo_answerTruth st z1) (fun q10 => some q10)
def mo_kindOf_105  (st : GS) (z1 : Int32) : Option (GS) := jc (f_mo_answerTruth st z1) (fun q11 => some q11)
def mo_kindOf_25  (st : GS) (x1 : Int32) : Option (GS) := jb (x1 = 119) (jb ((st.1 0 20) = 0) (mo_kindOf_105  st 1) (mo_kindOf_105  st 0)) (jb (x1 = 120) (jb ((st.1 0 20) = 1) (mo_kindOf_125  st 1) (mo_kindOf_125  st 0)) (jb (x1 = 121) (jb ((st.1 0 20) = 2) (mo_kindOf_145  st 1) (mo_kindOf_145  st 0)) (jb (x1 = 122) (jb ((st.1 0 20) = 2) (mo_kindOf_165  st 0) (mo_kindOf_165  st 1)) (jb (x1 = 123) (jb ((st.1 0 20) = 3) (mo_kindOf_185  st 1) (mo_kindOf_185  st 0)) (jb (x1 = 124) (jb ((st.1 0 20) = 4) (mo_kindOf_205  st 1) (mo_kindOf_205  st 0)) (jb (x1 = 125) (jb ((st.1 0 20) = 4) (jb ((Op.cmpValue (FP.dcmp (st.2.1 0 21) (4619567317775286272 : UInt64)) .l) = 0) (mo_kindOf_235  st) (mo_kindOf_236  st 1)) (mo_kindOf_235  st)) (jb (x1 = 126) (jb ((st.1 0 20) = 4) (jb ((Op.cmpValue (FP.dcmp (st.2.1 0 21) (4619567317775286272 : UInt64)) .l) = 0) (mo_kindOf_267  st 1) (mo_kindOf_266  st)) (mo_kindOf_266  st)) (jb (x1 = 127) (jc (f_mo_whole1 st 0) (fun q12 => jb ((q12.1 - q12.1 / 2 * 2) = 0) (mo_kindOf_291  q12.2 x1 1) (mo_kindOf_291  q12.2 x1 0))) (jb (x1 = 128) (jc (f_mo_whole1 st 0) (fun q13 => jb ((q13.1 - q13.1 / 2 * 2) = 0) (mo_kindOf_291  q13.2 x1 1) (mo_kindOf_291  q13.2 x1 0))) (jb (x1 = 129) (jc (f_mo_fail st 7) (fun q14 => some q14)) (jb (x1 = 130) (jc (f_mo_rowsOf st 0) (fun q15 => jc (f_mo_columnsOf st 0) (fun q16 => jb ((q15 * q16) ≤ 1) (jb ((st.1 0 20) = 2) (mo_kindOf_390  st (4611686018427387904 : UInt64)) (jb ((st.1 0 20) = 3) (mo_kindOf_390  st (4616189618054758400 : UInt64)) (jb ((st.1 0 20) = 4) (mo_kindOf_390  st (4625196817309499392 : UInt64)) (mo_kindOf_390  st FP.dconst1)))) (mo_kindOf_390  st (4634204016564240384 : UInt64))))) (jb (x1 = 131) (jb ((st.1 0 20) = 4) (mo_kindOf_410  st) (jc (f_mo_fail st 7) (fun q17 => mo_kindOf_410  q17))) (jc (f_mo_answerNumber st (4614256656552045848 : UInt64)) (fun q18 => some q18))))))))))))))
def mo_kindOf_20  (st : GS) (x1 : Int32) : Option (GS) := jc (f_mo_takeOf st 0) (fun q19 => mo_kindOf_25  q19 x1)
def f_mo_kindOf (st : GS) (p0 : Int32) : Option (GS) := jb (p0 < 127) (mo_kindOf_20  st p0) (jb (p0 ≤ 129) (mo_kindOf_25  st p0) (jb (132 ≤ p0) (mo_kindOf_25  st p0) (mo_kindOf_20  st p0)))
set_option maxHeartbeats 4000000 in
set_option maxRecDepth 100000 in
theorem c_mo_kindOf (l : Launch) (ρ : RH) (ad : Nat → Nat) (H : Heap) (st : GS) (p0 : Int32) (res : GS) (hW : GW ρ wM ad st H) (h : f_mo_kindOf st p0 = some res) : Met l y187 (wsOf y187 b187 3 none) ({ frames := 5, cells := 0, slots := 0, locals := 110 } : Room) (va_Pc [.ref (ad 0), .int p0] (KP ρ H)) (mQ (fun v H1 => v = none ∧ GW ρ wM ad res H1) (MA wM ad H.size)) 0 0 (MA wM ad H.size) := by
  refine m_ofW (own := "WordFunctionsModel") (plainFor_of_name rfl) rfl (Nat.le_of_ble_eq_true rfl) fun p e s m args below meth c ls hx hb hr hlk _ X hs hl => ?_
  subst hs
  have hS : va_S (MA wM ad s.heap.size) s.heap s.heap [] := va_S.rf
  have hl : lv_has ls 3 [(0, .ref (ad 0)), (1, .int p0)] := hl
  have kc410 : ∀ (st : GS)  (H : Heap) (locs : List Loc) (ls : Array Slot), GW ρ wM ad st H → va_S (MA wM ad s.heap.size) s.heap H locs → lv_has ls 3 [(0, .ref (ad 0))] → mo_kindOf_410 st = some res → W p l e ({ frames := 5, cells := 0, slots := 0, locals := 110 } : Room) s m args below meth c H locs 0 0 (MQ below (mQ (fun v H1 => v = none ∧ GW ρ wM ad res H1) (MA wM ad s.heap.size)) args s 0 0 (MA wM ad s.heap.size)) (F0 m 410 ls []) := by
    intro st  H locs ls hW hS hl h
    unfold mo_kindOf_410 at h
    refine lv_aload_n (pc := 410) hx hb d187_410 rfl (lv_at hl 0 rfl) ?_
    refine lv_aload_n (pc := 411) hx hb d187_411 rfl (lv_at hl 0 rfl) ?_
    refine m_get (pc := 412) X hW 21 (v := .double (st.2.1 0 21)) wd1387 rfl rfl d187_412 ?_
    obtain ⟨q1, hq1, h⟩ := jc_some h
    refine k_callV (pc := 415) (n := 1) X hS (c_mo_answerNumber l ρ ad _ st (st.2.1 0 21) q1 hW hq1) wd1651 wd1648 wd1650 sl142 wd11 (by decide) ⟨rfl, rfl, by decide, by decide⟩ (m_recv X hW) (As := [.double (st.2.1 0 21)]) (rest := []) rfl rfl hl.1 (Nat.le_of_ble_eq_true rfl) d187_415 ⟨by decide, by decide⟩ (fun q hq => MA.mono hS.1 hq) (fun v H1 locs1 hv _ _ hSq1 => ?_)
    obtain ⟨rfl, hW⟩ := hv
    have hS := hSq1
    refine lv_goto (pc := 418) (tgt := 428) hx hb d187_418 (by decide) ?_
    obtain rfl := Option.some.inj h
    exact m_vret (pc := 428) hx hb hr hlk hS ⟨rfl, hW⟩ (by decide) (by decide) d187_428
  have kc390 : ∀ (st : GS) (z1 : UInt64) (H : Heap) (locs : List Loc) (ls : Array Slot), GW ρ wM ad st H → va_S (MA wM ad s.heap.size) s.heap H locs → lv_has ls 3 [] → mo_kindOf_390 st z1 = some res → W p l e ({ frames := 5, cells := 0, slots := 0, locals := 110 } : Room) s m args below meth c H locs 0 0 (MQ below (mQ (fun v H1 => v = none ∧ GW ρ wM ad res H1) (MA wM ad s.heap.size)) args s 0 0 (MA wM ad s.heap.size)) (F0 m 390 ls [.double z1, .ref (ad 0)]) := by
    intro st z1 H locs ls hW hS hl h
    unfold mo_kindOf_390 at h
    obtain ⟨q2, hq2, h⟩ := jc_some h
    refine k_callV (pc := 390) (n := 1) X hS (c_mo_answerNumber l ρ ad _ st z1 q2 hW hq2) wd1651 wd1648 wd1650 sl142 wd11 (by decide) ⟨rfl, rfl, by decide, by decide⟩ (m_recv X hW) (As := [.double z1]) (rest := []) rfl rfl hl.1 (Nat.le_of_ble_eq_true rfl) d187_390 ⟨by decide, by decide⟩ (fun q hq => MA.mono hS.1 hq) (fun v H1 locs1 hv _ _ hSq2 => ?_)
    obtain ⟨rfl, hW⟩ := hv
    have hS := hSq2
    refine lv_goto (pc := 393) (tgt := 428) hx hb d187_393 (by decide) ?_
    obtain rfl := Option.some.inj h
    exact m_vret (pc := 428) hx hb hr hlk hS ⟨rfl, hW⟩ (by decide) (by decide) d187_428
  have kc310 : ∀ (st : GS) (z1 : Int32) (H : Heap) (locs : List Loc) (ls : Array Slot), GW ρ wM ad st H → va_S (MA wM ad s.heap.size) s.heap H locs → lv_has ls 3 [] → mo_kindOf_310 st z1 = some res → W p l e ({ frames := 5, cells := 0, slots := 0, locals := 110 } : Room) s m args below meth c H locs 0 0 (MQ below (mQ (fun v H1 => v = none ∧ GW ρ wM ad res H1) (MA wM ad s.heap.size)) args s 0 0 (MA wM ad s.heap.size)) (F0 m 310 ls [.int z1, .ref (ad 0)]) := by
    intro st z1 H locs ls hW hS hl h
    unfold mo_kindOf_310 at h
    obtain ⟨q3, hq3, h⟩ := jc_some h
    refine k_callV (pc := 310) (n := 1) X hS (c_mo_answerTruth l ρ ad _ st z1 q3 hW hq3) wd1784 wd1781 wd1783 sl145 wd11 (by decide) ⟨rfl, rfl, by decide, by decide⟩ (m_recv X hW) (As := [.int z1]) (rest := []) rfl rfl hl.1 (Nat.le_of_ble_eq_true rfl) d187_310 ⟨by decide, by decide⟩ (fun q hq => MA.mono hS.1 hq) (fun v H1 locs1 hv _ _ hSq3 => ?_)
    obtain ⟨rfl, hW⟩ := hv
    have hS := hSq3
    refine lv_goto (pc := 313) (tgt := 428) hx hb d187_313 (by decide) ?_
    obtain rfl := Option.some.inj h
    exact m_vret (pc := 428) hx hb hr hlk hS ⟨rfl, hW⟩ (by decide) (by decide) d187_428
  have kc302 : ∀ (st : GS) (z1 : Int32) (z2 : Int32) (H : Heap) (locs : List Loc) (ls : Array Slot), GW ρ wM ad st H → va_S (MA wM ad s.heap.size) s.heap H locs → lv_has ls 3 [] → mo_kindOf_302 st z1 z2 = some res → W p l e ({ frames := 5, cells := 0, slots := 0, locals := 110 } : Room) s m args below meth c H locs 0 0 (MQ below (mQ (fun v H1 => v = none ∧ GW ρ wM ad res H1) (MA wM ad s.heap.size)) args s 0 0 (MA wM ad s.heap.size)) (F0 m 302 ls [.int z2, .int z1, .ref (ad 0)]) := by
    intro st z1 z2 H locs ls hW hS hl h
    unfold mo_kindOf_302 at h
    refine lv_icmp_ne (pc := 302) (tgt := 309) hx hb d187_302 (by decide) (fun c302 => ?_) (fun c302 => ?_)
    · have h := jb_f c302 h
      refine lv_iconst (pc := 309) (v := 0) hx hb d187_309 (by decide) ?_
      exact kc310  st 0 _ _ _ hW hS (lv_sub hl [] rfl) h
    · have h := jb_t c302 h
      refine lv_iconst (pc := 305) (v := 1) hx hb d187_305 (by decide) ?_
      refine lv_goto (pc := 306) (tgt := 310) hx hb d187_306 (by decide) ?_
      exact kc310  st 1 _ _ _ hW hS (lv_sub hl [] rfl) h
  have kc291 : ∀ (st : GS) (x1 : Int32) (z1 : Int32) (H : Heap) (locs : List Loc) (ls : Array Slot), GW ρ wM ad st H → va_S (MA wM ad s.heap.size) s.heap H locs → lv_has ls 3 [(1, .int x1)] → mo_kindOf_291 st x1 z1 = some res → W p l e ({ frames := 5, cells := 0, slots := 0, locals := 110 } : Room) s m args below meth c H locs 0 0 (MQ below (mQ (fun v H1 => v = none ∧ GW ρ wM ad res H1) (MA wM ad s.heap.size)) args s 0 0 (MA wM ad s.heap.size)) (F0 m 291 ls [.int z1, .ref (ad 0)]) := by
    intro st x1 z1 H locs ls hW hS hl h
    unfold mo_kindOf_291 at h
    refine lv_iload_n (pc := 291) hx hb d187_291 rfl (lv_at hl 0 rfl) ?_
    refine lv_bipush (pc := 292) (v := 127) hx hb d187_292 (by decide) ?_
    refine lv_icmp_ne (pc := 294) (tgt := 301) hx hb d187_294 (by decide) (fun c294 => ?_) (fun c294 => ?_)
    · have h := jb_f c294 h
      refine lv_iconst (pc := 301) (v := 0) hx hb d187_301 (by decide) ?_
      exact kc302  st z1 0 _ _ _ hW hS (lv_sub hl [] rfl) h
    · have h := jb_t c294 h
      refine lv_iconst (pc := 297) (v := 1) hx hb d187_297 (by decide) ?_
      refine lv_goto (pc := 298) (tgt := 302) hx hb d187_298 (by decide) ?_
      exact kc302  st z1 1 _ _ _ hW hS (lv_sub hl [] rfl) h
  have kc267 : ∀ (st : GS) (z1 : Int32) (H : Heap) (locs : List Loc) (ls : Array Slot), GW ρ wM ad st H → va_S (MA wM ad s.heap.size) s.heap H locs → lv_has ls 3 [] → mo_kindOf_267 st z1 = some res → W p l e ({ frames := 5, cells := 0, slots := 0, locals := 110 } : Room) s m args below meth c H locs 0 0 (MQ below (mQ (fun v H1 => v = none ∧ GW ρ wM ad res H1) (MA wM ad s.heap.size)) args s 0 0 (MA wM ad s.heap.size)) (F0 m 267 ls [.int z1, .ref (ad 0)]) := by
    intro st z1 H locs ls hW hS hl h
    unfold mo_kindOf_267 at h
    obtain ⟨q4, hq4, h⟩ := jc_some h
    refine k_callV (pc := 267) (n := 1) X hS (c_mo_answerTruth l ρ ad _ st z1 q4 hW hq4) wd1784 wd1781 wd1783 sl145 wd11 (by decide) ⟨rfl, rfl, by decide, by decide⟩ (m_recv X hW) (As := [.int z1]) (rest := []) rfl rfl hl.1 (Nat.le_of_ble_eq_true rfl) d187_267 ⟨by decide, by decide⟩ (fun q hq => MA.mono hS.1 hq) (fun v H1 locs1 hv _ _ hSq4 => ?_)
    obtain ⟨rfl, hW⟩ := hv
    have hS := hSq4
    refine lv_goto (pc := 270) (tgt := 428) hx hb d187_270 (by decide) ?_
    obtain rfl := Option.some.inj h
    exact m_vret (pc := 428) hx hb hr hlk hS ⟨rfl, hW⟩ (by decide) (by decide) d187_428
  have kc266 : ∀ (st : GS)  (H : Heap) (locs : List Loc) (ls : Array Slot), GW ρ wM ad st H → va_S (MA wM ad s.heap.size) s.heap H locs → lv_has ls 3 [] → mo_kindOf_266 st = some res → W p l e ({ frames := 5, cells := 0, slots := 0, locals := 110 } : Room) s m args below meth c H locs 0 0 (MQ below (mQ (fun v H1 => v = none ∧ GW ρ wM ad res H1) (MA wM ad s.heap.size)) args s 0 0 (MA wM ad s.heap.size)) (F0 m 266 ls [.ref (ad 0)]) := by
    intro st  H locs ls hW hS hl h
    unfold mo_kindOf_266 at h
    refine lv_iconst (pc := 266) (v := 0) hx hb d187_266 (by decide) ?_
    exact kc267  st 0 _ _ _ hW hS (lv_sub hl [] rfl) h
  have kc236 : ∀ (st : GS) (z1 : Int32) (H : Heap) (locs : List Loc) (ls : Array Slot), GW ρ wM ad st H → va_S (MA wM ad s.heap.size) s.heap H locs → lv_has ls 3 [] → mo_kindOf_236 st z1 = some res → W p l e ({ frames := 5, cells := 0, slots := 0, locals := 110 } : Room) s m args below meth c H locs 0 0 (MQ below (mQ (fun v H1 => v = none ∧ GW ρ wM ad res H1) (MA wM ad s.heap.size)) args s 0 0 (MA wM ad s.heap.size)) (F0 m 236 ls [.int z1, .ref (ad 0)]) := by
    intro st z1 H locs ls hW hS hl h
    unfold mo_kindOf_236 at h
    obtain ⟨q5, hq5, h⟩ := jc_some h
    refine k_callV (pc := 236) (n := 1) X hS (c_mo_answerTruth l ρ ad _ st z1 q5 hW hq5) wd1784 wd1781 wd1783 sl145 wd11 (by decide) ⟨rfl, rfl, by decide, by decide⟩ (m_recv X hW) (As := [.int z1]) (rest := []) rfl rfl hl.1 (Nat.le_of_ble_eq_true rfl) d187_236 ⟨by decide, by decide⟩ (fun q hq => MA.mono hS.1 hq) (fun v H1 locs1 hv _ _ hSq5 => ?_)
    obtain ⟨rfl, hW⟩ := hv
    have hS := hSq5
    refine lv_goto (pc := 239) (tgt := 428) hx hb d187_239 (by decide) ?_
    obtain rfl := Option.some.inj h
    exact m_vret (pc := 428) hx hb hr hlk hS ⟨rfl, hW⟩ (by decide) (by decide) d187_428
  have kc235 : ∀ (st : GS)  (H : Heap) (locs : List Loc) (ls : Array Slot), GW ρ wM ad st H → va_S (MA wM ad s.heap.size) s.heap H locs → lv_has ls 3 [] → mo_kindOf_235 st = some res → W p l e ({ frames := 5, cells := 0, slots := 0, locals := 110 } : Room) s m args below meth c H locs 0 0 (MQ below (mQ (fun v H1 => v = none ∧ GW ρ wM ad res H1) (MA wM ad s.heap.size)) args s 0 0 (MA wM ad s.heap.size)) (F0 m 235 ls [.ref (ad 0)]) := by
    intro st  H locs ls hW hS hl h
    unfold mo_kindOf_235 at h
    refine lv_iconst (pc := 235) (v := 0) hx hb d187_235 (by decide) ?_
    exact kc236  st 0 _ _ _ hW hS (lv_sub hl [] rfl) h
  have kc205 : ∀ (st : GS) (z1 : Int32) (H : Heap) (locs : List Loc) (ls : Array Slot), GW ρ wM ad st H → va_S (MA wM ad s.heap.size) s.heap H locs → lv_has ls 3 [] → mo_kindOf_205 st z1 = some res → W p l e ({ frames := 5, cells := 0, slots := 0, locals := 110 } : Room) s m args below meth c H locs 0 0 (MQ below (mQ (fun v H1 => v = none ∧ GW ρ wM ad res H1) (MA wM ad s.heap.size)) args s 0 0 (MA wM ad s.heap.size)) (F0 m 205 ls [.int z1, .ref (ad 0)]) := by
    intro st z1 H locs ls hW hS hl h
    unfold mo_kindOf_205 at h
    obtain ⟨q6, hq6, h⟩ := jc_some h
    refine k_callV (pc := 205) (n := 1) X hS (c_mo_answerTruth l ρ ad _ st z1 q6 hW hq6) wd1784 wd1781 wd1783 sl145 wd11 (by decide) ⟨rfl, rfl, by decide, by decide⟩ (m_recv X hW) (As := [.int z1]) (rest := []) rfl rfl hl.1 (Nat.le_of_ble_eq_true rfl) d187_205 ⟨by decide, by decide⟩ (fun q hq => MA.mono hS.1 hq) (fun v H1 locs1 hv _ _ hSq6 => ?_)
    obtain ⟨rfl, hW⟩ := hv
    have hS := hSq6
    refine lv_goto (pc := 208) (tgt := 428) hx hb d187_208 (by decide) ?_
    obtain rfl := Option.some.inj h
    exact m_vret (pc := 428) hx hb hr hlk hS ⟨rfl, hW⟩ (by decide) (by decide) d187_428
  have kc185 : ∀ (st : GS) (z1 : Int32) (H : Heap) (locs : List Loc) (ls : Array Slot), GW ρ wM ad st H → va_S (MA wM ad s.heap.size) s.heap H locs → lv_has ls 3 [] → mo_kindOf_185 st z1 = some res → W p l e ({ frames := 5, cells := 0, slots := 0, locals := 110 } : Room) s m args below meth c H locs 0 0 (MQ below (mQ (fun v H1 => v = none ∧ GW ρ wM ad res H1) (MA wM ad s.heap.size)) args s 0 0 (MA wM ad s.heap.size)) (F0 m 185 ls [.int z1, .ref (ad 0)]) := by
    intro st z1 H locs ls hW hS hl h
    unfold mo_kindOf_185 at h
    obtain ⟨q7, hq7, h⟩ := jc_some h
    refine k_callV (pc := 185) (n := 1) X hS (c_mo_answerTruth l ρ ad _ st z1 q7 hW hq7) wd1784 wd1781 wd1783 sl145 wd11 (by decide) ⟨rfl, rfl, by decide, by decide⟩ (m_recv X hW) (As := [.int z1]) (rest := []) rfl rfl hl.1 (Nat.le_of_ble_eq_true rfl) d187_185 ⟨by decide, by decide⟩ (fun q hq => MA.mono hS.1 hq) (fun v H1 locs1 hv _ _ hSq7 => ?_)
    obtain ⟨rfl, hW⟩ := hv
    have hS := hSq7
    refine lv_goto (pc := 188) (tgt := 428) hx hb d187_188 (by decide) ?_
    obtain rfl := Option.some.inj h
    exact m_vret (pc := 428) hx hb hr hlk hS ⟨rfl, hW⟩ (by decide) (by decide) d187_428
  have kc165 : ∀ (st : GS) (z1 : Int32) (H : Heap) (locs : List Loc) (ls : Array Slot), GW ρ wM ad st H → va_S (MA wM ad s.heap.size) s.heap H locs → lv_has ls 3 [] → mo_kindOf_165 st z1 = some res → W p l e ({ frames := 5, cells := 0, slots := 0, locals := 110 } : Room) s m args below meth c H locs 0 0 (MQ below (mQ (fun v H1 => v = none ∧ GW ρ wM ad res H1) (MA wM ad s.heap.size)) args s 0 0 (MA wM ad s.heap.size)) (F0 m 165 ls [.int z1, .ref (ad 0)]) := by
    intro st z1 H locs ls hW hS hl h
    unfold mo_kindOf_165 at h
    obtain ⟨q8, hq8, h⟩ := jc_some h
    refine k_callV (pc := 165) (n := 1) X hS (c_mo_answerTruth l ρ ad _ st z1 q8 hW hq8) wd1784 wd1781 wd1783 sl145 wd11 (by decide) ⟨rfl, rfl, by decide, by decide⟩ (m_recv X hW) (As := [.int z1]) (rest := []) rfl rfl hl.1 (Nat.le_of_ble_eq_true rfl) d187_165 ⟨by decide, by decide⟩ (fun q hq => MA.mono hS.1 hq) (fun v H1 locs1 hv _ _ hSq8 => ?_)
    obtain ⟨rfl, hW⟩ := hv
    have hS := hSq8
    refine lv_goto (pc := 168) (tgt := 428) hx hb d187_168 (by decide) ?_
    obtain rfl := Option.some.inj h
    exact m_vret (pc := 428) hx hb hr hlk hS ⟨rfl, hW⟩ (by decide) (by decide) d187_428
  have kc145 : ∀ (st : GS) (z1 : Int32) (H : Heap) (locs : List Loc) (ls : Array Slot), GW ρ wM ad st H → va_S (MA wM ad s.heap.size) s.heap H locs → lv_has ls 3 [] → mo_kindOf_145 st z1 = some res → W p l e ({ frames := 5, cells := 0, slots := 0, locals := 110 } : Room) s m args below meth c H locs 0 0 (MQ below (mQ (fun v H1 => v = none ∧ GW ρ wM ad res H1) (MA wM ad s.heap.size)) args s 0 0 (MA wM ad s.heap.size)) (F0 m 145 ls [.int z1, .ref (ad 0)]) := by
    intro st z1 H locs ls hW hS hl h
    unfold mo_kindOf_145 at h
    obtain ⟨q9, hq9, h⟩ := jc_some h
    refine k_callV (pc := 145) (n := 1) X hS (c_mo_answerTruth l ρ ad _ st z1 q9 hW hq9) wd1784 wd1781 wd1783 sl145 wd11 (by decide) ⟨rfl, rfl, by decide, by decide⟩ (m_recv X hW) (As := [.int z1]) (rest := []) rfl rfl hl.1 (Nat.le_of_ble_eq_true rfl) d187_145 ⟨by decide, by decide⟩ (fun q hq => MA.mono hS.1 hq) (fun v H1 locs1 hv _ _ hSq9 => ?_)
    obtain ⟨rfl, hW⟩ := hv
    have hS := hSq9
    refine lv_goto (pc := 148) (tgt := 428) hx hb d187_148 (by decide) ?_
    obtain rfl := Option.some.inj h
    exact m_vret (pc := 428) hx hb hr hlk hS ⟨rfl, hW⟩ (by decide) (by decide) d187_428
  have kc125 : ∀ (st : GS) (z1 : Int32) (H : Heap) (locs : List Loc) (ls : Array Slot), GW ρ wM ad st H → va_S (MA wM ad s.heap.size) s.heap H locs → lv_has ls 3 [] → mo_kindOf_125 st z1 = some res → W p l e ({ frames := 5, cells := 0, slots := 0, locals := 110 } : Room) s m args below meth c H locs 0 0 (MQ below (mQ (fun v H1 => v = none ∧ GW ρ wM ad res H1) (MA wM ad s.heap.size)) args s 0 0 (MA wM ad s.heap.size)) (F0 m 125 ls [.int z1, .ref (ad 0)]) := by
    intro st z1 H locs ls hW hS hl h
    unfold mo_kindOf_125 at h
    obtain ⟨q10, hq10, h⟩ := jc_some h
    refine k_callV (pc := 125) (n := 1) X hS (c_mo_answerTruth l ρ ad _ st z1 q10 hW hq10) wd1784 wd1781 wd1783 sl145 wd11 (by decide) ⟨rfl, rfl, by decide, by decide⟩ (m_recv X hW) (As := [.int z1]) (rest := []) rfl rfl hl.1 (Nat.le_of_ble_eq_true rfl) d187_125 ⟨by decide, by decide⟩ (fun q hq => MA.mono hS.1 hq) (fun v H1 locs1 hv _ _ hSq10 => ?_)
    obtain ⟨rfl, hW⟩ := hv
    have hS := hSq10
    refine lv_goto (pc := 128) (tgt := 428) hx hb d187_128 (by decide) ?_
    obtain rfl := Option.some.inj h
    exact m_vret (pc := 428) hx hb hr hlk hS ⟨rfl, hW⟩ (by decide) (by decide) d187_428
  have kc105 : ∀ (st : GS) (z1 : Int32) (H : Heap) (locs : List Loc) (ls : Array Slot), GW ρ wM ad st H → va_S (MA wM ad s.heap.size) s.heap H locs → lv_has ls 3 [] → mo_kindOf_105 st z1 = some res → W p l e ({ frames := 5, cells := 0, slots := 0, locals := 110 } : Room) s m args below meth c H locs 0 0 (MQ below (mQ (fun v H1 => v = none ∧ GW ρ wM ad res H1) (MA wM ad s.heap.size)) args s 0 0 (MA wM ad s.heap.size)) (F0 m 105 ls [.int z1, .ref (ad 0)]) := by
    intro st z1 H locs ls hW hS hl h
    unfold mo_kindOf_105 at h
    obtain ⟨q11, hq11, h⟩ := jc_some h
    refine k_callV (pc := 105) (n := 1) X hS (c_mo_answerTruth l ρ ad _ st z1 q11 hW hq11) wd1784 wd1781 wd1783 sl145 wd11 (by decide) ⟨rfl, rfl, by decide, by decide⟩ (m_recv X hW) (As := [.int z1]) (rest := []) rfl rfl hl.1 (Nat.le_of_ble_eq_true rfl) d187_105 ⟨by decide, by decide⟩ (fun q hq => MA.mono hS.1 hq) (fun v H1 locs1 hv _ _ hSq11 => ?_)
    obtain ⟨rfl, hW⟩ := hv
    have hS := hSq11
    refine lv_goto (pc := 108) (tgt := 428) hx hb d187_108 (by decide) ?_
    obtain rfl := Option.some.inj h
    exact m_vret (pc := 428) hx hb hr hlk hS ⟨rfl, hW⟩ (by decide) (by decide) d187_428
  have kc25 : ∀ (st : GS) (x1 : Int32) (H : Heap) (locs : List Loc) (ls : Array Slot), GW ρ wM ad st H → va_S (MA wM ad s.heap.size) s.heap H locs → lv_has ls 3 [(0, .ref (ad 0)), (1, .int x1)] → mo_kindOf_25 st x1 = some res → W p l e ({ frames := 5, cells := 0, slots := 0, locals := 110 } : Room) s m args below meth c H locs 0 0 (MQ below (mQ (fun v H1 => v = none ∧ GW ρ wM ad res H1) (MA wM ad s.heap.size)) args s 0 0 (MA wM ad s.heap.size)) (F0 m 25 ls []) := by
    intro st x1 H locs ls hW hS hl h
    unfold mo_kindOf_25 at h
    refine lv_iload_n (pc := 25) hx hb d187_25 rfl (lv_at hl 1 rfl) ?_
    by_cases c26_119 : x1 = 119
    · have h := jb_t c26_119 h
      refine lv_tableIn (pc := 26) (off := 66) (tgt := 92) hx hb d187_26 (by rw [c26_119]; decide) (by rw [c26_119]; decide) (by rw [c26_119]; rfl) (by decide) ?_
      refine lv_aload_n (pc := 92) hx hb d187_92 rfl (lv_at hl 0 rfl) ?_
      refine lv_aload_n (pc := 93) hx hb d187_93 rfl (lv_at hl 0 rfl) ?_
      refine m_get (pc := 94) X hW 20 (v := .int (st.1 0 20)) wd1386 rfl rfl d187_94 ?_
      refine lv_if_ne (pc := 97) (tgt := 104) hx hb d187_97 (by decide) (fun c97 => ?_) (fun c97 => ?_)
      · have h := jb_f c97 h
        refine lv_iconst (pc := 104) (v := 0) hx hb d187_104 (by decide) ?_
        exact kc105  st 0 _ _ _ hW hS (lv_sub hl [] rfl) h
      · have h := jb_t c97 h
        refine lv_iconst (pc := 100) (v := 1) hx hb d187_100 (by decide) ?_
        refine lv_goto (pc := 101) (tgt := 105) hx hb d187_101 (by decide) ?_
        exact kc105  st 1 _ _ _ hW hS (lv_sub hl [] rfl) h
    have h := jb_f c26_119 h
    by_cases c26_120 : x1 = 120
    · have h := jb_t c26_120 h
      refine lv_tableIn (pc := 26) (off := 85) (tgt := 111) hx hb d187_26 (by rw [c26_120]; decide) (by rw [c26_120]; decide) (by rw [c26_120]; rfl) (by decide) ?_
      refine lv_aload_n (pc := 111) hx hb d187_111 rfl (lv_at hl 0 rfl) ?_
      refine lv_aload_n (pc := 112) hx hb d187_112 rfl (lv_at hl 0 rfl) ?_
      refine m_get (pc := 113) X hW 20 (v := .int (st.1 0 20)) wd1386 rfl rfl d187_113 ?_
      refine lv_iconst (pc := 116) (v := 1) hx hb d187_116 (by decide) ?_
      refine lv_icmp_ne (pc := 117) (tgt := 124) hx hb d187_117 (by decide) (fun c117 => ?_) (fun c117 => ?_)
      · have h := jb_f c117 h
        refine lv_iconst (pc := 124) (v := 0) hx hb d187_124 (by decide) ?_
        exact kc125  st 0 _ _ _ hW hS (lv_sub hl [] rfl) h
      · have h := jb_t c117 h
        refine lv_iconst (pc := 120) (v := 1) hx hb d187_120 (by decide) ?_
        refine lv_goto (pc := 121) (tgt := 125) hx hb d187_121 (by decide) ?_
        exact kc125  st 1 _ _ _ hW hS (lv_sub hl [] rfl) h
    have h := jb_f c26_120 h
    by_cases c26_121 : x1 = 121
    · have h := jb_t c26_121 h
      refine lv_tableIn (pc := 26) (off := 105) (tgt := 131) hx hb d187_26 (by rw [c26_121]; decide) (by rw [c26_121]; decide) (by rw [c26_121]; rfl) (by decide) ?_
      refine lv_aload_n (pc := 131) hx hb d187_131 rfl (lv_at hl 0 rfl) ?_
      refine lv_aload_n (pc := 132) hx hb d187_132 rfl (lv_at hl 0 rfl) ?_
      refine m_get (pc := 133) X hW 20 (v := .int (st.1 0 20)) wd1386 rfl rfl d187_133 ?_
      refine lv_iconst (pc := 136) (v := 2) hx hb d187_136 (by decide) ?_
      refine lv_icmp_ne (pc := 137) (tgt := 144) hx hb d187_137 (by decide) (fun c137 => ?_) (fun c137 => ?_)
      · have h := jb_f c137 h
        refine lv_iconst (pc := 144) (v := 0) hx hb d187_144 (by decide) ?_
        exact kc145  st 0 _ _ _ hW hS (lv_sub hl [] rfl) h
      · have h := jb_t c137 h
        refine lv_iconst (pc := 140) (v := 1) hx hb d187_140 (by decide) ?_
        refine lv_goto (pc := 141) (tgt := 145) hx hb d187_141 (by decide) ?_
        exact kc145  st 1 _ _ _ hW hS (lv_sub hl [] rfl) h
    have h := jb_f c26_121 h
    by_cases c26_122 : x1 = 122
    · have h := jb_t c26_122 h
      refine lv_tableIn (pc := 26) (off := 125) (tgt := 151) hx hb d187_26 (by rw [c26_122]; decide) (by rw [c26_122]; decide) (by rw [c26_122]; rfl) (by decide) ?_
      refine lv_aload_n (pc := 151) hx hb d187_151 rfl (lv_at hl 0 rfl) ?_
      refine lv_aload_n (pc := 152) hx hb d187_152 rfl (lv_at hl 0 rfl) ?_
      refine m_get (pc := 153) X hW 20 (v := .int (st.1 0 20)) wd1386 rfl rfl d187_153 ?_
      refine lv_iconst (pc := 156) (v := 2) hx hb d187_156 (by decide) ?_
      refine lv_icmp_eq (pc := 157) (tgt := 164) hx hb d187_157 (by decide) (fun c157 => ?_) (fun c157 => ?_)
      · have h := jb_t c157 h
        refine lv_iconst (pc := 164) (v := 0) hx hb d187_164 (by decide) ?_
        exact kc165  st 0 _ _ _ hW hS (lv_sub hl [] rfl) h
      · have h := jb_f c157 h
        refine lv_iconst (pc := 160) (v := 1) hx hb d187_160 (by decide) ?_
        refine lv_goto (pc := 161) (tgt := 165) hx hb d187_161 (by decide) ?_
        exact kc165  st 1 _ _ _ hW hS (lv_sub hl [] rfl) h
    have h := jb_f c26_122 h
    by_cases c26_123 : x1 = 123
    · have h := jb_t c26_123 h
      refine lv_tableIn (pc := 26) (off := 145) (tgt := 171) hx hb d187_26 (by rw [c26_123]; decide) (by rw [c26_123]; decide) (by rw [c26_123]; rfl) (by decide) ?_
      refine lv_aload_n (pc := 171) hx hb d187_171 rfl (lv_at hl 0 rfl) ?_
      refine lv_aload_n (pc := 172) hx hb d187_172 rfl (lv_at hl 0 rfl) ?_
      refine m_get (pc := 173) X hW 20 (v := .int (st.1 0 20)) wd1386 rfl rfl d187_173 ?_
      refine lv_iconst (pc := 176) (v := 3) hx hb d187_176 (by decide) ?_
      refine lv_icmp_ne (pc := 177) (tgt := 184) hx hb d187_177 (by decide) (fun c177 => ?_) (fun c177 => ?_)
      · have h := jb_f c177 h
        refine lv_iconst (pc := 184) (v := 0) hx hb d187_184 (by decide) ?_
        exact kc185  st 0 _ _ _ hW hS (lv_sub hl [] rfl) h
      · have h := jb_t c177 h
        refine lv_iconst (pc := 180) (v := 1) hx hb d187_180 (by decide) ?_
        refine lv_goto (pc := 181) (tgt := 185) hx hb d187_181 (by decide) ?_
        exact kc185  st 1 _ _ _ hW hS (lv_sub hl [] rfl) h
    have h := jb_f c26_123 h
    by_cases c26_124 : x1 = 124
    · have h := jb_t c26_124 h
      refine lv_tableIn (pc := 26) (off := 165) (tgt := 191) hx hb d187_26 (by rw [c26_124]; decide) (by rw [c26_124]; decide) (by rw [c26_124]; rfl) (by decide) ?_
      refine lv_aload_n (pc := 191) hx hb d187_191 rfl (lv_at hl 0 rfl) ?_
      refine lv_aload_n (pc := 192) hx hb d187_192 rfl (lv_at hl 0 rfl) ?_
      refine m_get (pc := 193) X hW 20 (v := .int (st.1 0 20)) wd1386 rfl rfl d187_193 ?_
      refine lv_iconst (pc := 196) (v := 4) hx hb d187_196 (by decide) ?_
      refine lv_icmp_ne (pc := 197) (tgt := 204) hx hb d187_197 (by decide) (fun c197 => ?_) (fun c197 => ?_)
      · have h := jb_f c197 h
        refine lv_iconst (pc := 204) (v := 0) hx hb d187_204 (by decide) ?_
        exact kc205  st 0 _ _ _ hW hS (lv_sub hl [] rfl) h
      · have h := jb_t c197 h
        refine lv_iconst (pc := 200) (v := 1) hx hb d187_200 (by decide) ?_
        refine lv_goto (pc := 201) (tgt := 205) hx hb d187_201 (by decide) ?_
        exact kc205  st 1 _ _ _ hW hS (lv_sub hl [] rfl) h
    have h := jb_f c26_124 h
    by_cases c26_125 : x1 = 125
    · have h := jb_t c26_125 h
      refine lv_tableIn (pc := 26) (off := 185) (tgt := 211) hx hb d187_26 (by rw [c26_125]; decide) (by rw [c26_125]; decide) (by rw [c26_125]; rfl) (by decide) ?_
      refine lv_aload_n (pc := 211) hx hb d187_211 rfl (lv_at hl 0 rfl) ?_
      refine lv_aload_n (pc := 212) hx hb d187_212 rfl (lv_at hl 0 rfl) ?_
      refine m_get (pc := 213) X hW 20 (v := .int (st.1 0 20)) wd1386 rfl rfl d187_213 ?_
      refine lv_iconst (pc := 216) (v := 4) hx hb d187_216 (by decide) ?_
      refine lv_icmp_ne (pc := 217) (tgt := 235) hx hb d187_217 (by decide) (fun c217 => ?_) (fun c217 => ?_)
      · have h := jb_f c217 h
        exact kc235  st _ _ _ hW hS (lv_sub hl [] rfl) h
      · have h := jb_t c217 h
        refine lv_aload_n (pc := 220) hx hb d187_220 rfl (lv_at hl 0 rfl) ?_
        refine m_get (pc := 221) X hW 21 (v := .double (st.2.1 0 21)) wd1387 rfl rfl d187_221 ?_
        refine lv_ldc2d (pc := 224) hx hb X.1.2.2.2.1 (X.ts wd1970) d187_224 ?_
        refine lv_dcmp (pc := 227) hx hb d187_227 ?_
        refine lv_if_eq (pc := 228) (tgt := 235) hx hb d187_228 (by decide) (fun c228 => ?_) (fun c228 => ?_)
        · have h := jb_t c228 h
          exact kc235  st _ _ _ hW hS (lv_sub hl [] rfl) h
        · have h := jb_f c228 h
          refine lv_iconst (pc := 231) (v := 1) hx hb d187_231 (by decide) ?_
          refine lv_goto (pc := 232) (tgt := 236) hx hb d187_232 (by decide) ?_
          exact kc236  st 1 _ _ _ hW hS (lv_sub hl [] rfl) h
    have h := jb_f c26_125 h
    by_cases c26_126 : x1 = 126
    · have h := jb_t c26_126 h
      refine lv_tableIn (pc := 26) (off := 216) (tgt := 242) hx hb d187_26 (by rw [c26_126]; decide) (by rw [c26_126]; decide) (by rw [c26_126]; rfl) (by decide) ?_
      refine lv_aload_n (pc := 242) hx hb d187_242 rfl (lv_at hl 0 rfl) ?_
      refine lv_aload_n (pc := 243) hx hb d187_243 rfl (lv_at hl 0 rfl) ?_
      refine m_get (pc := 244) X hW 20 (v := .int (st.1 0 20)) wd1386 rfl rfl d187_244 ?_
      refine lv_iconst (pc := 247) (v := 4) hx hb d187_247 (by decide) ?_
      refine lv_icmp_ne (pc := 248) (tgt := 266) hx hb d187_248 (by decide) (fun c248 => ?_) (fun c248 => ?_)
      · have h := jb_f c248 h
        exact kc266  st _ _ _ hW hS (lv_sub hl [] rfl) h
      · have h := jb_t c248 h
        refine lv_aload_n (pc := 251) hx hb d187_251 rfl (lv_at hl 0 rfl) ?_
        refine m_get (pc := 252) X hW 21 (v := .double (st.2.1 0 21)) wd1387 rfl rfl d187_252 ?_
        refine lv_ldc2d (pc := 255) hx hb X.1.2.2.2.1 (X.ts wd1970) d187_255 ?_
        refine lv_dcmp (pc := 258) hx hb d187_258 ?_
        refine lv_if_ne (pc := 259) (tgt := 266) hx hb d187_259 (by decide) (fun c259 => ?_) (fun c259 => ?_)
        · have h := jb_f c259 h
          exact kc266  st _ _ _ hW hS (lv_sub hl [] rfl) h
        · have h := jb_t c259 h
          refine lv_iconst (pc := 262) (v := 1) hx hb d187_262 (by decide) ?_
          refine lv_goto (pc := 263) (tgt := 267) hx hb d187_263 (by decide) ?_
          exact kc267  st 1 _ _ _ hW hS (lv_sub hl [] rfl) h
    have h := jb_f c26_126 h
    by_cases c26_127 : x1 = 127
    · have h := jb_t c26_127 h
      refine lv_tableIn (pc := 26) (off := 247) (tgt := 273) hx hb d187_26 (by rw [c26_127]; decide) (by rw [c26_127]; decide) (by rw [c26_127]; rfl) (by decide) ?_
      refine lv_aload_n (pc := 273) hx hb d187_273 rfl (lv_at hl 0 rfl) ?_
      refine lv_iconst (pc := 274) (v := 0) hx hb d187_274 (by decide) ?_
      obtain ⟨q12, hq12, h⟩ := jc_some h
      refine k_callV (pc := 275) (n := 1) X hS (c_mo_whole1 l ρ ad _ st 0 q12 hW hq12) wd1671 wd1668 wd1670 sl241 wd11 (by decide) ⟨rfl, rfl, by decide, by decide⟩ (m_recv X hW) (As := [.int 0]) (rest := []) rfl rfl hl.1 (Nat.le_of_ble_eq_true rfl) d187_275 ⟨by decide, by decide⟩ (fun q hq => MA.mono hS.1 hq) (fun v H1 locs1 hv _ _ hSq12 => ?_)
      obtain ⟨rfl, hW⟩ := hv
      have hS := hSq12
      refine lv_istore_n (pc := 278) (lv' := [(2, .int q12.1), (0, .ref (ad 0)), (1, .int x1)]) hx hb d187_278 rfl hl (by decide) rfl (fun ls hl => ?_)
      refine lv_aload_n (pc := 279) hx hb d187_279 rfl (lv_at hl 1 rfl) ?_
      refine lv_iload_n (pc := 280) hx hb d187_280 rfl (lv_at hl 0 rfl) ?_
      refine lv_iconst (pc := 281) (v := 2) hx hb d187_281 (by decide) ?_
      refine lv_irem (pc := 282) hx hb d187_282 (by decide) ?_
      refine lv_if_ne (pc := 283) (tgt := 290) hx hb d187_283 (by decide) (fun c283 => ?_) (fun c283 => ?_)
      · have h := jb_f c283 h
        refine lv_iconst (pc := 290) (v := 0) hx hb d187_290 (by decide) ?_
        exact kc291  q12.2 x1 0 _ _ _ hW hS (lv_sub hl [2] rfl) h
      · have h := jb_t c283 h
        refine lv_iconst (pc := 286) (v := 1) hx hb d187_286 (by decide) ?_
        refine lv_goto (pc := 287) (tgt := 291) hx hb d187_287 (by decide) ?_
        exact kc291  q12.2 x1 1 _ _ _ hW hS (lv_sub hl [2] rfl) h
    have h := jb_f c26_127 h
    by_cases c26_128 : x1 = 128
    · have h := jb_t c26_128 h
      refine lv_tableIn (pc := 26) (off := 247) (tgt := 273) hx hb d187_26 (by rw [c26_128]; decide) (by rw [c26_128]; decide) (by rw [c26_128]; rfl) (by decide) ?_
      refine lv_aload_n (pc := 273) hx hb d187_273 rfl (lv_at hl 0 rfl) ?_
      refine lv_iconst (pc := 274) (v := 0) hx hb d187_274 (by decide) ?_
      obtain ⟨q13, hq13, h⟩ := jc_some h
      refine k_callV (pc := 275) (n := 1) X hS (c_mo_whole1 l ρ ad _ st 0 q13 hW hq13) wd1671 wd1668 wd1670 sl241 wd11 (by decide) ⟨rfl, rfl, by decide, by decide⟩ (m_recv X hW) (As := [.int 0]) (rest := []) rfl rfl hl.1 (Nat.le_of_ble_eq_true rfl) d187_275 ⟨by decide, by decide⟩ (fun q hq => MA.mono hS.1 hq) (fun v H1 locs1 hv _ _ hSq13 => ?_)
      obtain ⟨rfl, hW⟩ := hv
      have hS := hSq13
      refine lv_istore_n (pc := 278) (lv' := [(2, .int q13.1), (0, .ref (ad 0)), (1, .int x1)]) hx hb d187_278 rfl hl (by decide) rfl (fun ls hl => ?_)
      refine lv_aload_n (pc := 279) hx hb d187_279 rfl (lv_at hl 1 rfl) ?_
      refine lv_iload_n (pc := 280) hx hb d187_280 rfl (lv_at hl 0 rfl) ?_
      refine lv_iconst (pc := 281) (v := 2) hx hb d187_281 (by decide) ?_
      refine lv_irem (pc := 282) hx hb d187_282 (by decide) ?_
      refine lv_if_ne (pc := 283) (tgt := 290) hx hb d187_283 (by decide) (fun c283 => ?_) (fun c283 => ?_)
      · have h := jb_f c283 h
        refine lv_iconst (pc := 290) (v := 0) hx hb d187_290 (by decide) ?_
        exact kc291  q13.2 x1 0 _ _ _ hW hS (lv_sub hl [2] rfl) h
      · have h := jb_t c283 h
        refine lv_iconst (pc := 286) (v := 1) hx hb d187_286 (by decide) ?_
        refine lv_goto (pc := 287) (tgt := 291) hx hb d187_287 (by decide) ?_
        exact kc291  q13.2 x1 1 _ _ _ hW hS (lv_sub hl [2] rfl) h
    have h := jb_f c26_128 h
    by_cases c26_129 : x1 = 129
    · have h := jb_t c26_129 h
      refine lv_tableIn (pc := 26) (off := 290) (tgt := 316) hx hb d187_26 (by rw [c26_129]; decide) (by rw [c26_129]; decide) (by rw [c26_129]; rfl) (by decide) ?_
      refine lv_aload_n (pc := 316) hx hb d187_316 rfl (lv_at hl 0 rfl) ?_
      refine lv_bipush (pc := 317) (v := 7) hx hb d187_317 (by decide) ?_
      obtain ⟨q14, hq14, h⟩ := jc_some h
      refine k_callV (pc := 319) (n := 1) X hS (c_mo_fail l ρ ad _ st 7 q14 hW hq14) wd1621 wd1618 wd1620 sl170 wd11 (by decide) ⟨rfl, rfl, by decide, by decide⟩ (m_recv X hW) (As := [.int 7]) (rest := []) rfl rfl hl.1 (Nat.le_of_ble_eq_true rfl) d187_319 ⟨by decide, by decide⟩ (fun q hq => MA.mono hS.1 hq) (fun v H1 locs1 hv _ _ hSq14 => ?_)
      obtain ⟨rfl, hW⟩ := hv
      have hS := hSq14
      refine lv_goto (pc := 322) (tgt := 428) hx hb d187_322 (by decide) ?_
      obtain rfl := Option.some.inj h
      exact m_vret (pc := 428) hx hb hr hlk hS ⟨rfl, hW⟩ (by decide) (by decide) d187_428
    have h := jb_f c26_129 h
    by_cases c26_130 : x1 = 130
    · have h := jb_t c26_130 h
      refine lv_tableIn (pc := 26) (off := 299) (tgt := 325) hx hb d187_26 (by rw [c26_130]; decide) (by rw [c26_130]; decide) (by rw [c26_130]; rfl) (by decide) ?_
      refine lv_aload_n (pc := 325) hx hb d187_325 rfl (lv_at hl 0 rfl) ?_
      refine lv_aload_n (pc := 326) hx hb d187_326 rfl (lv_at hl 0 rfl) ?_
      refine lv_iconst (pc := 327) (v := 0) hx hb d187_327 (by decide) ?_
      obtain ⟨q15, hq15, h⟩ := jc_some h
      refine k_callV (pc := 328) (n := 1) X hS (c_mo_rowsOf l ρ ad _ st 0 q15 hW hq15) wd1772 wd1769 wd1771 sl215 wd11 (by decide) ⟨rfl, rfl, by decide, by decide⟩ (m_recv X hW) (As := [.int 0]) (rest := [.ref (ad 0)]) rfl rfl hl.1 (Nat.le_of_ble_eq_true rfl) d187_328 ⟨by decide, by decide⟩ (fun q hq => False.elim hq) (fun v H1 locs1 hv _ _ hSq15 => ?_)
      obtain ⟨rfl, rfl⟩ := hv
      have hS := hSq15
      refine lv_aload_n (pc := 331) hx hb d187_331 rfl (lv_at hl 0 rfl) ?_
      refine lv_iconst (pc := 332) (v := 0) hx hb d187_332 (by decide) ?_
      obtain ⟨q16, hq16, h⟩ := jc_some h
      refine k_callV (pc := 333) (n := 1) X hS (c_mo_columnsOf l ρ ad _ st 0 q16 hW hq16) wd1776 wd1773 wd1775 sl154 wd11 (by decide) ⟨rfl, rfl, by decide, by decide⟩ (m_recv X hW) (As := [.int 0]) (rest := [.int q15, .ref (ad 0)]) rfl rfl hl.1 (Nat.le_of_ble_eq_true rfl) d187_333 ⟨by decide, by decide⟩ (fun q hq => False.elim hq) (fun v H1 locs1 hv _ _ hSq16 => ?_)
      obtain ⟨rfl, rfl⟩ := hv
      have hS := hSq16
      refine lv_imul (pc := 336) hx hb d187_336 ?_
      refine lv_iconst (pc := 337) (v := 1) hx hb d187_337 (by decide) ?_
      refine lv_icmp_le (pc := 338) (tgt := 347) hx hb d187_338 (by decide) (fun c338 => ?_) (fun c338 => ?_)
      · have h := jb_t c338 h
        refine lv_aload_n (pc := 347) hx hb d187_347 rfl (lv_at hl 0 rfl) ?_
        refine m_get (pc := 348) X hW 20 (v := .int (st.1 0 20)) wd1386 rfl rfl d187_348 ?_
        refine lv_iconst (pc := 351) (v := 2) hx hb d187_351 (by decide) ?_
        refine lv_icmp_ne (pc := 352) (tgt := 361) hx hb d187_352 (by decide) (fun c352 => ?_) (fun c352 => ?_)
        · have h := jb_f c352 h
          refine lv_aload_n (pc := 361) hx hb d187_361 rfl (lv_at hl 0 rfl) ?_
          refine m_get (pc := 362) X hW 20 (v := .int (st.1 0 20)) wd1386 rfl rfl d187_362 ?_
          refine lv_iconst (pc := 365) (v := 3) hx hb d187_365 (by decide) ?_
          refine lv_icmp_ne (pc := 366) (tgt := 375) hx hb d187_366 (by decide) (fun c366 => ?_) (fun c366 => ?_)
          · have h := jb_f c366 h
            refine lv_aload_n (pc := 375) hx hb d187_375 rfl (lv_at hl 0 rfl) ?_
            refine m_get (pc := 376) X hW 20 (v := .int (st.1 0 20)) wd1386 rfl rfl d187_376 ?_
            refine lv_iconst (pc := 379) (v := 4) hx hb d187_379 (by decide) ?_
            refine lv_icmp_ne (pc := 380) (tgt := 389) hx hb d187_380 (by decide) (fun c380 => ?_) (fun c380 => ?_)
            · have h := jb_f c380 h
              refine lv_dconst1 (pc := 389) hx hb d187_389 ?_
              exact kc390  st FP.dconst1 _ _ _ hW hS (lv_sub hl [] rfl) h
            · have h := jb_t c380 h
              refine lv_ldc2d (pc := 383) hx hb X.1.2.2.2.1 (X.ts wd1974) d187_383 ?_
              refine lv_goto (pc := 386) (tgt := 390) hx hb d187_386 (by decide) ?_
              exact kc390  st (4625196817309499392 : UInt64) _ _ _ hW hS (lv_sub hl [] rfl) h
          · have h := jb_t c366 h
            refine lv_ldc2d (pc := 369) hx hb X.1.2.2.2.1 (X.ts wd1973) d187_369 ?_
            refine lv_goto (pc := 372) (tgt := 390) hx hb d187_372 (by decide) ?_
            exact kc390  st (4616189618054758400 : UInt64) _ _ _ hW hS (lv_sub hl [] rfl) h
        · have h := jb_t c352 h
          refine lv_ldc2d (pc := 355) hx hb X.1.2.2.2.1 (X.ts wd1972) d187_355 ?_
          refine lv_goto (pc := 358) (tgt := 390) hx hb d187_358 (by decide) ?_
          exact kc390  st (4611686018427387904 : UInt64) _ _ _ hW hS (lv_sub hl [] rfl) h
      · have h := jb_f c338 h
        refine lv_ldc2d (pc := 341) hx hb X.1.2.2.2.1 (X.ts wd1971) d187_341 ?_
        refine lv_goto (pc := 344) (tgt := 390) hx hb d187_344 (by decide) ?_
        exact kc390  st (4634204016564240384 : UInt64) _ _ _ hW hS (lv_sub hl [] rfl) h
    have h := jb_f c26_130 h
    by_cases c26_131 : x1 = 131
    · have h := jb_t c26_131 h
      refine lv_tableIn (pc := 26) (off := 370) (tgt := 396) hx hb d187_26 (by rw [c26_131]; decide) (by rw [c26_131]; decide) (by rw [c26_131]; rfl) (by decide) ?_
      refine lv_aload_n (pc := 396) hx hb d187_396 rfl (lv_at hl 0 rfl) ?_
      refine m_get (pc := 397) X hW 20 (v := .int (st.1 0 20)) wd1386 rfl rfl d187_397 ?_
      refine lv_iconst (pc := 400) (v := 4) hx hb d187_400 (by decide) ?_
      refine lv_icmp_eq (pc := 401) (tgt := 410) hx hb d187_401 (by decide) (fun c401 => ?_) (fun c401 => ?_)
      · have h := jb_t c401 h
        exact kc410  st _ _ _ hW hS (lv_sub hl [0] rfl) h
      · have h := jb_f c401 h
        refine lv_aload_n (pc := 404) hx hb d187_404 rfl (lv_at hl 0 rfl) ?_
        refine lv_bipush (pc := 405) (v := 7) hx hb d187_405 (by decide) ?_
        obtain ⟨q17, hq17, h⟩ := jc_some h
        refine k_callV (pc := 407) (n := 1) X hS (c_mo_fail l ρ ad _ st 7 q17 hW hq17) wd1621 wd1618 wd1620 sl170 wd11 (by decide) ⟨rfl, rfl, by decide, by decide⟩ (m_recv X hW) (As := [.int 7]) (rest := []) rfl rfl hl.1 (Nat.le_of_ble_eq_true rfl) d187_407 ⟨by decide, by decide⟩ (fun q hq => MA.mono hS.1 hq) (fun v H1 locs1 hv _ _ hSq17 => ?_)
        obtain ⟨rfl, hW⟩ := hv
        have hS := hSq17
        exact kc410  q17 _ _ _ hW hS (lv_sub hl [0] rfl) h
    have h := jb_f c26_131 h
    refine lv_tableOut (pc := 26) (tgt := 421) hx hb d187_26 (sw_out 13 (by decide) (by
      intro i hi
      match i, hi with
      | 0, _ => exact fun z => c26_119 (Int32.toInt_inj.mp (by rw [z]; decide))
      | 1, _ => exact fun z => c26_120 (Int32.toInt_inj.mp (by rw [z]; decide))
      | 2, _ => exact fun z => c26_121 (Int32.toInt_inj.mp (by rw [z]; decide))
      | 3, _ => exact fun z => c26_122 (Int32.toInt_inj.mp (by rw [z]; decide))
      | 4, _ => exact fun z => c26_123 (Int32.toInt_inj.mp (by rw [z]; decide))
      | 5, _ => exact fun z => c26_124 (Int32.toInt_inj.mp (by rw [z]; decide))
      | 6, _ => exact fun z => c26_125 (Int32.toInt_inj.mp (by rw [z]; decide))
      | 7, _ => exact fun z => c26_126 (Int32.toInt_inj.mp (by rw [z]; decide))
      | 8, _ => exact fun z => c26_127 (Int32.toInt_inj.mp (by rw [z]; decide))
      | 9, _ => exact fun z => c26_128 (Int32.toInt_inj.mp (by rw [z]; decide))
      | 10, _ => exact fun z => c26_129 (Int32.toInt_inj.mp (by rw [z]; decide))
      | 11, _ => exact fun z => c26_130 (Int32.toInt_inj.mp (by rw [z]; decide))
      | 12, _ => exact fun z => c26_131 (Int32.toInt_inj.mp (by rw [z]; decide))
      | i + 13, q => exact absurd q (by omega))) (by decide) ?_
    refine lv_aload_n (pc := 421) hx hb d187_421 rfl (lv_at hl 0 rfl) ?_
    refine lv_ldc2d (pc := 422) hx hb X.1.2.2.2.1 (X.ts wd1975) d187_422 ?_
    obtain ⟨q18, hq18, h⟩ := jc_some h
    refine k_callV (pc := 425) (n := 1) X hS (c_mo_answerNumber l ρ ad _ st (4614256656552045848 : UInt64) q18 hW hq18) wd1651 wd1648 wd1650 sl142 wd11 (by decide) ⟨rfl, rfl, by decide, by decide⟩ (m_recv X hW) (As := [.double (4614256656552045848 : UInt64)]) (rest := []) rfl rfl hl.1 (Nat.le_of_ble_eq_true rfl) d187_425 ⟨by decide, by decide⟩ (fun q hq => MA.mono hS.1 hq) (fun v H1 locs1 hv _ _ hSq18 => ?_)
    obtain ⟨rfl, hW⟩ := hv
    have hS := hSq18
    obtain rfl := Option.some.inj h
    exact m_vret (pc := 428) hx hb hr hlk hS ⟨rfl, hW⟩ (by decide) (by decide) d187_428
  have kc20 : ∀ (st : GS) (x1 : Int32) (H : Heap) (locs : List Loc) (ls : Array Slot), GW ρ wM ad st H → va_S (MA wM ad s.heap.size) s.heap H locs → lv_has ls 3 [(0, .ref (ad 0)), (1, .int x1)] → mo_kindOf_20 st x1 = some res → W p l e ({ frames := 5, cells := 0, slots := 0, locals := 110 } : Room) s m args below meth c H locs 0 0 (MQ below (mQ (fun v H1 => v = none ∧ GW ρ wM ad res H1) (MA wM ad s.heap.size)) args s 0 0 (MA wM ad s.heap.size)) (F0 m 20 ls []) := by
    intro st x1 H locs ls hW hS hl h
    unfold mo_kindOf_20 at h
    refine lv_aload_n (pc := 20) hx hb d187_20 rfl (lv_at hl 0 rfl) ?_
    refine lv_iconst (pc := 21) (v := 0) hx hb d187_21 (by decide) ?_
    obtain ⟨q19, hq19, h⟩ := jc_some h
    refine k_callV (pc := 22) (n := 1) X hS (c_mo_takeOf l ρ ad _ st 0 q19 hW hq19) wd1601 wd1598 wd1600 sl224 wd11 (by decide) ⟨rfl, rfl, by decide, by decide⟩ (m_recv X hW) (As := [.int 0]) (rest := []) rfl rfl hl.1 (Nat.le_of_ble_eq_true rfl) d187_22 ⟨by decide, by decide⟩ (fun q hq => MA.mono hS.1 hq) (fun v H1 locs1 hv _ _ hSq19 => ?_)
    obtain ⟨rfl, hW⟩ := hv
    have hS := hSq19
    exact kc25  q19 x1 _ _ _ hW hS (lv_sub hl [0, 1] rfl) h
  unfold f_mo_kindOf at h
  refine lv_iload_n (pc := 0) hx hb d187_0 rfl (lv_at hl 1 rfl) ?_
  refine lv_bipush (pc := 1) (v := 127) hx hb d187_1 (by decide) ?_
  refine lv_icmp_lt (pc := 3) (tgt := 20) hx hb d187_3 (by decide) (fun c3 => ?_) (fun c3 => ?_)
  · have h := jb_t c3 h
    exact kc20  st p0 _ _ _ hW hS (lv_sub hl [0, 1] rfl) h
  · have h := jb_f c3 h
    refine lv_iload_n (pc := 6) hx hb d187_6 rfl (lv_at hl 1 rfl) ?_
    refine lv_sipush (pc := 7) (v := 129) hx hb d187_7 (by decide) ?_
    refine lv_icmp_le (pc := 10) (tgt := 25) hx hb d187_10 (by decide) (fun c10 => ?_) (fun c10 => ?_)
    · have h := jb_t c10 h
      exact kc25  st p0 _ _ _ hW hS (lv_sub hl [0, 1] rfl) h
    · have h := jb_f c10 h
      refine lv_iload_n (pc := 13) hx hb d187_13 rfl (lv_at hl 1 rfl) ?_
      refine lv_sipush (pc := 14) (v := 132) hx hb d187_14 (by decide) ?_
      refine lv_icmp_ge (pc := 17) (tgt := 25) hx hb d187_17 (by decide) (fun c17 => ?_) (fun c17 => ?_)
      · have h := jb_t c17 h
        exact kc25  st p0 _ _ _ hW hS (lv_sub hl [0, 1] rfl) h
      · have h := jb_f c17 h
        exact kc20  st p0 _ _ _ hW hS (lv_sub hl [0, 1] rfl) h
def mo_tellKept_44  : Nat → GS → Int32 → Int32 → Option (GS)
  | 0, _, _, _ => none
  | fu + 1, st, x1, x2 => jb ((st.1 0 33) ≤ x2) (some st) (jg (inb x1 512) (jg (inb ((st.1 20 x1.toNatClampNeg) + x2) 140000) (jg (inb x2 256) (jn (uI st 17 x2.toNatClampNeg (st.1 3 ((st.1 20 x1.toNatClampNeg) + x2).toNatClampNeg)) (fun st4 => jn (x2 + 1) (fun v5 => mo_tellKept_44 fu st4 x1 v5))))))
def mo_tellKept_39  (st : GS) (x1 : Int32) (z1 : Int32) : Option (GS) := jn (uI st 0 33 z1) (fun st6 => mo_tellKept_44 FU st6 x1 0)
def f_mo_tellKept (st : GS) (p0 : Int32) : Option (GS) := jg (inb p0 512) (jn (uI st 0 32 (st.1 19 p0.toNatClampNeg)) (fun st8 => jg (inb p0 512) (jn (uD st8 0 34 (st8.2.1 22 p0.toNatClampNeg)) (fun st10 => jb ((st10.1 0 32) = 2) (jg (inb p0 512) (mo_tellKept_39  st10 p0 (st10.1 21 p0.toNatClampNeg))) (mo_tellKept_39  st10 p0 0)))))
set_option maxHeartbeats 4000000 in
set_option maxRecDepth 100000 in
theorem c_mo_tellKept (l : Launch) (ρ : RH) (ad : Nat → Nat) (H : Heap) (st : GS) (p0 : Int32) (res : GS) (hW : GW ρ wM ad st H) (h : f_mo_tellKept st p0 = some res) : Met l y225 (wsOf y225 b225 3 none) ({ frames := 0, cells := 0, slots := 0, locals := 0 } : Room) (va_Pc [.ref (ad 0), .int p0] (KP ρ H)) (mQ (fun v H1 => v = none ∧ GW ρ wM ad res H1) (MA wM ad H.size)) 0 0 (MA wM ad H.size) := by
  refine m_ofW (own := "WordFunctionsModel") (plainFor_of_name rfl) rfl (Nat.le_of_ble_eq_true rfl) fun p e s m args below meth c ls hx hb hr hlk _ X hs hl => ?_
  subst hs
  have hS : va_S (MA wM ad s.heap.size) s.heap s.heap [] := va_S.rf
  have hl : lv_has ls 3 [(0, .ref (ad 0)), (1, .int p0)] := hl
  have kc44 : ∀ (fu : Nat), ∀ (st : GS) (x1 : Int32) (x2 : Int32) (H : Heap) (locs : List Loc) (ls : Array Slot), GW ρ wM ad st H → va_S (MA wM ad s.heap.size) s.heap H locs → lv_has ls 3 [(0, .ref (ad 0)), (1, .int x1), (2, .int x2)] → mo_tellKept_44 fu st x1 x2 = some res → W p l e ({ frames := 0, cells := 0, slots := 0, locals := 0 } : Room) s m args below meth c H locs 0 0 (MQ below (mQ (fun v H1 => v = none ∧ GW ρ wM ad res H1) (MA wM ad s.heap.size)) args s 0 0 (MA wM ad s.heap.size)) (F0 m 44 ls []) := by
    intro  fu
    induction fu with
    | zero => intro st x1 x2 H locs ls hW hS hl h; cases h
    | succ fu hK44 =>
      intro st x1 x2 H locs ls hW hS hl h
      unfold mo_tellKept_44 at h
      refine lv_iload_n (pc := 44) hx hb d225_44 rfl (lv_at hl 2 rfl) ?_
      refine lv_aload_n (pc := 45) hx hb d225_45 rfl (lv_at hl 0 rfl) ?_
      refine m_get (pc := 46) X hW 33 (v := .int (st.1 0 33)) wd1399 rfl rfl d225_46 ?_
      refine lv_icmp_ge (pc := 49) (tgt := 77) hx hb d225_49 (by decide) (fun c49 => ?_) (fun c49 => ?_)
      · have h := jb_t c49 h
        obtain rfl := Option.some.inj h
        exact m_vret (pc := 77) hx hb hr hlk hS ⟨rfl, hW⟩ (by decide) (by decide) d225_77
      · have h := jb_f c49 h
        refine lv_aload_n (pc := 52) hx hb d225_52 rfl (lv_at hl 0 rfl) ?_
        refine m_get (pc := 53) X hW 35 (v := .ref (ad 17)) wd1401 rfl rfl d225_53 ?_
        refine lv_iload_n (pc := 56) hx hb d225_56 rfl (lv_at hl 2 rfl) ?_
        refine lv_aload_n (pc := 57) hx hb d225_57 rfl (lv_at hl 0 rfl) ?_
        refine m_get (pc := 58) X hW 6 (v := .ref (ad 3)) wd1372 rfl rfl d225_58 ?_
        refine lv_aload_n (pc := 61) hx hb d225_61 rfl (lv_at hl 0 rfl) ?_
        refine m_get (pc := 62) X hW 52 (v := .ref (ad 20)) wd1418 rfl rfl d225_62 ?_
        refine lv_iload_n (pc := 65) hx hb d225_65 rfl (lv_at hl 1 rfl) ?_
        obtain ⟨g1, h⟩ := jg_some h
        refine r_iald (pc := 66) X hW 20 (by decide) rfl (inb_in g1) d225_66 ?_
        refine lv_iload_n (pc := 67) hx hb d225_67 rfl (lv_at hl 2 rfl) ?_
        refine lv_iadd (pc := 68) hx hb d225_68 ?_
        obtain ⟨g2, h⟩ := jg_some h
        refine r_iald (pc := 69) X hW 3 (by decide) rfl (inb_in g2) d225_69 ?_
        obtain ⟨g3, h⟩ := jg_some h
        obtain ⟨st4, est4, h⟩ := jn_ex h
        refine m_iast (pc := 70) X hW hS 17 (by decide) rfl g3 est4 d225_70 (fun H locs hW hS => ?_)
        obtain ⟨v5, ev5, h⟩ := jn_ex h
        refine lv_iinc (pc := 71) (v := v5) (lv' := [(2, .int v5), (0, .ref (ad 0)), (1, .int x1)]) hx hb d225_71 hl (k := 2) rfl (by rw [ev5]; rfl) (by decide) rfl (fun ls hl => ?_)
        refine lv_goto (pc := 74) (tgt := 44) hx hb d225_74 (by decide) ?_
        exact hK44 st4 x1 v5 _ _ _ hW hS (lv_sub hl [1, 2, 0] rfl) h
  have kc39 : ∀ (st : GS) (x1 : Int32) (z1 : Int32) (H : Heap) (locs : List Loc) (ls : Array Slot), GW ρ wM ad st H → va_S (MA wM ad s.heap.size) s.heap H locs → lv_has ls 3 [(0, .ref (ad 0)), (1, .int x1)] → mo_tellKept_39 st x1 z1 = some res → W p l e ({ frames := 0, cells := 0, slots := 0, locals := 0 } : Room) s m args below meth c H locs 0 0 (MQ below (mQ (fun v H1 => v = none ∧ GW ρ wM ad res H1) (MA wM ad s.heap.size)) args s 0 0 (MA wM ad s.heap.size)) (F0 m 39 ls [.int z1, .ref (ad 0)]) := by
    intro st x1 z1 H locs ls hW hS hl h
    unfold mo_tellKept_39 at h
    obtain ⟨st6, est6, h⟩ := jn_ex h
    refine m_putI (pc := 39) X hW hS 33 est6 wd1399 rfl rfl rfl rfl rfl d225_39 (fun H locs hW hS => ?_)
    refine lv_iconst (pc := 42) (v := 0) hx hb d225_42 (by decide) ?_
    refine lv_istore_n (pc := 43) (lv' := [(2, .int 0), (0, .ref (ad 0)), (1, .int x1)]) hx hb d225_43 rfl hl (by decide) rfl (fun ls hl => ?_)
    exact kc44  FU st6 x1 0 _ _ _ hW hS (lv_sub hl [1, 2, 0] rfl) h
  unfold f_mo_tellKept at h
  refine lv_aload_n (pc := 0) hx hb d225_0 rfl (lv_at hl 0 rfl) ?_
  refine lv_aload_n (pc := 1) hx hb d225_1 rfl (lv_at hl 0 rfl) ?_
  refine m_get (pc := 2) X hW 51 (v := .ref (ad 19)) wd1417 rfl rfl d225_2 ?_
  refine lv_iload_n (pc := 5) hx hb d225_5 rfl (lv_at hl 1 rfl) ?_
  obtain ⟨g7, h⟩ := jg_some h
  refine r_iald (pc := 6) X hW 19 (by decide) rfl (inb_in g7) d225_6 ?_
  obtain ⟨st8, est8, h⟩ := jn_ex h
  refine m_putI (pc := 7) X hW hS 32 est8 wd1398 rfl rfl rfl rfl rfl d225_7 (fun H locs hW hS => ?_)
  refine lv_aload_n (pc := 10) hx hb d225_10 rfl (lv_at hl 0 rfl) ?_
  refine lv_aload_n (pc := 11) hx hb d225_11 rfl (lv_at hl 0 rfl) ?_
  refine m_get (pc := 12) X hW 54 (v := .ref (ad 22)) wd1420 rfl rfl d225_12 ?_
  refine lv_iload_n (pc := 15) hx hb d225_15 rfl (lv_at hl 1 rfl) ?_
  obtain ⟨g9, h⟩ := jg_some h
  refine r_dald (pc := 16) X hW 22 (by decide) rfl (inb_in g9) d225_16 ?_
  obtain ⟨st10, est10, h⟩ := jn_ex h
  refine m_putD (pc := 17) X hW hS 34 est10 wd1400 rfl rfl rfl rfl rfl d225_17 (fun H locs hW hS => ?_)
  refine lv_aload_n (pc := 20) hx hb d225_20 rfl (lv_at hl 0 rfl) ?_
  refine lv_aload_n (pc := 21) hx hb d225_21 rfl (lv_at hl 0 rfl) ?_
  refine m_get (pc := 22) X hW 32 (v := .int (st10.1 0 32)) wd1398 rfl rfl d225_22 ?_
  refine lv_iconst (pc := 25) (v := 2) hx hb d225_25 (by decide) ?_
  refine lv_icmp_ne (pc := 26) (tgt := 38) hx hb d225_26 (by decide) (fun c26 => ?_) (fun c26 => ?_)
  · have h := jb_f c26 h
    refine lv_iconst (pc := 38) (v := 0) hx hb d225_38 (by decide) ?_
    exact kc39  st10 p0 0 _ _ _ hW hS (lv_sub hl [0, 1] rfl) h
  · have h := jb_t c26 h
    refine lv_aload_n (pc := 29) hx hb d225_29 rfl (lv_at hl 0 rfl) ?_
    refine m_get (pc := 30) X hW 53 (v := .ref (ad 21)) wd1419 rfl rfl d225_30 ?_
    refine lv_iload_n (pc := 33) hx hb d225_33 rfl (lv_at hl 1 rfl) ?_
    obtain ⟨g11, h⟩ := jg_some h
    refine r_iald (pc := 34) X hW 21 (by decide) rfl (inb_in g11) d225_34 ?_
    refine lv_goto (pc := 35) (tgt := 39) hx hb d225_35 (by decide) ?_
    exact kc39  st10 p0 (st10.1 21 p0.toNatClampNeg) _ _ _ hW hS (lv_sub hl [0, 1] rfl) h
def mo_keep_229  (st : GS)  : Option (GS) := jb ((st.1 0 36) < 0) (some st) (jc (f_mo_tellKept st 0) (fun q1 => some q1))
def mo_keep_196 (K68 : GS → Int32 → Option (GS)) (st : GS) (x1 : Int32) (x4 : Int32) (z1 : Int32) (z2 : UInt64) : Option (GS) := jg (inb z1 512) (jn (uD st 22 z1.toNatClampNeg z2) (fun st3 => jg (inb x4 513) (jg (inb x1 512) (jn (uI st3 20 x1.toNatClampNeg (st3.1 10 x4.toNatClampNeg)) (fun st6 => jg (inb x4 513) (jg (inb x1 512) (jn (uI st6 21 x1.toNatClampNeg (st6.1 11 x4.toNatClampNeg)) (fun st9 => jn (x1 + 1) (fun v10 => K68 st9 v10)))))))))
def mo_keep_185 (K68 : GS → Int32 → Option (GS)) (st : GS) (x1 : Int32) (x4 : Int32) (z1 : Int32) : Option (GS) := mo_keep_196 K68  st x1 x4 z1 FP.dconst0
def mo_keep_140 (K68 : GS → Int32 → Option (GS)) (st : GS) (x1 : Int32) (z1 : Int32) (z2 : Int32) (z3 : Int32) (z4 : Int32) : Option (GS) := jc (f_mo_valueAt st z1 z2 (z3 + z4)) (fun q11 => jg (inb q11 513) (jg (inb x1 512) (jn (uI st 19 x1.toNatClampNeg (st.1 9 q11.toNatClampNeg)) (fun st14 => jg (inb q11 513) (jb ((st14.1 9 q11.toNatClampNeg) = 0) (mo_keep_185 K68  st14 x1 q11 x1) (jg (inb q11 513) (jb ((st14.1 9 q11.toNatClampNeg) = 2) (mo_keep_185 K68  st14 x1 q11 x1) (jg (inb q11 513) (mo_keep_196 K68  st14 x1 q11 x1 (st14.2.1 12 q11.toNatClampNeg))))))))))
def mo_keep_123 (K68 : GS → Int32 → Option (GS)) (st : GS) (x1 : Int32) (x2 : Int32) (x3 : Int32) (z1 : Int32) (z2 : Int32) (z3 : Int32) : Option (GS) := jb ((st.1 0 41) = 0) (mo_keep_140 K68  st x1 z1 (z2 + z3) (st.1 0 38) x3) (mo_keep_140 K68  st x1 z1 (z2 + z3) (st.1 0 38) x2)
def mo_keep_68  : Nat → GS → Int32 → Option (GS)
  | 0, _, _ => none
  | fu + 1, st, x1 => jb ((st.1 0 36) < 0) (mo_keep_229  st) (jb (((st.1 0 49) * (st.1 0 50)) ≤ x1) (mo_keep_229  st) (jg (nz (st.1 0 50)) (jn (x1 / (st.1 0 50)) (fun v19 => jg (nz (st.1 0 50)) (jn (x1 - x1 / (st.1 0 50) * (st.1 0 50)) (fun v21 => jb ((st.1 0 41) = 0) (mo_keep_123 (mo_keep_68 fu)  st x1 v19 v21 (st.1 0 36) (st.1 0 37) v19) (mo_keep_123 (mo_keep_68 fu)  st x1 v19 v21 (st.1 0 36) (st.1 0 37) v21)))))))
def mo_keep_63  (st : GS) (z1 : Int32) : Option (GS) := jn (uI st 0 50 z1) (fun st22 => mo_keep_68 FU st22 0)
def mo_keep_30  (st : GS) (z1 : Int32) : Option (GS) := jn (uI st 0 49 z1) (fun st23 => jb (0 ≤ (st23.1 0 36)) (jb ((st23.1 0 41) = 0) (mo_keep_63  st23 (st23.1 0 40)) (mo_keep_63  st23 (st23.1 0 39))) (mo_keep_63  st23 1))
def f_mo_keep (st : GS) : Option (GS) := jb (0 ≤ (st.1 0 36)) (jb ((st.1 0 41) = 0) (mo_keep_30  st (st.1 0 39)) (mo_keep_30  st (st.1 0 40))) (mo_keep_30  st 1)
set_option maxHeartbeats 4000000 in
set_option maxRecDepth 100000 in
theorem c_mo_keep (l : Launch) (ρ : RH) (ad : Nat → Nat) (H : Heap) (st : GS) (res : GS) (hW : GW ρ wM ad st H) (h : f_mo_keep st = some res) : Met l y186 (wsOf y186 b186 5 none) ({ frames := 2, cells := 0, slots := 0, locals := 44 } : Room) (va_Pc [.ref (ad 0)] (KP ρ H)) (mQ (fun v H1 => v = none ∧ GW ρ wM ad res H1) (MA wM ad H.size)) 0 0 (MA wM ad H.size) := by
  refine m_ofW (own := "WordFunctionsModel") (plainFor_of_name rfl) rfl (Nat.le_of_ble_eq_true rfl) fun p e s m args below meth c ls hx hb hr hlk _ X hs hl => ?_
  subst hs
  have hS : va_S (MA wM ad s.heap.size) s.heap s.heap [] := va_S.rf
  have hl : lv_has ls 5 [(0, .ref (ad 0))] := hl
  have kc229 : ∀ (st : GS)  (H : Heap) (locs : List Loc) (ls : Array Slot), GW ρ wM ad st H → va_S (MA wM ad s.heap.size) s.heap H locs → lv_has ls 5 [(0, .ref (ad 0))] → mo_keep_229 st = some res → W p l e ({ frames := 2, cells := 0, slots := 0, locals := 44 } : Room) s m args below meth c H locs 0 0 (MQ below (mQ (fun v H1 => v = none ∧ GW ρ wM ad res H1) (MA wM ad s.heap.size)) args s 0 0 (MA wM ad s.heap.size)) (F0 m 229 ls []) := by
    intro st  H locs ls hW hS hl h
    unfold mo_keep_229 at h
    refine lv_aload_n (pc := 229) hx hb d186_229 rfl (lv_at hl 0 rfl) ?_
    refine m_get (pc := 230) X hW 36 (v := .int (st.1 0 36)) wd1402 rfl rfl d186_230 ?_
    refine lv_if_lt (pc := 233) (tgt := 241) hx hb d186_233 (by decide) (fun c233 => ?_) (fun c233 => ?_)
    · have h := jb_t c233 h
      obtain rfl := Option.some.inj h
      exact m_vret (pc := 241) hx hb hr hlk hS ⟨rfl, hW⟩ (by decide) (by decide) d186_241
    · have h := jb_f c233 h
      refine lv_aload_n (pc := 236) hx hb d186_236 rfl (lv_at hl 0 rfl) ?_
      refine lv_iconst (pc := 237) (v := 0) hx hb d186_237 (by decide) ?_
      obtain ⟨q1, hq1, h⟩ := jc_some h
      refine k_callV (pc := 238) (n := 1) X hS (c_mo_tellKept l ρ ad _ st 0 q1 hW hq1) wd1983 wd1980 wd1982 sl225 wd11 (by decide) ⟨rfl, rfl, by decide, by decide⟩ (m_recv X hW) (As := [.int 0]) (rest := []) rfl rfl hl.1 (Nat.le_of_ble_eq_true rfl) d186_238 ⟨by decide, by decide⟩ (fun q hq => MA.mono hS.1 hq) (fun v H1 locs1 hv _ _ hSq1 => ?_)
      obtain ⟨rfl, hW⟩ := hv
      have hS := hSq1
      obtain rfl := Option.some.inj h
      exact m_vret (pc := 241) hx hb hr hlk hS ⟨rfl, hW⟩ (by decide) (by decide) d186_241
  have kc196 : ∀ (K68 : GS → Int32 → Option (GS)) (hK68 : ∀ (st : GS) (x1 : Int32) (H : Heap) (locs : List Loc) (ls : Array Slot), GW ρ wM ad st H → va_S (MA wM ad s.heap.size) s.heap H locs → lv_has ls 5 [(0, .ref (ad 0)), (1, .int x1)] → K68 st x1 = some res → W p l e ({ frames := 2, cells := 0, slots := 0, locals := 44 } : Room) s m args below meth c H locs 0 0 (MQ below (mQ (fun v H1 => v = none ∧ GW ρ wM ad res H1) (MA wM ad s.heap.size)) args s 0 0 (MA wM ad s.heap.size)) (F0 m 68 ls [])), ∀ (st : GS) (x1 : Int32) (x4 : Int32) (z1 : Int32) (z2 : UInt64) (H : Heap) (locs : List Loc) (ls : Array Slot), GW ρ wM ad st H → va_S (MA wM ad s.heap.size) s.heap H locs → lv_has ls 5 [(0, .ref (ad 0)), (1, .int x1), (4, .int x4)] → mo_keep_196 K68 st x1 x4 z1 z2 = some res → W p l e ({ frames := 2, cells := 0, slots := 0, locals := 44 } : Room) s m args below meth c H locs 0 0 (MQ below (mQ (fun v H1 => v = none ∧ GW ρ wM ad res H1) (MA wM ad s.heap.size)) args s 0 0 (MA wM ad s.heap.size)) (F0 m 196 ls [.double z2, .int z1, .ref (ad 22)]) := by
    intro K68 hK68
    intro st x1 x4 z1 z2 H locs ls hW hS hl h
    unfold mo_keep_196 at h
    obtain ⟨g2, h⟩ := jg_some h
    obtain ⟨st3, est3, h⟩ := jn_ex h
    refine m_dast (pc := 196) X hW hS 22 (by decide) rfl g2 est3 d186_196 (fun H locs hW hS => ?_)
    refine lv_aload_n (pc := 197) hx hb d186_197 rfl (lv_at hl 0 rfl) ?_
    refine m_get (pc := 198) X hW 52 (v := .ref (ad 20)) wd1418 rfl rfl d186_198 ?_
    refine lv_iload_n (pc := 201) hx hb d186_201 rfl (lv_at hl 1 rfl) ?_
    refine lv_aload_n (pc := 202) hx hb d186_202 rfl (lv_at hl 0 rfl) ?_
    refine m_get (pc := 203) X hW 15 (v := .ref (ad 10)) wd1381 rfl rfl d186_203 ?_
    refine lv_iload (pc := 206) hx hb d186_206 (lv_at hl 2 rfl) ?_
    obtain ⟨g4, h⟩ := jg_some h
    refine r_iald (pc := 208) X hW 10 (by decide) rfl (inb_in g4) d186_208 ?_
    obtain ⟨g5, h⟩ := jg_some h
    obtain ⟨st6, est6, h⟩ := jn_ex h
    refine m_iast (pc := 209) X hW hS 20 (by decide) rfl g5 est6 d186_209 (fun H locs hW hS => ?_)
    refine lv_aload_n (pc := 210) hx hb d186_210 rfl (lv_at hl 0 rfl) ?_
    refine m_get (pc := 211) X hW 53 (v := .ref (ad 21)) wd1419 rfl rfl d186_211 ?_
    refine lv_iload_n (pc := 214) hx hb d186_214 rfl (lv_at hl 1 rfl) ?_
    refine lv_aload_n (pc := 215) hx hb d186_215 rfl (lv_at hl 0 rfl) ?_
    refine m_get (pc := 216) X hW 16 (v := .ref (ad 11)) wd1382 rfl rfl d186_216 ?_
    refine lv_iload (pc := 219) hx hb d186_219 (lv_at hl 2 rfl) ?_
    obtain ⟨g7, h⟩ := jg_some h
    refine r_iald (pc := 221) X hW 11 (by decide) rfl (inb_in g7) d186_221 ?_
    obtain ⟨g8, h⟩ := jg_some h
    obtain ⟨st9, est9, h⟩ := jn_ex h
    refine m_iast (pc := 222) X hW hS 21 (by decide) rfl g8 est9 d186_222 (fun H locs hW hS => ?_)
    obtain ⟨v10, ev10, h⟩ := jn_ex h
    refine lv_iinc (pc := 223) (v := v10) (lv' := [(1, .int v10), (0, .ref (ad 0)), (4, .int x4)]) hx hb d186_223 hl (k := 1) rfl (by rw [ev10]; rfl) (by decide) rfl (fun ls hl => ?_)
    refine lv_goto (pc := 226) (tgt := 68) hx hb d186_226 (by decide) ?_
    exact hK68 st9 v10 _ _ _ hW hS (lv_sub hl [1, 0] rfl) h
  have kc185 : ∀ (K68 : GS → Int32 → Option (GS)) (hK68 : ∀ (st : GS) (x1 : Int32) (H : Heap) (locs : List Loc) (ls : Array Slot), GW ρ wM ad st H → va_S (MA wM ad s.heap.size) s.heap H locs → lv_has ls 5 [(0, .ref (ad 0)), (1, .int x1)] → K68 st x1 = some res → W p l e ({ frames := 2, cells := 0, slots := 0, locals := 44 } : Room) s m args below meth c H locs 0 0 (MQ below (mQ (fun v H1 => v = none ∧ GW ρ wM ad res H1) (MA wM ad s.heap.size)) args s 0 0 (MA wM ad s.heap.size)) (F0 m 68 ls [])), ∀ (st : GS) (x1 : Int32) (x4 : Int32) (z1 : Int32) (H : Heap) (locs : List Loc) (ls : Array Slot), GW ρ wM ad st H → va_S (MA wM ad s.heap.size) s.heap H locs → lv_has ls 5 [(0, .ref (ad 0)), (1, .int x1), (4, .int x4)] → mo_keep_185 K68 st x1 x4 z1 = some res → W p l e ({ frames := 2, cells := 0, slots := 0, locals := 44 } : Room) s m args below meth c H locs 0 0 (MQ below (mQ (fun v H1 => v = none ∧ GW ρ wM ad res H1) (MA wM ad s.heap.size)) args s 0 0 (MA wM ad s.heap.size)) (F0 m 185 ls [.int z1, .ref (ad 22)]) := by
    intro K68 hK68
    intro st x1 x4 z1 H locs ls hW hS hl h
    unfold mo_keep_185 at h
    refine lv_dconst0 (pc := 185) hx hb d186_185 ?_
    refine lv_goto (pc := 186) (tgt := 196) hx hb d186_186 (by decide) ?_
    exact kc196 _ hK68 st x1 x4 z1 FP.dconst0 _ _ _ hW hS (lv_sub hl [0, 1, 2] rfl) h
  have kc140 : ∀ (K68 : GS → Int32 → Option (GS)) (hK68 : ∀ (st : GS) (x1 : Int32) (H : Heap) (locs : List Loc) (ls : Array Slot), GW ρ wM ad st H → va_S (MA wM ad s.heap.size) s.heap H locs → lv_has ls 5 [(0, .ref (ad 0)), (1, .int x1)] → K68 st x1 = some res → W p l e ({ frames := 2, cells := 0, slots := 0, locals := 44 } : Room) s m args below meth c H locs 0 0 (MQ below (mQ (fun v H1 => v = none ∧ GW ρ wM ad res H1) (MA wM ad s.heap.size)) args s 0 0 (MA wM ad s.heap.size)) (F0 m 68 ls [])), ∀ (st : GS) (x1 : Int32) (z1 : Int32) (z2 : Int32) (z3 : Int32) (z4 : Int32) (H : Heap) (locs : List Loc) (ls : Array Slot), GW ρ wM ad st H → va_S (MA wM ad s.heap.size) s.heap H locs → lv_has ls 5 [(0, .ref (ad 0)), (1, .int x1)] → mo_keep_140 K68 st x1 z1 z2 z3 z4 = some res → W p l e ({ frames := 2, cells := 0, slots := 0, locals := 44 } : Room) s m args below meth c H locs 0 0 (MQ below (mQ (fun v H1 => v = none ∧ GW ρ wM ad res H1) (MA wM ad s.heap.size)) args s 0 0 (MA wM ad s.heap.size)) (F0 m 140 ls [.int z4, .int z3, .int z2, .int z1, .ref (ad 0)]) := by
    intro K68 hK68
    intro st x1 z1 z2 z3 z4 H locs ls hW hS hl h
    unfold mo_keep_140 at h
    refine lv_iadd (pc := 140) hx hb d186_140 ?_
    obtain ⟨q11, hq11, h⟩ := jc_some h
    refine k_callV (pc := 141) (n := 3) X hS (c_mo_valueAt l ρ ad _ st z1 z2 (z3 + z4) q11 hW hq11) wd1605 wd1602 wd1604 sl237 wd11 (by decide) ⟨rfl, rfl, by decide, by decide⟩ (m_recv X hW) (As := [.int z1, .int z2, .int (z3 + z4)]) (rest := []) rfl rfl hl.1 (Nat.le_of_ble_eq_true rfl) d186_141 ⟨by decide, by decide⟩ (fun q hq => False.elim hq) (fun v H1 locs1 hv _ _ hSq11 => ?_)
    obtain ⟨rfl, rfl⟩ := hv
    have hS := hSq11
    refine lv_istore (pc := 144) (lv' := [(4, .int q11), (0, .ref (ad 0)), (1, .int x1)]) hx hb d186_144 hl (by decide) rfl (fun ls hl => ?_)
    refine lv_aload_n (pc := 146) hx hb d186_146 rfl (lv_at hl 1 rfl) ?_
    refine m_get (pc := 147) X hW 51 (v := .ref (ad 19)) wd1417 rfl rfl d186_147 ?_
    refine lv_iload_n (pc := 150) hx hb d186_150 rfl (lv_at hl 2 rfl) ?_
    refine lv_aload_n (pc := 151) hx hb d186_151 rfl (lv_at hl 1 rfl) ?_
    refine m_get (pc := 152) X hW 14 (v := .ref (ad 9)) wd1380 rfl rfl d186_152 ?_
    refine lv_iload (pc := 155) hx hb d186_155 (lv_at hl 0 rfl) ?_
    obtain ⟨g12, h⟩ := jg_some h
    refine r_iald (pc := 157) X hW 9 (by decide) rfl (inb_in g12) d186_157 ?_
    obtain ⟨g13, h⟩ := jg_some h
    obtain ⟨st14, est14, h⟩ := jn_ex h
    refine m_iast (pc := 158) X hW hS 19 (by decide) rfl g13 est14 d186_158 (fun H locs hW hS => ?_)
    refine lv_aload_n (pc := 159) hx hb d186_159 rfl (lv_at hl 1 rfl) ?_
    refine m_get (pc := 160) X hW 54 (v := .ref (ad 22)) wd1420 rfl rfl d186_160 ?_
    refine lv_iload_n (pc := 163) hx hb d186_163 rfl (lv_at hl 2 rfl) ?_
    refine lv_aload_n (pc := 164) hx hb d186_164 rfl (lv_at hl 1 rfl) ?_
    refine m_get (pc := 165) X hW 14 (v := .ref (ad 9)) wd1380 rfl rfl d186_165 ?_
    refine lv_iload (pc := 168) hx hb d186_168 (lv_at hl 0 rfl) ?_
    obtain ⟨g15, h⟩ := jg_some h
    refine r_iald (pc := 170) X hW 9 (by decide) rfl (inb_in g15) d186_170 ?_
    refine lv_if_eq (pc := 171) (tgt := 185) hx hb d186_171 (by decide) (fun c171 => ?_) (fun c171 => ?_)
    · have h := jb_t c171 h
      exact kc185 _ hK68 st14 x1 q11 x1 _ _ _ hW hS (lv_sub hl [1, 2, 0] rfl) h
    · have h := jb_f c171 h
      refine lv_aload_n (pc := 174) hx hb d186_174 rfl (lv_at hl 1 rfl) ?_
      refine m_get (pc := 175) X hW 14 (v := .ref (ad 9)) wd1380 rfl rfl d186_175 ?_
      refine lv_iload (pc := 178) hx hb d186_178 (lv_at hl 0 rfl) ?_
      obtain ⟨g16, h⟩ := jg_some h
      refine r_iald (pc := 180) X hW 9 (by decide) rfl (inb_in g16) d186_180 ?_
      refine lv_iconst (pc := 181) (v := 2) hx hb d186_181 (by decide) ?_
      refine lv_icmp_ne (pc := 182) (tgt := 189) hx hb d186_182 (by decide) (fun c182 => ?_) (fun c182 => ?_)
      · have h := jb_f c182 h
        refine lv_aload_n (pc := 189) hx hb d186_189 rfl (lv_at hl 1 rfl) ?_
        refine m_get (pc := 190) X hW 17 (v := .ref (ad 12)) wd1383 rfl rfl d186_190 ?_
        refine lv_iload (pc := 193) hx hb d186_193 (lv_at hl 0 rfl) ?_
        obtain ⟨g17, h⟩ := jg_some h
        refine r_dald (pc := 195) X hW 12 (by decide) rfl (inb_in g17) d186_195 ?_
        exact kc196 _ hK68 st14 x1 q11 x1 (st14.2.1 12 q11.toNatClampNeg) _ _ _ hW hS (lv_sub hl [1, 2, 0] rfl) h
      · have h := jb_t c182 h
        exact kc185 _ hK68 st14 x1 q11 x1 _ _ _ hW hS (lv_sub hl [1, 2, 0] rfl) h
  have kc123 : ∀ (K68 : GS → Int32 → Option (GS)) (hK68 : ∀ (st : GS) (x1 : Int32) (H : Heap) (locs : List Loc) (ls : Array Slot), GW ρ wM ad st H → va_S (MA wM ad s.heap.size) s.heap H locs → lv_has ls 5 [(0, .ref (ad 0)), (1, .int x1)] → K68 st x1 = some res → W p l e ({ frames := 2, cells := 0, slots := 0, locals := 44 } : Room) s m args below meth c H locs 0 0 (MQ below (mQ (fun v H1 => v = none ∧ GW ρ wM ad res H1) (MA wM ad s.heap.size)) args s 0 0 (MA wM ad s.heap.size)) (F0 m 68 ls [])), ∀ (st : GS) (x1 : Int32) (x2 : Int32) (x3 : Int32) (z1 : Int32) (z2 : Int32) (z3 : Int32) (H : Heap) (locs : List Loc) (ls : Array Slot), GW ρ wM ad st H → va_S (MA wM ad s.heap.size) s.heap H locs → lv_has ls 5 [(0, .ref (ad 0)), (1, .int x1), (2, .int x2), (3, .int x3)] → mo_keep_123 K68 st x1 x2 x3 z1 z2 z3 = some res → W p l e ({ frames := 2, cells := 0, slots := 0, locals := 44 } : Room) s m args below meth c H locs 0 0 (MQ below (mQ (fun v H1 => v = none ∧ GW ρ wM ad res H1) (MA wM ad s.heap.size)) args s 0 0 (MA wM ad s.heap.size)) (F0 m 123 ls [.int z3, .int z2, .int z1, .ref (ad 0)]) := by
    intro K68 hK68
    intro st x1 x2 x3 z1 z2 z3 H locs ls hW hS hl h
    unfold mo_keep_123 at h
    refine lv_iadd (pc := 123) hx hb d186_123 ?_
    refine lv_aload_n (pc := 124) hx hb d186_124 rfl (lv_at hl 0 rfl) ?_
    refine m_get (pc := 125) X hW 38 (v := .int (st.1 0 38)) wd1404 rfl rfl d186_125 ?_
    refine lv_aload_n (pc := 128) hx hb d186_128 rfl (lv_at hl 0 rfl) ?_
    refine m_get (pc := 129) X hW 41 (v := .int (st.1 0 41)) wd1407 rfl rfl d186_129 ?_
    refine lv_if_eq (pc := 132) (tgt := 139) hx hb d186_132 (by decide) (fun c132 => ?_) (fun c132 => ?_)
    · have h := jb_t c132 h
      refine lv_iload_n (pc := 139) hx hb d186_139 rfl (lv_at hl 3 rfl) ?_
      exact kc140 _ hK68 st x1 z1 (z2 + z3) (st.1 0 38) x3 _ _ _ hW hS (lv_sub hl [0, 1] rfl) h
    · have h := jb_f c132 h
      refine lv_iload_n (pc := 135) hx hb d186_135 rfl (lv_at hl 2 rfl) ?_
      refine lv_goto (pc := 136) (tgt := 140) hx hb d186_136 (by decide) ?_
      exact kc140 _ hK68 st x1 z1 (z2 + z3) (st.1 0 38) x2 _ _ _ hW hS (lv_sub hl [0, 1] rfl) h
  have kc68 : ∀ (fu : Nat), ∀ (st : GS) (x1 : Int32) (H : Heap) (locs : List Loc) (ls : Array Slot), GW ρ wM ad st H → va_S (MA wM ad s.heap.size) s.heap H locs → lv_has ls 5 [(0, .ref (ad 0)), (1, .int x1)] → mo_keep_68 fu st x1 = some res → W p l e ({ frames := 2, cells := 0, slots := 0, locals := 44 } : Room) s m args below meth c H locs 0 0 (MQ below (mQ (fun v H1 => v = none ∧ GW ρ wM ad res H1) (MA wM ad s.heap.size)) args s 0 0 (MA wM ad s.heap.size)) (F0 m 68 ls []) := by
    intro  fu
    induction fu with
    | zero => intro st x1 H locs ls hW hS hl h; cases h
    | succ fu hK68 =>
      intro st x1 H locs ls hW hS hl h
      unfold mo_keep_68 at h
      refine lv_aload_n (pc := 68) hx hb d186_68 rfl (lv_at hl 0 rfl) ?_
      refine m_get (pc := 69) X hW 36 (v := .int (st.1 0 36)) wd1402 rfl rfl d186_69 ?_
      refine lv_if_lt (pc := 72) (tgt := 229) hx hb d186_72 (by decide) (fun c72 => ?_) (fun c72 => ?_)
      · have h := jb_t c72 h
        exact kc229  st _ _ _ hW hS (lv_sub hl [0] rfl) h
      · have h := jb_f c72 h
        refine lv_iload_n (pc := 75) hx hb d186_75 rfl (lv_at hl 1 rfl) ?_
        refine lv_aload_n (pc := 76) hx hb d186_76 rfl (lv_at hl 0 rfl) ?_
        refine m_get (pc := 77) X hW 49 (v := .int (st.1 0 49)) wd1415 rfl rfl d186_77 ?_
        refine lv_aload_n (pc := 80) hx hb d186_80 rfl (lv_at hl 0 rfl) ?_
        refine m_get (pc := 81) X hW 50 (v := .int (st.1 0 50)) wd1416 rfl rfl d186_81 ?_
        refine lv_imul (pc := 84) hx hb d186_84 ?_
        refine lv_icmp_ge (pc := 85) (tgt := 229) hx hb d186_85 (by decide) (fun c85 => ?_) (fun c85 => ?_)
        · have h := jb_t c85 h
          exact kc229  st _ _ _ hW hS (lv_sub hl [0] rfl) h
        · have h := jb_f c85 h
          refine lv_iload_n (pc := 88) hx hb d186_88 rfl (lv_at hl 1 rfl) ?_
          refine lv_aload_n (pc := 89) hx hb d186_89 rfl (lv_at hl 0 rfl) ?_
          refine m_get (pc := 90) X hW 50 (v := .int (st.1 0 50)) wd1416 rfl rfl d186_90 ?_
          obtain ⟨g18, h⟩ := jg_some h
          refine lv_idiv (pc := 93) hx hb d186_93 (nz_ne g18) ?_
          obtain ⟨v19, ev19, h⟩ := jn_ex h
          refine nm_i ev19 ?_
          refine lv_istore_n (pc := 94) (lv' := [(2, .int v19), (0, .ref (ad 0)), (1, .int x1)]) hx hb d186_94 rfl hl (by decide) rfl (fun ls hl => ?_)
          refine lv_iload_n (pc := 95) hx hb d186_95 rfl (lv_at hl 2 rfl) ?_
          refine lv_aload_n (pc := 96) hx hb d186_96 rfl (lv_at hl 1 rfl) ?_
          refine m_get (pc := 97) X hW 50 (v := .int (st.1 0 50)) wd1416 rfl rfl d186_97 ?_
          obtain ⟨g20, h⟩ := jg_some h
          refine lv_irem (pc := 100) hx hb d186_100 (nz_ne g20) ?_
          obtain ⟨v21, ev21, h⟩ := jn_ex h
          refine nm_i ev21 ?_
          refine lv_istore_n (pc := 101) (lv' := [(3, .int v21), (2, .int v19), (0, .ref (ad 0)), (1, .int x1)]) hx hb d186_101 rfl hl (by decide) rfl (fun ls hl => ?_)
          refine lv_aload_n (pc := 102) hx hb d186_102 rfl (lv_at hl 2 rfl) ?_
          refine lv_aload_n (pc := 103) hx hb d186_103 rfl (lv_at hl 2 rfl) ?_
          refine m_get (pc := 104) X hW 36 (v := .int (st.1 0 36)) wd1402 rfl rfl d186_104 ?_
          refine lv_aload_n (pc := 107) hx hb d186_107 rfl (lv_at hl 2 rfl) ?_
          refine m_get (pc := 108) X hW 37 (v := .int (st.1 0 37)) wd1403 rfl rfl d186_108 ?_
          refine lv_aload_n (pc := 111) hx hb d186_111 rfl (lv_at hl 2 rfl) ?_
          refine m_get (pc := 112) X hW 41 (v := .int (st.1 0 41)) wd1407 rfl rfl d186_112 ?_
          refine lv_if_eq (pc := 115) (tgt := 122) hx hb d186_115 (by decide) (fun c115 => ?_) (fun c115 => ?_)
          · have h := jb_t c115 h
            refine lv_iload_n (pc := 122) hx hb d186_122 rfl (lv_at hl 1 rfl) ?_
            exact kc123 _ hK68 st x1 v19 v21 (st.1 0 36) (st.1 0 37) v19 _ _ _ hW hS (lv_sub hl [2, 3, 1, 0] rfl) h
          · have h := jb_f c115 h
            refine lv_iload_n (pc := 118) hx hb d186_118 rfl (lv_at hl 0 rfl) ?_
            refine lv_goto (pc := 119) (tgt := 123) hx hb d186_119 (by decide) ?_
            exact kc123 _ hK68 st x1 v19 v21 (st.1 0 36) (st.1 0 37) v21 _ _ _ hW hS (lv_sub hl [2, 3, 1, 0] rfl) h
  have kc63 : ∀ (st : GS) (z1 : Int32) (H : Heap) (locs : List Loc) (ls : Array Slot), GW ρ wM ad st H → va_S (MA wM ad s.heap.size) s.heap H locs → lv_has ls 5 [(0, .ref (ad 0))] → mo_keep_63 st z1 = some res → W p l e ({ frames := 2, cells := 0, slots := 0, locals := 44 } : Room) s m args below meth c H locs 0 0 (MQ below (mQ (fun v H1 => v = none ∧ GW ρ wM ad res H1) (MA wM ad s.heap.size)) args s 0 0 (MA wM ad s.heap.size)) (F0 m 63 ls [.int z1, .ref (ad 0)]) := by
    intro st z1 H locs ls hW hS hl h
    unfold mo_keep_63 at h
    obtain ⟨st22, est22, h⟩ := jn_ex h
    refine m_putI (pc := 63) X hW hS 50 est22 wd1416 rfl rfl rfl rfl rfl d186_63 (fun H locs hW hS => ?_)
    refine lv_iconst (pc := 66) (v := 0) hx hb d186_66 (by decide) ?_
    refine lv_istore_n (pc := 67) (lv' := [(1, .int 0), (0, .ref (ad 0))]) hx hb d186_67 rfl hl (by decide) rfl (fun ls hl => ?_)
    exact kc68  FU st22 0 _ _ _ hW hS (lv_sub hl [1, 0] rfl) h
  have kc30 : ∀ (st : GS) (z1 : Int32) (H : Heap) (locs : List Loc) (ls : Array Slot), GW ρ wM ad st H → va_S (MA wM ad s.heap.size) s.heap H locs → lv_has ls 5 [(0, .ref (ad 0))] → mo_keep_30 st z1 = some res → W p l e ({ frames := 2, cells := 0, slots := 0, locals := 44 } : Room) s m args below meth c H locs 0 0 (MQ below (mQ (fun v H1 => v = none ∧ GW ρ wM ad res H1) (MA wM ad s.heap.size)) args s 0 0 (MA wM ad s.heap.size)) (F0 m 30 ls [.int z1, .ref (ad 0)]) := by
    intro st z1 H locs ls hW hS hl h
    unfold mo_keep_30 at h
    obtain ⟨st23, est23, h⟩ := jn_ex h
    refine m_putI (pc := 30) X hW hS 49 est23 wd1415 rfl rfl rfl rfl rfl d186_30 (fun H locs hW hS => ?_)
    refine lv_aload_n (pc := 33) hx hb d186_33 rfl (lv_at hl 0 rfl) ?_
    refine lv_aload_n (pc := 34) hx hb d186_34 rfl (lv_at hl 0 rfl) ?_
    refine m_get (pc := 35) X hW 36 (v := .int (st23.1 0 36)) wd1402 rfl rfl d186_35 ?_
    refine lv_if_ge (pc := 38) (tgt := 45) hx hb d186_38 (by decide) (fun c38 => ?_) (fun c38 => ?_)
    · have h := jb_t c38 h
      refine lv_aload_n (pc := 45) hx hb d186_45 rfl (lv_at hl 0 rfl) ?_
      refine m_get (pc := 46) X hW 41 (v := .int (st23.1 0 41)) wd1407 rfl rfl d186_46 ?_
      refine lv_if_eq (pc := 49) (tgt := 59) hx hb d186_49 (by decide) (fun c49 => ?_) (fun c49 => ?_)
      · have h := jb_t c49 h
        refine lv_aload_n (pc := 59) hx hb d186_59 rfl (lv_at hl 0 rfl) ?_
        refine m_get (pc := 60) X hW 40 (v := .int (st23.1 0 40)) wd1406 rfl rfl d186_60 ?_
        exact kc63  st23 (st23.1 0 40) _ _ _ hW hS (lv_sub hl [0] rfl) h
      · have h := jb_f c49 h
        refine lv_aload_n (pc := 52) hx hb d186_52 rfl (lv_at hl 0 rfl) ?_
        refine m_get (pc := 53) X hW 39 (v := .int (st23.1 0 39)) wd1405 rfl rfl d186_53 ?_
        refine lv_goto (pc := 56) (tgt := 63) hx hb d186_56 (by decide) ?_
        exact kc63  st23 (st23.1 0 39) _ _ _ hW hS (lv_sub hl [0] rfl) h
    · have h := jb_f c38 h
      refine lv_iconst (pc := 41) (v := 1) hx hb d186_41 (by decide) ?_
      refine lv_goto (pc := 42) (tgt := 63) hx hb d186_42 (by decide) ?_
      exact kc63  st23 1 _ _ _ hW hS (lv_sub hl [0] rfl) h
  unfold f_mo_keep at h
  refine lv_aload_n (pc := 0) hx hb d186_0 rfl (lv_at hl 0 rfl) ?_
  refine lv_aload_n (pc := 1) hx hb d186_1 rfl (lv_at hl 0 rfl) ?_
  refine m_get (pc := 2) X hW 36 (v := .int (st.1 0 36)) wd1402 rfl rfl d186_2 ?_
  refine lv_if_ge (pc := 5) (tgt := 12) hx hb d186_5 (by decide) (fun c5 => ?_) (fun c5 => ?_)
  · have h := jb_t c5 h
    refine lv_aload_n (pc := 12) hx hb d186_12 rfl (lv_at hl 0 rfl) ?_
    refine m_get (pc := 13) X hW 41 (v := .int (st.1 0 41)) wd1407 rfl rfl d186_13 ?_
    refine lv_if_eq (pc := 16) (tgt := 26) hx hb d186_16 (by decide) (fun c16 => ?_) (fun c16 => ?_)
    · have h := jb_t c16 h
      refine lv_aload_n (pc := 26) hx hb d186_26 rfl (lv_at hl 0 rfl) ?_
      refine m_get (pc := 27) X hW 39 (v := .int (st.1 0 39)) wd1405 rfl rfl d186_27 ?_
      exact kc30  st (st.1 0 39) _ _ _ hW hS (lv_sub hl [0] rfl) h
    · have h := jb_f c16 h
      refine lv_aload_n (pc := 19) hx hb d186_19 rfl (lv_at hl 0 rfl) ?_
      refine m_get (pc := 20) X hW 40 (v := .int (st.1 0 40)) wd1406 rfl rfl d186_20 ?_
      refine lv_goto (pc := 23) (tgt := 30) hx hb d186_23 (by decide) ?_
      exact kc30  st (st.1 0 40) _ _ _ hW hS (lv_sub hl [0] rfl) h
  · have h := jb_f c5 h
    refine lv_iconst (pc := 8) (v := 1) hx hb d186_8 (by decide) ?_
    refine lv_goto (pc := 9) (tgt := 30) hx hb d186_9 (by decide) ?_
    exact kc30  st 1 _ _ _ hW hS (lv_sub hl [0] rfl) h
def mo_call_187  (st : GS) (z1 : Int32) : Option (Int32 × GS) := jn (uI st 0 3 z1) (fun st1 => jb (0 ≤ (st1.1 0 36)) (some (64, st1)) (some ((st1.1 0 32), st1)))
def mo_call_157  (st : GS)  : Option (Int32 × GS) := jc (f_mo_keep st) (fun q2 => jn (uI q2 0 7 0) (fun st3 => jn (uI st3 0 8 0) (fun st4 => jb (0 ≤ (st4.1 0 36)) (mo_call_187  st4 (st4.1 0 3)) (mo_call_187  st4 0))))
def mo_call_131  (st : GS)  : Option (Int32 × GS) := jb ((st.1 0 22) = 0) (mo_call_157  st) (jn (uI st 0 36 (-1)) (fun st5 => jn (uI st5 0 32 4) (fun st6 => jn (uD st6 0 34 (FP.i2d (st6.1 0 22))) (fun st7 => mo_call_157  st7))))
def mo_call_37  (st : GS) (x1 : Int32) (z1 : Int32) : Option (Int32 × GS) := jn (uI st 0 0 z1) (fun st8 => jb ((st8.1 0 0) = 0) (jn (uI st8 0 22 0) (fun st9 => jn (uI st9 0 31 0) (fun st10 => jn (uI st10 0 30 0) (fun st11 => jn (uI st11 0 36 (-1)) (fun st12 => jn (uI st12 0 32 0) (fun st13 => jn (uD st13 0 34 FP.dconst0) (fun st14 => jn (uI st14 0 33 0) (fun st15 => jb (90 ≤ x1) (jb (101 ≤ x1) (jb (117 ≤ x1) (jc (f_mo_kindOf st15 x1) (fun q16 => mo_call_131  q16)) (jc (f_mo_dates st15 x1) (fun q17 => mo_call_131  q17))) (jc (f_mo_lookUps st15 x1) (fun q18 => mo_call_131  q18))) (jc (f_mo_words st15 x1) (fun q19 => mo_call_131  q19)))))))))) (some (0, st8)))
def mo_call_32  (st : GS) (x1 : Int32) : Option (Int32 × GS) := mo_call_37  st x1 1
def f_mo_call (st : GS) (p0 : Int32) : Option (Int32 × GS) := jc (f_mo_arity p0) (fun q20 => jb (q20 < 0) (mo_call_32  st p0) (jb ((st.1 0 7) < (q20 / 100)) (mo_call_32  st p0) (jb ((st.1 0 7) ≤ (q20 - q20 / 100 * 100)) (mo_call_37  st p0 0) (mo_call_32  st p0))))
set_option maxHeartbeats 4000000 in
set_option maxRecDepth 100000 in
theorem c_mo_call (l : Launch) (ρ : RH) (ad : Nat → Nat) (H : Heap) (st : GS) (p0 : Int32) (res : Int32 × GS) (hW : GW ρ wM ad st H) (h : f_mo_call st p0 = some res) : Met l y151 (wsOf y151 b151 3 (some .int)) ({ frames := 8, cells := 0, slots := 0, locals := 184 } : Room) (va_Pc [.ref (ad 0), .int p0] (KP ρ H)) (mQ (fun v H1 => v = some (.int res.1) ∧ GW ρ wM ad res.2 H1) (MA wM ad H.size)) 0 0 (MA wM ad H.size) := by
  refine m_ofW (own := "WordFunctionsModel") (plainFor_of_name rfl) rfl (Nat.le_of_ble_eq_true rfl) fun p e s m args below meth c ls hx hb hr hlk _ X hs hl => ?_
  subst hs
  have hS : va_S (MA wM ad s.heap.size) s.heap s.heap [] := va_S.rf
  have hl : lv_has ls 3 [(0, .ref (ad 0)), (1, .int p0)] := hl
  have kc187 : ∀ (st : GS) (z1 : Int32) (H : Heap) (locs : List Loc) (ls : Array Slot), GW ρ wM ad st H → va_S (MA wM ad s.heap.size) s.heap H locs → lv_has ls 3 [(0, .ref (ad 0))] → mo_call_187 st z1 = some res → W p l e ({ frames := 8, cells := 0, slots := 0, locals := 184 } : Room) s m args below meth c H locs 0 0 (MQ below (mQ (fun v H1 => v = some (.int res.1) ∧ GW ρ wM ad res.2 H1) (MA wM ad s.heap.size)) args s 0 0 (MA wM ad s.heap.size)) (F0 m 187 ls [.int z1, .ref (ad 0)]) := by
    intro st z1 H locs ls hW hS hl h
    unfold mo_call_187 at h
    obtain ⟨st1, est1, h⟩ := jn_ex h
    refine m_putI (pc := 187) X hW hS 3 est1 wd1369 rfl rfl rfl rfl rfl d151_187 (fun H locs hW hS => ?_)
    refine lv_aload_n (pc := 190) hx hb d151_190 rfl (lv_at hl 0 rfl) ?_
    refine m_get (pc := 191) X hW 36 (v := .int (st1.1 0 36)) wd1402 rfl rfl d151_191 ?_
    refine lv_if_ge (pc := 194) (tgt := 204) hx hb d151_194 (by decide) (fun c194 => ?_) (fun c194 => ?_)
    · have h := jb_t c194 h
      refine lv_bipush (pc := 204) (v := 64) hx hb d151_204 (by decide) ?_
      obtain rfl := Option.some.inj h
      exact m_iret (pc := 206) hx hb hr hlk hS ⟨rfl, hW⟩ (by decide) (by decide) d151_206
    · have h := jb_f c194 h
      refine lv_aload_n (pc := 197) hx hb d151_197 rfl (lv_at hl 0 rfl) ?_
      refine m_get (pc := 198) X hW 32 (v := .int (st1.1 0 32)) wd1398 rfl rfl d151_198 ?_
      refine lv_goto (pc := 201) (tgt := 206) hx hb d151_201 (by decide) ?_
      obtain rfl := Option.some.inj h
      exact m_iret (pc := 206) hx hb hr hlk hS ⟨rfl, hW⟩ (by decide) (by decide) d151_206
  have kc157 : ∀ (st : GS)  (H : Heap) (locs : List Loc) (ls : Array Slot), GW ρ wM ad st H → va_S (MA wM ad s.heap.size) s.heap H locs → lv_has ls 3 [(0, .ref (ad 0))] → mo_call_157 st = some res → W p l e ({ frames := 8, cells := 0, slots := 0, locals := 184 } : Room) s m args below meth c H locs 0 0 (MQ below (mQ (fun v H1 => v = some (.int res.1) ∧ GW ρ wM ad res.2 H1) (MA wM ad s.heap.size)) args s 0 0 (MA wM ad s.heap.size)) (F0 m 157 ls []) := by
    intro st  H locs ls hW hS hl h
    unfold mo_call_157 at h
    refine lv_aload_n (pc := 157) hx hb d151_157 rfl (lv_at hl 0 rfl) ?_
    obtain ⟨q2, hq2, h⟩ := jc_some h
    refine k_callV (pc := 158) (n := 0) X hS (c_mo_keep l ρ ad _ st q2 hW hq2) wd1979 wd1976 wd1978 sl186 wd11 (by decide) ⟨rfl, rfl, by decide, by decide⟩ (m_recv X hW) (As := []) (rest := []) rfl rfl hl.1 (Nat.le_of_ble_eq_true rfl) d151_158 ⟨by decide, by decide⟩ (fun q hq => MA.mono hS.1 hq) (fun v H1 locs1 hv _ _ hSq2 => ?_)
    obtain ⟨rfl, hW⟩ := hv
    have hS := hSq2
    refine lv_aload_n (pc := 161) hx hb d151_161 rfl (lv_at hl 0 rfl) ?_
    refine lv_iconst (pc := 162) (v := 0) hx hb d151_162 (by decide) ?_
    obtain ⟨st3, est3, h⟩ := jn_ex h
    refine m_putI (pc := 163) X hW hS 7 est3 wd1373 rfl rfl rfl rfl rfl d151_163 (fun H locs hW hS => ?_)
    refine lv_aload_n (pc := 166) hx hb d151_166 rfl (lv_at hl 0 rfl) ?_
    refine lv_iconst (pc := 167) (v := 0) hx hb d151_167 (by decide) ?_
    obtain ⟨st4, est4, h⟩ := jn_ex h
    refine m_putI (pc := 168) X hW hS 8 est4 wd1374 rfl rfl rfl rfl rfl d151_168 (fun H locs hW hS => ?_)
    refine lv_aload_n (pc := 171) hx hb d151_171 rfl (lv_at hl 0 rfl) ?_
    refine lv_aload_n (pc := 172) hx hb d151_172 rfl (lv_at hl 0 rfl) ?_
    refine m_get (pc := 173) X hW 36 (v := .int (st4.1 0 36)) wd1402 rfl rfl d151_173 ?_
    refine lv_if_ge (pc := 176) (tgt := 183) hx hb d151_176 (by decide) (fun c176 => ?_) (fun c176 => ?_)
    · have h := jb_t c176 h
      refine lv_aload_n (pc := 183) hx hb d151_183 rfl (lv_at hl 0 rfl) ?_
      refine m_get (pc := 184) X hW 3 (v := .int (st4.1 0 3)) wd1369 rfl rfl d151_184 ?_
      exact kc187  st4 (st4.1 0 3) _ _ _ hW hS (lv_sub hl [0] rfl) h
    · have h := jb_f c176 h
      refine lv_iconst (pc := 179) (v := 0) hx hb d151_179 (by decide) ?_
      refine lv_goto (pc := 180) (tgt := 187) hx hb d151_180 (by decide) ?_
      exact kc187  st4 0 _ _ _ hW hS (lv_sub hl [0] rfl) h
  have kc131 : ∀ (st : GS)  (H : Heap) (locs : List Loc) (ls : Array Slot), GW ρ wM ad st H → va_S (MA wM ad s.heap.size) s.heap H locs → lv_has ls 3 [(0, .ref (ad 0))] → mo_call_131 st = some res → W p l e ({ frames := 8, cells := 0, slots := 0, locals := 184 } : Room) s m args below meth c H locs 0 0 (MQ below (mQ (fun v H1 => v = some (.int res.1) ∧ GW ρ wM ad res.2 H1) (MA wM ad s.heap.size)) args s 0 0 (MA wM ad s.heap.size)) (F0 m 131 ls []) := by
    intro st  H locs ls hW hS hl h
    unfold mo_call_131 at h
    refine lv_aload_n (pc := 131) hx hb d151_131 rfl (lv_at hl 0 rfl) ?_
    refine m_get (pc := 132) X hW 22 (v := .int (st.1 0 22)) wd1388 rfl rfl d151_132 ?_
    refine lv_if_eq (pc := 135) (tgt := 157) hx hb d151_135 (by decide) (fun c135 => ?_) (fun c135 => ?_)
    · have h := jb_t c135 h
      exact kc157  st _ _ _ hW hS (lv_sub hl [0] rfl) h
    · have h := jb_f c135 h
      refine lv_aload_n (pc := 138) hx hb d151_138 rfl (lv_at hl 0 rfl) ?_
      refine lv_iconst (pc := 139) (v := (-1)) hx hb d151_139 (by decide) ?_
      obtain ⟨st5, est5, h⟩ := jn_ex h
      refine m_putI (pc := 140) X hW hS 36 est5 wd1402 rfl rfl rfl rfl rfl d151_140 (fun H locs hW hS => ?_)
      refine lv_aload_n (pc := 143) hx hb d151_143 rfl (lv_at hl 0 rfl) ?_
      refine lv_iconst (pc := 144) (v := 4) hx hb d151_144 (by decide) ?_
      obtain ⟨st6, est6, h⟩ := jn_ex h
      refine m_putI (pc := 145) X hW hS 32 est6 wd1398 rfl rfl rfl rfl rfl d151_145 (fun H locs hW hS => ?_)
      refine lv_aload_n (pc := 148) hx hb d151_148 rfl (lv_at hl 0 rfl) ?_
      refine lv_aload_n (pc := 149) hx hb d151_149 rfl (lv_at hl 0 rfl) ?_
      refine m_get (pc := 150) X hW 22 (v := .int (st6.1 0 22)) wd1388 rfl rfl d151_150 ?_
      refine lv_i2d (pc := 153) hx hb d151_153 ?_
      obtain ⟨st7, est7, h⟩ := jn_ex h
      refine m_putD (pc := 154) X hW hS 34 est7 wd1400 rfl rfl rfl rfl rfl d151_154 (fun H locs hW hS => ?_)
      exact kc157  st7 _ _ _ hW hS (lv_sub hl [0] rfl) h
  have kc37 : ∀ (st : GS) (x1 : Int32) (z1 : Int32) (H : Heap) (locs : List Loc) (ls : Array Slot), GW ρ wM ad st H → va_S (MA wM ad s.heap.size) s.heap H locs → lv_has ls 3 [(0, .ref (ad 0)), (1, .int x1)] → mo_call_37 st x1 z1 = some res → W p l e ({ frames := 8, cells := 0, slots := 0, locals := 184 } : Room) s m args below meth c H locs 0 0 (MQ below (mQ (fun v H1 => v = some (.int res.1) ∧ GW ρ wM ad res.2 H1) (MA wM ad s.heap.size)) args s 0 0 (MA wM ad s.heap.size)) (F0 m 37 ls [.int z1, .ref (ad 0)]) := by
    intro st x1 z1 H locs ls hW hS hl h
    unfold mo_call_37 at h
    obtain ⟨st8, est8, h⟩ := jn_ex h
    refine m_putI (pc := 37) X hW hS 0 est8 wd1366 rfl rfl rfl rfl rfl d151_37 (fun H locs hW hS => ?_)
    refine lv_aload_n (pc := 40) hx hb d151_40 rfl (lv_at hl 0 rfl) ?_
    refine m_get (pc := 41) X hW 0 (v := .int (st8.1 0 0)) wd1366 rfl rfl d151_41 ?_
    refine lv_if_eq (pc := 44) (tgt := 49) hx hb d151_44 (by decide) (fun c44 => ?_) (fun c44 => ?_)
    · have h := jb_t c44 h
      refine lv_aload_n (pc := 49) hx hb d151_49 rfl (lv_at hl 0 rfl) ?_
      refine lv_iconst (pc := 50) (v := 0) hx hb d151_50 (by decide) ?_
      obtain ⟨st9, est9, h⟩ := jn_ex h
      refine m_putI (pc := 51) X hW hS 22 est9 wd1388 rfl rfl rfl rfl rfl d151_51 (fun H locs hW hS => ?_)
      refine lv_aload_n (pc := 54) hx hb d151_54 rfl (lv_at hl 0 rfl) ?_
      refine lv_iconst (pc := 55) (v := 0) hx hb d151_55 (by decide) ?_
      obtain ⟨st10, est10, h⟩ := jn_ex h
      refine m_putI (pc := 56) X hW hS 31 est10 wd1397 rfl rfl rfl (by decide) (by decide) d151_56 (fun H locs hW hS => ?_)
      refine lv_aload_n (pc := 59) hx hb d151_59 rfl (lv_at hl 0 rfl) ?_
      refine lv_iconst (pc := 60) (v := 0) hx hb d151_60 (by decide) ?_
      obtain ⟨st11, est11, h⟩ := jn_ex h
      refine m_putI (pc := 61) X hW hS 30 est11 wd1396 rfl rfl rfl rfl rfl d151_61 (fun H locs hW hS => ?_)
      refine lv_aload_n (pc := 64) hx hb d151_64 rfl (lv_at hl 0 rfl) ?_
      refine lv_iconst (pc := 65) (v := (-1)) hx hb d151_65 (by decide) ?_
      obtain ⟨st12, est12, h⟩ := jn_ex h
      refine m_putI (pc := 66) X hW hS 36 est12 wd1402 rfl rfl rfl rfl rfl d151_66 (fun H locs hW hS => ?_)
      refine lv_aload_n (pc := 69) hx hb d151_69 rfl (lv_at hl 0 rfl) ?_
      refine lv_iconst (pc := 70) (v := 0) hx hb d151_70 (by decide) ?_
      obtain ⟨st13, est13, h⟩ := jn_ex h
      refine m_putI (pc := 71) X hW hS 32 est13 wd1398 rfl rfl rfl rfl rfl d151_71 (fun H locs hW hS => ?_)
      refine lv_aload_n (pc := 74) hx hb d151_74 rfl (lv_at hl 0 rfl) ?_
      refine lv_dconst0 (pc := 75) hx hb d151_75 ?_
      obtain ⟨st14, est14, h⟩ := jn_ex h
      refine m_putD (pc := 76) X hW hS 34 est14 wd1400 rfl rfl rfl rfl rfl d151_76 (fun H locs hW hS => ?_)
      refine lv_aload_n (pc := 79) hx hb d151_79 rfl (lv_at hl 0 rfl) ?_
      refine lv_iconst (pc := 80) (v := 0) hx hb d151_80 (by decide) ?_
      obtain ⟨st15, est15, h⟩ := jn_ex h
      refine m_putI (pc := 81) X hW hS 33 est15 wd1399 rfl rfl rfl rfl rfl d151_81 (fun H locs hW hS => ?_)
      refine lv_iload_n (pc := 84) hx hb d151_84 rfl (lv_at hl 1 rfl) ?_
      refine lv_bipush (pc := 85) (v := 90) hx hb d151_85 (by decide) ?_
      refine lv_icmp_ge (pc := 87) (tgt := 98) hx hb d151_87 (by decide) (fun c87 => ?_) (fun c87 => ?_)
      · have h := jb_t c87 h
        refine lv_iload_n (pc := 98) hx hb d151_98 rfl (lv_at hl 1 rfl) ?_
        refine lv_bipush (pc := 99) (v := 101) hx hb d151_99 (by decide) ?_
        refine lv_icmp_ge (pc := 101) (tgt := 112) hx hb d151_101 (by decide) (fun c101 => ?_) (fun c101 => ?_)
        · have h := jb_t c101 h
          refine lv_iload_n (pc := 112) hx hb d151_112 rfl (lv_at hl 1 rfl) ?_
          refine lv_bipush (pc := 113) (v := 117) hx hb d151_113 (by decide) ?_
          refine lv_icmp_ge (pc := 115) (tgt := 126) hx hb d151_115 (by decide) (fun c115 => ?_) (fun c115 => ?_)
          · have h := jb_t c115 h
            refine lv_aload_n (pc := 126) hx hb d151_126 rfl (lv_at hl 0 rfl) ?_
            refine lv_iload_n (pc := 127) hx hb d151_127 rfl (lv_at hl 1 rfl) ?_
            obtain ⟨q16, hq16, h⟩ := jc_some h
            refine k_callV (pc := 128) (n := 1) X hS (c_mo_kindOf l ρ ad _ st15 x1 q16 hW hq16) wd1969 wd1966 wd1968 sl187 wd11 (by decide) ⟨rfl, rfl, by decide, by decide⟩ (m_recv X hW) (As := [.int x1]) (rest := []) rfl rfl hl.1 (Nat.le_of_ble_eq_true rfl) d151_128 ⟨by decide, by decide⟩ (fun q hq => MA.mono hS.1 hq) (fun v H1 locs1 hv _ _ hSq16 => ?_)
            obtain ⟨rfl, hW⟩ := hv
            have hS := hSq16
            exact kc131  q16 _ _ _ hW hS (lv_sub hl [0] rfl) h
          · have h := jb_f c115 h
            refine lv_aload_n (pc := 118) hx hb d151_118 rfl (lv_at hl 0 rfl) ?_
            refine lv_iload_n (pc := 119) hx hb d151_119 rfl (lv_at hl 1 rfl) ?_
            obtain ⟨q17, hq17, h⟩ := jc_some h
            refine k_callV (pc := 120) (n := 1) X hS (c_mo_dates l ρ ad _ st15 x1 q17 hW hq17) wd1873 wd1870 wd1872 sl160 wd11 (by decide) ⟨rfl, rfl, by decide, by decide⟩ (m_recv X hW) (As := [.int x1]) (rest := []) rfl rfl hl.1 (Nat.le_of_ble_eq_true rfl) d151_120 ⟨by decide, by decide⟩ (fun q hq => MA.mono hS.1 hq) (fun v H1 locs1 hv _ _ hSq17 => ?_)
            obtain ⟨rfl, hW⟩ := hv
            have hS := hSq17
            refine lv_goto (pc := 123) (tgt := 131) hx hb d151_123 (by decide) ?_
            exact kc131  q17 _ _ _ hW hS (lv_sub hl [0] rfl) h
        · have h := jb_f c101 h
          refine lv_aload_n (pc := 104) hx hb d151_104 rfl (lv_at hl 0 rfl) ?_
          refine lv_iload_n (pc := 105) hx hb d151_105 rfl (lv_at hl 1 rfl) ?_
          obtain ⟨q18, hq18, h⟩ := jc_some h
          refine k_callV (pc := 106) (n := 1) X hS (c_mo_lookUps l ρ ad _ st15 x1 q18 hW hq18) wd1809 wd1806 wd1808 sl194 wd11 (by decide) ⟨rfl, rfl, by decide, by decide⟩ (m_recv X hW) (As := [.int x1]) (rest := []) rfl rfl hl.1 (Nat.le_of_ble_eq_true rfl) d151_106 ⟨by decide, by decide⟩ (fun q hq => MA.mono hS.1 hq) (fun v H1 locs1 hv _ _ hSq18 => ?_)
          obtain ⟨rfl, hW⟩ := hv
          have hS := hSq18
          refine lv_goto (pc := 109) (tgt := 131) hx hb d151_109 (by decide) ?_
          exact kc131  q18 _ _ _ hW hS (lv_sub hl [0] rfl) h
      · have h := jb_f c87 h
        refine lv_aload_n (pc := 90) hx hb d151_90 rfl (lv_at hl 0 rfl) ?_
        refine lv_iload_n (pc := 91) hx hb d151_91 rfl (lv_at hl 1 rfl) ?_
        obtain ⟨q19, hq19, h⟩ := jc_some h
        refine k_callV (pc := 92) (n := 1) X hS (c_mo_words l ρ ad _ st15 x1 q19 hW hq19) wd1593 wd1590 wd1592 sl243 wd11 (by decide) ⟨rfl, rfl, by decide, by decide⟩ (m_recv X hW) (As := [.int x1]) (rest := []) rfl rfl hl.1 (Nat.le_of_ble_eq_true rfl) d151_92 ⟨by decide, by decide⟩ (fun q hq => MA.mono hS.1 hq) (fun v H1 locs1 hv _ _ hSq19 => ?_)
        obtain ⟨rfl, hW⟩ := hv
        have hS := hSq19
        refine lv_goto (pc := 95) (tgt := 131) hx hb d151_95 (by decide) ?_
        exact kc131  q19 _ _ _ hW hS (lv_sub hl [0] rfl) h
    · have h := jb_f c44 h
      refine lv_iconst (pc := 47) (v := 0) hx hb d151_47 (by decide) ?_
      obtain rfl := Option.some.inj h
      exact m_iret (pc := 48) hx hb hr hlk hS ⟨rfl, hW⟩ (by decide) (by decide) d151_48
  have kc32 : ∀ (st : GS) (x1 : Int32) (H : Heap) (locs : List Loc) (ls : Array Slot), GW ρ wM ad st H → va_S (MA wM ad s.heap.size) s.heap H locs → lv_has ls 3 [(0, .ref (ad 0)), (1, .int x1)] → mo_call_32 st x1 = some res → W p l e ({ frames := 8, cells := 0, slots := 0, locals := 184 } : Room) s m args below meth c H locs 0 0 (MQ below (mQ (fun v H1 => v = some (.int res.1) ∧ GW ρ wM ad res.2 H1) (MA wM ad s.heap.size)) args s 0 0 (MA wM ad s.heap.size)) (F0 m 32 ls [.ref (ad 0)]) := by
    intro st x1 H locs ls hW hS hl h
    unfold mo_call_32 at h
    refine lv_iconst (pc := 32) (v := 1) hx hb d151_32 (by decide) ?_
    refine lv_goto (pc := 33) (tgt := 37) hx hb d151_33 (by decide) ?_
    exact kc37  st x1 1 _ _ _ hW hS (lv_sub hl [0, 1] rfl) h
  unfold f_mo_call at h
  refine lv_iload_n (pc := 0) hx hb d151_0 rfl (lv_at hl 1 rfl) ?_
  obtain ⟨q20, hq20, h⟩ := jc_some h
  refine k_callS (pc := 1) (n := 1) X hS (c_mo_arity l ρ _ p0 q20 hq20) wd1589 wd1587 wd1588 wd11 (by decide) ⟨rfl, rfl, by decide, by decide⟩ (As := [.int p0]) (rest := []) rfl rfl hl.1 (Nat.le_of_ble_eq_true rfl) d151_1 ⟨by decide, by decide⟩ (fun q hq => False.elim hq) (fun v H1 locs1 hv _ _ hSq20 => ?_)
  obtain ⟨rfl, rfl⟩ := hv
  have hS := hSq20
  refine lv_istore_n (pc := 4) (lv' := [(2, .int q20), (0, .ref (ad 0)), (1, .int p0)]) hx hb d151_4 rfl hl (by decide) rfl (fun ls hl => ?_)
  refine lv_aload_n (pc := 5) hx hb d151_5 rfl (lv_at hl 1 rfl) ?_
  refine lv_iload_n (pc := 6) hx hb d151_6 rfl (lv_at hl 0 rfl) ?_
  refine lv_if_lt (pc := 7) (tgt := 32) hx hb d151_7 (by decide) (fun c7 => ?_) (fun c7 => ?_)
  · have h := jb_t c7 h
    exact kc32  st p0 _ _ _ hW hS (lv_sub hl [1, 2] rfl) h
  · have h := jb_f c7 h
    refine lv_aload_n (pc := 10) hx hb d151_10 rfl (lv_at hl 1 rfl) ?_
    refine m_get (pc := 11) X hW 7 (v := .int (st.1 0 7)) wd1373 rfl rfl d151_11 ?_
    refine lv_iload_n (pc := 14) hx hb d151_14 rfl (lv_at hl 0 rfl) ?_
    refine lv_bipush (pc := 15) (v := 100) hx hb d151_15 (by decide) ?_
    refine lv_idiv (pc := 17) hx hb d151_17 (by decide) ?_
    refine lv_icmp_lt (pc := 18) (tgt := 32) hx hb d151_18 (by decide) (fun c18 => ?_) (fun c18 => ?_)
    · have h := jb_t c18 h
      exact kc32  st p0 _ _ _ hW hS (lv_sub hl [1, 2] rfl) h
    · have h := jb_f c18 h
      refine lv_aload_n (pc := 21) hx hb d151_21 rfl (lv_at hl 1 rfl) ?_
      refine m_get (pc := 22) X hW 7 (v := .int (st.1 0 7)) wd1373 rfl rfl d151_22 ?_
      refine lv_iload_n (pc := 25) hx hb d151_25 rfl (lv_at hl 0 rfl) ?_
      refine lv_bipush (pc := 26) (v := 100) hx hb d151_26 (by decide) ?_
      refine lv_irem (pc := 28) hx hb d151_28 (by decide) ?_
      refine lv_icmp_le (pc := 29) (tgt := 36) hx hb d151_29 (by decide) (fun c29 => ?_) (fun c29 => ?_)
      · have h := jb_t c29 h
        refine lv_iconst (pc := 36) (v := 0) hx hb d151_36 (by decide) ?_
        exact kc37  st p0 0 _ _ _ hW hS (lv_sub hl [1, 2] rfl) h
      · have h := jb_f c29 h
        exact kc32  st p0 _ _ _ hW hS (lv_sub hl [1, 2] rfl) h
def mo_end_28  : Nat → GS → Int32 → Int32 → Option (Int32 × GS)
  | 0, _, _, _ => none
  | fu + 1, st, x1, x2 => jb (x1 ≤ x2) (jn (uI st 0 2 x1) (fun st1 => jn (uI st1 0 1 0) (fun st2 => some (1, st2)))) (jg (inb x2 260) (jg (inb x2 256) (jn (uI st 2 x2.toNatClampNeg (st.1 1 x2.toNatClampNeg)) (fun st5 => jn (x2 + 1) (fun v6 => mo_end_28 fu st5 x1 v6)))))
def f_mo_end (st : GS) (p0 : Int32) : Option (Int32 × GS) := jn (uI st 0 0 0) (fun st7 => jb (p0 < 0) (some (0, st7)) (jb ((st7.1 0 1) < p0) (some (0, st7)) (jb (p0 ≤ 255) (mo_end_28 FU st7 p0 0) (some (0, st7)))))
set_option maxHeartbeats 4000000 in
set_option maxRecDepth 100000 in
theorem c_mo_end (l : Launch) (ρ : RH) (ad : Nat → Nat) (H : Heap) (st : GS) (p0 : Int32) (res : Int32 × GS) (hW : GW ρ wM ad st H) (h : f_mo_end st p0 = some res) : Met l y166 (wsOf y166 b166 3 (some .boolean)) ({ frames := 0, cells := 0, slots := 0, locals := 0 } : Room) (va_Pc [.ref (ad 0), .int p0] (KP ρ H)) (mQ (fun v H1 => v = some (.int res.1) ∧ GW ρ wM ad res.2 H1) (MA wM ad H.size)) 0 0 (MA wM ad H.size) := by
  refine m_ofW (own := "WordFunctionsModel") (plainFor_of_name rfl) rfl (Nat.le_of_ble_eq_true rfl) fun p e s m args below meth c ls hx hb hr hlk _ X hs hl => ?_
  subst hs
  have hS : va_S (MA wM ad s.heap.size) s.heap s.heap [] := va_S.rf
  have hl : lv_has ls 3 [(0, .ref (ad 0)), (1, .int p0)] := hl
  have kc28 : ∀ (fu : Nat), ∀ (st : GS) (x1 : Int32) (x2 : Int32) (H : Heap) (locs : List Loc) (ls : Array Slot), GW ρ wM ad st H → va_S (MA wM ad s.heap.size) s.heap H locs → lv_has ls 3 [(0, .ref (ad 0)), (1, .int x1), (2, .int x2)] → mo_end_28 fu st x1 x2 = some res → W p l e ({ frames := 0, cells := 0, slots := 0, locals := 0 } : Room) s m args below meth c H locs 0 0 (MQ below (mQ (fun v H1 => v = some (.int res.1) ∧ GW ρ wM ad res.2 H1) (MA wM ad s.heap.size)) args s 0 0 (MA wM ad s.heap.size)) (F0 m 28 ls []) := by
    intro  fu
    induction fu with
    | zero => intro st x1 x2 H locs ls hW hS hl h; cases h
    | succ fu hK28 =>
      intro st x1 x2 H locs ls hW hS hl h
      unfold mo_end_28 at h
      refine lv_iload_n (pc := 28) hx hb d166_28 rfl (lv_at hl 2 rfl) ?_
      refine lv_iload_n (pc := 29) hx hb d166_29 rfl (lv_at hl 1 rfl) ?_
      refine lv_icmp_ge (pc := 30) (tgt := 51) hx hb d166_30 (by decide) (fun c30 => ?_) (fun c30 => ?_)
      · have h := jb_t c30 h
        refine lv_aload_n (pc := 51) hx hb d166_51 rfl (lv_at hl 0 rfl) ?_
        refine lv_iload_n (pc := 52) hx hb d166_52 rfl (lv_at hl 1 rfl) ?_
        obtain ⟨st1, est1, h⟩ := jn_ex h
        refine m_putI (pc := 53) X hW hS 2 est1 wd1368 rfl rfl rfl rfl rfl d166_53 (fun H locs hW hS => ?_)
        refine lv_aload_n (pc := 56) hx hb d166_56 rfl (lv_at hl 0 rfl) ?_
        refine lv_iconst (pc := 57) (v := 0) hx hb d166_57 (by decide) ?_
        obtain ⟨st2, est2, h⟩ := jn_ex h
        refine m_putI (pc := 58) X hW hS 1 est2 wd1367 rfl rfl rfl rfl rfl d166_58 (fun H locs hW hS => ?_)
        refine lv_iconst (pc := 61) (v := 1) hx hb d166_61 (by decide) ?_
        obtain rfl := Option.some.inj h
        exact m_zret (pc := 62) hx hb hr hlk hS ⟨rfl, hW⟩ (by decide) (by decide) d166_62 (by decide)
      · have h := jb_f c30 h
        refine lv_aload_n (pc := 33) hx hb d166_33 rfl (lv_at hl 0 rfl) ?_
        refine m_get (pc := 34) X hW 5 (v := .ref (ad 2)) wd1371 rfl rfl d166_34 ?_
        refine lv_iload_n (pc := 37) hx hb d166_37 rfl (lv_at hl 2 rfl) ?_
        refine lv_aload_n (pc := 38) hx hb d166_38 rfl (lv_at hl 0 rfl) ?_
        refine m_get (pc := 39) X hW 4 (v := .ref (ad 1)) wd1370 rfl rfl d166_39 ?_
        refine lv_iload_n (pc := 42) hx hb d166_42 rfl (lv_at hl 2 rfl) ?_
        obtain ⟨g3, h⟩ := jg_some h
        refine r_iald (pc := 43) X hW 1 (by decide) rfl (inb_in g3) d166_43 ?_
        obtain ⟨g4, h⟩ := jg_some h
        obtain ⟨st5, est5, h⟩ := jn_ex h
        refine m_iast (pc := 44) X hW hS 2 (by decide) rfl g4 est5 d166_44 (fun H locs hW hS => ?_)
        obtain ⟨v6, ev6, h⟩ := jn_ex h
        refine lv_iinc (pc := 45) (v := v6) (lv' := [(2, .int v6), (0, .ref (ad 0)), (1, .int x1)]) hx hb d166_45 hl (k := 2) rfl (by rw [ev6]; rfl) (by decide) rfl (fun ls hl => ?_)
        refine lv_goto (pc := 48) (tgt := 28) hx hb d166_48 (by decide) ?_
        exact hK28 st5 x1 v6 _ _ _ hW hS (lv_sub hl [1, 2, 0] rfl) h
  unfold f_mo_end at h
  refine lv_aload_n (pc := 0) hx hb d166_0 rfl (lv_at hl 0 rfl) ?_
  refine lv_iconst (pc := 1) (v := 0) hx hb d166_1 (by decide) ?_
  obtain ⟨st7, est7, h⟩ := jn_ex h
  refine m_putI (pc := 2) X hW hS 0 est7 wd1366 rfl rfl rfl rfl rfl d166_2 (fun H locs hW hS => ?_)
  refine lv_iload_n (pc := 5) hx hb d166_5 rfl (lv_at hl 1 rfl) ?_
  refine lv_if_lt (pc := 6) (tgt := 24) hx hb d166_6 (by decide) (fun c6 => ?_) (fun c6 => ?_)
  · have h := jb_t c6 h
    refine lv_iconst (pc := 24) (v := 0) hx hb d166_24 (by decide) ?_
    obtain rfl := Option.some.inj h
    exact m_zret (pc := 25) hx hb hr hlk hS ⟨rfl, hW⟩ (by decide) (by decide) d166_25 (by decide)
  · have h := jb_f c6 h
    refine lv_iload_n (pc := 9) hx hb d166_9 rfl (lv_at hl 1 rfl) ?_
    refine lv_aload_n (pc := 10) hx hb d166_10 rfl (lv_at hl 0 rfl) ?_
    refine m_get (pc := 11) X hW 1 (v := .int (st7.1 0 1)) wd1367 rfl rfl d166_11 ?_
    refine lv_icmp_gt (pc := 14) (tgt := 24) hx hb d166_14 (by decide) (fun c14 => ?_) (fun c14 => ?_)
    · have h := jb_t c14 h
      refine lv_iconst (pc := 24) (v := 0) hx hb d166_24 (by decide) ?_
      obtain rfl := Option.some.inj h
      exact m_zret (pc := 25) hx hb hr hlk hS ⟨rfl, hW⟩ (by decide) (by decide) d166_25 (by decide)
    · have h := jb_f c14 h
      refine lv_iload_n (pc := 17) hx hb d166_17 rfl (lv_at hl 1 rfl) ?_
      refine lv_sipush (pc := 18) (v := 255) hx hb d166_18 (by decide) ?_
      refine lv_icmp_le (pc := 21) (tgt := 26) hx hb d166_21 (by decide) (fun c21 => ?_) (fun c21 => ?_)
      · have h := jb_t c21 h
        refine lv_iconst (pc := 26) (v := 0) hx hb d166_26 (by decide) ?_
        refine lv_istore_n (pc := 27) (lv' := [(2, .int 0), (0, .ref (ad 0)), (1, .int p0)]) hx hb d166_27 rfl hl (by decide) rfl (fun ls hl => ?_)
        exact kc28  FU st7 p0 0 _ _ _ hW hS (lv_sub hl [1, 2, 0] rfl) h
      · have h := jb_f c21 h
        refine lv_iconst (pc := 24) (v := 0) hx hb d166_24 (by decide) ?_
        obtain rfl := Option.some.inj h
        exact m_zret (pc := 25) hx hb hr hlk hS ⟨rfl, hW⟩ (by decide) (by decide) d166_25 (by decide)
def mo_errorOf_24 (K7 : UInt64 → UInt64 → Int32 → Option (UInt64))  (x0 : UInt64) (x2 : UInt64) (x4 : Int32) : Option (UInt64) := jn (x4 + 1) (fun v1 => K7 x0 x2 v1)
def mo_errorOf_7  : Nat → UInt64 → UInt64 → Int32 → Option (UInt64)
  | 0, _, _, _ => none
  | fu + 1, x0, x2, x4 => jb (9 ≤ x4) (some x2) (jb ((Op.cmpValue (FP.dcmp x0 (FP.i2d x4)) .l) = 0) (mo_errorOf_24 (mo_errorOf_7 fu)  x0 x0 x4) (mo_errorOf_24 (mo_errorOf_7 fu)  x0 x2 x4))
def f_mo_errorOf  (p0 : UInt64) : Option (UInt64) := jn (4613937818241073152 : UInt64) (fun v2 => mo_errorOf_7 FU p0 v2 1)
set_option maxHeartbeats 4000000 in
set_option maxRecDepth 100000 in
theorem c_mo_errorOf (l : Launch) (ρ : RH) (H : Heap) (p0 : UInt64) (res : UInt64) (h : f_mo_errorOf p0 = some res) : Met l y168 (wsOf y168 b168 5 (some .double)) ({ frames := 0, cells := 0, slots := 0, locals := 0 } : Room) (va_Pc [.double p0] (KP ρ H)) (mQ (fun v H1 => v = some (.double res) ∧ H1 = H) (fun _ => False)) 0 0 (fun _ => False) := by
  refine m_ofW (own := "WordFunctionsModel") (plainFor_of_name rfl) rfl (Nat.le_of_ble_eq_true rfl) fun p e s m args below meth c ls hx hb hr hlk _ X hs hl => ?_
  subst hs
  have hS : va_S (fun _ => False) s.heap s.heap [] := va_S.rf
  have hl : lv_has ls 5 [(0, .double p0)] := hl
  have kc24 : ∀ (K7 : UInt64 → UInt64 → Int32 → Option (UInt64)) (hK7 : ∀ (x0 : UInt64) (x2 : UInt64) (x4 : Int32) (locs : List Loc) (ls : Array Slot), va_S (fun _ => False) s.heap s.heap locs → lv_has ls 5 [(0, .double x0), (2, .double x2), (4, .int x4)] → K7 x0 x2 x4 = some res → W p l e ({ frames := 0, cells := 0, slots := 0, locals := 0 } : Room) s m args below meth c s.heap locs 0 0 (MQ below (mQ (fun v H1 => v = some (.double res) ∧ H1 = s.heap) (fun _ => False)) args s 0 0 (fun _ => False)) (F0 m 7 ls [])), ∀ (x0 : UInt64) (x2 : UInt64) (x4 : Int32) (locs : List Loc) (ls : Array Slot), va_S (fun _ => False) s.heap s.heap locs → lv_has ls 5 [(0, .double x0), (2, .double x2), (4, .int x4)] → mo_errorOf_24 K7 x0 x2 x4 = some res → W p l e ({ frames := 0, cells := 0, slots := 0, locals := 0 } : Room) s m args below meth c s.heap locs 0 0 (MQ below (mQ (fun v H1 => v = some (.double res) ∧ H1 = s.heap) (fun _ => False)) args s 0 0 (fun _ => False)) (F0 m 24 ls []) := by
    intro K7 hK7
    intro x0 x2 x4 locs ls hS hl h
    unfold mo_errorOf_24 at h
    obtain ⟨v1, ev1, h⟩ := jn_ex h
    refine lv_iinc (pc := 24) (v := v1) (lv' := [(4, .int v1), (0, .double x0), (2, .double x2)]) hx hb d168_24 hl (k := 2) rfl (by rw [ev1]; rfl) (by decide) rfl (fun ls hl => ?_)
    refine lv_goto (pc := 27) (tgt := 7) hx hb d168_27 (by decide) ?_
    exact hK7 x0 x2 v1 _ _ hS (lv_sub hl [1, 2, 0] rfl) h
  have kc7 : ∀ (fu : Nat), ∀ (x0 : UInt64) (x2 : UInt64) (x4 : Int32) (locs : List Loc) (ls : Array Slot), va_S (fun _ => False) s.heap s.heap locs → lv_has ls 5 [(0, .double x0), (2, .double x2), (4, .int x4)] → mo_errorOf_7 fu x0 x2 x4 = some res → W p l e ({ frames := 0, cells := 0, slots := 0, locals := 0 } : Room) s m args below meth c s.heap locs 0 0 (MQ below (mQ (fun v H1 => v = some (.double res) ∧ H1 = s.heap) (fun _ => False)) args s 0 0 (fun _ => False)) (F0 m 7 ls []) := by
    intro  fu
    induction fu with
    | zero => intro x0 x2 x4 locs ls hS hl h; cases h
    | succ fu hK7 =>
      intro x0 x2 x4 locs ls hS hl h
      unfold mo_errorOf_7 at h
      refine lv_iload (pc := 7) hx hb d168_7 (lv_at hl 2 rfl) ?_
      refine lv_bipush (pc := 9) (v := 9) hx hb d168_9 (by decide) ?_
      refine lv_icmp_ge (pc := 11) (tgt := 30) hx hb d168_11 (by decide) (fun c11 => ?_) (fun c11 => ?_)
      · have h := jb_t c11 h
        refine lv_dload_n (pc := 30) hx hb d168_30 rfl (lv_at hl 1 rfl) ?_
        obtain rfl := Option.some.inj h
        exact m_dret (pc := 31) hx hb hr hlk hS ⟨rfl, rfl⟩ (by decide) (by decide) d168_31
      · have h := jb_f c11 h
        refine lv_dload_n (pc := 14) hx hb d168_14 rfl (lv_at hl 0 rfl) ?_
        refine lv_iload (pc := 15) hx hb d168_15 (lv_at hl 2 rfl) ?_
        refine lv_i2d (pc := 17) hx hb d168_17 ?_
        refine lv_dcmp (pc := 18) hx hb d168_18 ?_
        refine lv_if_ne (pc := 19) (tgt := 24) hx hb d168_19 (by decide) (fun c19 => ?_) (fun c19 => ?_)
        · have h := jb_f c19 h
          exact kc24 _ hK7 x0 x2 x4 _ _ hS (lv_sub hl [0, 1, 2] rfl) h
        · have h := jb_t c19 h
          refine lv_dload_n (pc := 22) hx hb d168_22 rfl (lv_at hl 0 rfl) ?_
          refine lv_dstore_n (pc := 23) (lv' := [(2, .double x0), (0, .double x0), (4, .int x4)]) hx hb d168_23 rfl hl (by decide) rfl (fun ls hl => ?_)
          exact kc24 _ hK7 x0 x0 x4 _ _ hS (lv_sub hl [1, 0, 2] rfl) h
  unfold f_mo_errorOf at h
  refine lv_ldc2d (pc := 0) hx hb X.1.2.2.2.1 (X.ts wd1578) d168_0 ?_
  obtain ⟨v2, ev2, h⟩ := jn_ex h
  refine nm_d ev2 ?_
  refine lv_dstore_n (pc := 3) (lv' := [(2, .double v2), (0, .double p0)]) hx hb d168_3 rfl hl (by decide) rfl (fun ls hl => ?_)
  refine lv_iconst (pc := 4) (v := 1) hx hb d168_4 (by decide) ?_
  refine lv_istore (pc := 5) (lv' := [(4, .int 1), (2, .double v2), (0, .double p0)]) hx hb d168_5 hl (by decide) rfl (fun ls hl => ?_)
  exact kc7  FU p0 v2 1 _ _ hS (lv_sub hl [2, 1, 0] rfl) h
def mo_putFour_3  : Nat → GS → Int32 → Int32 → Option (GS)
  | 0, _, _, _ => none
  | fu + 1, st, x1, x2 => jb (x2 < 0) (some st) (jg (inb (st.1 0 1) 260) (jn (uI st 1 (st.1 0 1).toNatClampNeg ((x1 >>> (x2 &&& 31)) &&& 255)) (fun st2 => jn (uI st2 0 1 ((st2.1 0 1) + 1)) (fun st3 => jn (x2 + (-8)) (fun v4 => mo_putFour_3 fu st3 x1 v4)))))
def f_mo_putFour (st : GS) (p0 : Int32) : Option (GS) := mo_putFour_3 FU st p0 24
set_option maxHeartbeats 4000000 in
set_option maxRecDepth 100000 in
theorem c_mo_putFour (l : Launch) (ρ : RH) (ad : Nat → Nat) (H : Heap) (st : GS) (p0 : Int32) (res : GS) (hW : GW ρ wM ad st H) (h : f_mo_putFour st p0 = some res) : Met l y208 (wsOf y208 b208 3 none) ({ frames := 0, cells := 0, slots := 0, locals := 0 } : Room) (va_Pc [.ref (ad 0), .int p0] (KP ρ H)) (mQ (fun v H1 => v = none ∧ GW ρ wM ad res H1) (MA wM ad H.size)) 0 0 (MA wM ad H.size) := by
  refine m_ofW (own := "WordFunctionsModel") (plainFor_of_name rfl) rfl (Nat.le_of_ble_eq_true rfl) fun p e s m args below meth c ls hx hb hr hlk _ X hs hl => ?_
  subst hs
  have hS : va_S (MA wM ad s.heap.size) s.heap s.heap [] := va_S.rf
  have hl : lv_has ls 3 [(0, .ref (ad 0)), (1, .int p0)] := hl
  have kc3 : ∀ (fu : Nat), ∀ (st : GS) (x1 : Int32) (x2 : Int32) (H : Heap) (locs : List Loc) (ls : Array Slot), GW ρ wM ad st H → va_S (MA wM ad s.heap.size) s.heap H locs → lv_has ls 3 [(0, .ref (ad 0)), (1, .int x1), (2, .int x2)] → mo_putFour_3 fu st x1 x2 = some res → W p l e ({ frames := 0, cells := 0, slots := 0, locals := 0 } : Room) s m args below meth c H locs 0 0 (MQ below (mQ (fun v H1 => v = none ∧ GW ρ wM ad res H1) (MA wM ad s.heap.size)) args s 0 0 (MA wM ad s.heap.size)) (F0 m 3 ls []) := by
    intro  fu
    induction fu with
    | zero => intro st x1 x2 H locs ls hW hS hl h; cases h
    | succ fu hK3 =>
      intro st x1 x2 H locs ls hW hS hl h
      unfold mo_putFour_3 at h
      refine lv_iload_n (pc := 3) hx hb d208_3 rfl (lv_at hl 2 rfl) ?_
      refine lv_if_lt (pc := 4) (tgt := 39) hx hb d208_4 (by decide) (fun c4 => ?_) (fun c4 => ?_)
      · have h := jb_t c4 h
        obtain rfl := Option.some.inj h
        exact m_vret (pc := 39) hx hb hr hlk hS ⟨rfl, hW⟩ (by decide) (by decide) d208_39
      · have h := jb_f c4 h
        refine lv_aload_n (pc := 7) hx hb d208_7 rfl (lv_at hl 0 rfl) ?_
        refine m_get (pc := 8) X hW 4 (v := .ref (ad 1)) wd1370 rfl rfl d208_8 ?_
        refine lv_aload_n (pc := 11) hx hb d208_11 rfl (lv_at hl 0 rfl) ?_
        refine m_get (pc := 12) X hW 1 (v := .int (st.1 0 1)) wd1367 rfl rfl d208_12 ?_
        refine lv_iload_n (pc := 15) hx hb d208_15 rfl (lv_at hl 1 rfl) ?_
        refine lv_iload_n (pc := 16) hx hb d208_16 rfl (lv_at hl 2 rfl) ?_
        refine lv_ishr (pc := 17) hx hb d208_17 ?_
        refine lv_sipush (pc := 18) (v := 255) hx hb d208_18 (by decide) ?_
        refine lv_iand (pc := 21) hx hb d208_21 ?_
        obtain ⟨g1, h⟩ := jg_some h
        obtain ⟨st2, est2, h⟩ := jn_ex h
        refine m_iast (pc := 22) X hW hS 1 (by decide) rfl g1 est2 d208_22 (fun H locs hW hS => ?_)
        refine lv_aload_n (pc := 23) hx hb d208_23 rfl (lv_at hl 0 rfl) ?_
        refine lv_dup (pc := 24) hx hb d208_24 rfl ?_
        refine m_get (pc := 25) X hW 1 (v := .int (st2.1 0 1)) wd1367 rfl rfl d208_25 ?_
        refine lv_iconst (pc := 28) (v := 1) hx hb d208_28 (by decide) ?_
        refine lv_iadd (pc := 29) hx hb d208_29 ?_
        obtain ⟨st3, est3, h⟩ := jn_ex h
        refine m_putI (pc := 30) X hW hS 1 est3 wd1367 rfl rfl rfl rfl rfl d208_30 (fun H locs hW hS => ?_)
        obtain ⟨v4, ev4, h⟩ := jn_ex h
        refine lv_iinc (pc := 33) (v := v4) (lv' := [(2, .int v4), (0, .ref (ad 0)), (1, .int x1)]) hx hb d208_33 hl (k := 2) rfl (by rw [ev4]; rfl) (by decide) rfl (fun ls hl => ?_)
        refine lv_goto (pc := 36) (tgt := 3) hx hb d208_36 (by decide) ?_
        exact hK3 st3 x1 v4 _ _ _ hW hS (lv_sub hl [1, 2, 0] rfl) h
  unfold f_mo_putFour at h
  refine lv_bipush (pc := 0) (v := 24) hx hb d208_0 (by decide) ?_
  refine lv_istore_n (pc := 2) (lv' := [(2, .int 24), (0, .ref (ad 0)), (1, .int p0)]) hx hb d208_2 rfl hl (by decide) rfl (fun ls hl => ?_)
  exact kc3  FU st p0 24 _ _ _ hW hS (lv_sub hl [1, 2, 0] rfl) h
def f_mo_feed (st : GS) (p0 : Int32) (p1 : Int32) (p2 : Int32) (p3 : Int32) (p4 : Int32) : Option (Int32 × GS) := jn (uI st 0 0 0) (fun st1 => jb ((st1.1 0 1) = 260) (some (0, st1)) (jc (f_mo_putFour st1 p0) (fun q2 => jc (f_mo_putFour q2 p1) (fun q3 => jc (f_mo_putFour q3 p2) (fun q4 => jc (f_mo_putFour q4 p3) (fun q5 => jc (f_mo_putFour q5 p4) (fun q6 => some (1, q6))))))))
set_option maxHeartbeats 4000000 in
set_option maxRecDepth 100000 in
theorem c_mo_feed (l : Launch) (ρ : RH) (ad : Nat → Nat) (H : Heap) (st : GS) (p0 : Int32) (p1 : Int32) (p2 : Int32) (p3 : Int32) (p4 : Int32) (res : Int32 × GS) (hW : GW ρ wM ad st H) (h : f_mo_feed st p0 p1 p2 p3 p4 = some res) : Met l y171 (wsOf y171 b171 6 (some .boolean)) ({ frames := 1, cells := 0, slots := 0, locals := 22 } : Room) (va_Pc [.ref (ad 0), .int p0, .int p1, .int p2, .int p3, .int p4] (KP ρ H)) (mQ (fun v H1 => v = some (.int res.1) ∧ GW ρ wM ad res.2 H1) (MA wM ad H.size)) 0 0 (MA wM ad H.size) := by
  refine m_ofW (own := "WordFunctionsModel") (plainFor_of_name rfl) rfl (Nat.le_of_ble_eq_true rfl) fun p e s m args below meth c ls hx hb hr hlk _ X hs hl => ?_
  subst hs
  have hS : va_S (MA wM ad s.heap.size) s.heap s.heap [] := va_S.rf
  have hl : lv_has ls 6 [(0, .ref (ad 0)), (1, .int p0), (2, .int p1), (3, .int p2), (4, .int p3), (5, .int p4)] := hl
  unfold f_mo_feed at h
  refine lv_aload_n (pc := 0) hx hb d171_0 rfl (lv_at hl 0 rfl) ?_
  refine lv_iconst (pc := 1) (v := 0) hx hb d171_1 (by decide) ?_
  obtain ⟨st1, est1, h⟩ := jn_ex h
  refine m_putI (pc := 2) X hW hS 0 est1 wd1366 rfl rfl rfl rfl rfl d171_2 (fun H locs hW hS => ?_)
  refine lv_aload_n (pc := 5) hx hb d171_5 rfl (lv_at hl 0 rfl) ?_
  refine m_get (pc := 6) X hW 1 (v := .int (st1.1 0 1)) wd1367 rfl rfl d171_6 ?_
  refine lv_sipush (pc := 9) (v := 260) hx hb d171_9 (by decide) ?_
  refine lv_icmp_ne (pc := 12) (tgt := 17) hx hb d171_12 (by decide) (fun c12 => ?_) (fun c12 => ?_)
  · have h := jb_f c12 h
    refine lv_aload_n (pc := 17) hx hb d171_17 rfl (lv_at hl 0 rfl) ?_
    refine lv_iload_n (pc := 18) hx hb d171_18 rfl (lv_at hl 1 rfl) ?_
    obtain ⟨q2, hq2, h⟩ := jc_some h
    refine k_callV (pc := 19) (n := 1) X hS (c_mo_putFour l ρ ad _ st1 p0 q2 hW hq2) wd1544 wd1541 wd1543 sl208 wd11 (by decide) ⟨rfl, rfl, by decide, by decide⟩ (m_recv X hW) (As := [.int p0]) (rest := []) rfl rfl hl.1 (Nat.le_of_ble_eq_true rfl) d171_19 ⟨by decide, by decide⟩ (fun q hq => MA.mono hS.1 hq) (fun v H1 locs1 hv _ _ hSq2 => ?_)
    obtain ⟨rfl, hW⟩ := hv
    have hS := hSq2
    refine lv_aload_n (pc := 22) hx hb d171_22 rfl (lv_at hl 0 rfl) ?_
    refine lv_iload_n (pc := 23) hx hb d171_23 rfl (lv_at hl 2 rfl) ?_
    obtain ⟨q3, hq3, h⟩ := jc_some h
    refine k_callV (pc := 24) (n := 1) X hS (c_mo_putFour l ρ ad _ q2 p1 q3 hW hq3) wd1544 wd1541 wd1543 sl208 wd11 (by decide) ⟨rfl, rfl, by decide, by decide⟩ (m_recv X hW) (As := [.int p1]) (rest := []) rfl rfl hl.1 (Nat.le_of_ble_eq_true rfl) d171_24 ⟨by decide, by decide⟩ (fun q hq => MA.mono hS.1 hq) (fun v H1 locs1 hv _ _ hSq3 => ?_)
    obtain ⟨rfl, hW⟩ := hv
    have hS := hSq3
    refine lv_aload_n (pc := 27) hx hb d171_27 rfl (lv_at hl 0 rfl) ?_
    refine lv_iload_n (pc := 28) hx hb d171_28 rfl (lv_at hl 3 rfl) ?_
    obtain ⟨q4, hq4, h⟩ := jc_some h
    refine k_callV (pc := 29) (n := 1) X hS (c_mo_putFour l ρ ad _ q3 p2 q4 hW hq4) wd1544 wd1541 wd1543 sl208 wd11 (by decide) ⟨rfl, rfl, by decide, by decide⟩ (m_recv X hW) (As := [.int p2]) (rest := []) rfl rfl hl.1 (Nat.le_of_ble_eq_true rfl) d171_29 ⟨by decide, by decide⟩ (fun q hq => MA.mono hS.1 hq) (fun v H1 locs1 hv _ _ hSq4 => ?_)
    obtain ⟨rfl, hW⟩ := hv
    have hS := hSq4
    refine lv_aload_n (pc := 32) hx hb d171_32 rfl (lv_at hl 0 rfl) ?_
    refine lv_iload (pc := 33) hx hb d171_33 (lv_at hl 4 rfl) ?_
    obtain ⟨q5, hq5, h⟩ := jc_some h
    refine k_callV (pc := 35) (n := 1) X hS (c_mo_putFour l ρ ad _ q4 p3 q5 hW hq5) wd1544 wd1541 wd1543 sl208 wd11 (by decide) ⟨rfl, rfl, by decide, by decide⟩ (m_recv X hW) (As := [.int p3]) (rest := []) rfl rfl hl.1 (Nat.le_of_ble_eq_true rfl) d171_35 ⟨by decide, by decide⟩ (fun q hq => MA.mono hS.1 hq) (fun v H1 locs1 hv _ _ hSq5 => ?_)
    obtain ⟨rfl, hW⟩ := hv
    have hS := hSq5
    refine lv_aload_n (pc := 38) hx hb d171_38 rfl (lv_at hl 0 rfl) ?_
    refine lv_iload (pc := 39) hx hb d171_39 (lv_at hl 5 rfl) ?_
    obtain ⟨q6, hq6, h⟩ := jc_some h
    refine k_callV (pc := 41) (n := 1) X hS (c_mo_putFour l ρ ad _ q5 p4 q6 hW hq6) wd1544 wd1541 wd1543 sl208 wd11 (by decide) ⟨rfl, rfl, by decide, by decide⟩ (m_recv X hW) (As := [.int p4]) (rest := []) rfl rfl hl.1 (Nat.le_of_ble_eq_true rfl) d171_41 ⟨by decide, by decide⟩ (fun q hq => MA.mono hS.1 hq) (fun v H1 locs1 hv _ _ hSq6 => ?_)
    obtain ⟨rfl, hW⟩ := hv
    have hS := hSq6
    refine lv_iconst (pc := 44) (v := 1) hx hb d171_44 (by decide) ?_
    obtain rfl := Option.some.inj h
    exact m_zret (pc := 45) hx hb hr hlk hS ⟨rfl, hW⟩ (by decide) (by decide) d171_45 (by decide)
  · have h := jb_t c12 h
    refine lv_iconst (pc := 15) (v := 0) hx hb d171_15 (by decide) ?_
    obtain rfl := Option.some.inj h
    exact m_zret (pc := 16) hx hb hr hlk hS ⟨rfl, hW⟩ (by decide) (by decide) d171_16 (by decide)
def f_mo_home (st : GS) (p0 : Int32) (p1 : Int32) : Option (Int32 × GS) := jn (uI st 0 0 0) (fun st1 => jc (f_mo_isCell p0 p1) (fun q2 => jb (q2 = 0) (some (0, st1)) (jn (uI st1 0 18 p0) (fun st3 => jn (uI st3 0 19 p1) (fun st4 => some (1, st4))))))
set_option maxHeartbeats 4000000 in
set_option maxRecDepth 100000 in
theorem c_mo_home (l : Launch) (ρ : RH) (ad : Nat → Nat) (H : Heap) (st : GS) (p0 : Int32) (p1 : Int32) (res : Int32 × GS) (hW : GW ρ wM ad st H) (h : f_mo_home st p0 p1 = some res) : Met l y176 (wsOf y176 b176 3 (some .boolean)) ({ frames := 1, cells := 0, slots := 0, locals := 21 } : Room) (va_Pc [.ref (ad 0), .int p0, .int p1] (KP ρ H)) (mQ (fun v H1 => v = some (.int res.1) ∧ GW ρ wM ad res.2 H1) (MA wM ad H.size)) 0 0 (MA wM ad H.size) := by
  refine m_ofW (own := "WordFunctionsModel") (plainFor_of_name rfl) rfl (Nat.le_of_ble_eq_true rfl) fun p e s m args below meth c ls hx hb hr hlk _ X hs hl => ?_
  subst hs
  have hS : va_S (MA wM ad s.heap.size) s.heap s.heap [] := va_S.rf
  have hl : lv_has ls 3 [(0, .ref (ad 0)), (1, .int p0), (2, .int p1)] := hl
  unfold f_mo_home at h
  refine lv_aload_n (pc := 0) hx hb d176_0 rfl (lv_at hl 0 rfl) ?_
  refine lv_iconst (pc := 1) (v := 0) hx hb d176_1 (by decide) ?_
  obtain ⟨st1, est1, h⟩ := jn_ex h
  refine m_putI (pc := 2) X hW hS 0 est1 wd1366 rfl rfl rfl rfl rfl d176_2 (fun H locs hW hS => ?_)
  refine lv_iload_n (pc := 5) hx hb d176_5 rfl (lv_at hl 1 rfl) ?_
  refine lv_iload_n (pc := 6) hx hb d176_6 rfl (lv_at hl 2 rfl) ?_
  obtain ⟨q2, hq2, h⟩ := jc_some h
  refine k_callS (pc := 7) (n := 2) X hS (c_mo_isCell l ρ _ p0 p1 q2 hq2) wd1555 wd1553 wd1554 wd11 (by decide) ⟨rfl, rfl, by decide, by decide⟩ (As := [.int p0, .int p1]) (rest := []) rfl rfl hl.1 (Nat.le_of_ble_eq_true rfl) d176_7 ⟨by decide, by decide⟩ (fun q hq => False.elim hq) (fun v H1 locs1 hv _ _ hSq2 => ?_)
  obtain ⟨rfl, rfl⟩ := hv
  have hS := hSq2
  refine lv_if_ne (pc := 10) (tgt := 15) hx hb d176_10 (by decide) (fun c10 => ?_) (fun c10 => ?_)
  · have h := jb_f c10 h
    refine lv_aload_n (pc := 15) hx hb d176_15 rfl (lv_at hl 0 rfl) ?_
    refine lv_iload_n (pc := 16) hx hb d176_16 rfl (lv_at hl 1 rfl) ?_
    obtain ⟨st3, est3, h⟩ := jn_ex h
    refine m_putI (pc := 17) X hW hS 18 est3 wd1384 rfl rfl rfl rfl rfl d176_17 (fun H locs hW hS => ?_)
    refine lv_aload_n (pc := 20) hx hb d176_20 rfl (lv_at hl 0 rfl) ?_
    refine lv_iload_n (pc := 21) hx hb d176_21 rfl (lv_at hl 2 rfl) ?_
    obtain ⟨st4, est4, h⟩ := jn_ex h
    refine m_putI (pc := 22) X hW hS 19 est4 wd1385 rfl rfl rfl rfl rfl d176_22 (fun H locs hW hS => ?_)
    refine lv_iconst (pc := 25) (v := 1) hx hb d176_25 (by decide) ?_
    obtain rfl := Option.some.inj h
    exact m_zret (pc := 26) hx hb hr hlk hS ⟨rfl, hW⟩ (by decide) (by decide) d176_26 (by decide)
  · have h := jb_t c10 h
    refine lv_iconst (pc := 13) (v := 0) hx hb d176_13 (by decide) ?_
    obtain rfl := Option.some.inj h
    exact m_zret (pc := 14) hx hb hr hlk hS ⟨rfl, hW⟩ (by decide) (by decide) d176_14 (by decide)
def f_mo_letter (st : GS) (p0 : Int32) : Option (Int32 × GS) := jn (uI st 0 0 0) (fun st1 => jb ((st1.1 0 32) = 2) (jb (p0 < 0) (some ((-1), st1)) (jb ((st1.1 0 33) ≤ p0) (some ((-1), st1)) (jg (inb p0 256) (some ((st1.1 17 p0.toNatClampNeg), st1))))) (some ((-1), st1)))
set_option maxHeartbeats 4000000 in
set_option maxRecDepth 100000 in
theorem c_mo_letter (l : Launch) (ρ : RH) (ad : Nat → Nat) (H : Heap) (st : GS) (p0 : Int32) (res : Int32 × GS) (hW : GW ρ wM ad st H) (h : f_mo_letter st p0 = some res) : Met l y189 (wsOf y189 b189 2 (some .int)) ({ frames := 0, cells := 0, slots := 0, locals := 0 } : Room) (va_Pc [.ref (ad 0), .int p0] (KP ρ H)) (mQ (fun v H1 => v = some (.int res.1) ∧ GW ρ wM ad res.2 H1) (MA wM ad H.size)) 0 0 (MA wM ad H.size) := by
  refine m_ofW (own := "WordFunctionsModel") (plainFor_of_name rfl) rfl (Nat.le_of_ble_eq_true rfl) fun p e s m args below meth c ls hx hb hr hlk _ X hs hl => ?_
  subst hs
  have hS : va_S (MA wM ad s.heap.size) s.heap s.heap [] := va_S.rf
  have hl : lv_has ls 2 [(0, .ref (ad 0)), (1, .int p0)] := hl
  unfold f_mo_letter at h
  refine lv_aload_n (pc := 0) hx hb d189_0 rfl (lv_at hl 0 rfl) ?_
  refine lv_iconst (pc := 1) (v := 0) hx hb d189_1 (by decide) ?_
  obtain ⟨st1, est1, h⟩ := jn_ex h
  refine m_putI (pc := 2) X hW hS 0 est1 wd1366 rfl rfl rfl rfl rfl d189_2 (fun H locs hW hS => ?_)
  refine lv_aload_n (pc := 5) hx hb d189_5 rfl (lv_at hl 0 rfl) ?_
  refine m_get (pc := 6) X hW 32 (v := .int (st1.1 0 32)) wd1398 rfl rfl d189_6 ?_
  refine lv_iconst (pc := 9) (v := 2) hx hb d189_9 (by decide) ?_
  refine lv_icmp_ne (pc := 10) (tgt := 34) hx hb d189_10 (by decide) (fun c10 => ?_) (fun c10 => ?_)
  · have h := jb_f c10 h
    refine lv_iconst (pc := 34) (v := (-1)) hx hb d189_34 (by decide) ?_
    obtain rfl := Option.some.inj h
    exact m_iret (pc := 35) hx hb hr hlk hS ⟨rfl, hW⟩ (by decide) (by decide) d189_35
  · have h := jb_t c10 h
    refine lv_iload_n (pc := 13) hx hb d189_13 rfl (lv_at hl 1 rfl) ?_
    refine lv_if_lt (pc := 14) (tgt := 34) hx hb d189_14 (by decide) (fun c14 => ?_) (fun c14 => ?_)
    · have h := jb_t c14 h
      refine lv_iconst (pc := 34) (v := (-1)) hx hb d189_34 (by decide) ?_
      obtain rfl := Option.some.inj h
      exact m_iret (pc := 35) hx hb hr hlk hS ⟨rfl, hW⟩ (by decide) (by decide) d189_35
    · have h := jb_f c14 h
      refine lv_iload_n (pc := 17) hx hb d189_17 rfl (lv_at hl 1 rfl) ?_
      refine lv_aload_n (pc := 18) hx hb d189_18 rfl (lv_at hl 0 rfl) ?_
      refine m_get (pc := 19) X hW 33 (v := .int (st1.1 0 33)) wd1399 rfl rfl d189_19 ?_
      refine lv_icmp_ge (pc := 22) (tgt := 34) hx hb d189_22 (by decide) (fun c22 => ?_) (fun c22 => ?_)
      · have h := jb_t c22 h
        refine lv_iconst (pc := 34) (v := (-1)) hx hb d189_34 (by decide) ?_
        obtain rfl := Option.some.inj h
        exact m_iret (pc := 35) hx hb hr hlk hS ⟨rfl, hW⟩ (by decide) (by decide) d189_35
      · have h := jb_f c22 h
        refine lv_aload_n (pc := 25) hx hb d189_25 rfl (lv_at hl 0 rfl) ?_
        refine m_get (pc := 26) X hW 35 (v := .ref (ad 17)) wd1401 rfl rfl d189_26 ?_
        refine lv_iload_n (pc := 29) hx hb d189_29 rfl (lv_at hl 1 rfl) ?_
        obtain ⟨g2, h⟩ := jg_some h
        refine r_iald (pc := 30) X hW 17 (by decide) rfl (inb_in g2) d189_30 ?_
        refine lv_goto (pc := 31) (tgt := 35) hx hb d189_31 (by decide) ?_
        obtain rfl := Option.some.inj h
        exact m_iret (pc := 35) hx hb hr hlk hS ⟨rfl, hW⟩ (by decide) (by decide) d189_35
def f_mo_look (st : GS) (p0 : Int32) (p1 : Int32) : Option (Int32 × GS) := jn (uI st 0 0 0) (fun st1 => jb (p0 < 0) (some ((-1), st1)) (jb (p1 < 0) (some ((-1), st1)) (jb ((st1.1 0 49) ≤ p0) (some ((-1), st1)) (jb (p1 < (st1.1 0 50)) (jb ((st1.1 0 36) < 0) (some ((st1.1 0 32), st1)) (jc (f_mo_tellKept st1 ((p0 * (st1.1 0 50)) + p1)) (fun q2 => some ((q2.1 0 32), q2)))) (some ((-1), st1))))))
set_option maxHeartbeats 4000000 in
set_option maxRecDepth 100000 in
theorem c_mo_look (l : Launch) (ρ : RH) (ad : Nat → Nat) (H : Heap) (st : GS) (p0 : Int32) (p1 : Int32) (res : Int32 × GS) (hW : GW ρ wM ad st H) (h : f_mo_look st p0 p1 = some res) : Met l y191 (wsOf y191 b191 3 (some .int)) ({ frames := 1, cells := 0, slots := 0, locals := 22 } : Room) (va_Pc [.ref (ad 0), .int p0, .int p1] (KP ρ H)) (mQ (fun v H1 => v = some (.int res.1) ∧ GW ρ wM ad res.2 H1) (MA wM ad H.size)) 0 0 (MA wM ad H.size) := by
  refine m_ofW (own := "WordFunctionsModel") (plainFor_of_name rfl) rfl (Nat.le_of_ble_eq_true rfl) fun p e s m args below meth c ls hx hb hr hlk _ X hs hl => ?_
  subst hs
  have hS : va_S (MA wM ad s.heap.size) s.heap s.heap [] := va_S.rf
  have hl : lv_has ls 3 [(0, .ref (ad 0)), (1, .int p0), (2, .int p1)] := hl
  unfold f_mo_look at h
  refine lv_aload_n (pc := 0) hx hb d191_0 rfl (lv_at hl 0 rfl) ?_
  refine lv_iconst (pc := 1) (v := 0) hx hb d191_1 (by decide) ?_
  obtain ⟨st1, est1, h⟩ := jn_ex h
  refine m_putI (pc := 2) X hW hS 0 est1 wd1366 rfl rfl rfl rfl rfl d191_2 (fun H locs hW hS => ?_)
  refine lv_iload_n (pc := 5) hx hb d191_5 rfl (lv_at hl 1 rfl) ?_
  refine lv_if_lt (pc := 6) (tgt := 29) hx hb d191_6 (by decide) (fun c6 => ?_) (fun c6 => ?_)
  · have h := jb_t c6 h
    refine lv_iconst (pc := 29) (v := (-1)) hx hb d191_29 (by decide) ?_
    obtain rfl := Option.some.inj h
    exact m_iret (pc := 30) hx hb hr hlk hS ⟨rfl, hW⟩ (by decide) (by decide) d191_30
  · have h := jb_f c6 h
    refine lv_iload_n (pc := 9) hx hb d191_9 rfl (lv_at hl 2 rfl) ?_
    refine lv_if_lt (pc := 10) (tgt := 29) hx hb d191_10 (by decide) (fun c10 => ?_) (fun c10 => ?_)
    · have h := jb_t c10 h
      refine lv_iconst (pc := 29) (v := (-1)) hx hb d191_29 (by decide) ?_
      obtain rfl := Option.some.inj h
      exact m_iret (pc := 30) hx hb hr hlk hS ⟨rfl, hW⟩ (by decide) (by decide) d191_30
    · have h := jb_f c10 h
      refine lv_iload_n (pc := 13) hx hb d191_13 rfl (lv_at hl 1 rfl) ?_
      refine lv_aload_n (pc := 14) hx hb d191_14 rfl (lv_at hl 0 rfl) ?_
      refine m_get (pc := 15) X hW 49 (v := .int (st1.1 0 49)) wd1415 rfl rfl d191_15 ?_
      refine lv_icmp_ge (pc := 18) (tgt := 29) hx hb d191_18 (by decide) (fun c18 => ?_) (fun c18 => ?_)
      · have h := jb_t c18 h
        refine lv_iconst (pc := 29) (v := (-1)) hx hb d191_29 (by decide) ?_
        obtain rfl := Option.some.inj h
        exact m_iret (pc := 30) hx hb hr hlk hS ⟨rfl, hW⟩ (by decide) (by decide) d191_30
      · have h := jb_f c18 h
        refine lv_iload_n (pc := 21) hx hb d191_21 rfl (lv_at hl 2 rfl) ?_
        refine lv_aload_n (pc := 22) hx hb d191_22 rfl (lv_at hl 0 rfl) ?_
        refine m_get (pc := 23) X hW 50 (v := .int (st1.1 0 50)) wd1416 rfl rfl d191_23 ?_
        refine lv_icmp_lt (pc := 26) (tgt := 31) hx hb d191_26 (by decide) (fun c26 => ?_) (fun c26 => ?_)
        · have h := jb_t c26 h
          refine lv_aload_n (pc := 31) hx hb d191_31 rfl (lv_at hl 0 rfl) ?_
          refine m_get (pc := 32) X hW 36 (v := .int (st1.1 0 36)) wd1402 rfl rfl d191_32 ?_
          refine lv_if_lt (pc := 35) (tgt := 50) hx hb d191_35 (by decide) (fun c35 => ?_) (fun c35 => ?_)
          · have h := jb_t c35 h
            refine lv_aload_n (pc := 50) hx hb d191_50 rfl (lv_at hl 0 rfl) ?_
            refine m_get (pc := 51) X hW 32 (v := .int (st1.1 0 32)) wd1398 rfl rfl d191_51 ?_
            obtain rfl := Option.some.inj h
            exact m_iret (pc := 54) hx hb hr hlk hS ⟨rfl, hW⟩ (by decide) (by decide) d191_54
          · have h := jb_f c35 h
            refine lv_aload_n (pc := 38) hx hb d191_38 rfl (lv_at hl 0 rfl) ?_
            refine lv_iload_n (pc := 39) hx hb d191_39 rfl (lv_at hl 1 rfl) ?_
            refine lv_aload_n (pc := 40) hx hb d191_40 rfl (lv_at hl 0 rfl) ?_
            refine m_get (pc := 41) X hW 50 (v := .int (st1.1 0 50)) wd1416 rfl rfl d191_41 ?_
            refine lv_imul (pc := 44) hx hb d191_44 ?_
            refine lv_iload_n (pc := 45) hx hb d191_45 rfl (lv_at hl 2 rfl) ?_
            refine lv_iadd (pc := 46) hx hb d191_46 ?_
            obtain ⟨q2, hq2, h⟩ := jc_some h
            refine k_callV (pc := 47) (n := 1) X hS (c_mo_tellKept l ρ ad _ st1 ((p0 * (st1.1 0 50)) + p1) q2 hW hq2) wd1983 wd1980 wd1982 sl225 wd11 (by decide) ⟨rfl, rfl, by decide, by decide⟩ (m_recv X hW) (As := [.int ((p0 * (st1.1 0 50)) + p1)]) (rest := []) rfl rfl hl.1 (Nat.le_of_ble_eq_true rfl) d191_47 ⟨by decide, by decide⟩ (fun q hq => MA.mono hS.1 hq) (fun v H1 locs1 hv _ _ hSq2 => ?_)
            obtain ⟨rfl, hW⟩ := hv
            have hS := hSq2
            refine lv_aload_n (pc := 50) hx hb d191_50 rfl (lv_at hl 0 rfl) ?_
            refine m_get (pc := 51) X hW 32 (v := .int (q2.1 0 32)) wd1398 rfl rfl d191_51 ?_
            obtain rfl := Option.some.inj h
            exact m_iret (pc := 54) hx hb hr hlk hS ⟨rfl, hW⟩ (by decide) (by decide) d191_54
        · have h := jb_f c26 h
          refine lv_iconst (pc := 29) (v := (-1)) hx hb d191_29 (by decide) ?_
          obtain rfl := Option.some.inj h
          exact m_iret (pc := 30) hx hb hr hlk hS ⟨rfl, hW⟩ (by decide) (by decide) d191_30
def mo_placeOf_38  (st : GS)  : Option (Int32) := some (-1)
def f_mo_placeOf (st : GS) (p0 : Int32) : Option (Int32) := jb ((st.1 0 7) = 0) (mo_placeOf_38  st) (jb (p0 < 0) (mo_placeOf_38  st) (jg (inb ((st.1 0 7) - 1) 30) (jg (inb ((st.1 0 7) - 1) 30) (jb (p0 < ((st.1 4 ((st.1 0 7) - 1).toNatClampNeg) * (st.1 5 ((st.1 0 7) - 1).toNatClampNeg))) (jg (inb ((st.1 0 7) - 1) 30) (some ((st.1 6 ((st.1 0 7) - 1).toNatClampNeg) + p0))) (mo_placeOf_38  st)))))
set_option maxHeartbeats 4000000 in
set_option maxRecDepth 100000 in
theorem c_mo_placeOf (l : Launch) (ρ : RH) (ad : Nat → Nat) (H : Heap) (st : GS) (p0 : Int32) (res : Int32) (hW : GW ρ wM ad st H) (h : f_mo_placeOf st p0 = some res) : Met l y206 (wsOf y206 b206 2 (some .int)) ({ frames := 0, cells := 0, slots := 0, locals := 0 } : Room) (va_Pc [.ref (ad 0), .int p0] (KP ρ H)) (mQ (fun v H1 => v = some (.int res) ∧ H1 = H) (fun _ => False)) 0 0 (fun _ => False) := by
  refine m_ofW (own := "WordFunctionsModel") (plainFor_of_name rfl) rfl (Nat.le_of_ble_eq_true rfl) fun p e s m args below meth c ls hx hb hr hlk _ X hs hl => ?_
  subst hs
  have hS : va_S (fun _ => False) s.heap s.heap [] := va_S.rf
  have hl : lv_has ls 2 [(0, .ref (ad 0)), (1, .int p0)] := hl
  have kc38 : ∀  (locs : List Loc) (ls : Array Slot), va_S (fun _ => False) s.heap s.heap locs → lv_has ls 2 [] → mo_placeOf_38 st = some res → W p l e ({ frames := 0, cells := 0, slots := 0, locals := 0 } : Room) s m args below meth c s.heap locs 0 0 (MQ below (mQ (fun v H1 => v = some (.int res) ∧ H1 = s.heap) (fun _ => False)) args s 0 0 (fun _ => False)) (F0 m 38 ls []) := by
    intro  locs ls hS hl h
    unfold mo_placeOf_38 at h
    refine lv_iconst (pc := 38) (v := (-1)) hx hb d206_38 (by decide) ?_
    refine lv_goto (pc := 39) (tgt := 55) hx hb d206_39 (by decide) ?_
    obtain rfl := Option.some.inj h
    exact m_iret (pc := 55) hx hb hr hlk hS ⟨rfl, rfl⟩ (by decide) (by decide) d206_55
  unfold f_mo_placeOf at h
  refine lv_aload_n (pc := 0) hx hb d206_0 rfl (lv_at hl 0 rfl) ?_
  refine m_get (pc := 1) X hW 7 (v := .int (st.1 0 7)) wd1373 rfl rfl d206_1 ?_
  refine lv_if_eq (pc := 4) (tgt := 38) hx hb d206_4 (by decide) (fun c4 => ?_) (fun c4 => ?_)
  · have h := jb_t c4 h
    exact kc38   _ _ hS (lv_sub hl [] rfl) h
  · have h := jb_f c4 h
    refine lv_iload_n (pc := 7) hx hb d206_7 rfl (lv_at hl 1 rfl) ?_
    refine lv_if_lt (pc := 8) (tgt := 38) hx hb d206_8 (by decide) (fun c8 => ?_) (fun c8 => ?_)
    · have h := jb_t c8 h
      exact kc38   _ _ hS (lv_sub hl [] rfl) h
    · have h := jb_f c8 h
      refine lv_iload_n (pc := 11) hx hb d206_11 rfl (lv_at hl 1 rfl) ?_
      refine lv_aload_n (pc := 12) hx hb d206_12 rfl (lv_at hl 0 rfl) ?_
      refine m_get (pc := 13) X hW 9 (v := .ref (ad 4)) wd1375 rfl rfl d206_13 ?_
      refine lv_aload_n (pc := 16) hx hb d206_16 rfl (lv_at hl 0 rfl) ?_
      refine m_get (pc := 17) X hW 7 (v := .int (st.1 0 7)) wd1373 rfl rfl d206_17 ?_
      refine lv_iconst (pc := 20) (v := 1) hx hb d206_20 (by decide) ?_
      refine lv_isub (pc := 21) hx hb d206_21 ?_
      obtain ⟨g1, h⟩ := jg_some h
      refine r_iald (pc := 22) X hW 4 (by decide) rfl (inb_in g1) d206_22 ?_
      refine lv_aload_n (pc := 23) hx hb d206_23 rfl (lv_at hl 0 rfl) ?_
      refine m_get (pc := 24) X hW 10 (v := .ref (ad 5)) wd1376 rfl rfl d206_24 ?_
      refine lv_aload_n (pc := 27) hx hb d206_27 rfl (lv_at hl 0 rfl) ?_
      refine m_get (pc := 28) X hW 7 (v := .int (st.1 0 7)) wd1373 rfl rfl d206_28 ?_
      refine lv_iconst (pc := 31) (v := 1) hx hb d206_31 (by decide) ?_
      refine lv_isub (pc := 32) hx hb d206_32 ?_
      obtain ⟨g2, h⟩ := jg_some h
      refine r_iald (pc := 33) X hW 5 (by decide) rfl (inb_in g2) d206_33 ?_
      refine lv_imul (pc := 34) hx hb d206_34 ?_
      refine lv_icmp_lt (pc := 35) (tgt := 42) hx hb d206_35 (by decide) (fun c35 => ?_) (fun c35 => ?_)
      · have h := jb_t c35 h
        refine lv_aload_n (pc := 42) hx hb d206_42 rfl (lv_at hl 0 rfl) ?_
        refine m_get (pc := 43) X hW 11 (v := .ref (ad 6)) wd1377 rfl rfl d206_43 ?_
        refine lv_aload_n (pc := 46) hx hb d206_46 rfl (lv_at hl 0 rfl) ?_
        refine m_get (pc := 47) X hW 7 (v := .int (st.1 0 7)) wd1373 rfl rfl d206_47 ?_
        refine lv_iconst (pc := 50) (v := 1) hx hb d206_50 (by decide) ?_
        refine lv_isub (pc := 51) hx hb d206_51 ?_
        obtain ⟨g3, h⟩ := jg_some h
        refine r_iald (pc := 52) X hW 6 (by decide) rfl (inb_in g3) d206_52 ?_
        refine lv_iload_n (pc := 53) hx hb d206_53 rfl (lv_at hl 1 rfl) ?_
        refine lv_iadd (pc := 54) hx hb d206_54 ?_
        obtain rfl := Option.some.inj h
        exact m_iret (pc := 55) hx hb hr hlk hS ⟨rfl, rfl⟩ (by decide) (by decide) d206_55
      · have h := jb_f c35 h
        exact kc38   _ _ hS (lv_sub hl [] rfl) h
def mo_put_131  (st : GS) (z1 : Int32) (z2 : UInt64) : Option (Int32 × GS) := jg (inb z1 513) (jn (uD st 12 z1.toNatClampNeg z2) (fun st2 => some (1, st2)))
def mo_put_52  (st : GS) (x2 : Int32) (x3 : UInt64) (x5 : Int32) (z0 : Int32) : Option (Int32 × GS) := jb (x5 < 0) (some (0, st)) (jb (z0 = 0) (some (0, st)) (jg (inb x5 513) (jn (uI st 9 x5.toNatClampNeg x2) (fun st4 => jb (x2 = 1) (jb ((Op.cmpValue (FP.dcmp x3 FP.dconst0) .l) = 0) (mo_put_131  st4 x5 FP.dconst0) (mo_put_131  st4 x5 x3)) (jb (x2 = 3) (jb ((Op.cmpValue (FP.dcmp x3 FP.dconst0) .l) = 0) (mo_put_131  st4 x5 FP.dconst0) (mo_put_131  st4 x5 FP.dconst1)) (jb (x2 = 4) (jc (f_mo_errorOf x3) (fun q5 => mo_put_131  st4 x5 q5)) (mo_put_131  st4 x5 FP.dconst0)))))))
def mo_put_51  (st : GS) (x2 : Int32) (x3 : UInt64) (x5 : Int32) : Option (Int32 × GS) := mo_put_52  st x2 x3 x5 0
def mo_put_47  (st : GS) (x2 : Int32) (x3 : UInt64) (x5 : Int32) : Option (Int32 × GS) := mo_put_52  st x2 x3 x5 1
def f_mo_put (st : GS) (p0 : Int32) (p1 : Int32) (p2 : UInt64) : Option (Int32 × GS) := jn (uI st 0 0 0) (fun st6 => jc (f_mo_placeOf st6 p0) (fun q7 => jb (p1 = 0) (mo_put_47  st6 p1 p2 q7) (jb (p1 = 3) (mo_put_47  st6 p1 p2 q7) (jb (p1 = 4) (mo_put_47  st6 p1 p2 q7) (jb (p1 = 1) (jb (0 ≤ (Op.cmpValue (FP.dcmp p2 (9094988921128908188 : UInt64)) .g)) (mo_put_51  st6 p1 p2 q7) (jb ((Op.cmpValue (FP.dcmp p2 (18318360957983683996 : UInt64)) .l) ≤ 0) (mo_put_51  st6 p1 p2 q7) (mo_put_47  st6 p1 p2 q7))) (mo_put_51  st6 p1 p2 q7))))))
set_option maxHeartbeats 4000000 in
set_option maxRecDepth 100000 in
theorem c_mo_put (l : Launch) (ρ : RH) (ad : Nat → Nat) (H : Heap) (st : GS) (p0 : Int32) (p1 : Int32) (p2 : UInt64) (res : Int32 × GS) (hW : GW ρ wM ad st H) (h : f_mo_put st p0 p1 p2 = some res) : Met l y207 (wsOf y207 b207 7 (some .boolean)) ({ frames := 1, cells := 0, slots := 0, locals := 24 } : Room) (va_Pc [.ref (ad 0), .int p0, .int p1, .double p2] (KP ρ H)) (mQ (fun v H1 => v = some (.int res.1) ∧ GW ρ wM ad res.2 H1) (MA wM ad H.size)) 0 0 (MA wM ad H.size) := by
  refine m_ofW (own := "WordFunctionsModel") (plainFor_of_name rfl) rfl (Nat.le_of_ble_eq_true rfl) fun p e s m args below meth c ls hx hb hr hlk _ X hs hl => ?_
  subst hs
  have hS : va_S (MA wM ad s.heap.size) s.heap s.heap [] := va_S.rf
  have hl : lv_has ls 7 [(0, .ref (ad 0)), (1, .int p0), (2, .int p1), (3, .double p2)] := hl
  have kc131 : ∀ (st : GS) (z1 : Int32) (z2 : UInt64) (H : Heap) (locs : List Loc) (ls : Array Slot), GW ρ wM ad st H → va_S (MA wM ad s.heap.size) s.heap H locs → lv_has ls 7 [] → mo_put_131 st z1 z2 = some res → W p l e ({ frames := 1, cells := 0, slots := 0, locals := 24 } : Room) s m args below meth c H locs 0 0 (MQ below (mQ (fun v H1 => v = some (.int res.1) ∧ GW ρ wM ad res.2 H1) (MA wM ad s.heap.size)) args s 0 0 (MA wM ad s.heap.size)) (F0 m 131 ls [.double z2, .int z1, .ref (ad 12)]) := by
    intro st z1 z2 H locs ls hW hS hl h
    unfold mo_put_131 at h
    obtain ⟨g1, h⟩ := jg_some h
    obtain ⟨st2, est2, h⟩ := jn_ex h
    refine m_dast (pc := 131) X hW hS 12 (by decide) rfl g1 est2 d207_131 (fun H locs hW hS => ?_)
    refine lv_iconst (pc := 132) (v := 1) hx hb d207_132 (by decide) ?_
    obtain rfl := Option.some.inj h
    exact m_zret (pc := 133) hx hb hr hlk hS ⟨rfl, hW⟩ (by decide) (by decide) d207_133 (by decide)
  have kc52 : ∀ (st : GS) (x2 : Int32) (x3 : UInt64) (x5 : Int32) (z0 : Int32) (H : Heap) (locs : List Loc) (ls : Array Slot), GW ρ wM ad st H → va_S (MA wM ad s.heap.size) s.heap H locs → lv_has ls 7 [(0, .ref (ad 0)), (2, .int x2), (3, .double x3), (5, .int x5)] → mo_put_52 st x2 x3 x5 z0 = some res → W p l e ({ frames := 1, cells := 0, slots := 0, locals := 24 } : Room) s m args below meth c H locs 0 0 (MQ below (mQ (fun v H1 => v = some (.int res.1) ∧ GW ρ wM ad res.2 H1) (MA wM ad s.heap.size)) args s 0 0 (MA wM ad s.heap.size)) (F0 m 52 ls [.int z0]) := by
    intro st x2 x3 x5 z0 H locs ls hW hS hl h
    unfold mo_put_52 at h
    refine lv_istore (pc := 52) (lv' := [(6, .int z0), (0, .ref (ad 0)), (2, .int x2), (3, .double x3), (5, .int x5)]) hx hb d207_52 hl (by decide) rfl (fun ls hl => ?_)
    refine lv_iload (pc := 54) hx hb d207_54 (lv_at hl 4 rfl) ?_
    refine lv_if_lt (pc := 56) (tgt := 64) hx hb d207_56 (by decide) (fun c56 => ?_) (fun c56 => ?_)
    · have h := jb_t c56 h
      refine lv_iconst (pc := 64) (v := 0) hx hb d207_64 (by decide) ?_
      obtain rfl := Option.some.inj h
      exact m_zret (pc := 65) hx hb hr hlk hS ⟨rfl, hW⟩ (by decide) (by decide) d207_65 (by decide)
    · have h := jb_f c56 h
      refine lv_iload (pc := 59) hx hb d207_59 (lv_at hl 0 rfl) ?_
      refine lv_if_ne (pc := 61) (tgt := 66) hx hb d207_61 (by decide) (fun c61 => ?_) (fun c61 => ?_)
      · have h := jb_f c61 h
        refine lv_aload_n (pc := 66) hx hb d207_66 rfl (lv_at hl 1 rfl) ?_
        refine m_get (pc := 67) X hW 14 (v := .ref (ad 9)) wd1380 rfl rfl d207_67 ?_
        refine lv_iload (pc := 70) hx hb d207_70 (lv_at hl 4 rfl) ?_
        refine lv_iload_n (pc := 72) hx hb d207_72 rfl (lv_at hl 2 rfl) ?_
        obtain ⟨g3, h⟩ := jg_some h
        obtain ⟨st4, est4, h⟩ := jn_ex h
        refine m_iast (pc := 73) X hW hS 9 (by decide) rfl g3 est4 d207_73 (fun H locs hW hS => ?_)
        refine lv_aload_n (pc := 74) hx hb d207_74 rfl (lv_at hl 1 rfl) ?_
        refine m_get (pc := 75) X hW 17 (v := .ref (ad 12)) wd1383 rfl rfl d207_75 ?_
        refine lv_iload (pc := 78) hx hb d207_78 (lv_at hl 4 rfl) ?_
        refine lv_iload_n (pc := 80) hx hb d207_80 rfl (lv_at hl 2 rfl) ?_
        refine lv_iconst (pc := 81) (v := 1) hx hb d207_81 (by decide) ?_
        refine lv_icmp_ne (pc := 82) (tgt := 99) hx hb d207_82 (by decide) (fun c82 => ?_) (fun c82 => ?_)
        · have h := jb_f c82 h
          refine lv_iload_n (pc := 99) hx hb d207_99 rfl (lv_at hl 2 rfl) ?_
          refine lv_iconst (pc := 100) (v := 3) hx hb d207_100 (by decide) ?_
          refine lv_icmp_ne (pc := 101) (tgt := 118) hx hb d207_101 (by decide) (fun c101 => ?_) (fun c101 => ?_)
          · have h := jb_f c101 h
            refine lv_iload_n (pc := 118) hx hb d207_118 rfl (lv_at hl 2 rfl) ?_
            refine lv_iconst (pc := 119) (v := 4) hx hb d207_119 (by decide) ?_
            refine lv_icmp_ne (pc := 120) (tgt := 130) hx hb d207_120 (by decide) (fun c120 => ?_) (fun c120 => ?_)
            · have h := jb_f c120 h
              refine lv_dconst0 (pc := 130) hx hb d207_130 ?_
              exact kc131  st4 x5 FP.dconst0 _ _ _ hW hS (lv_sub hl [] rfl) h
            · have h := jb_t c120 h
              refine lv_dload_n (pc := 123) hx hb d207_123 rfl (lv_at hl 3 rfl) ?_
              obtain ⟨q5, hq5, h⟩ := jc_some h
              refine k_callS (pc := 124) (n := 1) X hS (c_mo_errorOf l ρ _ x3 q5 hq5) wd1577 wd1575 wd1576 wd11 (by decide) ⟨rfl, rfl, by decide, by decide⟩ (As := [.double x3]) (rest := [.int x5, .ref (ad 12)]) rfl rfl hl.1 (Nat.le_of_ble_eq_true rfl) d207_124 ⟨by decide, by decide⟩ (fun q hq => False.elim hq) (fun v H1 locs1 hv _ _ hSq5 => ?_)
              obtain ⟨rfl, rfl⟩ := hv
              have hS := hSq5
              refine lv_goto (pc := 127) (tgt := 131) hx hb d207_127 (by decide) ?_
              exact kc131  st4 x5 q5 _ _ _ hW hS (lv_sub hl [] rfl) h
          · have h := jb_t c101 h
            refine lv_dload_n (pc := 104) hx hb d207_104 rfl (lv_at hl 3 rfl) ?_
            refine lv_dconst0 (pc := 105) hx hb d207_105 ?_
            refine lv_dcmp (pc := 106) hx hb d207_106 ?_
            refine lv_if_ne (pc := 107) (tgt := 114) hx hb d207_107 (by decide) (fun c107 => ?_) (fun c107 => ?_)
            · have h := jb_f c107 h
              refine lv_dconst1 (pc := 114) hx hb d207_114 ?_
              refine lv_goto (pc := 115) (tgt := 131) hx hb d207_115 (by decide) ?_
              exact kc131  st4 x5 FP.dconst1 _ _ _ hW hS (lv_sub hl [] rfl) h
            · have h := jb_t c107 h
              refine lv_dconst0 (pc := 110) hx hb d207_110 ?_
              refine lv_goto (pc := 111) (tgt := 131) hx hb d207_111 (by decide) ?_
              exact kc131  st4 x5 FP.dconst0 _ _ _ hW hS (lv_sub hl [] rfl) h
        · have h := jb_t c82 h
          refine lv_dload_n (pc := 85) hx hb d207_85 rfl (lv_at hl 3 rfl) ?_
          refine lv_dconst0 (pc := 86) hx hb d207_86 ?_
          refine lv_dcmp (pc := 87) hx hb d207_87 ?_
          refine lv_if_ne (pc := 88) (tgt := 95) hx hb d207_88 (by decide) (fun c88 => ?_) (fun c88 => ?_)
          · have h := jb_f c88 h
            refine lv_dload_n (pc := 95) hx hb d207_95 rfl (lv_at hl 3 rfl) ?_
            refine lv_goto (pc := 96) (tgt := 131) hx hb d207_96 (by decide) ?_
            exact kc131  st4 x5 x3 _ _ _ hW hS (lv_sub hl [] rfl) h
          · have h := jb_t c88 h
            refine lv_dconst0 (pc := 91) hx hb d207_91 ?_
            refine lv_goto (pc := 92) (tgt := 131) hx hb d207_92 (by decide) ?_
            exact kc131  st4 x5 FP.dconst0 _ _ _ hW hS (lv_sub hl [] rfl) h
      · have h := jb_t c61 h
        refine lv_iconst (pc := 64) (v := 0) hx hb d207_64 (by decide) ?_
        obtain rfl := Option.some.inj h
        exact m_zret (pc := 65) hx hb hr hlk hS ⟨rfl, hW⟩ (by decide) (by decide) d207_65 (by decide)
  have kc51 : ∀ (st : GS) (x2 : Int32) (x3 : UInt64) (x5 : Int32) (H : Heap) (locs : List Loc) (ls : Array Slot), GW ρ wM ad st H → va_S (MA wM ad s.heap.size) s.heap H locs → lv_has ls 7 [(0, .ref (ad 0)), (2, .int x2), (3, .double x3), (5, .int x5)] → mo_put_51 st x2 x3 x5 = some res → W p l e ({ frames := 1, cells := 0, slots := 0, locals := 24 } : Room) s m args below meth c H locs 0 0 (MQ below (mQ (fun v H1 => v = some (.int res.1) ∧ GW ρ wM ad res.2 H1) (MA wM ad s.heap.size)) args s 0 0 (MA wM ad s.heap.size)) (F0 m 51 ls []) := by
    intro st x2 x3 x5 H locs ls hW hS hl h
    unfold mo_put_51 at h
    refine lv_iconst (pc := 51) (v := 0) hx hb d207_51 (by decide) ?_
    exact kc52  st x2 x3 x5 0 _ _ _ hW hS (lv_sub hl [0, 1, 2, 3] rfl) h
  have kc47 : ∀ (st : GS) (x2 : Int32) (x3 : UInt64) (x5 : Int32) (H : Heap) (locs : List Loc) (ls : Array Slot), GW ρ wM ad st H → va_S (MA wM ad s.heap.size) s.heap H locs → lv_has ls 7 [(0, .ref (ad 0)), (2, .int x2), (3, .double x3), (5, .int x5)] → mo_put_47 st x2 x3 x5 = some res → W p l e ({ frames := 1, cells := 0, slots := 0, locals := 24 } : Room) s m args below meth c H locs 0 0 (MQ below (mQ (fun v H1 => v = some (.int res.1) ∧ GW ρ wM ad res.2 H1) (MA wM ad s.heap.size)) args s 0 0 (MA wM ad s.heap.size)) (F0 m 47 ls []) := by
    intro st x2 x3 x5 H locs ls hW hS hl h
    unfold mo_put_47 at h
    refine lv_iconst (pc := 47) (v := 1) hx hb d207_47 (by decide) ?_
    refine lv_goto (pc := 48) (tgt := 52) hx hb d207_48 (by decide) ?_
    exact kc52  st x2 x3 x5 1 _ _ _ hW hS (lv_sub hl [0, 1, 2, 3] rfl) h
  unfold f_mo_put at h
  refine lv_aload_n (pc := 0) hx hb d207_0 rfl (lv_at hl 0 rfl) ?_
  refine lv_iconst (pc := 1) (v := 0) hx hb d207_1 (by decide) ?_
  obtain ⟨st6, est6, h⟩ := jn_ex h
  refine m_putI (pc := 2) X hW hS 0 est6 wd1366 rfl rfl rfl rfl rfl d207_2 (fun H locs hW hS => ?_)
  refine lv_aload_n (pc := 5) hx hb d207_5 rfl (lv_at hl 0 rfl) ?_
  refine lv_iload_n (pc := 6) hx hb d207_6 rfl (lv_at hl 1 rfl) ?_
  obtain ⟨q7, hq7, h⟩ := jc_some h
  refine k_callV (pc := 7) (n := 1) X hS (c_mo_placeOf l ρ ad _ st6 p0 q7 hW hq7) wd1572 wd1569 wd1571 sl206 wd11 (by decide) ⟨rfl, rfl, by decide, by decide⟩ (m_recv X hW) (As := [.int p0]) (rest := []) rfl rfl hl.1 (Nat.le_of_ble_eq_true rfl) d207_7 ⟨by decide, by decide⟩ (fun q hq => False.elim hq) (fun v H1 locs1 hv _ _ hSq7 => ?_)
  obtain ⟨rfl, rfl⟩ := hv
  have hS := hSq7
  refine lv_istore (pc := 10) (lv' := [(5, .int q7), (0, .ref (ad 0)), (1, .int p0), (2, .int p1), (3, .double p2)]) hx hb d207_10 hl (by decide) rfl (fun ls hl => ?_)
  refine lv_iload_n (pc := 12) hx hb d207_12 rfl (lv_at hl 3 rfl) ?_
  refine lv_if_eq (pc := 13) (tgt := 47) hx hb d207_13 (by decide) (fun c13 => ?_) (fun c13 => ?_)
  · have h := jb_t c13 h
    exact kc47  st6 p1 p2 q7 _ _ _ hW hS (lv_sub hl [1, 3, 4, 0] rfl) h
  · have h := jb_f c13 h
    refine lv_iload_n (pc := 16) hx hb d207_16 rfl (lv_at hl 3 rfl) ?_
    refine lv_iconst (pc := 17) (v := 3) hx hb d207_17 (by decide) ?_
    refine lv_icmp_eq (pc := 18) (tgt := 47) hx hb d207_18 (by decide) (fun c18 => ?_) (fun c18 => ?_)
    · have h := jb_t c18 h
      exact kc47  st6 p1 p2 q7 _ _ _ hW hS (lv_sub hl [1, 3, 4, 0] rfl) h
    · have h := jb_f c18 h
      refine lv_iload_n (pc := 21) hx hb d207_21 rfl (lv_at hl 3 rfl) ?_
      refine lv_iconst (pc := 22) (v := 4) hx hb d207_22 (by decide) ?_
      refine lv_icmp_eq (pc := 23) (tgt := 47) hx hb d207_23 (by decide) (fun c23 => ?_) (fun c23 => ?_)
      · have h := jb_t c23 h
        exact kc47  st6 p1 p2 q7 _ _ _ hW hS (lv_sub hl [1, 3, 4, 0] rfl) h
      · have h := jb_f c23 h
        refine lv_iload_n (pc := 26) hx hb d207_26 rfl (lv_at hl 3 rfl) ?_
        refine lv_iconst (pc := 27) (v := 1) hx hb d207_27 (by decide) ?_
        refine lv_icmp_ne (pc := 28) (tgt := 51) hx hb d207_28 (by decide) (fun c28 => ?_) (fun c28 => ?_)
        · have h := jb_f c28 h
          exact kc51  st6 p1 p2 q7 _ _ _ hW hS (lv_sub hl [1, 3, 4, 0] rfl) h
        · have h := jb_t c28 h
          refine lv_dload_n (pc := 31) hx hb d207_31 rfl (lv_at hl 4 rfl) ?_
          refine lv_ldc2d (pc := 32) hx hb X.1.2.2.2.1 (X.ts wd1573) d207_32 ?_
          refine lv_dcmp (pc := 35) hx hb d207_35 ?_
          refine lv_if_ge (pc := 36) (tgt := 51) hx hb d207_36 (by decide) (fun c36 => ?_) (fun c36 => ?_)
          · have h := jb_t c36 h
            exact kc51  st6 p1 p2 q7 _ _ _ hW hS (lv_sub hl [1, 3, 4, 0] rfl) h
          · have h := jb_f c36 h
            refine lv_dload_n (pc := 39) hx hb d207_39 rfl (lv_at hl 4 rfl) ?_
            refine lv_ldc2d (pc := 40) hx hb X.1.2.2.2.1 (X.ts wd1574) d207_40 ?_
            refine lv_dcmp (pc := 43) hx hb d207_43 ?_
            refine lv_if_le (pc := 44) (tgt := 51) hx hb d207_44 (by decide) (fun c44 => ?_) (fun c44 => ?_)
            · have h := jb_t c44 h
              exact kc51  st6 p1 p2 q7 _ _ _ hW hS (lv_sub hl [1, 3, 4, 0] rfl) h
            · have h := jb_f c44 h
              exact kc47  st6 p1 p2 q7 _ _ _ hW hS (lv_sub hl [1, 3, 4, 0] rfl) h
def mo_putText_53  : Nat → GS → Int32 → Option (Int32 × GS)
  | 0, _, _ => none
  | fu + 1, st, x3 => jb ((st.1 0 2) ≤ x3) (jn (uI st 0 3 ((st.1 0 3) + (st.1 0 2))) (fun st1 => some (1, st1))) (jg (inb x3 256) (jg (inb ((st.1 0 3) + x3) 140000) (jn (uI st 3 ((st.1 0 3) + x3).toNatClampNeg (st.1 2 x3.toNatClampNeg)) (fun st4 => jn (x3 + 1) (fun v5 => mo_putText_53 fu st4 v5)))))
def f_mo_putText (st : GS) (p0 : Int32) : Option (Int32 × GS) := jn (uI st 0 0 0) (fun st6 => jc (f_mo_placeOf st6 p0) (fun q7 => jb (0 ≤ q7) (jg (inb q7 513) (jn (uI st6 9 q7.toNatClampNeg 2) (fun st9 => jg (inb q7 513) (jn (uD st9 12 q7.toNatClampNeg FP.dconst0) (fun st11 => jg (inb q7 513) (jn (uI st11 10 q7.toNatClampNeg (st11.1 0 3)) (fun st13 => jg (inb q7 513) (jn (uI st13 11 q7.toNatClampNeg (st13.1 0 2)) (fun st15 => mo_putText_53 FU st15 0))))))))) (some (0, st6))))
set_option maxHeartbeats 4000000 in
set_option maxRecDepth 100000 in
theorem c_mo_putText (l : Launch) (ρ : RH) (ad : Nat → Nat) (H : Heap) (st : GS) (p0 : Int32) (res : Int32 × GS) (hW : GW ρ wM ad st H) (h : f_mo_putText st p0 = some res) : Met l y209 (wsOf y209 b209 4 (some .boolean)) ({ frames := 1, cells := 0, slots := 0, locals := 21 } : Room) (va_Pc [.ref (ad 0), .int p0] (KP ρ H)) (mQ (fun v H1 => v = some (.int res.1) ∧ GW ρ wM ad res.2 H1) (MA wM ad H.size)) 0 0 (MA wM ad H.size) := by
  refine m_ofW (own := "WordFunctionsModel") (plainFor_of_name rfl) rfl (Nat.le_of_ble_eq_true rfl) fun p e s m args below meth c ls hx hb hr hlk _ X hs hl => ?_
  subst hs
  have hS : va_S (MA wM ad s.heap.size) s.heap s.heap [] := va_S.rf
  have hl : lv_has ls 4 [(0, .ref (ad 0)), (1, .int p0)] := hl
  have kc53 : ∀ (fu : Nat), ∀ (st : GS) (x3 : Int32) (H : Heap) (locs : List Loc) (ls : Array Slot), GW ρ wM ad st H → va_S (MA wM ad s.heap.size) s.heap H locs → lv_has ls 4 [(0, .ref (ad 0)), (3, .int x3)] → mo_putText_53 fu st x3 = some res → W p l e ({ frames := 1, cells := 0, slots := 0, locals := 21 } : Room) s m args below meth c H locs 0 0 (MQ below (mQ (fun v H1 => v = some (.int res.1) ∧ GW ρ wM ad res.2 H1) (MA wM ad s.heap.size)) args s 0 0 (MA wM ad s.heap.size)) (F0 m 53 ls []) := by
    intro  fu
    induction fu with
    | zero => intro st x3 H locs ls hW hS hl h; cases h
    | succ fu hK53 =>
      intro st x3 H locs ls hW hS hl h
      unfold mo_putText_53 at h
      refine lv_iload_n (pc := 53) hx hb d209_53 rfl (lv_at hl 1 rfl) ?_
      refine lv_aload_n (pc := 54) hx hb d209_54 rfl (lv_at hl 0 rfl) ?_
      refine m_get (pc := 55) X hW 2 (v := .int (st.1 0 2)) wd1368 rfl rfl d209_55 ?_
      refine lv_icmp_ge (pc := 58) (tgt := 84) hx hb d209_58 (by decide) (fun c58 => ?_) (fun c58 => ?_)
      · have h := jb_t c58 h
        refine lv_aload_n (pc := 84) hx hb d209_84 rfl (lv_at hl 0 rfl) ?_
        refine lv_dup (pc := 85) hx hb d209_85 rfl ?_
        refine m_get (pc := 86) X hW 3 (v := .int (st.1 0 3)) wd1369 rfl rfl d209_86 ?_
        refine lv_aload_n (pc := 89) hx hb d209_89 rfl (lv_at hl 0 rfl) ?_
        refine m_get (pc := 90) X hW 2 (v := .int (st.1 0 2)) wd1368 rfl rfl d209_90 ?_
        refine lv_iadd (pc := 93) hx hb d209_93 ?_
        obtain ⟨st1, est1, h⟩ := jn_ex h
        refine m_putI (pc := 94) X hW hS 3 est1 wd1369 rfl rfl rfl rfl rfl d209_94 (fun H locs hW hS => ?_)
        refine lv_iconst (pc := 97) (v := 1) hx hb d209_97 (by decide) ?_
        obtain rfl := Option.some.inj h
        exact m_zret (pc := 98) hx hb hr hlk hS ⟨rfl, hW⟩ (by decide) (by decide) d209_98 (by decide)
      · have h := jb_f c58 h
        refine lv_aload_n (pc := 61) hx hb d209_61 rfl (lv_at hl 0 rfl) ?_
        refine m_get (pc := 62) X hW 6 (v := .ref (ad 3)) wd1372 rfl rfl d209_62 ?_
        refine lv_aload_n (pc := 65) hx hb d209_65 rfl (lv_at hl 0 rfl) ?_
        refine m_get (pc := 66) X hW 3 (v := .int (st.1 0 3)) wd1369 rfl rfl d209_66 ?_
        refine lv_iload_n (pc := 69) hx hb d209_69 rfl (lv_at hl 1 rfl) ?_
        refine lv_iadd (pc := 70) hx hb d209_70 ?_
        refine lv_aload_n (pc := 71) hx hb d209_71 rfl (lv_at hl 0 rfl) ?_
        refine m_get (pc := 72) X hW 5 (v := .ref (ad 2)) wd1371 rfl rfl d209_72 ?_
        refine lv_iload_n (pc := 75) hx hb d209_75 rfl (lv_at hl 1 rfl) ?_
        obtain ⟨g2, h⟩ := jg_some h
        refine r_iald (pc := 76) X hW 2 (by decide) rfl (inb_in g2) d209_76 ?_
        obtain ⟨g3, h⟩ := jg_some h
        obtain ⟨st4, est4, h⟩ := jn_ex h
        refine m_iast (pc := 77) X hW hS 3 (by decide) rfl g3 est4 d209_77 (fun H locs hW hS => ?_)
        obtain ⟨v5, ev5, h⟩ := jn_ex h
        refine lv_iinc (pc := 78) (v := v5) (lv' := [(3, .int v5), (0, .ref (ad 0))]) hx hb d209_78 hl (k := 1) rfl (by rw [ev5]; rfl) (by decide) rfl (fun ls hl => ?_)
        refine lv_goto (pc := 81) (tgt := 53) hx hb d209_81 (by decide) ?_
        exact hK53 st4 v5 _ _ _ hW hS (lv_sub hl [1, 0] rfl) h
  unfold f_mo_putText at h
  refine lv_aload_n (pc := 0) hx hb d209_0 rfl (lv_at hl 0 rfl) ?_
  refine lv_iconst (pc := 1) (v := 0) hx hb d209_1 (by decide) ?_
  obtain ⟨st6, est6, h⟩ := jn_ex h
  refine m_putI (pc := 2) X hW hS 0 est6 wd1366 rfl rfl rfl rfl rfl d209_2 (fun H locs hW hS => ?_)
  refine lv_aload_n (pc := 5) hx hb d209_5 rfl (lv_at hl 0 rfl) ?_
  refine lv_iload_n (pc := 6) hx hb d209_6 rfl (lv_at hl 1 rfl) ?_
  obtain ⟨q7, hq7, h⟩ := jc_some h
  refine k_callV (pc := 7) (n := 1) X hS (c_mo_placeOf l ρ ad _ st6 p0 q7 hW hq7) wd1572 wd1569 wd1571 sl206 wd11 (by decide) ⟨rfl, rfl, by decide, by decide⟩ (m_recv X hW) (As := [.int p0]) (rest := []) rfl rfl hl.1 (Nat.le_of_ble_eq_true rfl) d209_7 ⟨by decide, by decide⟩ (fun q hq => False.elim hq) (fun v H1 locs1 hv _ _ hSq7 => ?_)
  obtain ⟨rfl, rfl⟩ := hv
  have hS := hSq7
  refine lv_istore_n (pc := 10) (lv' := [(2, .int q7), (0, .ref (ad 0)), (1, .int p0)]) hx hb d209_10 rfl hl (by decide) rfl (fun ls hl => ?_)
  refine lv_iload_n (pc := 11) hx hb d209_11 rfl (lv_at hl 0 rfl) ?_
  refine lv_if_ge (pc := 12) (tgt := 17) hx hb d209_12 (by decide) (fun c12 => ?_) (fun c12 => ?_)
  · have h := jb_t c12 h
    refine lv_aload_n (pc := 17) hx hb d209_17 rfl (lv_at hl 1 rfl) ?_
    refine m_get (pc := 18) X hW 14 (v := .ref (ad 9)) wd1380 rfl rfl d209_18 ?_
    refine lv_iload_n (pc := 21) hx hb d209_21 rfl (lv_at hl 0 rfl) ?_
    refine lv_iconst (pc := 22) (v := 2) hx hb d209_22 (by decide) ?_
    obtain ⟨g8, h⟩ := jg_some h
    obtain ⟨st9, est9, h⟩ := jn_ex h
    refine m_iast (pc := 23) X hW hS 9 (by decide) rfl g8 est9 d209_23 (fun H locs hW hS => ?_)
    refine lv_aload_n (pc := 24) hx hb d209_24 rfl (lv_at hl 1 rfl) ?_
    refine m_get (pc := 25) X hW 17 (v := .ref (ad 12)) wd1383 rfl rfl d209_25 ?_
    refine lv_iload_n (pc := 28) hx hb d209_28 rfl (lv_at hl 0 rfl) ?_
    refine lv_dconst0 (pc := 29) hx hb d209_29 ?_
    obtain ⟨g10, h⟩ := jg_some h
    obtain ⟨st11, est11, h⟩ := jn_ex h
    refine m_dast (pc := 30) X hW hS 12 (by decide) rfl g10 est11 d209_30 (fun H locs hW hS => ?_)
    refine lv_aload_n (pc := 31) hx hb d209_31 rfl (lv_at hl 1 rfl) ?_
    refine m_get (pc := 32) X hW 15 (v := .ref (ad 10)) wd1381 rfl rfl d209_32 ?_
    refine lv_iload_n (pc := 35) hx hb d209_35 rfl (lv_at hl 0 rfl) ?_
    refine lv_aload_n (pc := 36) hx hb d209_36 rfl (lv_at hl 1 rfl) ?_
    refine m_get (pc := 37) X hW 3 (v := .int (st11.1 0 3)) wd1369 rfl rfl d209_37 ?_
    obtain ⟨g12, h⟩ := jg_some h
    obtain ⟨st13, est13, h⟩ := jn_ex h
    refine m_iast (pc := 40) X hW hS 10 (by decide) rfl g12 est13 d209_40 (fun H locs hW hS => ?_)
    refine lv_aload_n (pc := 41) hx hb d209_41 rfl (lv_at hl 1 rfl) ?_
    refine m_get (pc := 42) X hW 16 (v := .ref (ad 11)) wd1382 rfl rfl d209_42 ?_
    refine lv_iload_n (pc := 45) hx hb d209_45 rfl (lv_at hl 0 rfl) ?_
    refine lv_aload_n (pc := 46) hx hb d209_46 rfl (lv_at hl 1 rfl) ?_
    refine m_get (pc := 47) X hW 2 (v := .int (st13.1 0 2)) wd1368 rfl rfl d209_47 ?_
    obtain ⟨g14, h⟩ := jg_some h
    obtain ⟨st15, est15, h⟩ := jn_ex h
    refine m_iast (pc := 50) X hW hS 11 (by decide) rfl g14 est15 d209_50 (fun H locs hW hS => ?_)
    refine lv_iconst (pc := 51) (v := 0) hx hb d209_51 (by decide) ?_
    refine lv_istore_n (pc := 52) (lv' := [(3, .int 0), (2, .int q7), (0, .ref (ad 0)), (1, .int p0)]) hx hb d209_52 rfl hl (by decide) rfl (fun ls hl => ?_)
    exact kc53  FU st15 0 _ _ _ hW hS (lv_sub hl [2, 0] rfl) h
  · have h := jb_f c12 h
    refine lv_iconst (pc := 15) (v := 0) hx hb d209_15 (by decide) ?_
    obtain rfl := Option.some.inj h
    exact m_zret (pc := 16) hx hb hr hlk hS ⟨rfl, hW⟩ (by decide) (by decide) d209_16 (by decide)
def f_mo_range (st : GS) (p0 : Int32) (p1 : Int32) : Option (Int32 × GS) := jn (uI st 0 0 0) (fun st1 => jn ((st1.1 0 7) - 1) (fun v2 => jb (v2 < 0) (some (0, st1)) (jg (inb v2 30) (jb ((st1.1 4 v2.toNatClampNeg) = 0) (some (0, st1)) (jc (f_mo_isCell p0 p1) (fun q4 => jb (q4 = 0) (some (0, st1)) (jg (inb v2 30) (jg (inb v2 30) (jc (f_mo_isCell ((p0 + (st1.1 4 v2.toNatClampNeg)) - 1) ((p1 + (st1.1 5 v2.toNatClampNeg)) - 1)) (fun q7 => jb (q7 = 0) (some (0, st1)) (jg (inb v2 30) (jn (uI st1 7 v2.toNatClampNeg p0) (fun st9 => jg (inb v2 30) (jn (uI st9 8 v2.toNatClampNeg p1) (fun st11 => some (1, st11))))))))))))))))
set_option maxHeartbeats 4000000 in
set_option maxRecDepth 100000 in
theorem c_mo_range (l : Launch) (ρ : RH) (ad : Nat → Nat) (H : Heap) (st : GS) (p0 : Int32) (p1 : Int32) (res : Int32 × GS) (hW : GW ρ wM ad st H) (h : f_mo_range st p0 p1 = some res) : Met l y210 (wsOf y210 b210 4 (some .boolean)) ({ frames := 1, cells := 0, slots := 0, locals := 21 } : Room) (va_Pc [.ref (ad 0), .int p0, .int p1] (KP ρ H)) (mQ (fun v H1 => v = some (.int res.1) ∧ GW ρ wM ad res.2 H1) (MA wM ad H.size)) 0 0 (MA wM ad H.size) := by
  refine m_ofW (own := "WordFunctionsModel") (plainFor_of_name rfl) rfl (Nat.le_of_ble_eq_true rfl) fun p e s m args below meth c ls hx hb hr hlk _ X hs hl => ?_
  subst hs
  have hS : va_S (MA wM ad s.heap.size) s.heap s.heap [] := va_S.rf
  have hl : lv_has ls 4 [(0, .ref (ad 0)), (1, .int p0), (2, .int p1)] := hl
  unfold f_mo_range at h
  refine lv_aload_n (pc := 0) hx hb d210_0 rfl (lv_at hl 0 rfl) ?_
  refine lv_iconst (pc := 1) (v := 0) hx hb d210_1 (by decide) ?_
  obtain ⟨st1, est1, h⟩ := jn_ex h
  refine m_putI (pc := 2) X hW hS 0 est1 wd1366 rfl rfl rfl rfl rfl d210_2 (fun H locs hW hS => ?_)
  refine lv_aload_n (pc := 5) hx hb d210_5 rfl (lv_at hl 0 rfl) ?_
  refine m_get (pc := 6) X hW 7 (v := .int (st1.1 0 7)) wd1373 rfl rfl d210_6 ?_
  refine lv_iconst (pc := 9) (v := 1) hx hb d210_9 (by decide) ?_
  refine lv_isub (pc := 10) hx hb d210_10 ?_
  obtain ⟨v2, ev2, h⟩ := jn_ex h
  refine nm_i ev2 ?_
  refine lv_istore_n (pc := 11) (lv' := [(3, .int v2), (0, .ref (ad 0)), (1, .int p0), (2, .int p1)]) hx hb d210_11 rfl hl (by decide) rfl (fun ls hl => ?_)
  refine lv_iload_n (pc := 12) hx hb d210_12 rfl (lv_at hl 0 rfl) ?_
  refine lv_if_lt (pc := 13) (tgt := 59) hx hb d210_13 (by decide) (fun c13 => ?_) (fun c13 => ?_)
  · have h := jb_t c13 h
    refine lv_iconst (pc := 59) (v := 0) hx hb d210_59 (by decide) ?_
    obtain rfl := Option.some.inj h
    exact m_zret (pc := 60) hx hb hr hlk hS ⟨rfl, hW⟩ (by decide) (by decide) d210_60 (by decide)
  · have h := jb_f c13 h
    refine lv_aload_n (pc := 16) hx hb d210_16 rfl (lv_at hl 1 rfl) ?_
    refine m_get (pc := 17) X hW 9 (v := .ref (ad 4)) wd1375 rfl rfl d210_17 ?_
    refine lv_iload_n (pc := 20) hx hb d210_20 rfl (lv_at hl 0 rfl) ?_
    obtain ⟨g3, h⟩ := jg_some h
    refine r_iald (pc := 21) X hW 4 (by decide) rfl (inb_in g3) d210_21 ?_
    refine lv_if_eq (pc := 22) (tgt := 59) hx hb d210_22 (by decide) (fun c22 => ?_) (fun c22 => ?_)
    · have h := jb_t c22 h
      refine lv_iconst (pc := 59) (v := 0) hx hb d210_59 (by decide) ?_
      obtain rfl := Option.some.inj h
      exact m_zret (pc := 60) hx hb hr hlk hS ⟨rfl, hW⟩ (by decide) (by decide) d210_60 (by decide)
    · have h := jb_f c22 h
      refine lv_iload_n (pc := 25) hx hb d210_25 rfl (lv_at hl 2 rfl) ?_
      refine lv_iload_n (pc := 26) hx hb d210_26 rfl (lv_at hl 3 rfl) ?_
      obtain ⟨q4, hq4, h⟩ := jc_some h
      refine k_callS (pc := 27) (n := 2) X hS (c_mo_isCell l ρ _ p0 p1 q4 hq4) wd1555 wd1553 wd1554 wd11 (by decide) ⟨rfl, rfl, by decide, by decide⟩ (As := [.int p0, .int p1]) (rest := []) rfl rfl hl.1 (Nat.le_of_ble_eq_true rfl) d210_27 ⟨by decide, by decide⟩ (fun q hq => False.elim hq) (fun v H1 locs1 hv _ _ hSq4 => ?_)
      obtain ⟨rfl, rfl⟩ := hv
      have hS := hSq4
      refine lv_if_eq (pc := 30) (tgt := 59) hx hb d210_30 (by decide) (fun c30 => ?_) (fun c30 => ?_)
      · have h := jb_t c30 h
        refine lv_iconst (pc := 59) (v := 0) hx hb d210_59 (by decide) ?_
        obtain rfl := Option.some.inj h
        exact m_zret (pc := 60) hx hb hr hlk hS ⟨rfl, hW⟩ (by decide) (by decide) d210_60 (by decide)
      · have h := jb_f c30 h
        refine lv_iload_n (pc := 33) hx hb d210_33 rfl (lv_at hl 2 rfl) ?_
        refine lv_aload_n (pc := 34) hx hb d210_34 rfl (lv_at hl 1 rfl) ?_
        refine m_get (pc := 35) X hW 9 (v := .ref (ad 4)) wd1375 rfl rfl d210_35 ?_
        refine lv_iload_n (pc := 38) hx hb d210_38 rfl (lv_at hl 0 rfl) ?_
        obtain ⟨g5, h⟩ := jg_some h
        refine r_iald (pc := 39) X hW 4 (by decide) rfl (inb_in g5) d210_39 ?_
        refine lv_iadd (pc := 40) hx hb d210_40 ?_
        refine lv_iconst (pc := 41) (v := 1) hx hb d210_41 (by decide) ?_
        refine lv_isub (pc := 42) hx hb d210_42 ?_
        refine lv_iload_n (pc := 43) hx hb d210_43 rfl (lv_at hl 3 rfl) ?_
        refine lv_aload_n (pc := 44) hx hb d210_44 rfl (lv_at hl 1 rfl) ?_
        refine m_get (pc := 45) X hW 10 (v := .ref (ad 5)) wd1376 rfl rfl d210_45 ?_
        refine lv_iload_n (pc := 48) hx hb d210_48 rfl (lv_at hl 0 rfl) ?_
        obtain ⟨g6, h⟩ := jg_some h
        refine r_iald (pc := 49) X hW 5 (by decide) rfl (inb_in g6) d210_49 ?_
        refine lv_iadd (pc := 50) hx hb d210_50 ?_
        refine lv_iconst (pc := 51) (v := 1) hx hb d210_51 (by decide) ?_
        refine lv_isub (pc := 52) hx hb d210_52 ?_
        obtain ⟨q7, hq7, h⟩ := jc_some h
        refine k_callS (pc := 53) (n := 2) X hS (c_mo_isCell l ρ _ ((p0 + (st1.1 4 v2.toNatClampNeg)) - 1) ((p1 + (st1.1 5 v2.toNatClampNeg)) - 1) q7 hq7) wd1555 wd1553 wd1554 wd11 (by decide) ⟨rfl, rfl, by decide, by decide⟩ (As := [.int ((p0 + (st1.1 4 v2.toNatClampNeg)) - 1), .int ((p1 + (st1.1 5 v2.toNatClampNeg)) - 1)]) (rest := []) rfl rfl hl.1 (Nat.le_of_ble_eq_true rfl) d210_53 ⟨by decide, by decide⟩ (fun q hq => False.elim hq) (fun v H1 locs1 hv _ _ hSq7 => ?_)
        obtain ⟨rfl, rfl⟩ := hv
        have hS := hSq7
        refine lv_if_ne (pc := 56) (tgt := 61) hx hb d210_56 (by decide) (fun c56 => ?_) (fun c56 => ?_)
        · have h := jb_f c56 h
          refine lv_aload_n (pc := 61) hx hb d210_61 rfl (lv_at hl 1 rfl) ?_
          refine m_get (pc := 62) X hW 12 (v := .ref (ad 7)) wd1378 rfl rfl d210_62 ?_
          refine lv_iload_n (pc := 65) hx hb d210_65 rfl (lv_at hl 0 rfl) ?_
          refine lv_iload_n (pc := 66) hx hb d210_66 rfl (lv_at hl 2 rfl) ?_
          obtain ⟨g8, h⟩ := jg_some h
          obtain ⟨st9, est9, h⟩ := jn_ex h
          refine m_iast (pc := 67) X hW hS 7 (by decide) rfl g8 est9 d210_67 (fun H locs hW hS => ?_)
          refine lv_aload_n (pc := 68) hx hb d210_68 rfl (lv_at hl 1 rfl) ?_
          refine m_get (pc := 69) X hW 13 (v := .ref (ad 8)) wd1379 rfl rfl d210_69 ?_
          refine lv_iload_n (pc := 72) hx hb d210_72 rfl (lv_at hl 0 rfl) ?_
          refine lv_iload_n (pc := 73) hx hb d210_73 rfl (lv_at hl 3 rfl) ?_
          obtain ⟨g10, h⟩ := jg_some h
          obtain ⟨st11, est11, h⟩ := jn_ex h
          refine m_iast (pc := 74) X hW hS 8 (by decide) rfl g10 est11 d210_74 (fun H locs hW hS => ?_)
          refine lv_iconst (pc := 75) (v := 1) hx hb d210_75 (by decide) ?_
          obtain rfl := Option.some.inj h
          exact m_zret (pc := 76) hx hb hr hlk hS ⟨rfl, hW⟩ (by decide) (by decide) d210_76 (by decide)
        · have h := jb_t c56 h
          refine lv_iconst (pc := 59) (v := 0) hx hb d210_59 (by decide) ?_
          obtain rfl := Option.some.inj h
          exact m_zret (pc := 60) hx hb hr hlk hS ⟨rfl, hW⟩ (by decide) (by decide) d210_60 (by decide)
def f_mo_size (st : GS) (p0 : Int32) : Option (Int32 × GS) := jn (uI st 0 0 0) (fun st1 => jb (p0 = 0) (some ((st1.1 0 49), st1)) (some ((st1.1 0 50), st1)))
set_option maxHeartbeats 4000000 in
set_option maxRecDepth 100000 in
theorem c_mo_size (l : Launch) (ρ : RH) (ad : Nat → Nat) (H : Heap) (st : GS) (p0 : Int32) (res : Int32 × GS) (hW : GW ρ wM ad st H) (h : f_mo_size st p0 = some res) : Met l y217 (wsOf y217 b217 2 (some .int)) ({ frames := 0, cells := 0, slots := 0, locals := 0 } : Room) (va_Pc [.ref (ad 0), .int p0] (KP ρ H)) (mQ (fun v H1 => v = some (.int res.1) ∧ GW ρ wM ad res.2 H1) (MA wM ad H.size)) 0 0 (MA wM ad H.size) := by
  refine m_ofW (own := "WordFunctionsModel") (plainFor_of_name rfl) rfl (Nat.le_of_ble_eq_true rfl) fun p e s m args below meth c ls hx hb hr hlk _ X hs hl => ?_
  subst hs
  have hS : va_S (MA wM ad s.heap.size) s.heap s.heap [] := va_S.rf
  have hl : lv_has ls 2 [(0, .ref (ad 0)), (1, .int p0)] := hl
  unfold f_mo_size at h
  refine lv_aload_n (pc := 0) hx hb d217_0 rfl (lv_at hl 0 rfl) ?_
  refine lv_iconst (pc := 1) (v := 0) hx hb d217_1 (by decide) ?_
  obtain ⟨st1, est1, h⟩ := jn_ex h
  refine m_putI (pc := 2) X hW hS 0 est1 wd1366 rfl rfl rfl rfl rfl d217_2 (fun H locs hW hS => ?_)
  refine lv_iload_n (pc := 5) hx hb d217_5 rfl (lv_at hl 1 rfl) ?_
  refine lv_if_eq (pc := 6) (tgt := 16) hx hb d217_6 (by decide) (fun c6 => ?_) (fun c6 => ?_)
  · have h := jb_t c6 h
    refine lv_aload_n (pc := 16) hx hb d217_16 rfl (lv_at hl 0 rfl) ?_
    refine m_get (pc := 17) X hW 49 (v := .int (st1.1 0 49)) wd1415 rfl rfl d217_17 ?_
    obtain rfl := Option.some.inj h
    exact m_iret (pc := 20) hx hb hr hlk hS ⟨rfl, hW⟩ (by decide) (by decide) d217_20
  · have h := jb_f c6 h
    refine lv_aload_n (pc := 9) hx hb d217_9 rfl (lv_at hl 0 rfl) ?_
    refine m_get (pc := 10) X hW 50 (v := .int (st1.1 0 50)) wd1416 rfl rfl d217_10 ?_
    refine lv_goto (pc := 13) (tgt := 20) hx hb d217_13 (by decide) ?_
    obtain rfl := Option.some.inj h
    exact m_iret (pc := 20) hx hb hr hlk hS ⟨rfl, hW⟩ (by decide) (by decide) d217_20
def f_mo_thrown (st : GS) : Option (Int32) := some (st.1 0 0)
set_option maxHeartbeats 4000000 in
set_option maxRecDepth 100000 in
theorem c_mo_thrown (l : Launch) (ρ : RH) (ad : Nat → Nat) (H : Heap) (st : GS) (res : Int32) (hW : GW ρ wM ad st H) (h : f_mo_thrown st = some res) : Met l y228 (wsOf y228 b228 1 (some .int)) ({ frames := 0, cells := 0, slots := 0, locals := 0 } : Room) (va_Pc [.ref (ad 0)] (KP ρ H)) (mQ (fun v H1 => v = some (.int res) ∧ H1 = H) (fun _ => False)) 0 0 (fun _ => False) := by
  refine m_ofW (own := "WordFunctionsModel") (plainFor_of_name rfl) rfl (Nat.le_of_ble_eq_true rfl) fun p e s m args below meth c ls hx hb hr hlk _ X hs hl => ?_
  subst hs
  have hS : va_S (fun _ => False) s.heap s.heap [] := va_S.rf
  have hl : lv_has ls 1 [(0, .ref (ad 0))] := hl
  unfold f_mo_thrown at h
  refine lv_aload_n (pc := 0) hx hb d228_0 rfl (lv_at hl 0 rfl) ?_
  refine m_get (pc := 1) X hW 0 (v := .int (st.1 0 0)) wd1366 rfl rfl d228_1 ?_
  obtain rfl := Option.some.inj h
  exact m_iret (pc := 4) hx hb hr hlk hS ⟨rfl, rfl⟩ (by decide) (by decide) d228_4
def f_mo_value (st : GS) : Option (UInt64 × GS) := jn (uI st 0 0 0) (fun st1 => jb ((st1.1 0 32) = 2) (some ((FP.i2d (st1.1 0 33)), st1)) (jb ((st1.1 0 32) = 0) (some (FP.dconst0, st1)) (some ((st1.2.1 0 34), st1))))
set_option maxHeartbeats 4000000 in
set_option maxRecDepth 100000 in
theorem c_mo_value (l : Launch) (ρ : RH) (ad : Nat → Nat) (H : Heap) (st : GS) (res : UInt64 × GS) (hW : GW ρ wM ad st H) (h : f_mo_value st = some res) : Met l y236 (wsOf y236 b236 1 (some .double)) ({ frames := 0, cells := 0, slots := 0, locals := 0 } : Room) (va_Pc [.ref (ad 0)] (KP ρ H)) (mQ (fun v H1 => v = some (.double res.1) ∧ GW ρ wM ad res.2 H1) (MA wM ad H.size)) 0 0 (MA wM ad H.size) := by
  refine m_ofW (own := "WordFunctionsModel") (plainFor_of_name rfl) rfl (Nat.le_of_ble_eq_true rfl) fun p e s m args below meth c ls hx hb hr hlk _ X hs hl => ?_
  subst hs
  have hS : va_S (MA wM ad s.heap.size) s.heap s.heap [] := va_S.rf
  have hl : lv_has ls 1 [(0, .ref (ad 0))] := hl
  unfold f_mo_value at h
  refine lv_aload_n (pc := 0) hx hb d236_0 rfl (lv_at hl 0 rfl) ?_
  refine lv_iconst (pc := 1) (v := 0) hx hb d236_1 (by decide) ?_
  obtain ⟨st1, est1, h⟩ := jn_ex h
  refine m_putI (pc := 2) X hW hS 0 est1 wd1366 rfl rfl rfl rfl rfl d236_2 (fun H locs hW hS => ?_)
  refine lv_aload_n (pc := 5) hx hb d236_5 rfl (lv_at hl 0 rfl) ?_
  refine m_get (pc := 6) X hW 32 (v := .int (st1.1 0 32)) wd1398 rfl rfl d236_6 ?_
  refine lv_iconst (pc := 9) (v := 2) hx hb d236_9 (by decide) ?_
  refine lv_icmp_ne (pc := 10) (tgt := 21) hx hb d236_10 (by decide) (fun c10 => ?_) (fun c10 => ?_)
  · have h := jb_f c10 h
    refine lv_aload_n (pc := 21) hx hb d236_21 rfl (lv_at hl 0 rfl) ?_
    refine m_get (pc := 22) X hW 32 (v := .int (st1.1 0 32)) wd1398 rfl rfl d236_22 ?_
    refine lv_if_ne (pc := 25) (tgt := 32) hx hb d236_25 (by decide) (fun c25 => ?_) (fun c25 => ?_)
    · have h := jb_f c25 h
      refine lv_aload_n (pc := 32) hx hb d236_32 rfl (lv_at hl 0 rfl) ?_
      refine m_get (pc := 33) X hW 34 (v := .double (st1.2.1 0 34)) wd1400 rfl rfl d236_33 ?_
      obtain rfl := Option.some.inj h
      exact m_dret (pc := 36) hx hb hr hlk hS ⟨rfl, hW⟩ (by decide) (by decide) d236_36
    · have h := jb_t c25 h
      refine lv_dconst0 (pc := 28) hx hb d236_28 ?_
      refine lv_goto (pc := 29) (tgt := 36) hx hb d236_29 (by decide) ?_
      obtain rfl := Option.some.inj h
      exact m_dret (pc := 36) hx hb hr hlk hS ⟨rfl, hW⟩ (by decide) (by decide) d236_36
  · have h := jb_t c10 h
    refine lv_aload_n (pc := 13) hx hb d236_13 rfl (lv_at hl 0 rfl) ?_
    refine m_get (pc := 14) X hW 33 (v := .int (st1.1 0 33)) wd1399 rfl rfl d236_14 ?_
    refine lv_i2d (pc := 17) hx hb d236_17 ?_
    refine lv_goto (pc := 18) (tgt := 36) hx hb d236_18 (by decide) ?_
    obtain rfl := Option.some.inj h
    exact m_dret (pc := 36) hx hb hr hlk hS ⟨rfl, hW⟩ (by decide) (by decide) d236_36
