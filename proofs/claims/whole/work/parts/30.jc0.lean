abbrev b3 : ByteArray := prog_1_method_4_code
theorem d3_0 : decode b3 0 = .ok ((.iload_n 1), 1) := by decide +kernel
theorem d3_1 : decode b3 1 = .ok ((.ifCond .lt 18), 3) := by decide +kernel
theorem d3_4 : decode b3 4 = .ok ((.iload_n 1), 1) := by decide +kernel
theorem d3_5 : decode b3 5 = .ok ((.aload_n 0), 1) := by decide +kernel
theorem d3_6 : decode b3 6 = .ok ((.getfield 68), 3) := by decide +kernel
theorem d3_9 : decode b3 9 = .ok ((.if_icmp .gt 10), 3) := by decide +kernel
theorem d3_12 : decode b3 12 = .ok ((.iload_n 1), 1) := by decide +kernel
theorem d3_13 : decode b3 13 = .ok ((.sipush 255), 3) := by decide +kernel
theorem d3_16 : decode b3 16 = .ok ((.if_icmp .le 5), 3) := by decide +kernel
theorem d3_19 : decode b3 19 = .ok ((.iconst 0), 1) := by decide +kernel
theorem d3_20 : decode b3 20 = .ok (.ireturn, 1) := by decide +kernel
theorem d3_21 : decode b3 21 = .ok ((.new 76), 3) := by decide +kernel
theorem d3_24 : decode b3 24 = .ok (.dup, 1) := by decide +kernel
theorem d3_25 : decode b3 25 = .ok ((.invokespecial 78), 3) := by decide +kernel
theorem d3_28 : decode b3 28 = .ok ((.astore_n 2), 1) := by decide +kernel
theorem d3_29 : decode b3 29 = .ok ((.iconst 0), 1) := by decide +kernel
theorem d3_30 : decode b3 30 = .ok ((.istore_n 3), 1) := by decide +kernel
theorem d3_31 : decode b3 31 = .ok ((.iload_n 3), 1) := by decide +kernel
theorem d3_32 : decode b3 32 = .ok ((.iload_n 1), 1) := by decide +kernel
theorem d3_33 : decode b3 33 = .ok ((.if_icmp .ge 29), 3) := by decide +kernel
theorem d3_36 : decode b3 36 = .ok ((.iload_n 3), 1) := by decide +kernel
theorem d3_37 : decode b3 37 = .ok ((.aload_n 0), 1) := by decide +kernel
theorem d3_38 : decode b3 38 = .ok ((.getfield 9), 3) := by decide +kernel
theorem d3_41 : decode b3 41 = .ok (.arraylength, 1) := by decide +kernel
theorem d3_42 : decode b3 42 = .ok ((.if_icmp .ge 20), 3) := by decide +kernel
theorem d3_45 : decode b3 45 = .ok ((.aload_n 2), 1) := by decide +kernel
theorem d3_46 : decode b3 46 = .ok ((.aload_n 0), 1) := by decide +kernel
theorem d3_47 : decode b3 47 = .ok ((.getfield 9), 3) := by decide +kernel
theorem d3_50 : decode b3 50 = .ok ((.iload_n 3), 1) := by decide +kernel
theorem d3_51 : decode b3 51 = .ok (.caload, 1) := by decide +kernel
theorem d3_52 : decode b3 52 = .ok ((.invokevirtual 79), 3) := by decide +kernel
theorem d3_55 : decode b3 55 = .ok (.pop, 1) := by decide +kernel
theorem d3_56 : decode b3 56 = .ok ((.iinc 3 1), 3) := by decide +kernel
theorem d3_59 : decode b3 59 = .ok ((.goto (-28)), 3) := by decide +kernel
theorem d3_62 : decode b3 62 = .ok ((.aload_n 0), 1) := by decide +kernel
theorem d3_63 : decode b3 63 = .ok ((.aload_n 2), 1) := by decide +kernel
theorem d3_64 : decode b3 64 = .ok ((.invokevirtual 83), 3) := by decide +kernel
theorem d3_67 : decode b3 67 = .ok ((.putfield 15), 3) := by decide +kernel
theorem d3_70 : decode b3 70 = .ok ((.aload_n 0), 1) := by decide +kernel
theorem d3_71 : decode b3 71 = .ok ((.iconst 0), 1) := by decide +kernel
theorem d3_72 : decode b3 72 = .ok ((.putfield 68), 3) := by decide +kernel
theorem d3_75 : decode b3 75 = .ok ((.iconst 1), 1) := by decide +kernel
theorem d3_76 : decode b3 76 = .ok (.ireturn, 1) := by decide +kernel
abbrev b4 : ByteArray := prog_1_method_9_code
theorem d4_0 : decode b4 0 = .ok ((.iconst 1), 1) := by decide +kernel
theorem d4_1 : decode b4 1 = .ok ((.istore_n 2), 1) := by decide +kernel
theorem d4_2 : decode b4 2 = .ok ((.iload_n 2), 1) := by decide +kernel
theorem d4_3 : decode b4 3 = .ok ((.bipush 8), 2) := by decide +kernel
theorem d4_5 : decode b4 5 = .ok ((.if_icmp .gt 18), 3) := by decide +kernel
theorem d4_8 : decode b4 8 = .ok ((.dload_n 0), 1) := by decide +kernel
theorem d4_9 : decode b4 9 = .ok ((.iload_n 2), 1) := by decide +kernel
theorem d4_10 : decode b4 10 = .ok (.i2d, 1) := by decide +kernel
theorem d4_11 : decode b4 11 = .ok ((.dcmp .l), 1) := by decide +kernel
theorem d4_12 : decode b4 12 = .ok ((.ifCond .ne 5), 3) := by decide +kernel
theorem d4_15 : decode b4 15 = .ok ((.iload_n 2), 1) := by decide +kernel
theorem d4_16 : decode b4 16 = .ok (.ireturn, 1) := by decide +kernel
theorem d4_17 : decode b4 17 = .ok ((.iinc 2 1), 3) := by decide +kernel
theorem d4_20 : decode b4 20 = .ok ((.goto (-18)), 3) := by decide +kernel
theorem d4_23 : decode b4 23 = .ok ((.iconst 3), 1) := by decide +kernel
theorem d4_24 : decode b4 24 = .ok (.ireturn, 1) := by decide +kernel
abbrev b11 : ByteArray := prog_1_method_3_code
theorem d11_0 : decode b11 0 = .ok ((.bipush 24), 2) := by decide +kernel
theorem d11_2 : decode b11 2 = .ok ((.istore_n 2), 1) := by decide +kernel
theorem d11_3 : decode b11 3 = .ok ((.iload_n 2), 1) := by decide +kernel
theorem d11_4 : decode b11 4 = .ok ((.ifCond .lt 48), 3) := by decide +kernel
theorem d11_7 : decode b11 7 = .ok ((.aload_n 0), 1) := by decide +kernel
theorem d11_8 : decode b11 8 = .ok ((.getfield 68), 3) := by decide +kernel
theorem d11_11 : decode b11 11 = .ok ((.aload_n 0), 1) := by decide +kernel
theorem d11_12 : decode b11 12 = .ok ((.getfield 9), 3) := by decide +kernel
theorem d11_15 : decode b11 15 = .ok (.arraylength, 1) := by decide +kernel
theorem d11_16 : decode b11 16 = .ok ((.if_icmp .ge 30), 3) := by decide +kernel
theorem d11_19 : decode b11 19 = .ok ((.aload_n 0), 1) := by decide +kernel
theorem d11_20 : decode b11 20 = .ok ((.getfield 9), 3) := by decide +kernel
theorem d11_23 : decode b11 23 = .ok ((.aload_n 0), 1) := by decide +kernel
theorem d11_24 : decode b11 24 = .ok ((.getfield 68), 3) := by decide +kernel
theorem d11_27 : decode b11 27 = .ok ((.iload_n 1), 1) := by decide +kernel
theorem d11_28 : decode b11 28 = .ok ((.iload_n 2), 1) := by decide +kernel
theorem d11_29 : decode b11 29 = .ok (.iushr, 1) := by decide +kernel
theorem d11_30 : decode b11 30 = .ok ((.sipush 255), 3) := by decide +kernel
theorem d11_33 : decode b11 33 = .ok (.iand, 1) := by decide +kernel
theorem d11_34 : decode b11 34 = .ok (.i2c, 1) := by decide +kernel
theorem d11_35 : decode b11 35 = .ok (.castore, 1) := by decide +kernel
theorem d11_36 : decode b11 36 = .ok ((.aload_n 0), 1) := by decide +kernel
theorem d11_37 : decode b11 37 = .ok (.dup, 1) := by decide +kernel
theorem d11_38 : decode b11 38 = .ok ((.getfield 68), 3) := by decide +kernel
theorem d11_41 : decode b11 41 = .ok ((.iconst 1), 1) := by decide +kernel
theorem d11_42 : decode b11 42 = .ok (.iadd, 1) := by decide +kernel
theorem d11_43 : decode b11 43 = .ok ((.putfield 68), 3) := by decide +kernel
theorem d11_46 : decode b11 46 = .ok ((.iinc 2 (-8)), 3) := by decide +kernel
theorem d11_49 : decode b11 49 = .ok ((.goto (-46)), 3) := by decide +kernel
theorem d11_52 : decode b11 52 = .ok (.return_, 1) := by decide +kernel
abbrev b5 : ByteArray := prog_1_method_2_code
theorem d5_0 : decode b5 0 = .ok ((.aload_n 0), 1) := by decide +kernel
theorem d5_1 : decode b5 1 = .ok ((.getfield 68), 3) := by decide +kernel
theorem d5_4 : decode b5 4 = .ok ((.bipush 20), 2) := by decide +kernel
theorem d5_6 : decode b5 6 = .ok (.iadd, 1) := by decide +kernel
theorem d5_7 : decode b5 7 = .ok ((.aload_n 0), 1) := by decide +kernel
theorem d5_8 : decode b5 8 = .ok ((.getfield 9), 3) := by decide +kernel
theorem d5_11 : decode b5 11 = .ok (.arraylength, 1) := by decide +kernel
theorem d5_12 : decode b5 12 = .ok ((.if_icmp .le 5), 3) := by decide +kernel
theorem d5_15 : decode b5 15 = .ok ((.iconst 0), 1) := by decide +kernel
theorem d5_16 : decode b5 16 = .ok (.ireturn, 1) := by decide +kernel
theorem d5_17 : decode b5 17 = .ok ((.aload_n 0), 1) := by decide +kernel
theorem d5_18 : decode b5 18 = .ok ((.iload_n 1), 1) := by decide +kernel
theorem d5_19 : decode b5 19 = .ok ((.invokevirtual 72), 3) := by decide +kernel
theorem d5_22 : decode b5 22 = .ok ((.aload_n 0), 1) := by decide +kernel
theorem d5_23 : decode b5 23 = .ok ((.iload_n 2), 1) := by decide +kernel
theorem d5_24 : decode b5 24 = .ok ((.invokevirtual 72), 3) := by decide +kernel
theorem d5_27 : decode b5 27 = .ok ((.aload_n 0), 1) := by decide +kernel
theorem d5_28 : decode b5 28 = .ok ((.iload_n 3), 1) := by decide +kernel
theorem d5_29 : decode b5 29 = .ok ((.invokevirtual 72), 3) := by decide +kernel
theorem d5_32 : decode b5 32 = .ok ((.aload_n 0), 1) := by decide +kernel
theorem d5_33 : decode b5 33 = .ok ((.iload 4), 2) := by decide +kernel
theorem d5_35 : decode b5 35 = .ok ((.invokevirtual 72), 3) := by decide +kernel
theorem d5_38 : decode b5 38 = .ok ((.aload_n 0), 1) := by decide +kernel
theorem d5_39 : decode b5 39 = .ok ((.iload 5), 2) := by decide +kernel
theorem d5_41 : decode b5 41 = .ok ((.invokevirtual 72), 3) := by decide +kernel
theorem d5_44 : decode b5 44 = .ok ((.iconst 1), 1) := by decide +kernel
theorem d5_45 : decode b5 45 = .ok (.ireturn, 1) := by decide +kernel
abbrev b6 : ByteArray := prog_1_method_19_code
theorem d6_0 : decode b6 0 = .ok ((.iload_n 0), 1) := by decide +kernel
theorem d6_1 : decode b6 1 = .ok ((.bipush 97), 2) := by decide +kernel
theorem d6_3 : decode b6 3 = .ok ((.if_icmp .lt 20), 3) := by decide +kernel
theorem d6_6 : decode b6 6 = .ok ((.iload_n 0), 1) := by decide +kernel
theorem d6_7 : decode b6 7 = .ok ((.bipush 122), 2) := by decide +kernel
theorem d6_9 : decode b6 9 = .ok ((.if_icmp .gt 14), 3) := by decide +kernel
theorem d6_12 : decode b6 12 = .ok ((.iload_n 0), 1) := by decide +kernel
theorem d6_13 : decode b6 13 = .ok ((.bipush 97), 2) := by decide +kernel
theorem d6_15 : decode b6 15 = .ok (.isub, 1) := by decide +kernel
theorem d6_16 : decode b6 16 = .ok ((.bipush 65), 2) := by decide +kernel
theorem d6_18 : decode b6 18 = .ok (.iadd, 1) := by decide +kernel
theorem d6_19 : decode b6 19 = .ok (.i2c, 1) := by decide +kernel
theorem d6_20 : decode b6 20 = .ok ((.goto 4), 3) := by decide +kernel
theorem d6_23 : decode b6 23 = .ok ((.iload_n 0), 1) := by decide +kernel
theorem d6_24 : decode b6 24 = .ok (.ireturn, 1) := by decide +kernel
abbrev b8 : ByteArray := prog_1_method_17_code
theorem d8_0 : decode b8 0 = .ok ((.iload_n 0), 1) := by decide +kernel
theorem d8_1 : decode b8 1 = .ok ((.iconst 1), 1) := by decide +kernel
theorem d8_2 : decode b8 2 = .ok ((.if_icmp .lt 25), 3) := by decide +kernel
theorem d8_5 : decode b8 5 = .ok ((.iload_n 0), 1) := by decide +kernel
theorem d8_6 : decode b8 6 = .ok ((.ldc 222), 2) := by decide +kernel
theorem d8_8 : decode b8 8 = .ok ((.if_icmp .gt 19), 3) := by decide +kernel
theorem d8_11 : decode b8 11 = .ok ((.iload_n 1), 1) := by decide +kernel
theorem d8_12 : decode b8 12 = .ok ((.iconst 1), 1) := by decide +kernel
theorem d8_13 : decode b8 13 = .ok ((.if_icmp .lt 14), 3) := by decide +kernel
theorem d8_16 : decode b8 16 = .ok ((.iload_n 1), 1) := by decide +kernel
theorem d8_17 : decode b8 17 = .ok ((.sipush 16384), 3) := by decide +kernel
theorem d8_20 : decode b8 20 = .ok ((.if_icmp .gt 7), 3) := by decide +kernel
theorem d8_23 : decode b8 23 = .ok ((.iconst 1), 1) := by decide +kernel
theorem d8_24 : decode b8 24 = .ok ((.goto 4), 3) := by decide +kernel
theorem d8_27 : decode b8 27 = .ok ((.iconst 0), 1) := by decide +kernel
theorem d8_28 : decode b8 28 = .ok (.ireturn, 1) := by decide +kernel
abbrev b7 : ByteArray := prog_1_method_5_code
theorem d7_0 : decode b7 0 = .ok ((.iload_n 1), 1) := by decide +kernel
theorem d7_1 : decode b7 1 = .ok ((.iload_n 2), 1) := by decide +kernel
theorem d7_2 : decode b7 2 = .ok ((.invokestatic 87), 3) := by decide +kernel
theorem d7_5 : decode b7 5 = .ok ((.ifCond .ne 5), 3) := by decide +kernel
theorem d7_8 : decode b7 8 = .ok ((.iconst 0), 1) := by decide +kernel
theorem d7_9 : decode b7 9 = .ok (.ireturn, 1) := by decide +kernel
theorem d7_10 : decode b7 10 = .ok ((.aload_n 0), 1) := by decide +kernel
theorem d7_11 : decode b7 11 = .ok ((.getfield 25), 3) := by decide +kernel
theorem d7_14 : decode b7 14 = .ok ((.iload_n 1), 1) := by decide +kernel
theorem d7_15 : decode b7 15 = .ok ((.putfield 91), 3) := by decide +kernel
theorem d7_18 : decode b7 18 = .ok ((.aload_n 0), 1) := by decide +kernel
theorem d7_19 : decode b7 19 = .ok ((.getfield 25), 3) := by decide +kernel
theorem d7_22 : decode b7 22 = .ok ((.iload_n 2), 1) := by decide +kernel
theorem d7_23 : decode b7 23 = .ok ((.putfield 94), 3) := by decide +kernel
theorem d7_26 : decode b7 26 = .ok ((.iconst 1), 1) := by decide +kernel
theorem d7_27 : decode b7 27 = .ok (.ireturn, 1) := by decide +kernel
abbrev b9 : ByteArray := prog_1_method_12_code
theorem d9_0 : decode b9 0 = .ok ((.iload_n 0), 1) := by decide +kernel
theorem d9_1 : decode b9 1 = .ok ((.bipush 66), 2) := by decide +kernel
theorem d9_3 : decode b9 3 = .ok ((.if_icmp .lt 25), 3) := by decide +kernel
theorem d9_6 : decode b9 6 = .ok ((.iload_n 0), 1) := by decide +kernel
theorem d9_7 : decode b9 7 = .ok ((.bipush 66), 2) := by decide +kernel
theorem d9_9 : decode b9 9 = .ok (.isub, 1) := by decide +kernel
theorem d9_10 : decode b9 10 = .ok ((.getstatic 189), 3) := by decide +kernel
theorem d9_13 : decode b9 13 = .ok (.arraylength, 1) := by decide +kernel
theorem d9_14 : decode b9 14 = .ok ((.if_icmp .ge 14), 3) := by decide +kernel
theorem d9_17 : decode b9 17 = .ok ((.iload_n 0), 1) := by decide +kernel
theorem d9_18 : decode b9 18 = .ok ((.bipush 66), 2) := by decide +kernel
theorem d9_20 : decode b9 20 = .ok (.isub, 1) := by decide +kernel
theorem d9_21 : decode b9 21 = .ok ((.getstatic 193), 3) := by decide +kernel
theorem d9_24 : decode b9 24 = .ok (.arraylength, 1) := by decide +kernel
theorem d9_25 : decode b9 25 = .ok ((.if_icmp .lt 5), 3) := by decide +kernel
theorem d9_28 : decode b9 28 = .ok ((.iconst 0), 1) := by decide +kernel
theorem d9_29 : decode b9 29 = .ok (.ireturn, 1) := by decide +kernel
theorem d9_30 : decode b9 30 = .ok ((.iload_n 0), 1) := by decide +kernel
theorem d9_31 : decode b9 31 = .ok ((.bipush 66), 2) := by decide +kernel
theorem d9_33 : decode b9 33 = .ok (.isub, 1) := by decide +kernel
theorem d9_34 : decode b9 34 = .ok ((.istore_n 2), 1) := by decide +kernel
theorem d9_35 : decode b9 35 = .ok ((.iload_n 1), 1) := by decide +kernel
theorem d9_36 : decode b9 36 = .ok ((.getstatic 189), 3) := by decide +kernel
theorem d9_39 : decode b9 39 = .ok ((.iload_n 2), 1) := by decide +kernel
theorem d9_40 : decode b9 40 = .ok (.iaload, 1) := by decide +kernel
theorem d9_41 : decode b9 41 = .ok ((.if_icmp .lt 16), 3) := by decide +kernel
theorem d9_44 : decode b9 44 = .ok ((.iload_n 1), 1) := by decide +kernel
theorem d9_45 : decode b9 45 = .ok ((.getstatic 193), 3) := by decide +kernel
theorem d9_48 : decode b9 48 = .ok ((.iload_n 2), 1) := by decide +kernel
theorem d9_49 : decode b9 49 = .ok (.iaload, 1) := by decide +kernel
theorem d9_50 : decode b9 50 = .ok ((.if_icmp .gt 7), 3) := by decide +kernel
theorem d9_53 : decode b9 53 = .ok ((.iconst 1), 1) := by decide +kernel
theorem d9_54 : decode b9 54 = .ok ((.goto 4), 3) := by decide +kernel
theorem d9_57 : decode b9 57 = .ok ((.iconst 0), 1) := by decide +kernel
theorem d9_58 : decode b9 58 = .ok (.ireturn, 1) := by decide +kernel
abbrev b10 : ByteArray := prog_1_method_18_code
theorem d10_0 : decode b10 0 = .ok ((.iload_n 0), 1) := by decide +kernel
theorem d10_1 : decode b10 1 = .ok ((.bipush 65), 2) := by decide +kernel
theorem d10_3 : decode b10 3 = .ok ((.if_icmp .lt 9), 3) := by decide +kernel
theorem d10_6 : decode b10 6 = .ok ((.iload_n 0), 1) := by decide +kernel
theorem d10_7 : decode b10 7 = .ok ((.bipush 90), 2) := by decide +kernel
theorem d10_9 : decode b10 9 = .ok ((.if_icmp .le 15), 3) := by decide +kernel
theorem d10_12 : decode b10 12 = .ok ((.iload_n 0), 1) := by decide +kernel
theorem d10_13 : decode b10 13 = .ok ((.bipush 97), 2) := by decide +kernel
theorem d10_15 : decode b10 15 = .ok ((.if_icmp .lt 13), 3) := by decide +kernel
theorem d10_18 : decode b10 18 = .ok ((.iload_n 0), 1) := by decide +kernel
theorem d10_19 : decode b10 19 = .ok ((.bipush 122), 2) := by decide +kernel
theorem d10_21 : decode b10 21 = .ok ((.if_icmp .gt 7), 3) := by decide +kernel
theorem d10_24 : decode b10 24 = .ok ((.iconst 1), 1) := by decide +kernel
theorem d10_25 : decode b10 25 = .ok ((.goto 4), 3) := by decide +kernel
theorem d10_28 : decode b10 28 = .ok ((.iconst 0), 1) := by decide +kernel
theorem d10_29 : decode b10 29 = .ok (.ireturn, 1) := by decide +kernel
abbrev b12 : ByteArray := prog_1_method_16_code
theorem d12_0 : decode b12 0 = .ok ((.aload_n 0), 1) := by decide +kernel
theorem d12_1 : decode b12 1 = .ok ((.getfield 32), 3) := by decide +kernel
theorem d12_4 : decode b12 4 = .ok ((.getfield 182), 3) := by decide +kernel
theorem d12_7 : decode b12 7 = .ok ((.getfield 205), 3) := by decide +kernel
theorem d12_10 : decode b12 10 = .ok ((.astore_n 2), 1) := by decide +kernel
theorem d12_11 : decode b12 11 = .ok ((.iload_n 1), 1) := by decide +kernel
theorem d12_12 : decode b12 12 = .ok ((.ifCond .lt 19), 3) := by decide +kernel
theorem d12_15 : decode b12 15 = .ok ((.iload_n 1), 1) := by decide +kernel
theorem d12_16 : decode b12 16 = .ok ((.aload_n 2), 1) := by decide +kernel
theorem d12_17 : decode b12 17 = .ok ((.invokevirtual 208), 3) := by decide +kernel
theorem d12_20 : decode b12 20 = .ok ((.if_icmp .ge 11), 3) := by decide +kernel
theorem d12_23 : decode b12 23 = .ok ((.aload_n 2), 1) := by decide +kernel
theorem d12_24 : decode b12 24 = .ok ((.iload_n 1), 1) := by decide +kernel
theorem d12_25 : decode b12 25 = .ok ((.invokevirtual 218), 3) := by decide +kernel
theorem d12_28 : decode b12 28 = .ok ((.goto 4), 3) := by decide +kernel
theorem d12_31 : decode b12 31 = .ok ((.iconst (-1)), 1) := by decide +kernel
theorem d12_32 : decode b12 32 = .ok (.ireturn, 1) := by decide +kernel
abbrev b26 : ByteArray := prog_2_method_7_code
theorem d26_0 : decode b26 0 = .ok ((.iload_n 1), 1) := by decide +kernel
theorem d26_1 : decode b26 1 = .ok ((.ifCond .lt 39), 3) := by decide +kernel
theorem d26_4 : decode b26 4 = .ok ((.iload_n 1), 1) := by decide +kernel
theorem d26_5 : decode b26 5 = .ok ((.aload_n 0), 1) := by decide +kernel
theorem d26_6 : decode b26 6 = .ok ((.getfield 17), 3) := by decide +kernel
theorem d26_9 : decode b26 9 = .ok ((.if_icmp .ge 31), 3) := by decide +kernel
theorem d26_12 : decode b26 12 = .ok ((.iload_n 2), 1) := by decide +kernel
theorem d26_13 : decode b26 13 = .ok ((.ifCond .lt 27), 3) := by decide +kernel
theorem d26_16 : decode b26 16 = .ok ((.iload_n 2), 1) := by decide +kernel
theorem d26_17 : decode b26 17 = .ok ((.aload_n 0), 1) := by decide +kernel
theorem d26_18 : decode b26 18 = .ok ((.getfield 21), 3) := by decide +kernel
theorem d26_21 : decode b26 21 = .ok ((.if_icmp .ge 19), 3) := by decide +kernel
theorem d26_24 : decode b26 24 = .ok ((.iload_n 1), 1) := by decide +kernel
theorem d26_25 : decode b26 25 = .ok ((.aload_n 0), 1) := by decide +kernel
theorem d26_26 : decode b26 26 = .ok ((.getfield 21), 3) := by decide +kernel
theorem d26_29 : decode b26 29 = .ok (.imul, 1) := by decide +kernel
theorem d26_30 : decode b26 30 = .ok ((.iload_n 2), 1) := by decide +kernel
theorem d26_31 : decode b26 31 = .ok (.iadd, 1) := by decide +kernel
theorem d26_32 : decode b26 32 = .ok ((.aload_n 0), 1) := by decide +kernel
theorem d26_33 : decode b26 33 = .ok ((.getfield 11), 3) := by decide +kernel
theorem d26_36 : decode b26 36 = .ok (.arraylength, 1) := by decide +kernel
theorem d26_37 : decode b26 37 = .ok ((.if_icmp .lt 5), 3) := by decide +kernel
theorem d26_40 : decode b26 40 = .ok ((.iconst 0), 1) := by decide +kernel
theorem d26_41 : decode b26 41 = .ok (.ireturn, 1) := by decide +kernel
theorem d26_42 : decode b26 42 = .ok ((.aload_n 0), 1) := by decide +kernel
theorem d26_43 : decode b26 43 = .ok ((.aload_n 0), 1) := by decide +kernel
theorem d26_44 : decode b26 44 = .ok ((.getfield 11), 3) := by decide +kernel
theorem d26_47 : decode b26 47 = .ok ((.iload_n 1), 1) := by decide +kernel
theorem d26_48 : decode b26 48 = .ok ((.aload_n 0), 1) := by decide +kernel
theorem d26_49 : decode b26 49 = .ok ((.getfield 21), 3) := by decide +kernel
theorem d26_52 : decode b26 52 = .ok (.imul, 1) := by decide +kernel
theorem d26_53 : decode b26 53 = .ok ((.iload_n 2), 1) := by decide +kernel
theorem d26_54 : decode b26 54 = .ok (.iadd, 1) := by decide +kernel
theorem d26_55 : decode b26 55 = .ok (.aaload, 1) := by decide +kernel
theorem d26_56 : decode b26 56 = .ok ((.putfield 28), 3) := by decide +kernel
theorem d26_59 : decode b26 59 = .ok ((.iconst 1), 1) := by decide +kernel
theorem d26_60 : decode b26 60 = .ok (.ireturn, 1) := by decide +kernel
abbrev b13 : ByteArray := prog_1_method_14_code
theorem d13_0 : decode b13 0 = .ok ((.aload_n 0), 1) := by decide +kernel
theorem d13_1 : decode b13 1 = .ok ((.getfield 32), 3) := by decide +kernel
theorem d13_4 : decode b13 4 = .ok ((.iload_n 1), 1) := by decide +kernel
theorem d13_5 : decode b13 5 = .ok ((.iload_n 2), 1) := by decide +kernel
theorem d13_6 : decode b13 6 = .ok ((.invokevirtual 202), 3) := by decide +kernel
theorem d13_9 : decode b13 9 = .ok ((.ifCond .eq 16), 3) := by decide +kernel
theorem d13_12 : decode b13 12 = .ok ((.aload_n 0), 1) := by decide +kernel
theorem d13_13 : decode b13 13 = .ok ((.getfield 32), 3) := by decide +kernel
theorem d13_16 : decode b13 16 = .ok ((.getfield 182), 3) := by decide +kernel
theorem d13_19 : decode b13 19 = .ok ((.getfield 186), 3) := by decide +kernel
theorem d13_22 : decode b13 22 = .ok ((.goto 4), 3) := by decide +kernel
theorem d13_25 : decode b13 25 = .ok ((.iconst (-1)), 1) := by decide +kernel
theorem d13_26 : decode b13 26 = .ok (.ireturn, 1) := by decide +kernel
abbrev b35 : ByteArray := prog_3_method_6_code
theorem d35_0 : decode b35 0 = .ok ((.iload_n 1), 1) := by decide +kernel
theorem d35_1 : decode b35 1 = .ok ((.ifCond .lt 29), 3) := by decide +kernel
theorem d35_4 : decode b35 4 = .ok ((.iload_n 1), 1) := by decide +kernel
theorem d35_5 : decode b35 5 = .ok ((.aload_n 0), 1) := by decide +kernel
theorem d35_6 : decode b35 6 = .ok ((.getfield 43), 3) := by decide +kernel
theorem d35_9 : decode b35 9 = .ok ((.if_icmp .ge 21), 3) := by decide +kernel
theorem d35_12 : decode b35 12 = .ok ((.iload_n 1), 1) := by decide +kernel
theorem d35_13 : decode b35 13 = .ok ((.aload_n 0), 1) := by decide +kernel
theorem d35_14 : decode b35 14 = .ok ((.getfield 32), 3) := by decide +kernel
theorem d35_17 : decode b35 17 = .ok (.arraylength, 1) := by decide +kernel
theorem d35_18 : decode b35 18 = .ok ((.if_icmp .ge 12), 3) := by decide +kernel
theorem d35_21 : decode b35 21 = .ok ((.aload_n 0), 1) := by decide +kernel
theorem d35_22 : decode b35 22 = .ok ((.getfield 32), 3) := by decide +kernel
theorem d35_25 : decode b35 25 = .ok ((.iload_n 1), 1) := by decide +kernel
theorem d35_26 : decode b35 26 = .ok (.aaload, 1) := by decide +kernel
theorem d35_27 : decode b35 27 = .ok ((.goto 7), 3) := by decide +kernel
theorem d35_30 : decode b35 30 = .ok ((.aload_n 0), 1) := by decide +kernel
theorem d35_31 : decode b35 31 = .ok ((.getfield 24), 3) := by decide +kernel
theorem d35_34 : decode b35 34 = .ok (.areturn, 1) := by decide +kernel
abbrev b43 : ByteArray := prog_3_method_5_code
theorem d43_0 : decode b43 0 = .ok ((.aload_n 0), 1) := by decide +kernel
theorem d43_1 : decode b43 1 = .ok ((.aload_n 0), 1) := by decide +kernel
theorem d43_2 : decode b43 2 = .ok ((.getfield 43), 3) := by decide +kernel
theorem d43_5 : decode b43 5 = .ok ((.iconst 1), 1) := by decide +kernel
theorem d43_6 : decode b43 6 = .ok (.isub, 1) := by decide +kernel
theorem d43_7 : decode b43 7 = .ok ((.invokevirtual 62), 3) := by decide +kernel
theorem d43_10 : decode b43 10 = .ok ((.astore_n 3), 1) := by decide +kernel
theorem d43_11 : decode b43 11 = .ok ((.iload_n 1), 1) := by decide +kernel
theorem d43_12 : decode b43 12 = .ok ((.ifCond .lt 30), 3) := by decide +kernel
theorem d43_15 : decode b43 15 = .ok ((.iload_n 1), 1) := by decide +kernel
theorem d43_16 : decode b43 16 = .ok ((.aload_n 3), 1) := by decide +kernel
theorem d43_17 : decode b43 17 = .ok ((.getfield 49), 3) := by decide +kernel
theorem d43_20 : decode b43 20 = .ok ((.aload_n 3), 1) := by decide +kernel
theorem d43_21 : decode b43 21 = .ok ((.getfield 52), 3) := by decide +kernel
theorem d43_24 : decode b43 24 = .ok (.imul, 1) := by decide +kernel
theorem d43_25 : decode b43 25 = .ok ((.if_icmp .ge 17), 3) := by decide +kernel
theorem d43_28 : decode b43 28 = .ok ((.aload_n 3), 1) := by decide +kernel
theorem d43_29 : decode b43 29 = .ok ((.getfield 55), 3) := by decide +kernel
theorem d43_32 : decode b43 32 = .ok ((.iload_n 1), 1) := by decide +kernel
theorem d43_33 : decode b43 33 = .ok (.iadd, 1) := by decide +kernel
theorem d43_34 : decode b43 34 = .ok ((.aload_n 0), 1) := by decide +kernel
theorem d43_35 : decode b43 35 = .ok ((.getfield 28), 3) := by decide +kernel
theorem d43_38 : decode b43 38 = .ok (.arraylength, 1) := by decide +kernel
theorem d43_39 : decode b43 39 = .ok ((.if_icmp .lt 5), 3) := by decide +kernel
theorem d43_42 : decode b43 42 = .ok ((.iconst 0), 1) := by decide +kernel
theorem d43_43 : decode b43 43 = .ok (.ireturn, 1) := by decide +kernel
theorem d43_44 : decode b43 44 = .ok ((.aload_n 0), 1) := by decide +kernel
theorem d43_45 : decode b43 45 = .ok ((.getfield 28), 3) := by decide +kernel
theorem d43_48 : decode b43 48 = .ok ((.aload_n 3), 1) := by decide +kernel
theorem d43_49 : decode b43 49 = .ok ((.getfield 55), 3) := by decide +kernel
theorem d43_52 : decode b43 52 = .ok ((.iload_n 1), 1) := by decide +kernel
theorem d43_53 : decode b43 53 = .ok (.iadd, 1) := by decide +kernel
theorem d43_54 : decode b43 54 = .ok ((.aload_n 2), 1) := by decide +kernel
theorem d43_55 : decode b43 55 = .ok (.aastore, 1) := by decide +kernel
theorem d43_56 : decode b43 56 = .ok ((.iconst 1), 1) := by decide +kernel
theorem d43_57 : decode b43 57 = .ok (.ireturn, 1) := by decide +kernel
abbrev b14 : ByteArray := prog_1_method_8_code
theorem d14_0 : decode b14 0 = .ok ((.iload_n 2), 1) := by decide +kernel
theorem d14_1 : decode b14 1 = .ok ((.tableswitch 130 0 4 #[35, 47, 130, 91, 114]), 35) := by decide +kernel
theorem d14_36 : decode b14 36 = .ok ((.aload_n 0), 1) := by decide +kernel
theorem d14_37 : decode b14 37 = .ok ((.getfield 25), 3) := by decide +kernel
theorem d14_40 : decode b14 40 = .ok ((.iload_n 1), 1) := by decide +kernel
theorem d14_41 : decode b14 41 = .ok ((.invokestatic 115), 3) := by decide +kernel
theorem d14_44 : decode b14 44 = .ok ((.invokevirtual 121), 3) := by decide +kernel
theorem d14_47 : decode b14 47 = .ok (.ireturn, 1) := by decide +kernel
theorem d14_48 : decode b14 48 = .ok ((.dload_n 3), 1) := by decide +kernel
theorem d14_49 : decode b14 49 = .ok ((.dconst 0), 1) := by decide +kernel
theorem d14_50 : decode b14 50 = .ok ((.dcmp .g), 1) := by decide +kernel
theorem d14_51 : decode b14 51 = .ok ((.ifCond .ge 8), 3) := by decide +kernel
theorem d14_54 : decode b14 54 = .ok ((.dload_n 3), 1) := by decide +kernel
theorem d14_55 : decode b14 55 = .ok (.dneg, 1) := by decide +kernel
theorem d14_56 : decode b14 56 = .ok ((.goto 4), 3) := by decide +kernel
theorem d14_59 : decode b14 59 = .ok ((.dload_n 3), 1) := by decide +kernel
theorem d14_60 : decode b14 60 = .ok ((.dstore 5), 2) := by decide +kernel
theorem d14_62 : decode b14 62 = .ok ((.dload 5), 2) := by decide +kernel
theorem d14_64 : decode b14 64 = .ok ((.ldc2_w 125), 3) := by decide +kernel
theorem d14_67 : decode b14 67 = .ok ((.dcmp .g), 1) := by decide +kernel
theorem d14_68 : decode b14 68 = .ok ((.ifCond .ge 22), 3) := by decide +kernel
theorem d14_71 : decode b14 71 = .ok ((.aload_n 0), 1) := by decide +kernel
theorem d14_72 : decode b14 72 = .ok ((.getfield 25), 3) := by decide +kernel
theorem d14_75 : decode b14 75 = .ok ((.iload_n 1), 1) := by decide +kernel
theorem d14_76 : decode b14 76 = .ok ((.dload_n 3), 1) := by decide +kernel
theorem d14_77 : decode b14 77 = .ok ((.invokestatic 127), 3) := by decide +kernel
theorem d14_80 : decode b14 80 = .ok ((.invokevirtual 121), 3) := by decide +kernel
theorem d14_83 : decode b14 83 = .ok ((.ifCond .eq 7), 3) := by decide +kernel
theorem d14_86 : decode b14 86 = .ok ((.iconst 1), 1) := by decide +kernel
theorem d14_87 : decode b14 87 = .ok ((.goto 4), 3) := by decide +kernel
theorem d14_90 : decode b14 90 = .ok ((.iconst 0), 1) := by decide +kernel
theorem d14_91 : decode b14 91 = .ok (.ireturn, 1) := by decide +kernel
theorem d14_92 : decode b14 92 = .ok ((.aload_n 0), 1) := by decide +kernel
theorem d14_93 : decode b14 93 = .ok ((.getfield 25), 3) := by decide +kernel
theorem d14_96 : decode b14 96 = .ok ((.iload_n 1), 1) := by decide +kernel
theorem d14_97 : decode b14 97 = .ok ((.dload_n 3), 1) := by decide +kernel
theorem d14_98 : decode b14 98 = .ok ((.dconst 0), 1) := by decide +kernel
theorem d14_99 : decode b14 99 = .ok ((.dcmp .l), 1) := by decide +kernel
theorem d14_100 : decode b14 100 = .ok ((.ifCond .eq 7), 3) := by decide +kernel
theorem d14_103 : decode b14 103 = .ok ((.iconst 1), 1) := by decide +kernel
theorem d14_104 : decode b14 104 = .ok ((.goto 4), 3) := by decide +kernel
theorem d14_107 : decode b14 107 = .ok ((.iconst 0), 1) := by decide +kernel
theorem d14_108 : decode b14 108 = .ok ((.invokestatic 131), 3) := by decide +kernel
theorem d14_111 : decode b14 111 = .ok ((.invokevirtual 121), 3) := by decide +kernel
theorem d14_114 : decode b14 114 = .ok (.ireturn, 1) := by decide +kernel
theorem d14_115 : decode b14 115 = .ok ((.aload_n 0), 1) := by decide +kernel
theorem d14_116 : decode b14 116 = .ok ((.getfield 25), 3) := by decide +kernel
theorem d14_119 : decode b14 119 = .ok ((.iload_n 1), 1) := by decide +kernel
theorem d14_120 : decode b14 120 = .ok ((.dload_n 3), 1) := by decide +kernel
theorem d14_121 : decode b14 121 = .ok ((.invokestatic 135), 3) := by decide +kernel
theorem d14_124 : decode b14 124 = .ok ((.invokestatic 139), 3) := by decide +kernel
theorem d14_127 : decode b14 127 = .ok ((.invokevirtual 121), 3) := by decide +kernel
theorem d14_130 : decode b14 130 = .ok (.ireturn, 1) := by decide +kernel
theorem d14_131 : decode b14 131 = .ok ((.iconst 0), 1) := by decide +kernel
theorem d14_132 : decode b14 132 = .ok (.ireturn, 1) := by decide +kernel
abbrev b15 : ByteArray := prog_1_method_10_code
theorem d15_0 : decode b15 0 = .ok ((.aload_n 0), 1) := by decide +kernel
theorem d15_1 : decode b15 1 = .ok ((.getfield 25), 3) := by decide +kernel
theorem d15_4 : decode b15 4 = .ok ((.iload_n 1), 1) := by decide +kernel
theorem d15_5 : decode b15 5 = .ok ((.aload_n 0), 1) := by decide +kernel
theorem d15_6 : decode b15 6 = .ok ((.getfield 15), 3) := by decide +kernel
theorem d15_9 : decode b15 9 = .ok ((.invokestatic 143), 3) := by decide +kernel
theorem d15_12 : decode b15 12 = .ok ((.invokevirtual 121), 3) := by decide +kernel
theorem d15_15 : decode b15 15 = .ok (.ireturn, 1) := by decide +kernel
abbrev b44 : ByteArray := prog_3_method_4_code
theorem d44_0 : decode b44 0 = .ok ((.aload_n 0), 1) := by decide +kernel
theorem d44_1 : decode b44 1 = .ok ((.aload_n 0), 1) := by decide +kernel
theorem d44_2 : decode b44 2 = .ok ((.getfield 43), 3) := by decide +kernel
theorem d44_5 : decode b44 5 = .ok ((.iconst 1), 1) := by decide +kernel
theorem d44_6 : decode b44 6 = .ok (.isub, 1) := by decide +kernel
theorem d44_7 : decode b44 7 = .ok ((.invokevirtual 62), 3) := by decide +kernel
theorem d44_10 : decode b44 10 = .ok ((.astore_n 3), 1) := by decide +kernel
theorem d44_11 : decode b44 11 = .ok ((.aload_n 3), 1) := by decide +kernel
theorem d44_12 : decode b44 12 = .ok ((.getfield 49), 3) := by decide +kernel
theorem d44_15 : decode b44 15 = .ok ((.ifCond .eq 33), 3) := by decide +kernel
theorem d44_18 : decode b44 18 = .ok ((.iload_n 1), 1) := by decide +kernel
theorem d44_19 : decode b44 19 = .ok ((.iload_n 2), 1) := by decide +kernel
theorem d44_20 : decode b44 20 = .ok ((.invokestatic 66), 3) := by decide +kernel
theorem d44_23 : decode b44 23 = .ok ((.ifCond .eq 25), 3) := by decide +kernel
theorem d44_26 : decode b44 26 = .ok ((.iload_n 1), 1) := by decide +kernel
theorem d44_27 : decode b44 27 = .ok ((.aload_n 3), 1) := by decide +kernel
theorem d44_28 : decode b44 28 = .ok ((.getfield 49), 3) := by decide +kernel
theorem d44_31 : decode b44 31 = .ok (.iadd, 1) := by decide +kernel
theorem d44_32 : decode b44 32 = .ok ((.iconst 1), 1) := by decide +kernel
theorem d44_33 : decode b44 33 = .ok (.isub, 1) := by decide +kernel
theorem d44_34 : decode b44 34 = .ok ((.iload_n 2), 1) := by decide +kernel
theorem d44_35 : decode b44 35 = .ok ((.aload_n 3), 1) := by decide +kernel
theorem d44_36 : decode b44 36 = .ok ((.getfield 52), 3) := by decide +kernel
theorem d44_39 : decode b44 39 = .ok (.iadd, 1) := by decide +kernel
theorem d44_40 : decode b44 40 = .ok ((.iconst 1), 1) := by decide +kernel
theorem d44_41 : decode b44 41 = .ok (.isub, 1) := by decide +kernel
theorem d44_42 : decode b44 42 = .ok ((.invokestatic 66), 3) := by decide +kernel
theorem d44_45 : decode b44 45 = .ok ((.ifCond .ne 5), 3) := by decide +kernel
theorem d44_48 : decode b44 48 = .ok ((.iconst 0), 1) := by decide +kernel
theorem d44_49 : decode b44 49 = .ok (.ireturn, 1) := by decide +kernel
theorem d44_50 : decode b44 50 = .ok ((.aload_n 3), 1) := by decide +kernel
theorem d44_51 : decode b44 51 = .ok ((.iconst 1), 1) := by decide +kernel
theorem d44_52 : decode b44 52 = .ok ((.putfield 58), 3) := by decide +kernel
theorem d44_55 : decode b44 55 = .ok ((.aload_n 3), 1) := by decide +kernel
theorem d44_56 : decode b44 56 = .ok ((.iload_n 1), 1) := by decide +kernel
theorem d44_57 : decode b44 57 = .ok ((.putfield 70), 3) := by decide +kernel
theorem d44_60 : decode b44 60 = .ok ((.aload_n 3), 1) := by decide +kernel
theorem d44_61 : decode b44 61 = .ok ((.iload_n 2), 1) := by decide +kernel
theorem d44_62 : decode b44 62 = .ok ((.putfield 73), 3) := by decide +kernel
theorem d44_65 : decode b44 65 = .ok ((.iconst 1), 1) := by decide +kernel
theorem d44_66 : decode b44 66 = .ok (.ireturn, 1) := by decide +kernel
abbrev b16 : ByteArray := prog_1_method_7_code
theorem d16_0 : decode b16 0 = .ok ((.aload_n 0), 1) := by decide +kernel
theorem d16_1 : decode b16 1 = .ok ((.getfield 25), 3) := by decide +kernel
theorem d16_4 : decode b16 4 = .ok ((.iload_n 1), 1) := by decide +kernel
theorem d16_5 : decode b16 5 = .ok ((.iload_n 2), 1) := by decide +kernel
theorem d16_6 : decode b16 6 = .ok ((.invokevirtual 112), 3) := by decide +kernel
theorem d16_9 : decode b16 9 = .ok (.ireturn, 1) := by decide +kernel
abbrev b17 : ByteArray := prog_1_method_13_code
theorem d17_0 : decode b17 0 = .ok ((.iload_n 1), 1) := by decide +kernel
theorem d17_1 : decode b17 1 = .ok ((.ifCond .eq 13), 3) := by decide +kernel
theorem d17_4 : decode b17 4 = .ok ((.aload_n 0), 1) := by decide +kernel
theorem d17_5 : decode b17 5 = .ok ((.getfield 32), 3) := by decide +kernel
theorem d17_8 : decode b17 8 = .ok ((.getfield 196), 3) := by decide +kernel
theorem d17_11 : decode b17 11 = .ok ((.goto 10), 3) := by decide +kernel
theorem d17_14 : decode b17 14 = .ok ((.aload_n 0), 1) := by decide +kernel
theorem d17_15 : decode b17 15 = .ok ((.getfield 32), 3) := by decide +kernel
theorem d17_18 : decode b17 18 = .ok ((.getfield 199), 3) := by decide +kernel
theorem d17_21 : decode b17 21 = .ok (.ireturn, 1) := by decide +kernel
abbrev b18 : ByteArray := prog_1_method_20_code
theorem d18_0 : decode b18 0 = .ok ((.iload_n 0), 1) := by decide +kernel
theorem d18_1 : decode b18 1 = .ok ((.bipush 65), 2) := by decide +kernel
theorem d18_3 : decode b18 3 = .ok ((.if_icmp .lt 20), 3) := by decide +kernel
theorem d18_6 : decode b18 6 = .ok ((.iload_n 0), 1) := by decide +kernel
theorem d18_7 : decode b18 7 = .ok ((.bipush 90), 2) := by decide +kernel
theorem d18_9 : decode b18 9 = .ok ((.if_icmp .gt 14), 3) := by decide +kernel
theorem d18_12 : decode b18 12 = .ok ((.iload_n 0), 1) := by decide +kernel
theorem d18_13 : decode b18 13 = .ok ((.bipush 65), 2) := by decide +kernel
theorem d18_15 : decode b18 15 = .ok (.isub, 1) := by decide +kernel
theorem d18_16 : decode b18 16 = .ok ((.bipush 97), 2) := by decide +kernel
theorem d18_18 : decode b18 18 = .ok (.iadd, 1) := by decide +kernel
theorem d18_19 : decode b18 19 = .ok (.i2c, 1) := by decide +kernel
theorem d18_20 : decode b18 20 = .ok ((.goto 4), 3) := by decide +kernel
theorem d18_23 : decode b18 23 = .ok ((.iload_n 0), 1) := by decide +kernel
theorem d18_24 : decode b18 24 = .ok (.ireturn, 1) := by decide +kernel
abbrev b19 : ByteArray := prog_1_method_21_code
theorem d19_0 : decode b19 0 = .ok ((.aload_n 0), 1) := by decide +kernel
theorem d19_1 : decode b19 1 = .ok ((.invokevirtual 223), 3) := by decide +kernel
theorem d19_4 : decode b19 4 = .ok ((.sipush 255), 3) := by decide +kernel
theorem d19_7 : decode b19 7 = .ok ((.if_icmp .le 10), 3) := by decide +kernel
theorem d19_10 : decode b19 10 = .ok ((.iconst 3), 1) := by decide +kernel
theorem d19_11 : decode b19 11 = .ok ((.invokestatic 139), 3) := by decide +kernel
theorem d19_14 : decode b19 14 = .ok ((.goto 10), 3) := by decide +kernel
theorem d19_17 : decode b19 17 = .ok ((.aload_n 0), 1) := by decide +kernel
theorem d19_18 : decode b19 18 = .ok ((.invokevirtual 83), 3) := by decide +kernel
theorem d19_21 : decode b19 21 = .ok ((.invokestatic 143), 3) := by decide +kernel
theorem d19_24 : decode b19 24 = .ok (.areturn, 1) := by decide +kernel
abbrev b20 : ByteArray := prog_1_method_15_code
theorem d20_0 : decode b20 0 = .ok ((.aload_n 0), 1) := by decide +kernel
theorem d20_1 : decode b20 1 = .ok ((.getfield 32), 3) := by decide +kernel
theorem d20_4 : decode b20 4 = .ok ((.getfield 182), 3) := by decide +kernel
theorem d20_7 : decode b20 7 = .ok ((.astore_n 1), 1) := by decide +kernel
theorem d20_8 : decode b20 8 = .ok ((.aload_n 1), 1) := by decide +kernel
theorem d20_9 : decode b20 9 = .ok ((.getfield 186), 3) := by decide +kernel
theorem d20_12 : decode b20 12 = .ok ((.iconst 2), 1) := by decide +kernel
theorem d20_13 : decode b20 13 = .ok ((.if_icmp .ne 14), 3) := by decide +kernel
theorem d20_16 : decode b20 16 = .ok ((.aload_n 1), 1) := by decide +kernel
theorem d20_17 : decode b20 17 = .ok ((.getfield 205), 3) := by decide +kernel
theorem d20_20 : decode b20 20 = .ok ((.invokevirtual 208), 3) := by decide +kernel
theorem d20_23 : decode b20 23 = .ok (.i2d, 1) := by decide +kernel
theorem d20_24 : decode b20 24 = .ok ((.goto 7), 3) := by decide +kernel
theorem d20_27 : decode b20 27 = .ok ((.aload_n 1), 1) := by decide +kernel
theorem d20_28 : decode b20 28 = .ok ((.getfield 214), 3) := by decide +kernel
theorem d20_31 : decode b20 31 = .ok (.dreturn, 1) := by decide +kernel
def wf_end_62  (st : CS) (xb : BT) : Option ((Int32 × CS) × Nat × Nat) := jd (f_sb_toS xb) (fun q1 => jn (uV st 0 2 (0, 0, q1)) (fun st3 => jn (uC st3 0 1 0) (fun st4 => some ((1, st4), 0, 0))))
def wf_end_31  : Nat → CS → Int32 → Int32 → BT → Option ((Int32 × CS) × Nat × Nat)
  | 0, _, _, _, _ => none
  | fu + 1, st, x1, x3, xb => jb (x1 ≤ x3) (wf_end_62 st xb) (jb (260 ≤ x3) (wf_end_62 st xb) (jg (inb x3 260) (jd (f_sb_appC xb (st.1 39 x3.toNatClampNeg)) (fun q6 => jn (x3 + 1) (fun v8 => wf_end_31 fu st x1 v8 q6)))))
def f_wf_end (st : CS) (p0 : Int32) : Option ((Int32 × CS) × Nat × Nat) := jb (p0 < 0) (some ((0, st), 0, 0)) (jb ((st.1 0 1) < p0) (some ((0, st), 0, 0)) (jb (p0 ≤ 255) (ja 2 20 (wf_end_31 FU st p0 0 (([] : TT), 16))) (some ((0, st), 0, 0))))
set_option maxHeartbeats 4000000 in
set_option maxRecDepth 100000 in
theorem c_wf_end (l : Launch) (ρ : RH) (ad : Nat → Nat) (H : Heap) (P : Nat → Prop) (st : CS) (p0 : Int32) (res : (Int32 × CS) × Nat × Nat) (hW : CW ρ P ad st H) (h : f_wf_end st p0 = some res) : Met l y3 (wsOf y3 b3 4 (some .boolean)) ({ frames := 13, cells := res.2.1, slots := res.2.2, locals := 621 } : Room) (va_Pc [.ref (ad 0), .int p0] (KP ρ H)) (mQ (fun v H1 => v = some (.int res.1.1) ∧ CW ρ P ad res.1.2 H1) (MA wC ad H.size)) res.2.1 res.2.2 (MA wC ad H.size) := by
  refine m_ofW (own := "WordFunctions") (plainFor_of_name rfl) rfl (Nat.le_of_ble_eq_true rfl) fun p e s m args below meth c ls hx hb hr hlk _ X hs hl => ?_
  subst hs
  have hS : va_S (MA wC ad s.heap.size) s.heap s.heap [] := va_S.rf
  have hSz := hS.1
  have hAz : ∀ q, s.heap.size ≤ q → (MA wC ad s.heap.size) q := fun q hq => Or.inr hq
  have hAp : ∀ i, i < 46 → (MA wC ad s.heap.size) (ad i) := fun i hi => MA.in hi
  have hPp : ∀ i, i < 46 → P (ad i) := hW.1
  have hl : lv_has ls 4 [(0, .ref (ad 0)), (1, .int p0)] := hl
  have kc62 : ∀ (st : CS) (xb : BT) (ba bb : Nat) (H : Heap) (locs : List Loc) (ls : Array Slot) (cells slots : Nat) (r : (Int32 × CS) × Nat × Nat), CW ρ (pe P ba bb) ad st H → va_S (MA wC ad s.heap.size) s.heap H locs → SB ρ H ba bb xb → (MA wC ad s.heap.size) ba → (MA wC ad s.heap.size) bb → (∀ i, i < 46 → ¬ ab ba bb (ad i)) → lv_has ls 4 [(0, .ref (ad 0)), (2, .ref ba)] → res.1 = r.1 → cells + r.2.1 ≤ res.2.1 → slots + r.2.2 ≤ res.2.2 → wf_end_62 st xb = some r → W p l e ({ frames := 13, cells := res.2.1, slots := res.2.2, locals := 621 } : Room) s m args below meth c H locs cells slots (MQ below (mQ (fun v H1 => v = some (.int res.1.1) ∧ CW ρ P ad res.1.2 H1) (MA wC ad s.heap.size)) args s res.2.1 res.2.2 (MA wC ad s.heap.size)) (F0 m 62 ls []) := by
    intro st xb ba bb H locs ls cells slots r hW hS hSB hAa hAb hnn hl her hc1 hs1 h
    have hSz := hS.1
    unfold wf_end_62 at h
    refine lv_aload_n (pc := 62) hx hb d3_62 rfl (lv_at hl 0 rfl) ?_
    refine lv_aload_n (pc := 63) hx hb d3_63 rfl (lv_at hl 1 rfl) ?_
    obtain ⟨q1, rq1, hq1, h, herq1, hccq1, hssq1⟩ := jd_some h
    refine k_callV (pc := 64) (n := 0) X hS (c_sb_toS l ρ _ (pe P ba bb) ba bb xb q1 hW.2.2.1 hW.2.1 ⟨hSB, Or.inr (Or.inl rfl), Or.inr (Or.inr rfl)⟩ hq1) wd411 wd408 wd409 wd410 wd13 (by decide) ⟨rfl, rfl, Nat.le_of_ble_eq_true rfl, Nat.le_of_ble_eq_true rfl⟩ (sb_recv X hSB) (As := []) (rest := [.ref (ad 0)]) rfl rfl hl.1 (Nat.le_of_ble_eq_true rfl) d3_64 ⟨room_le hccq1 hc1, room_le hssq1 hs1⟩ (fun q hq => hAz q (Nat.le_trans hS.1 hq)) (fun v H1 locs1 hv hz1 hz2 hSq1 => ?_)
    obtain ⟨u2, rfl, fu2⟩ := hv
    have hk : kp no _ H1 := kp_call hz1 hz2 (fun q hq z => absurd hq (Nat.not_lt.mpr z))
    have hSB := hSB.keep hk (fun z => z) (fun z => z)
    have hW := hW.keep hk no_hz (fun _ _ z => z)
    have hS := hSq1
    have hSz := hS.1
    have her := her.trans herq1
    have hc1 := room_st hccq1 hc1
    have hs1 := room_st hssq1 hs1
    have fu2 := fu2.un
    have hW := hW.un hPp
    obtain ⟨st3, est3, h⟩ := jn_ex h
    refine c_putcut (pc := 67) X hW hS fu2 est3 (hAp 0 (by decide)) wd244 d3_67 (fun H locs hW hS hk => ?_)
    have hSz := hS.1
    refine lv_aload_n (pc := 70) hx hb d3_70 rfl (lv_at hl 0 rfl) ?_
    refine lv_iconst (pc := 71) (v := 0) hx hb d3_71 (by decide) ?_
    obtain ⟨st4, est4, h⟩ := jn_ex h
    refine c_putI (pc := 72) X hW hS 0 1 9 (C := "WordFunctions") (T := T9) (N := 9) est4 (hAp _ (by decide)) (by decide) rfl rfl rfl rfl tin9 ty9 tyo9 tnm9 rfl wd243 rfl rfl rfl rfl d3_72 (fun H locs hW hS hk => ?_)
    have hSz := hS.1
    refine lv_iconst (pc := 75) (v := 1) hx hb d3_75 (by decide) ?_
    have her : res.1 = (1, st4) := her.trans (congrArg Prod.fst (Option.some.inj h)).symm
    exact m_zret (pc := 76) hx hb hr hlk hS ⟨by rw [her], by rw [her]; exact hW⟩ (Nat.le_trans (Nat.le_add_right _ _) hc1) (Nat.le_trans (Nat.le_add_right _ _) hs1) d3_76 (by decide)
  have kc31 : ∀ (fu : Nat), ∀ (st : CS) (x1 : Int32) (x3 : Int32) (xb : BT) (ba bb : Nat) (H : Heap) (locs : List Loc) (ls : Array Slot) (cells slots : Nat) (r : (Int32 × CS) × Nat × Nat), CW ρ (pe P ba bb) ad st H → va_S (MA wC ad s.heap.size) s.heap H locs → SB ρ H ba bb xb → (MA wC ad s.heap.size) ba → (MA wC ad s.heap.size) bb → (∀ i, i < 46 → ¬ ab ba bb (ad i)) → lv_has ls 4 [(0, .ref (ad 0)), (1, .int x1), (2, .ref ba), (3, .int x3)] → res.1 = r.1 → cells + r.2.1 ≤ res.2.1 → slots + r.2.2 ≤ res.2.2 → wf_end_31 fu st x1 x3 xb = some r → W p l e ({ frames := 13, cells := res.2.1, slots := res.2.2, locals := 621 } : Room) s m args below meth c H locs cells slots (MQ below (mQ (fun v H1 => v = some (.int res.1.1) ∧ CW ρ P ad res.1.2 H1) (MA wC ad s.heap.size)) args s res.2.1 res.2.2 (MA wC ad s.heap.size)) (F0 m 31 ls []) := by
    intro  fu
    induction fu with
    | zero => intro st x1 x3 xb ba bb H locs ls cells slots r hW hS hSB hAa hAb hnn hl her hc1 hs1 h; cases h
    | succ fu hK31 =>
      intro st x1 x3 xb ba bb H locs ls cells slots r hW hS hSB hAa hAb hnn hl her hc1 hs1 h
      have hSz := hS.1
      unfold wf_end_31 at h
      refine lv_iload_n (pc := 31) hx hb d3_31 rfl (lv_at hl 3 rfl) ?_
      refine lv_iload_n (pc := 32) hx hb d3_32 rfl (lv_at hl 1 rfl) ?_
      refine lv_icmp_ge (pc := 33) (tgt := 62) hx hb d3_33 (by decide) (fun c33 => ?_) (fun c33 => ?_)
      · have h := jb_t c33 h
        exact kc62   st xb ba bb _ _ _ _ _ _ hW hS hSB hAa hAb hnn (lv_sub hl [0, 2] rfl) her hc1 hs1 h
      · have h := jb_f c33 h
        refine lv_iload_n (pc := 36) hx hb d3_36 rfl (lv_at hl 3 rfl) ?_
        refine lv_aload_n (pc := 37) hx hb d3_37 rfl (lv_at hl 0 rfl) ?_
        refine c_getK (pc := 38) X hW 0 0 9 39 (C := "WordFunctions") (T := T9) (N := 9) (by decide) rfl rfl rfl rfl tin9 rfl wd242 rfl rfl d3_38 ?_
        refine c_alen (pc := 41) (v := 260) X hW 39 (by decide) rfl (by decide) (by decide) d3_41 ?_
        refine lv_icmp_ge (pc := 42) (tgt := 62) hx hb d3_42 (by decide) (fun c42 => ?_) (fun c42 => ?_)
        · have h := jb_t c42 h
          exact kc62   st xb ba bb _ _ _ _ _ _ hW hS hSB hAa hAb hnn (lv_sub hl [0, 2] rfl) her hc1 hs1 h
        · have h := jb_f c42 h
          refine lv_aload_n (pc := 45) hx hb d3_45 rfl (lv_at hl 2 rfl) ?_
          refine lv_aload_n (pc := 46) hx hb d3_46 rfl (lv_at hl 0 rfl) ?_
          refine c_getK (pc := 47) X hW 0 0 9 39 (C := "WordFunctions") (T := T9) (N := 9) (by decide) rfl rfl rfl rfl tin9 rfl wd242 rfl rfl d3_47 ?_
          refine lv_iload_n (pc := 50) hx hb d3_50 rfl (lv_at hl 3 rfl) ?_
          obtain ⟨g5, h⟩ := jg_some h
          refine c_cald (pc := 51) X hW 39 (by decide) rfl g5 d3_51 ?_
          obtain ⟨q6, rq6, hq6, h, herq6, hccq6, hssq6⟩ := jd_some h
          refine k_callV (pc := 52) (n := 1) X hS (c_sb_appC l ρ _ (pe P ba bb) ba bb xb (st.1 39 x3.toNatClampNeg) q6 hW.2.2.1 hW.2.1 ⟨hSB, Or.inr (Or.inl rfl), Or.inr (Or.inr rfl)⟩ hq6) wd316 wd313 wd314 wd315 wd13 (by decide) ⟨rfl, rfl, Nat.le_of_ble_eq_true rfl, Nat.le_of_ble_eq_true rfl⟩ (sb_recv X hSB) (As := [.int (st.1 39 x3.toNatClampNeg)]) (rest := []) rfl rfl hl.1 (Nat.le_of_ble_eq_true rfl) d3_52 ⟨room_le hccq6 hc1, room_le hssq6 hs1⟩ (fun q hq => hq.elim (fun e => e ▸ hAa) (fun z => z.elim (fun e => e ▸ hAb) (fun g => hAz q (Nat.le_trans hS.1 g)))) (fun v H1 locs1 hv hz1 hz2 hSq6 => ?_)
          obtain ⟨rfl, bb7, hb1, hb2, hSB⟩ := hv
          have hk : kp (ab ba bb) _ H1 := kp_call hz1 hz2 (fun q hq z => z.elim Or.inl (fun z => z.elim Or.inr (fun g => absurd hq (Nat.not_lt.mpr g))))
          have hAb : (MA wC ad s.heap.size) bb7 := hb1.elim (fun e => e ▸ hAb) (fun g => hAz _ (Nat.le_trans hS.1 g))
          have hnn0 := hnn
          have hnn : ∀ i, i < 46 → ¬ ab ba bb7 (ad i) := nn_step hnn hb1 hW
          have hW := hW.sb hk hb1 hb2 hnn0 hPp
          have hS := hSq6
          have hSz := hS.1
          have her := her.trans herq6
          have hc1 := room_st hccq6 hc1
          have hs1 := room_st hssq6 hs1
          refine lv_pop (pc := 55) hx hb d3_55 rfl ?_
          obtain ⟨v8, ev8, h⟩ := jn_ex h
          refine lv_iinc (pc := 56) (v := v8) (lv' := [(3, .int v8), (0, .ref (ad 0)), (1, .int x1), (2, .ref ba)]) hx hb d3_56 hl (k := 3) rfl (by rw [ev8]; rfl) (by decide) rfl (fun ls hl => ?_)
          refine lv_goto (pc := 59) (tgt := 31) hx hb d3_59 (by decide) ?_
          exact hK31 st x1 v8 q6.1 ba bb7 _ _ _ _ _ _ hW hS hSB hAa hAb hnn (lv_sub hl [1, 2, 3, 0] rfl) her hc1 hs1 h
  have her : res.1 = res.1 := rfl
  have hc1 : 0 + res.2.1 ≤ res.2.1 := Nat.le_of_eq (Nat.zero_add _)
  have hs1 : 0 + res.2.2 ≤ res.2.2 := Nat.le_of_eq (Nat.zero_add _)
  unfold f_wf_end at h
  refine lv_iload_n (pc := 0) hx hb d3_0 rfl (lv_at hl 1 rfl) ?_
  refine lv_if_lt (pc := 1) (tgt := 19) hx hb d3_1 (by decide) (fun c1 => ?_) (fun c1 => ?_)
  · have h := jb_t c1 h
    refine lv_iconst (pc := 19) (v := 0) hx hb d3_19 (by decide) ?_
    have her : res.1 = (0, st) := her.trans (congrArg Prod.fst (Option.some.inj h)).symm
    exact m_zret (pc := 20) hx hb hr hlk hS ⟨by rw [her], by rw [her]; exact hW⟩ (Nat.le_trans (Nat.le_add_right _ _) hc1) (Nat.le_trans (Nat.le_add_right _ _) hs1) d3_20 (by decide)
  · have h := jb_f c1 h
    refine lv_iload_n (pc := 4) hx hb d3_4 rfl (lv_at hl 1 rfl) ?_
    refine lv_aload_n (pc := 5) hx hb d3_5 rfl (lv_at hl 0 rfl) ?_
    refine c_getI (pc := 6) X hW 0 1 9 (C := "WordFunctions") (T := T9) (N := 9) (by decide) rfl rfl rfl rfl tin9 rfl wd243 rfl d3_6 ?_
    refine lv_icmp_gt (pc := 9) (tgt := 19) hx hb d3_9 (by decide) (fun c9 => ?_) (fun c9 => ?_)
    · have h := jb_t c9 h
      refine lv_iconst (pc := 19) (v := 0) hx hb d3_19 (by decide) ?_
      have her : res.1 = (0, st) := her.trans (congrArg Prod.fst (Option.some.inj h)).symm
      exact m_zret (pc := 20) hx hb hr hlk hS ⟨by rw [her], by rw [her]; exact hW⟩ (Nat.le_trans (Nat.le_add_right _ _) hc1) (Nat.le_trans (Nat.le_add_right _ _) hs1) d3_20 (by decide)
    · have h := jb_f c9 h
      refine lv_iload_n (pc := 12) hx hb d3_12 rfl (lv_at hl 1 rfl) ?_
      refine lv_sipush (pc := 13) (v := 255) hx hb d3_13 (by decide) ?_
      refine lv_icmp_le (pc := 16) (tgt := 21) hx hb d3_16 (by decide) (fun c16 => ?_) (fun c16 => ?_)
      · have h := jb_t c16 h
        obtain ⟨r9, h, her9, hcc9, hss9⟩ := ja_some h
        refine k_newSB (pc := 21) X hS hW.2.2.1 hW.2.1 hAz wd282 wd284 (rest := []) hl.1 (Nat.le_of_ble_eq_true rfl) rfl rfl (room_le hcc9 hc1) (room_le hss9 hs1) d3_21 d3_24 d3_25 (fun ba bb H1 locs hka hba hbb hba1 hbb1 hSB hS => ?_)
        have hnn : ∀ i, i < 46 → ¬ ab ba bb (ad i) := nn_new hW hba hbb
        have hW := hW.new hka hba hbb hba1 hbb1
        have hAa : (MA wC ad s.heap.size) ba := hAz _ (Nat.le_trans hSz hba)
        have hAb : (MA wC ad s.heap.size) bb := hAz _ (Nat.le_trans hSz hbb)
        have hSz := hS.1
        have her := her.trans her9
        have hc1 := room_st hcc9 hc1
        have hs1 := room_st hss9 hs1
        refine lv_astore_n (pc := 28) (lv' := [(2, .ref ba), (0, .ref (ad 0)), (1, .int p0)]) hx hb d3_28 rfl hl (by decide) rfl (fun ls hl => ?_)
        refine lv_iconst (pc := 29) (v := 0) hx hb d3_29 (by decide) ?_
        refine lv_istore_n (pc := 30) (lv' := [(3, .int 0), (2, .ref ba), (0, .ref (ad 0)), (1, .int p0)]) hx hb d3_30 rfl hl (by decide) rfl (fun ls hl => ?_)
        exact kc31  FU st p0 0 (([] : TT), 16) ba bb _ _ _ _ _ _ hW hS hSB hAa hAb hnn (lv_sub hl [2, 3, 1, 0] rfl) her hc1 hs1 h
      · have h := jb_f c16 h
        refine lv_iconst (pc := 19) (v := 0) hx hb d3_19 (by decide) ?_
        have her : res.1 = (0, st) := her.trans (congrArg Prod.fst (Option.some.inj h)).symm
        exact m_zret (pc := 20) hx hb hr hlk hS ⟨by rw [her], by rw [her]; exact hW⟩ (Nat.le_trans (Nat.le_add_right _ _) hc1) (Nat.le_trans (Nat.le_add_right _ _) hs1) d3_20 (by decide)
def wf_errorNumber_2  : Nat → UInt64 → Int32 → Option (Int32)
  | 0, _, _ => none
  | fu + 1, x0, x2 => jb (8 < x2) (some 3) (jb ((Op.cmpValue (FP.dcmp x0 (FP.i2d x2)) .l) = 0) (some x2) (jn (x2 + 1) (fun v1 => wf_errorNumber_2 fu x0 v1)))
def f_wf_errorNumber  (p0 : UInt64) : Option (Int32) := wf_errorNumber_2 FU p0 1
set_option maxHeartbeats 4000000 in
set_option maxRecDepth 100000 in
theorem c_wf_errorNumber (l : Launch) (ρ : RH) (H : Heap) (P : Nat → Prop) (p0 : UInt64) (res : Int32) (hC : CC ρ P H) (hPb : ∀ q, P q → q < H.size) (h : f_wf_errorNumber p0 = some res) : Met l y4 (wsOf y4 b4 3 (some .int)) ({ frames := 0, cells := 0, slots := 0, locals := 0 } : Room) (va_Pc [.double p0] (KP ρ H)) (mQ (fun v H1 => v = some (.int res) ∧ H1 = H) (fun _ => False)) 0 0 (fun _ => False) := by
  refine m_ofW (own := "WordFunctions") (plainFor_of_name rfl) rfl (Nat.le_of_ble_eq_true rfl) fun p e s m args below meth c ls hx hb hr hlk _ X hs hl => ?_
  subst hs
  have hS : va_S (fun _ => False) s.heap s.heap [] := va_S.rf
  have hSz := hS.1
  have hl : lv_has ls 3 [(0, .double p0)] := hl
  have kc2 : ∀ (fu : Nat), ∀ (x0 : UInt64) (x2 : Int32) (locs : List Loc) (ls : Array Slot), va_S (fun _ => False) s.heap s.heap locs → lv_has ls 3 [(0, .double x0), (2, .int x2)] → wf_errorNumber_2 fu x0 x2 = some res → W p l e ({ frames := 0, cells := 0, slots := 0, locals := 0 } : Room) s m args below meth c s.heap locs 0 0 (MQ below (mQ (fun v H1 => v = some (.int res) ∧ H1 = s.heap) (fun _ => False)) args s 0 0 (fun _ => False)) (F0 m 2 ls []) := by
    intro  fu
    induction fu with
    | zero => intro x0 x2 locs ls hS hl h; cases h
    | succ fu hK2 =>
      intro x0 x2 locs ls hS hl h
      have hSz := hS.1
      unfold wf_errorNumber_2 at h
      refine lv_iload_n (pc := 2) hx hb d4_2 rfl (lv_at hl 1 rfl) ?_
      refine lv_bipush (pc := 3) (v := 8) hx hb d4_3 (by decide) ?_
      refine lv_icmp_gt (pc := 5) (tgt := 23) hx hb d4_5 (by decide) (fun c5 => ?_) (fun c5 => ?_)
      · have h := jb_t c5 h
        refine lv_iconst (pc := 23) (v := 3) hx hb d4_23 (by decide) ?_
        obtain rfl := Option.some.inj h
        exact m_iret (pc := 24) hx hb hr hlk hS ⟨rfl, rfl⟩ (Nat.le_refl _) (Nat.le_refl _) d4_24
      · have h := jb_f c5 h
        refine lv_dload_n (pc := 8) hx hb d4_8 rfl (lv_at hl 0 rfl) ?_
        refine lv_iload_n (pc := 9) hx hb d4_9 rfl (lv_at hl 1 rfl) ?_
        refine lv_i2d (pc := 10) hx hb d4_10 ?_
        refine lv_dcmp (pc := 11) hx hb d4_11 ?_
        refine lv_if_ne (pc := 12) (tgt := 17) hx hb d4_12 (by decide) (fun c12 => ?_) (fun c12 => ?_)
        · have h := jb_f c12 h
          obtain ⟨v1, ev1, h⟩ := jn_ex h
          refine lv_iinc (pc := 17) (v := v1) (lv' := [(2, .int v1), (0, .double x0)]) hx hb d4_17 hl (k := 1) rfl (by rw [ev1]; rfl) (by decide) rfl (fun ls hl => ?_)
          refine lv_goto (pc := 20) (tgt := 2) hx hb d4_20 (by decide) ?_
          exact hK2 x0 v1 _ _ hS (lv_sub hl [1, 0] rfl) h
        · have h := jb_t c12 h
          refine lv_iload_n (pc := 15) hx hb d4_15 rfl (lv_at hl 1 rfl) ?_
          obtain rfl := Option.some.inj h
          exact m_iret (pc := 16) hx hb hr hlk hS ⟨rfl, rfl⟩ (Nat.le_refl _) (Nat.le_refl _) d4_16
  unfold f_wf_errorNumber at h
  refine lv_iconst (pc := 0) (v := 1) hx hb d4_0 (by decide) ?_
  refine lv_istore_n (pc := 1) (lv' := [(2, .int 1), (0, .double p0)]) hx hb d4_1 rfl hl (by decide) rfl (fun ls hl => ?_)
  exact kc2  FU p0 1 _ _ hS (lv_sub hl [1, 0] rfl) h
def wf_lay_46 (K3 : CS → Int32 → Int32 → Option (CS)) (st : CS) (x1 : Int32) (x2 : Int32) : Option (CS) := jn (x2 + (-8)) (fun v1 => K3 st x1 v1)
def wf_lay_3  : Nat → CS → Int32 → Int32 → Option (CS)
  | 0, _, _, _ => none
  | fu + 1, st, x1, x2 => jb (x2 < 0) (some st) (jb (260 ≤ (st.1 0 1)) (wf_lay_46 (wf_lay_3 fu) st x1 x2) (jg (inb (st.1 0 1) 260) (jg (isC ((((x1.toUInt32 >>> (x2.toUInt32 &&& Int32.toUInt32 31)).toInt32 &&& 255).toUInt32 % 65536).toInt32)) (jn (uC st 39 (st.1 0 1).toNatClampNeg ((((x1.toUInt32 >>> (x2.toUInt32 &&& Int32.toUInt32 31)).toInt32 &&& 255).toUInt32 % 65536).toInt32)) (fun st4 => jn (uC st4 0 1 ((st4.1 0 1) + 1)) (fun st5 => wf_lay_46 (wf_lay_3 fu) st5 x1 x2))))))
def f_wf_lay (st : CS) (p0 : Int32) : Option (CS) := wf_lay_3 FU st p0 24
set_option maxHeartbeats 4000000 in
set_option maxRecDepth 100000 in
theorem c_wf_lay (l : Launch) (ρ : RH) (ad : Nat → Nat) (H : Heap) (P : Nat → Prop) (st : CS) (p0 : Int32) (res : CS) (hW : CW ρ P ad st H) (h : f_wf_lay st p0 = some res) : Met l y11 (wsOf y11 b11 3 none) ({ frames := 0, cells := 0, slots := 0, locals := 0 } : Room) (va_Pc [.ref (ad 0), .int p0] (KP ρ H)) (mQ (fun v H1 => v = none ∧ CW ρ P ad res H1) (MA wC ad H.size)) 0 0 (MA wC ad H.size) := by
  refine m_ofW (own := "WordFunctions") (plainFor_of_name rfl) rfl (Nat.le_of_ble_eq_true rfl) fun p e s m args below meth c ls hx hb hr hlk _ X hs hl => ?_
  subst hs
  have hS : va_S (MA wC ad s.heap.size) s.heap s.heap [] := va_S.rf
  have hSz := hS.1
  have hAz : ∀ q, s.heap.size ≤ q → (MA wC ad s.heap.size) q := fun q hq => Or.inr hq
  have hAp : ∀ i, i < 46 → (MA wC ad s.heap.size) (ad i) := fun i hi => MA.in hi
  have hPp : ∀ i, i < 46 → P (ad i) := hW.1
  have hl : lv_has ls 3 [(0, .ref (ad 0)), (1, .int p0)] := hl
  have kc46 : ∀ (K3 : CS → Int32 → Int32 → Option (CS)) (hK3 : ∀ (st : CS) (x1 : Int32) (x2 : Int32) (H : Heap) (locs : List Loc) (ls : Array Slot), CW ρ P ad st H → va_S (MA wC ad s.heap.size) s.heap H locs → lv_has ls 3 [(0, .ref (ad 0)), (1, .int x1), (2, .int x2)] → K3 st x1 x2 = some res → W p l e ({ frames := 0, cells := 0, slots := 0, locals := 0 } : Room) s m args below meth c H locs 0 0 (MQ below (mQ (fun v H1 => v = none ∧ CW ρ P ad res H1) (MA wC ad s.heap.size)) args s 0 0 (MA wC ad s.heap.size)) (F0 m 3 ls [])), ∀ (st : CS) (x1 : Int32) (x2 : Int32) (H : Heap) (locs : List Loc) (ls : Array Slot), CW ρ P ad st H → va_S (MA wC ad s.heap.size) s.heap H locs → lv_has ls 3 [(0, .ref (ad 0)), (1, .int x1), (2, .int x2)] → wf_lay_46 K3 st x1 x2 = some res → W p l e ({ frames := 0, cells := 0, slots := 0, locals := 0 } : Room) s m args below meth c H locs 0 0 (MQ below (mQ (fun v H1 => v = none ∧ CW ρ P ad res H1) (MA wC ad s.heap.size)) args s 0 0 (MA wC ad s.heap.size)) (F0 m 46 ls []) := by
    intro K3 hK3
    intro st x1 x2 H locs ls hW hS hl h
    have hSz := hS.1
    unfold wf_lay_46 at h
    obtain ⟨v1, ev1, h⟩ := jn_ex h
    refine lv_iinc (pc := 46) (v := v1) (lv' := [(2, .int v1), (0, .ref (ad 0)), (1, .int x1)]) hx hb d11_46 hl (k := 2) rfl (by rw [ev1]; rfl) (by decide) rfl (fun ls hl => ?_)
    refine lv_goto (pc := 49) (tgt := 3) hx hb d11_49 (by decide) ?_
    exact hK3 st x1 v1 _ _ _ hW hS (lv_sub hl [1, 2, 0] rfl) h
  have kc3 : ∀ (fu : Nat), ∀ (st : CS) (x1 : Int32) (x2 : Int32) (H : Heap) (locs : List Loc) (ls : Array Slot), CW ρ P ad st H → va_S (MA wC ad s.heap.size) s.heap H locs → lv_has ls 3 [(0, .ref (ad 0)), (1, .int x1), (2, .int x2)] → wf_lay_3 fu st x1 x2 = some res → W p l e ({ frames := 0, cells := 0, slots := 0, locals := 0 } : Room) s m args below meth c H locs 0 0 (MQ below (mQ (fun v H1 => v = none ∧ CW ρ P ad res H1) (MA wC ad s.heap.size)) args s 0 0 (MA wC ad s.heap.size)) (F0 m 3 ls []) := by
    intro  fu
    induction fu with
    | zero => intro st x1 x2 H locs ls hW hS hl h; cases h
    | succ fu hK3 =>
      intro st x1 x2 H locs ls hW hS hl h
      have hSz := hS.1
      unfold wf_lay_3 at h
      refine lv_iload_n (pc := 3) hx hb d11_3 rfl (lv_at hl 2 rfl) ?_
      refine lv_if_lt (pc := 4) (tgt := 52) hx hb d11_4 (by decide) (fun c4 => ?_) (fun c4 => ?_)
      · have h := jb_t c4 h
        obtain rfl := Option.some.inj h
        exact m_vret (pc := 52) hx hb hr hlk hS ⟨rfl, hW⟩ (Nat.le_refl _) (Nat.le_refl _) d11_52
      · have h := jb_f c4 h
        refine lv_aload_n (pc := 7) hx hb d11_7 rfl (lv_at hl 0 rfl) ?_
        refine c_getI (pc := 8) X hW 0 1 9 (C := "WordFunctions") (T := T9) (N := 9) (by decide) rfl rfl rfl rfl tin9 rfl wd243 rfl d11_8 ?_
        refine lv_aload_n (pc := 11) hx hb d11_11 rfl (lv_at hl 0 rfl) ?_
        refine c_getK (pc := 12) X hW 0 0 9 39 (C := "WordFunctions") (T := T9) (N := 9) (by decide) rfl rfl rfl rfl tin9 rfl wd242 rfl rfl d11_12 ?_
        refine c_alen (pc := 15) (v := 260) X hW 39 (by decide) rfl (by decide) (by decide) d11_15 ?_
        refine lv_icmp_ge (pc := 16) (tgt := 46) hx hb d11_16 (by decide) (fun c16 => ?_) (fun c16 => ?_)
        · have h := jb_t c16 h
          exact kc46 _ hK3  st x1 x2 _ _ _ hW hS (lv_sub hl [0, 1, 2] rfl) h
        · have h := jb_f c16 h
          refine lv_aload_n (pc := 19) hx hb d11_19 rfl (lv_at hl 0 rfl) ?_
          refine c_getK (pc := 20) X hW 0 0 9 39 (C := "WordFunctions") (T := T9) (N := 9) (by decide) rfl rfl rfl rfl tin9 rfl wd242 rfl rfl d11_20 ?_
          refine lv_aload_n (pc := 23) hx hb d11_23 rfl (lv_at hl 0 rfl) ?_
          refine c_getI (pc := 24) X hW 0 1 9 (C := "WordFunctions") (T := T9) (N := 9) (by decide) rfl rfl rfl rfl tin9 rfl wd243 rfl d11_24 ?_
          refine lv_iload_n (pc := 27) hx hb d11_27 rfl (lv_at hl 1 rfl) ?_
          refine lv_iload_n (pc := 28) hx hb d11_28 rfl (lv_at hl 2 rfl) ?_
          refine lv_iushr (pc := 29) hx hb d11_29 rfl ?_
          refine lv_sipush (pc := 30) (v := 255) hx hb d11_30 (by decide) ?_
          refine lv_iand (pc := 33) hx hb d11_33 ?_
          refine lv_i2c (pc := 34) hx hb d11_34 rfl ?_
          obtain ⟨g2, h⟩ := jg_some h
          obtain ⟨g3, h⟩ := jg_some h
          obtain ⟨st4, est4, h⟩ := jn_ex h
          refine c_cast (pc := 35) X hW hS 39 (hAp 39 (by decide)) (by decide) rfl g3 g2 est4 d11_35 (fun H locs hW hS hk => ?_)
          have hSz := hS.1
          refine lv_aload_n (pc := 36) hx hb d11_36 rfl (lv_at hl 0 rfl) ?_
          refine lv_dup (pc := 37) hx hb d11_37 rfl ?_
          refine c_getI (pc := 38) X hW 0 1 9 (C := "WordFunctions") (T := T9) (N := 9) (by decide) rfl rfl rfl rfl tin9 rfl wd243 rfl d11_38 ?_
          refine lv_iconst (pc := 41) (v := 1) hx hb d11_41 (by decide) ?_
          refine lv_iadd (pc := 42) hx hb d11_42 ?_
          obtain ⟨st5, est5, h⟩ := jn_ex h
          refine c_putI (pc := 43) X hW hS 0 1 9 (C := "WordFunctions") (T := T9) (N := 9) est5 (hAp _ (by decide)) (by decide) rfl rfl rfl rfl tin9 ty9 tyo9 tnm9 rfl wd243 rfl rfl rfl rfl d11_43 (fun H locs hW hS hk => ?_)
          have hSz := hS.1
          exact kc46 _ hK3  st5 x1 x2 _ _ _ hW hS (lv_sub hl [0, 1, 2] rfl) h
  unfold f_wf_lay at h
  refine lv_bipush (pc := 0) (v := 24) hx hb d11_0 (by decide) ?_
  refine lv_istore_n (pc := 2) (lv' := [(2, .int 24), (0, .ref (ad 0)), (1, .int p0)]) hx hb d11_2 rfl hl (by decide) rfl (fun ls hl => ?_)
  exact kc3  FU st p0 24 _ _ _ hW hS (lv_sub hl [1, 2, 0] rfl) h
def f_wf_feed (st : CS) (p0 : Int32) (p1 : Int32) (p2 : Int32) (p3 : Int32) (p4 : Int32) : Option (Int32 × CS) := jb (((st.1 0 1) + 20) ≤ 260) (jc (f_wf_lay st p0) (fun q1 => jc (f_wf_lay q1 p1) (fun q2 => jc (f_wf_lay q2 p2) (fun q3 => jc (f_wf_lay q3 p3) (fun q4 => jc (f_wf_lay q4 p4) (fun q5 => some (1, q5))))))) (some (0, st))
set_option maxHeartbeats 4000000 in
set_option maxRecDepth 100000 in
theorem c_wf_feed (l : Launch) (ρ : RH) (ad : Nat → Nat) (H : Heap) (P : Nat → Prop) (st : CS) (p0 : Int32) (p1 : Int32) (p2 : Int32) (p3 : Int32) (p4 : Int32) (res : Int32 × CS) (hW : CW ρ P ad st H) (h : f_wf_feed st p0 p1 p2 p3 p4 = some res) : Met l y5 (wsOf y5 b5 6 (some .boolean)) ({ frames := 1, cells := 0, slots := 0, locals := 22 } : Room) (va_Pc [.ref (ad 0), .int p0, .int p1, .int p2, .int p3, .int p4] (KP ρ H)) (mQ (fun v H1 => v = some (.int res.1) ∧ CW ρ P ad res.2 H1) (MA wC ad H.size)) 0 0 (MA wC ad H.size) := by
  refine m_ofW (own := "WordFunctions") (plainFor_of_name rfl) rfl (Nat.le_of_ble_eq_true rfl) fun p e s m args below meth c ls hx hb hr hlk _ X hs hl => ?_
  subst hs
  have hS : va_S (MA wC ad s.heap.size) s.heap s.heap [] := va_S.rf
  have hSz := hS.1
  have hAz : ∀ q, s.heap.size ≤ q → (MA wC ad s.heap.size) q := fun q hq => Or.inr hq
  have hAp : ∀ i, i < 46 → (MA wC ad s.heap.size) (ad i) := fun i hi => MA.in hi
  have hPp : ∀ i, i < 46 → P (ad i) := hW.1
  have hl : lv_has ls 6 [(0, .ref (ad 0)), (1, .int p0), (2, .int p1), (3, .int p2), (4, .int p3), (5, .int p4)] := hl
  unfold f_wf_feed at h
  refine lv_aload_n (pc := 0) hx hb d5_0 rfl (lv_at hl 0 rfl) ?_
  refine c_getI (pc := 1) X hW 0 1 9 (C := "WordFunctions") (T := T9) (N := 9) (by decide) rfl rfl rfl rfl tin9 rfl wd243 rfl d5_1 ?_
  refine lv_bipush (pc := 4) (v := 20) hx hb d5_4 (by decide) ?_
  refine lv_iadd (pc := 6) hx hb d5_6 ?_
  refine lv_aload_n (pc := 7) hx hb d5_7 rfl (lv_at hl 0 rfl) ?_
  refine c_getK (pc := 8) X hW 0 0 9 39 (C := "WordFunctions") (T := T9) (N := 9) (by decide) rfl rfl rfl rfl tin9 rfl wd242 rfl rfl d5_8 ?_
  refine c_alen (pc := 11) (v := 260) X hW 39 (by decide) rfl (by decide) (by decide) d5_11 ?_
  refine lv_icmp_le (pc := 12) (tgt := 17) hx hb d5_12 (by decide) (fun c12 => ?_) (fun c12 => ?_)
  · have h := jb_t c12 h
    refine lv_aload_n (pc := 17) hx hb d5_17 rfl (lv_at hl 0 rfl) ?_
    refine lv_iload_n (pc := 18) hx hb d5_18 rfl (lv_at hl 1 rfl) ?_
    obtain ⟨q1, hq1, h⟩ := jc_some h
    refine k_callV (pc := 19) (n := 1) X hS (c_wf_lay l ρ ad _ P st p0 q1 hW  hq1) wd277 wd274 wd276 sl11 wd1 (by decide) ⟨rfl, rfl, Nat.le_of_ble_eq_true rfl, Nat.le_of_ble_eq_true rfl⟩ (c_recv X hW 0 9 (by decide) rfl rfl) (As := [.int p0]) (rest := []) rfl rfl hl.1 (Nat.le_of_ble_eq_true rfl) d5_19 ⟨Nat.le_refl _, Nat.le_refl _⟩ (fun q hq => MA.mono hS.1 hq) (fun v H1 locs1 hv hz1 hz2 hSq1 => ?_)
    have hPq := hW.1
    obtain ⟨rfl, hW⟩ := hv
    have hS := hSq1
    have hSz := hS.1
    refine lv_aload_n (pc := 22) hx hb d5_22 rfl (lv_at hl 0 rfl) ?_
    refine lv_iload_n (pc := 23) hx hb d5_23 rfl (lv_at hl 2 rfl) ?_
    obtain ⟨q2, hq2, h⟩ := jc_some h
    refine k_callV (pc := 24) (n := 1) X hS (c_wf_lay l ρ ad _ P q1 p1 q2 hW  hq2) wd277 wd274 wd276 sl11 wd1 (by decide) ⟨rfl, rfl, Nat.le_of_ble_eq_true rfl, Nat.le_of_ble_eq_true rfl⟩ (c_recv X hW 0 9 (by decide) rfl rfl) (As := [.int p1]) (rest := []) rfl rfl hl.1 (Nat.le_of_ble_eq_true rfl) d5_24 ⟨Nat.le_refl _, Nat.le_refl _⟩ (fun q hq => MA.mono hS.1 hq) (fun v H1 locs1 hv hz1 hz2 hSq2 => ?_)
    have hPq := hW.1
    obtain ⟨rfl, hW⟩ := hv
    have hS := hSq2
    have hSz := hS.1
    refine lv_aload_n (pc := 27) hx hb d5_27 rfl (lv_at hl 0 rfl) ?_
    refine lv_iload_n (pc := 28) hx hb d5_28 rfl (lv_at hl 3 rfl) ?_
    obtain ⟨q3, hq3, h⟩ := jc_some h
    refine k_callV (pc := 29) (n := 1) X hS (c_wf_lay l ρ ad _ P q2 p2 q3 hW  hq3) wd277 wd274 wd276 sl11 wd1 (by decide) ⟨rfl, rfl, Nat.le_of_ble_eq_true rfl, Nat.le_of_ble_eq_true rfl⟩ (c_recv X hW 0 9 (by decide) rfl rfl) (As := [.int p2]) (rest := []) rfl rfl hl.1 (Nat.le_of_ble_eq_true rfl) d5_29 ⟨Nat.le_refl _, Nat.le_refl _⟩ (fun q hq => MA.mono hS.1 hq) (fun v H1 locs1 hv hz1 hz2 hSq3 => ?_)
    have hPq := hW.1
    obtain ⟨rfl, hW⟩ := hv
    have hS := hSq3
    have hSz := hS.1
    refine lv_aload_n (pc := 32) hx hb d5_32 rfl (lv_at hl 0 rfl) ?_
    refine lv_iload (pc := 33) hx hb d5_33 (lv_at hl 4 rfl) ?_
    obtain ⟨q4, hq4, h⟩ := jc_some h
    refine k_callV (pc := 35) (n := 1) X hS (c_wf_lay l ρ ad _ P q3 p3 q4 hW  hq4) wd277 wd274 wd276 sl11 wd1 (by decide) ⟨rfl, rfl, Nat.le_of_ble_eq_true rfl, Nat.le_of_ble_eq_true rfl⟩ (c_recv X hW 0 9 (by decide) rfl rfl) (As := [.int p3]) (rest := []) rfl rfl hl.1 (Nat.le_of_ble_eq_true rfl) d5_35 ⟨Nat.le_refl _, Nat.le_refl _⟩ (fun q hq => MA.mono hS.1 hq) (fun v H1 locs1 hv hz1 hz2 hSq4 => ?_)
    have hPq := hW.1
    obtain ⟨rfl, hW⟩ := hv
    have hS := hSq4
    have hSz := hS.1
    refine lv_aload_n (pc := 38) hx hb d5_38 rfl (lv_at hl 0 rfl) ?_
    refine lv_iload (pc := 39) hx hb d5_39 (lv_at hl 5 rfl) ?_
    obtain ⟨q5, hq5, h⟩ := jc_some h
    refine k_callV (pc := 41) (n := 1) X hS (c_wf_lay l ρ ad _ P q4 p4 q5 hW  hq5) wd277 wd274 wd276 sl11 wd1 (by decide) ⟨rfl, rfl, Nat.le_of_ble_eq_true rfl, Nat.le_of_ble_eq_true rfl⟩ (c_recv X hW 0 9 (by decide) rfl rfl) (As := [.int p4]) (rest := []) rfl rfl hl.1 (Nat.le_of_ble_eq_true rfl) d5_41 ⟨Nat.le_refl _, Nat.le_refl _⟩ (fun q hq => MA.mono hS.1 hq) (fun v H1 locs1 hv hz1 hz2 hSq5 => ?_)
    have hPq := hW.1
    obtain ⟨rfl, hW⟩ := hv
    have hS := hSq5
    have hSz := hS.1
    refine lv_iconst (pc := 44) (v := 1) hx hb d5_44 (by decide) ?_
    obtain rfl := Option.some.inj h
    exact m_zret (pc := 45) hx hb hr hlk hS ⟨rfl, hW⟩ (Nat.le_refl _) (Nat.le_refl _) d5_45 (by decide)
  · have h := jb_f c12 h
    refine lv_iconst (pc := 15) (v := 0) hx hb d5_15 (by decide) ?_
    obtain rfl := Option.some.inj h
    exact m_zret (pc := 16) hx hb hr hlk hS ⟨rfl, hW⟩ (Nat.le_refl _) (Nat.le_refl _) d5_16 (by decide)
def f_wf_great  (p0 : Int32) : Option (Int32) := jb (p0 < 97) (jg (isC p0) (some p0)) (jb (122 < p0) (jg (isC p0) (some p0)) (jg (isC ((((p0 - 97) + 65).toUInt32 % 65536).toInt32)) (some ((((p0 - 97) + 65).toUInt32 % 65536).toInt32))))
set_option maxHeartbeats 4000000 in
set_option maxRecDepth 100000 in
theorem c_wf_great (l : Launch) (ρ : RH) (H : Heap) (P : Nat → Prop) (p0 : Int32) (res : Int32) (hC : CC ρ P H) (hPb : ∀ q, P q → q < H.size) (h : f_wf_great p0 = some res) : Met l y6 (wsOf y6 b6 1 (some .char)) ({ frames := 0, cells := 0, slots := 0, locals := 0 } : Room) (va_Pc [.int p0] (KP ρ H)) (mQ (fun v H1 => v = some (.int res) ∧ H1 = H) (fun _ => False)) 0 0 (fun _ => False) := by
  refine m_ofW (own := "WordFunctions") (plainFor_of_name rfl) rfl (Nat.le_of_ble_eq_true rfl) fun p e s m args below meth c ls hx hb hr hlk _ X hs hl => ?_
  subst hs
  have hS : va_S (fun _ => False) s.heap s.heap [] := va_S.rf
  have hSz := hS.1
  have hl : lv_has ls 1 [(0, .int p0)] := hl
  unfold f_wf_great at h
  refine lv_iload_n (pc := 0) hx hb d6_0 rfl (lv_at hl 0 rfl) ?_
  refine lv_bipush (pc := 1) (v := 97) hx hb d6_1 (by decide) ?_
  refine lv_icmp_lt (pc := 3) (tgt := 23) hx hb d6_3 (by decide) (fun c3 => ?_) (fun c3 => ?_)
  · have h := jb_t c3 h
    refine lv_iload_n (pc := 23) hx hb d6_23 rfl (lv_at hl 0 rfl) ?_
    obtain ⟨g1, h⟩ := jg_some h
    obtain rfl := Option.some.inj h
    exact m_cret (pc := 24) hx hb hr hlk hS ⟨rfl, rfl⟩ (Nat.le_refl _) (Nat.le_refl _) d6_24 (isC_nar g1)
  · have h := jb_f c3 h
    refine lv_iload_n (pc := 6) hx hb d6_6 rfl (lv_at hl 0 rfl) ?_
    refine lv_bipush (pc := 7) (v := 122) hx hb d6_7 (by decide) ?_
    refine lv_icmp_gt (pc := 9) (tgt := 23) hx hb d6_9 (by decide) (fun c9 => ?_) (fun c9 => ?_)
    · have h := jb_t c9 h
      refine lv_iload_n (pc := 23) hx hb d6_23 rfl (lv_at hl 0 rfl) ?_
      obtain ⟨g2, h⟩ := jg_some h
      obtain rfl := Option.some.inj h
      exact m_cret (pc := 24) hx hb hr hlk hS ⟨rfl, rfl⟩ (Nat.le_refl _) (Nat.le_refl _) d6_24 (isC_nar g2)
    · have h := jb_f c9 h
      refine lv_iload_n (pc := 12) hx hb d6_12 rfl (lv_at hl 0 rfl) ?_
      refine lv_bipush (pc := 13) (v := 97) hx hb d6_13 (by decide) ?_
      refine lv_isub (pc := 15) hx hb d6_15 ?_
      refine lv_bipush (pc := 16) (v := 65) hx hb d6_16 (by decide) ?_
      refine lv_iadd (pc := 18) hx hb d6_18 ?_
      refine lv_i2c (pc := 19) hx hb d6_19 rfl ?_
      refine lv_goto (pc := 20) (tgt := 24) hx hb d6_20 (by decide) ?_
      obtain ⟨g3, h⟩ := jg_some h
      obtain rfl := Option.some.inj h
      exact m_cret (pc := 24) hx hb hr hlk hS ⟨rfl, rfl⟩ (Nat.le_refl _) (Nat.le_refl _) d6_24 (isC_nar g3)
def f_wf_isCell  (p0 : Int32) (p1 : Int32) : Option (Int32) := jb (p0 < 1) (some 0) (jb (1048576 < p0) (some 0) (jb (p1 < 1) (some 0) (jb (16384 < p1) (some 0) (some 1))))
set_option maxHeartbeats 4000000 in
set_option maxRecDepth 100000 in
theorem c_wf_isCell (l : Launch) (ρ : RH) (H : Heap) (P : Nat → Prop) (p0 : Int32) (p1 : Int32) (res : Int32) (hC : CC ρ P H) (hPb : ∀ q, P q → q < H.size) (h : f_wf_isCell p0 p1 = some res) : Met l y8 (wsOf y8 b8 2 (some .boolean)) ({ frames := 0, cells := 0, slots := 0, locals := 0 } : Room) (va_Pc [.int p0, .int p1] (KP ρ H)) (mQ (fun v H1 => v = some (.int res) ∧ H1 = H) (fun _ => False)) 0 0 (fun _ => False) := by
  refine m_ofW (own := "WordFunctions") (plainFor_of_name rfl) rfl (Nat.le_of_ble_eq_true rfl) fun p e s m args below meth c ls hx hb hr hlk _ X hs hl => ?_
  subst hs
  have hS : va_S (fun _ => False) s.heap s.heap [] := va_S.rf
  have hSz := hS.1
  have hl : lv_has ls 2 [(0, .int p0), (1, .int p1)] := hl
  unfold f_wf_isCell at h
  refine lv_iload_n (pc := 0) hx hb d8_0 rfl (lv_at hl 0 rfl) ?_
  refine lv_iconst (pc := 1) (v := 1) hx hb d8_1 (by decide) ?_
  refine lv_icmp_lt (pc := 2) (tgt := 27) hx hb d8_2 (by decide) (fun c2 => ?_) (fun c2 => ?_)
  · have h := jb_t c2 h
    refine lv_iconst (pc := 27) (v := 0) hx hb d8_27 (by decide) ?_
    obtain rfl := Option.some.inj h
    exact m_zret (pc := 28) hx hb hr hlk hS ⟨rfl, rfl⟩ (Nat.le_refl _) (Nat.le_refl _) d8_28 (by decide)
  · have h := jb_f c2 h
    refine lv_iload_n (pc := 5) hx hb d8_5 rfl (lv_at hl 0 rfl) ?_
    refine lv_ldc (pc := 6) hx hb X.1.2.2.2.1 (X.ts wd616) d8_6 ?_
    refine lv_icmp_gt (pc := 8) (tgt := 27) hx hb d8_8 (by decide) (fun c8 => ?_) (fun c8 => ?_)
    · have h := jb_t c8 h
      refine lv_iconst (pc := 27) (v := 0) hx hb d8_27 (by decide) ?_
      obtain rfl := Option.some.inj h
      exact m_zret (pc := 28) hx hb hr hlk hS ⟨rfl, rfl⟩ (Nat.le_refl _) (Nat.le_refl _) d8_28 (by decide)
    · have h := jb_f c8 h
      refine lv_iload_n (pc := 11) hx hb d8_11 rfl (lv_at hl 1 rfl) ?_
      refine lv_iconst (pc := 12) (v := 1) hx hb d8_12 (by decide) ?_
      refine lv_icmp_lt (pc := 13) (tgt := 27) hx hb d8_13 (by decide) (fun c13 => ?_) (fun c13 => ?_)
      · have h := jb_t c13 h
        refine lv_iconst (pc := 27) (v := 0) hx hb d8_27 (by decide) ?_
        obtain rfl := Option.some.inj h
        exact m_zret (pc := 28) hx hb hr hlk hS ⟨rfl, rfl⟩ (Nat.le_refl _) (Nat.le_refl _) d8_28 (by decide)
      · have h := jb_f c13 h
        refine lv_iload_n (pc := 16) hx hb d8_16 rfl (lv_at hl 1 rfl) ?_
        refine lv_sipush (pc := 17) (v := 16384) hx hb d8_17 (by decide) ?_
        refine lv_icmp_gt (pc := 20) (tgt := 27) hx hb d8_20 (by decide) (fun c20 => ?_) (fun c20 => ?_)
        · have h := jb_t c20 h
          refine lv_iconst (pc := 27) (v := 0) hx hb d8_27 (by decide) ?_
          obtain rfl := Option.some.inj h
          exact m_zret (pc := 28) hx hb hr hlk hS ⟨rfl, rfl⟩ (Nat.le_refl _) (Nat.le_refl _) d8_28 (by decide)
        · have h := jb_f c20 h
          refine lv_iconst (pc := 23) (v := 1) hx hb d8_23 (by decide) ?_
          refine lv_goto (pc := 24) (tgt := 28) hx hb d8_24 (by decide) ?_
          obtain rfl := Option.some.inj h
          exact m_zret (pc := 28) hx hb hr hlk hS ⟨rfl, rfl⟩ (Nat.le_refl _) (Nat.le_refl _) d8_28 (by decide)
def f_wf_home (st : CS) (p0 : Int32) (p1 : Int32) : Option (Int32 × CS) := jc (f_wf_isCell p0 p1) (fun q1 => jb (q1 = 0) (some (0, st)) (jn (uC st 1 7 p0) (fun st2 => jn (uC st2 1 8 p1) (fun st3 => some (1, st3)))))
set_option maxHeartbeats 4000000 in
set_option maxRecDepth 100000 in
theorem c_wf_home (l : Launch) (ρ : RH) (ad : Nat → Nat) (H : Heap) (P : Nat → Prop) (st : CS) (p0 : Int32) (p1 : Int32) (res : Int32 × CS) (hW : CW ρ P ad st H) (h : f_wf_home st p0 p1 = some res) : Met l y7 (wsOf y7 b7 3 (some .boolean)) ({ frames := 1, cells := 0, slots := 0, locals := 21 } : Room) (va_Pc [.ref (ad 0), .int p0, .int p1] (KP ρ H)) (mQ (fun v H1 => v = some (.int res.1) ∧ CW ρ P ad res.2 H1) (MA wC ad H.size)) 0 0 (MA wC ad H.size) := by
  refine m_ofW (own := "WordFunctions") (plainFor_of_name rfl) rfl (Nat.le_of_ble_eq_true rfl) fun p e s m args below meth c ls hx hb hr hlk _ X hs hl => ?_
  subst hs
  have hS : va_S (MA wC ad s.heap.size) s.heap s.heap [] := va_S.rf
  have hSz := hS.1
  have hAz : ∀ q, s.heap.size ≤ q → (MA wC ad s.heap.size) q := fun q hq => Or.inr hq
  have hAp : ∀ i, i < 46 → (MA wC ad s.heap.size) (ad i) := fun i hi => MA.in hi
  have hPp : ∀ i, i < 46 → P (ad i) := hW.1
  have hl : lv_has ls 3 [(0, .ref (ad 0)), (1, .int p0), (2, .int p1)] := hl
  unfold f_wf_home at h
  refine lv_iload_n (pc := 0) hx hb d7_0 rfl (lv_at hl 1 rfl) ?_
  refine lv_iload_n (pc := 1) hx hb d7_1 rfl (lv_at hl 2 rfl) ?_
  obtain ⟨q1, hq1, h⟩ := jc_some h
  refine k_callS (pc := 2) (n := 2) X hS (c_wf_isCell l ρ _ P p0 p1 q1 hW.2.2.1 hW.2.1  hq1) wd615 wd613 wd614 wd1 (by decide) ⟨rfl, rfl, Nat.le_of_ble_eq_true rfl, Nat.le_of_ble_eq_true rfl⟩ (As := [.int p0, .int p1]) (rest := []) rfl rfl hl.1 (Nat.le_of_ble_eq_true rfl) d7_2 ⟨Nat.le_refl _, Nat.le_refl _⟩ (fun q hq => False.elim hq) (fun v H1 locs1 hv _ _ hSq1 => ?_)
  obtain ⟨rfl, rfl⟩ := hv
  have hS := hSq1
  have hSz := hS.1
  refine lv_if_ne (pc := 5) (tgt := 10) hx hb d7_5 (by decide) (fun c5 => ?_) (fun c5 => ?_)
  · have h := jb_f c5 h
    refine lv_aload_n (pc := 10) hx hb d7_10 rfl (lv_at hl 0 rfl) ?_
    refine c_getK (pc := 11) X hW 0 3 9 1 (C := "WordFunctions") (T := T9) (N := 9) (by decide) rfl rfl rfl rfl tin9 rfl wd245 rfl rfl d7_11 ?_
    refine lv_iload_n (pc := 14) hx hb d7_14 rfl (lv_at hl 1 rfl) ?_
    obtain ⟨st2, est2, h⟩ := jn_ex h
    refine c_putI (pc := 15) X hW hS 1 7 3 (C := "WordFunctions$Arguments") (T := T3) (N := 9) est2 (hAp _ (by decide)) (by decide) rfl rfl rfl rfl tin3 ty3 tyo3 tnm3 rfl wd142 rfl rfl rfl rfl d7_15 (fun H locs hW hS hk => ?_)
    have hSz := hS.1
    refine lv_aload_n (pc := 18) hx hb d7_18 rfl (lv_at hl 0 rfl) ?_
    refine c_getK (pc := 19) X hW 0 3 9 1 (C := "WordFunctions") (T := T9) (N := 9) (by decide) rfl rfl rfl rfl tin9 rfl wd245 rfl rfl d7_19 ?_
    refine lv_iload_n (pc := 22) hx hb d7_22 rfl (lv_at hl 2 rfl) ?_
    obtain ⟨st3, est3, h⟩ := jn_ex h
    refine c_putI (pc := 23) X hW hS 1 8 3 (C := "WordFunctions$Arguments") (T := T3) (N := 9) est3 (hAp _ (by decide)) (by decide) rfl rfl rfl rfl tin3 ty3 tyo3 tnm3 rfl wd145 rfl rfl rfl rfl d7_23 (fun H locs hW hS hk => ?_)
    have hSz := hS.1
    refine lv_iconst (pc := 26) (v := 1) hx hb d7_26 (by decide) ?_
    obtain rfl := Option.some.inj h
    exact m_zret (pc := 27) hx hb hr hlk hS ⟨rfl, hW⟩ (Nat.le_refl _) (Nat.le_refl _) d7_27 (by decide)
  · have h := jb_t c5 h
    refine lv_iconst (pc := 8) (v := 0) hx hb d7_8 (by decide) ?_
    obtain rfl := Option.some.inj h
    exact m_zret (pc := 9) hx hb hr hlk hS ⟨rfl, hW⟩ (Nat.le_refl _) (Nat.le_refl _) d7_9 (by decide)
def f_wf_isFor  (p0 : Int32) (p1 : Int32) : Option (Int32) := jb (p0 < 66) (some 0) (jb (67 ≤ (p0 - 66)) (some 0) (jb ((p0 - 66) < 67) (jn (p0 - 66) (fun v1 => jg (inb v1 67) (jb (p1 < (ZT9.getD v1.toNatClampNeg 0)) (some 0) (jg (inb v1 67) (jb ((ZT10.getD v1.toNatClampNeg 0) < p1) (some 0) (some 1)))))) (some 0)))
set_option maxHeartbeats 4000000 in
set_option maxRecDepth 100000 in
theorem c_wf_isFor (l : Launch) (ρ : RH) (H : Heap) (P : Nat → Prop) (p0 : Int32) (p1 : Int32) (res : Int32) (hC : CC ρ P H) (hPb : ∀ q, P q → q < H.size) (h : f_wf_isFor p0 p1 = some res) : Met l y9 (wsOf y9 b9 3 (some .boolean)) ({ frames := 0, cells := 0, slots := 0, locals := 0 } : Room) (va_Pc [.int p0, .int p1] (KP ρ H)) (mQ (fun v H1 => v = some (.int res) ∧ H1 = H) (fun _ => False)) 0 0 (fun _ => False) := by
  refine m_ofW (own := "WordFunctions") (plainFor_of_name rfl) rfl (Nat.le_of_ble_eq_true rfl) fun p e s m args below meth c ls hx hb hr hlk _ X hs hl => ?_
  subst hs
  have hS : va_S (fun _ => False) s.heap s.heap [] := va_S.rf
  have hSz := hS.1
  have hl : lv_has ls 3 [(0, .int p0), (1, .int p1)] := hl
  unfold f_wf_isFor at h
  refine lv_iload_n (pc := 0) hx hb d9_0 rfl (lv_at hl 0 rfl) ?_
  refine lv_bipush (pc := 1) (v := 66) hx hb d9_1 (by decide) ?_
  refine lv_icmp_lt (pc := 3) (tgt := 28) hx hb d9_3 (by decide) (fun c3 => ?_) (fun c3 => ?_)
  · have h := jb_t c3 h
    refine lv_iconst (pc := 28) (v := 0) hx hb d9_28 (by decide) ?_
    obtain rfl := Option.some.inj h
    exact m_zret (pc := 29) hx hb hr hlk hS ⟨rfl, rfl⟩ (Nat.le_refl _) (Nat.le_refl _) d9_29 (by decide)
  · have h := jb_f c3 h
    refine lv_iload_n (pc := 6) hx hb d9_6 rfl (lv_at hl 0 rfl) ?_
    refine lv_bipush (pc := 7) (v := 66) hx hb d9_7 (by decide) ?_
    refine lv_isub (pc := 9) hx hb d9_9 ?_
    refine c_gets (pc := 10) X 9 (hC.2.2.1 9 _ rfl).1 rfl rfl wd737 d9_10 ?_
    refine c_tlen (pc := 13) (v := 67) X 9 (hC.2.2.1 9 _ rfl) rfl d9_13 ?_
    refine lv_icmp_ge (pc := 14) (tgt := 28) hx hb d9_14 (by decide) (fun c14 => ?_) (fun c14 => ?_)
    · have h := jb_t c14 h
      refine lv_iconst (pc := 28) (v := 0) hx hb d9_28 (by decide) ?_
      obtain rfl := Option.some.inj h
      exact m_zret (pc := 29) hx hb hr hlk hS ⟨rfl, rfl⟩ (Nat.le_refl _) (Nat.le_refl _) d9_29 (by decide)
    · have h := jb_f c14 h
      refine lv_iload_n (pc := 17) hx hb d9_17 rfl (lv_at hl 0 rfl) ?_
      refine lv_bipush (pc := 18) (v := 66) hx hb d9_18 (by decide) ?_
      refine lv_isub (pc := 20) hx hb d9_20 ?_
      refine c_gets (pc := 21) X 10 (hC.2.2.1 10 _ rfl).1 rfl rfl wd739 d9_21 ?_
      refine c_tlen (pc := 24) (v := 67) X 10 (hC.2.2.1 10 _ rfl) rfl d9_24 ?_
      refine lv_icmp_lt (pc := 25) (tgt := 30) hx hb d9_25 (by decide) (fun c25 => ?_) (fun c25 => ?_)
      · have h := jb_t c25 h
        refine lv_iload_n (pc := 30) hx hb d9_30 rfl (lv_at hl 0 rfl) ?_
        refine lv_bipush (pc := 31) (v := 66) hx hb d9_31 (by decide) ?_
        refine lv_isub (pc := 33) hx hb d9_33 ?_
        obtain ⟨v1, ev1, h⟩ := jn_ex h
        refine nm_i ev1 ?_
        refine lv_istore_n (pc := 34) (lv' := [(2, .int v1), (0, .int p0), (1, .int p1)]) hx hb d9_34 rfl hl (by decide) rfl (fun ls hl => ?_)
        refine lv_iload_n (pc := 35) hx hb d9_35 rfl (lv_at hl 2 rfl) ?_
        refine c_gets (pc := 36) X 9 (hC.2.2.1 9 _ rfl).1 rfl rfl wd737 d9_36 ?_
        refine lv_iload_n (pc := 39) hx hb d9_39 rfl (lv_at hl 0 rfl) ?_
        obtain ⟨g2, h⟩ := jg_some h
        refine c_tald (pc := 40) X 9 (hC.2.2.1 9 _ rfl) (n := 67) rfl (by decide) g2 d9_40 ?_
        refine lv_icmp_lt (pc := 41) (tgt := 57) hx hb d9_41 (by decide) (fun c41 => ?_) (fun c41 => ?_)
        · have h := jb_t c41 h
          refine lv_iconst (pc := 57) (v := 0) hx hb d9_57 (by decide) ?_
          obtain rfl := Option.some.inj h
          exact m_zret (pc := 58) hx hb hr hlk hS ⟨rfl, rfl⟩ (Nat.le_refl _) (Nat.le_refl _) d9_58 (by decide)
        · have h := jb_f c41 h
          refine lv_iload_n (pc := 44) hx hb d9_44 rfl (lv_at hl 2 rfl) ?_
          refine c_gets (pc := 45) X 10 (hC.2.2.1 10 _ rfl).1 rfl rfl wd739 d9_45 ?_
          refine lv_iload_n (pc := 48) hx hb d9_48 rfl (lv_at hl 0 rfl) ?_
          obtain ⟨g3, h⟩ := jg_some h
          refine c_tald (pc := 49) X 10 (hC.2.2.1 10 _ rfl) (n := 67) rfl (by decide) g3 d9_49 ?_
          refine lv_icmp_gt (pc := 50) (tgt := 57) hx hb d9_50 (by decide) (fun c50 => ?_) (fun c50 => ?_)
          · have h := jb_t c50 h
            refine lv_iconst (pc := 57) (v := 0) hx hb d9_57 (by decide) ?_
            obtain rfl := Option.some.inj h
            exact m_zret (pc := 58) hx hb hr hlk hS ⟨rfl, rfl⟩ (Nat.le_refl _) (Nat.le_refl _) d9_58 (by decide)
          · have h := jb_f c50 h
            refine lv_iconst (pc := 53) (v := 1) hx hb d9_53 (by decide) ?_
            refine lv_goto (pc := 54) (tgt := 58) hx hb d9_54 (by decide) ?_
            obtain rfl := Option.some.inj h
            exact m_zret (pc := 58) hx hb hr hlk hS ⟨rfl, rfl⟩ (Nat.le_refl _) (Nat.le_refl _) d9_58 (by decide)
      · have h := jb_f c25 h
        refine lv_iconst (pc := 28) (v := 0) hx hb d9_28 (by decide) ?_
        obtain rfl := Option.some.inj h
        exact m_zret (pc := 29) hx hb hr hlk hS ⟨rfl, rfl⟩ (Nat.le_refl _) (Nat.le_refl _) d9_29 (by decide)
def wf_isLetter_24   : Option (Int32) := some 1
def wf_isLetter_12  (x0 : Int32) : Option (Int32) := jb (x0 < 97) (some 0) (jb (122 < x0) (some 0) (wf_isLetter_24))
def f_wf_isLetter  (p0 : Int32) : Option (Int32) := jb (p0 < 65) (wf_isLetter_12 p0) (jb (p0 ≤ 90) (wf_isLetter_24) (wf_isLetter_12 p0))
set_option maxHeartbeats 4000000 in
set_option maxRecDepth 100000 in
theorem c_wf_isLetter (l : Launch) (ρ : RH) (H : Heap) (P : Nat → Prop) (p0 : Int32) (res : Int32) (hC : CC ρ P H) (hPb : ∀ q, P q → q < H.size) (h : f_wf_isLetter p0 = some res) : Met l y10 (wsOf y10 b10 1 (some .boolean)) ({ frames := 0, cells := 0, slots := 0, locals := 0 } : Room) (va_Pc [.int p0] (KP ρ H)) (mQ (fun v H1 => v = some (.int res) ∧ H1 = H) (fun _ => False)) 0 0 (fun _ => False) := by
  refine m_ofW (own := "WordFunctions") (plainFor_of_name rfl) rfl (Nat.le_of_ble_eq_true rfl) fun p e s m args below meth c ls hx hb hr hlk _ X hs hl => ?_
  subst hs
  have hS : va_S (fun _ => False) s.heap s.heap [] := va_S.rf
  have hSz := hS.1
  have hl : lv_has ls 1 [(0, .int p0)] := hl
  have kc24 : ∀ (locs : List Loc) (ls : Array Slot), va_S (fun _ => False) s.heap s.heap locs → lv_has ls 1 [] → wf_isLetter_24 = some res → W p l e ({ frames := 0, cells := 0, slots := 0, locals := 0 } : Room) s m args below meth c s.heap locs 0 0 (MQ below (mQ (fun v H1 => v = some (.int res) ∧ H1 = s.heap) (fun _ => False)) args s 0 0 (fun _ => False)) (F0 m 24 ls []) := by
    intro locs ls hS hl h
    have hSz := hS.1
    unfold wf_isLetter_24 at h
    refine lv_iconst (pc := 24) (v := 1) hx hb d10_24 (by decide) ?_
    refine lv_goto (pc := 25) (tgt := 29) hx hb d10_25 (by decide) ?_
    obtain rfl := Option.some.inj h
    exact m_zret (pc := 29) hx hb hr hlk hS ⟨rfl, rfl⟩ (Nat.le_refl _) (Nat.le_refl _) d10_29 (by decide)
  have kc12 : ∀ (x0 : Int32) (locs : List Loc) (ls : Array Slot), va_S (fun _ => False) s.heap s.heap locs → lv_has ls 1 [(0, .int x0)] → wf_isLetter_12 x0 = some res → W p l e ({ frames := 0, cells := 0, slots := 0, locals := 0 } : Room) s m args below meth c s.heap locs 0 0 (MQ below (mQ (fun v H1 => v = some (.int res) ∧ H1 = s.heap) (fun _ => False)) args s 0 0 (fun _ => False)) (F0 m 12 ls []) := by
    intro x0 locs ls hS hl h
    have hSz := hS.1
    unfold wf_isLetter_12 at h
    refine lv_iload_n (pc := 12) hx hb d10_12 rfl (lv_at hl 0 rfl) ?_
    refine lv_bipush (pc := 13) (v := 97) hx hb d10_13 (by decide) ?_
    refine lv_icmp_lt (pc := 15) (tgt := 28) hx hb d10_15 (by decide) (fun c15 => ?_) (fun c15 => ?_)
    · have h := jb_t c15 h
      refine lv_iconst (pc := 28) (v := 0) hx hb d10_28 (by decide) ?_
      obtain rfl := Option.some.inj h
      exact m_zret (pc := 29) hx hb hr hlk hS ⟨rfl, rfl⟩ (Nat.le_refl _) (Nat.le_refl _) d10_29 (by decide)
    · have h := jb_f c15 h
      refine lv_iload_n (pc := 18) hx hb d10_18 rfl (lv_at hl 0 rfl) ?_
      refine lv_bipush (pc := 19) (v := 122) hx hb d10_19 (by decide) ?_
      refine lv_icmp_gt (pc := 21) (tgt := 28) hx hb d10_21 (by decide) (fun c21 => ?_) (fun c21 => ?_)
      · have h := jb_t c21 h
        refine lv_iconst (pc := 28) (v := 0) hx hb d10_28 (by decide) ?_
        obtain rfl := Option.some.inj h
        exact m_zret (pc := 29) hx hb hr hlk hS ⟨rfl, rfl⟩ (Nat.le_refl _) (Nat.le_refl _) d10_29 (by decide)
      · have h := jb_f c21 h
        exact kc24   _ _ hS (lv_sub hl [] rfl) h
  unfold f_wf_isLetter at h
  refine lv_iload_n (pc := 0) hx hb d10_0 rfl (lv_at hl 0 rfl) ?_
  refine lv_bipush (pc := 1) (v := 65) hx hb d10_1 (by decide) ?_
  refine lv_icmp_lt (pc := 3) (tgt := 12) hx hb d10_3 (by decide) (fun c3 => ?_) (fun c3 => ?_)
  · have h := jb_t c3 h
    exact kc12   p0 _ _ hS (lv_sub hl [0] rfl) h
  · have h := jb_f c3 h
    refine lv_iload_n (pc := 6) hx hb d10_6 rfl (lv_at hl 0 rfl) ?_
    refine lv_bipush (pc := 7) (v := 90) hx hb d10_7 (by decide) ?_
    refine lv_icmp_le (pc := 9) (tgt := 24) hx hb d10_9 (by decide) (fun c9 => ?_) (fun c9 => ?_)
    · have h := jb_t c9 h
      exact kc24   _ _ hS (lv_sub hl [] rfl) h
    · have h := jb_f c9 h
      exact kc12   p0 _ _ hS (lv_sub hl [0] rfl) h
def f_wf_letter (st : CS) (p0 : Int32) : Option (Int32) := jb (p0 < 0) (some (-1)) (jc (f_js_length ((st.2 2 3).2.2)) (fun q3 => jb (q3 ≤ p0) (some (-1)) (jc (f_js_charAt ((st.2 2 3).2.2) p0) (fun q4 => some q4))))
set_option maxHeartbeats 4000000 in
set_option maxRecDepth 100000 in
theorem c_wf_letter (l : Launch) (ρ : RH) (ad : Nat → Nat) (H : Heap) (P : Nat → Prop) (st : CS) (p0 : Int32) (res : Int32) (hW : CW ρ P ad st H) (h : f_wf_letter st p0 = some res) : Met l y12 (wsOf y12 b12 3 (some .int)) ({ frames := 13, cells := 0, slots := 0, locals := 621 } : Room) (va_Pc [.ref (ad 0), .int p0] (KP ρ H)) (mQ (fun v H1 => v = some (.int res) ∧ H1 = H) (fun _ => False)) 0 0 (fun _ => False) := by
  refine m_ofW (own := "WordFunctions") (plainFor_of_name rfl) rfl (Nat.le_of_ble_eq_true rfl) fun p e s m args below meth c ls hx hb hr hlk _ X hs hl => ?_
  subst hs
  have hS : va_S (fun _ => False) s.heap s.heap [] := va_S.rf
  have hSz := hS.1
  have hPp : ∀ i, i < 46 → P (ad i) := hW.1
  have hl : lv_has ls 3 [(0, .ref (ad 0)), (1, .int p0)] := hl
  unfold f_wf_letter at h
  refine lv_aload_n (pc := 0) hx hb d12_0 rfl (lv_at hl 0 rfl) ?_
  refine c_getK (pc := 1) X hW 0 4 9 2 (C := "WordFunctions") (T := T9) (N := 9) (by decide) rfl rfl rfl rfl tin9 rfl wd246 rfl rfl d12_1 ?_
  refine c_gettold (pc := 4) X hW wd180 d12_4 (fun u1 fu1 => ?_)
  refine v_text (pc := 7) X fu1 wd89 d12_7 (fun u2 fu2 => ?_)
  refine lv_astore_n (pc := 10) (lv' := [(2, .ref u2), (0, .ref (ad 0)), (1, .int p0)]) hx hb d12_10 rfl hl (by decide) rfl (fun ls hl => ?_)
  refine lv_iload_n (pc := 11) hx hb d12_11 rfl (lv_at hl 2 rfl) ?_
  refine lv_if_lt (pc := 12) (tgt := 31) hx hb d12_12 (by decide) (fun c12 => ?_) (fun c12 => ?_)
  · have h := jb_t c12 h
    refine lv_iconst (pc := 31) (v := (-1)) hx hb d12_31 (by decide) ?_
    obtain rfl := Option.some.inj h
    exact m_iret (pc := 32) hx hb hr hlk hS ⟨rfl, rfl⟩ (Nat.le_refl _) (Nat.le_refl _) d12_32
  · have h := jb_f c12 h
    refine lv_iload_n (pc := 15) hx hb d12_15 rfl (lv_at hl 2 rfl) ?_
    refine lv_aload_n (pc := 16) hx hb d12_16 rfl (lv_at hl 0 rfl) ?_
    obtain ⟨q3, hq3, h⟩ := jc_some h
    refine k_callV (pc := 17) (n := 0) X hS (c_js_length l ρ _ P u2 ((st.2 2 3).2.2) q3 hW.2.2.1 hW.2.1 fu2 hq3) wd538 wd675 wd536 wd537 wd14 (by decide) ⟨rfl, rfl, Nat.le_of_ble_eq_true rfl, Nat.le_of_ble_eq_true rfl⟩ (s_recv X fu2) (As := []) (rest := [.int p0]) rfl rfl hl.1 (Nat.le_of_ble_eq_true rfl) d12_17 ⟨Nat.le_refl _, Nat.le_refl _⟩ (fun q hq => False.elim hq) (fun v H1 locs1 hv _ _ hSq3 => ?_)
    obtain ⟨rfl, rfl⟩ := hv
    have hS := hSq3
    have hSz := hS.1
    refine lv_icmp_ge (pc := 20) (tgt := 31) hx hb d12_20 (by decide) (fun c20 => ?_) (fun c20 => ?_)
    · have h := jb_t c20 h
      refine lv_iconst (pc := 31) (v := (-1)) hx hb d12_31 (by decide) ?_
      obtain rfl := Option.some.inj h
      exact m_iret (pc := 32) hx hb hr hlk hS ⟨rfl, rfl⟩ (Nat.le_refl _) (Nat.le_refl _) d12_32
    · have h := jb_f c20 h
      refine lv_aload_n (pc := 23) hx hb d12_23 rfl (lv_at hl 0 rfl) ?_
      refine lv_iload_n (pc := 24) hx hb d12_24 rfl (lv_at hl 2 rfl) ?_
      obtain ⟨q4, hq4, h⟩ := jc_some h
      refine k_callV (pc := 25) (n := 1) X hS (c_js_charAt l ρ _ P u2 ((st.2 2 3).2.2) p0 q4 hW.2.2.1 hW.2.1 fu2 hq4) wd683 wd680 wd681 wd682 wd14 (by decide) ⟨rfl, rfl, Nat.le_of_ble_eq_true rfl, Nat.le_of_ble_eq_true rfl⟩ (s_recv X fu2) (As := [.int p0]) (rest := []) rfl rfl hl.1 (Nat.le_of_ble_eq_true rfl) d12_25 ⟨Nat.le_refl _, Nat.le_refl _⟩ (fun q hq => False.elim hq) (fun v H1 locs1 hv _ _ hSq4 => ?_)
      obtain ⟨rfl, rfl⟩ := hv
      have hS := hSq4
      have hSz := hS.1
      refine lv_goto (pc := 28) (tgt := 32) hx hb d12_28 (by decide) ?_
      obtain rfl := Option.some.inj h
      exact m_iret (pc := 32) hx hb hr hlk hS ⟨rfl, rfl⟩ (Nat.le_refl _) (Nat.le_refl _) d12_32
def f_an_tell (st : CS) (p0 : Int32) (p1 : Int32) : Option (Int32 × CS) := jb (p0 < 0) (some (0, st)) (jb ((st.1 2 1) ≤ p0) (some (0, st)) (jb (p1 < 0) (some (0, st)) (jb ((st.1 2 2) ≤ p1) (some (0, st)) (jb (((p0 * (st.1 2 2)) + p1) < 512) (jg (inb ((p0 * (st.1 2 2)) + p1) 512) (jn (uV st 2 3 (st.2 42 ((p0 * (st.1 2 2)) + p1).toNatClampNeg)) (fun st3 => some (1, st3)))) (some (0, st))))))
set_option maxHeartbeats 4000000 in
set_option maxRecDepth 100000 in
theorem c_an_tell (l : Launch) (ρ : RH) (ad : Nat → Nat) (H : Heap) (P : Nat → Prop) (st : CS) (p0 : Int32) (p1 : Int32) (res : Int32 × CS) (hW : CW ρ P ad st H) (h : f_an_tell st p0 p1 = some res) : Met l y26 (wsOf y26 b26 3 (some .boolean)) ({ frames := 0, cells := 0, slots := 0, locals := 0 } : Room) (va_Pc [.ref (ad 2), .int p0, .int p1] (KP ρ H)) (mQ (fun v H1 => v = some (.int res.1) ∧ CW ρ P ad res.2 H1) (MA wC ad H.size)) 0 0 (MA wC ad H.size) := by
  refine m_ofW (own := "WordFunctions$Answer") (plainFor_of_name rfl) rfl (Nat.le_of_ble_eq_true rfl) fun p e s m args below meth c ls hx hb hr hlk _ X hs hl => ?_
  subst hs
  have hS : va_S (MA wC ad s.heap.size) s.heap s.heap [] := va_S.rf
  have hSz := hS.1
  have hAz : ∀ q, s.heap.size ≤ q → (MA wC ad s.heap.size) q := fun q hq => Or.inr hq
  have hAp : ∀ i, i < 46 → (MA wC ad s.heap.size) (ad i) := fun i hi => MA.in hi
  have hPp : ∀ i, i < 46 → P (ad i) := hW.1
  have hl : lv_has ls 3 [(0, .ref (ad 2)), (1, .int p0), (2, .int p1)] := hl
  unfold f_an_tell at h
  refine lv_iload_n (pc := 0) hx hb d26_0 rfl (lv_at hl 1 rfl) ?_
  refine lv_if_lt (pc := 1) (tgt := 40) hx hb d26_1 (by decide) (fun c1 => ?_) (fun c1 => ?_)
  · have h := jb_t c1 h
    refine lv_iconst (pc := 40) (v := 0) hx hb d26_40 (by decide) ?_
    obtain rfl := Option.some.inj h
    exact m_zret (pc := 41) hx hb hr hlk hS ⟨rfl, hW⟩ (Nat.le_refl _) (Nat.le_refl _) d26_41 (by decide)
  · have h := jb_f c1 h
    refine lv_iload_n (pc := 4) hx hb d26_4 rfl (lv_at hl 1 rfl) ?_
    refine lv_aload_n (pc := 5) hx hb d26_5 rfl (lv_at hl 0 rfl) ?_
    refine c_getI (pc := 6) X hW 2 1 4 (C := "WordFunctions$Answer") (T := T4) (N := 4) (by decide) rfl rfl rfl rfl tin4 rfl wd175 rfl d26_6 ?_
    refine lv_icmp_ge (pc := 9) (tgt := 40) hx hb d26_9 (by decide) (fun c9 => ?_) (fun c9 => ?_)
    · have h := jb_t c9 h
      refine lv_iconst (pc := 40) (v := 0) hx hb d26_40 (by decide) ?_
      obtain rfl := Option.some.inj h
      exact m_zret (pc := 41) hx hb hr hlk hS ⟨rfl, hW⟩ (Nat.le_refl _) (Nat.le_refl _) d26_41 (by decide)
    · have h := jb_f c9 h
      refine lv_iload_n (pc := 12) hx hb d26_12 rfl (lv_at hl 2 rfl) ?_
      refine lv_if_lt (pc := 13) (tgt := 40) hx hb d26_13 (by decide) (fun c13 => ?_) (fun c13 => ?_)
      · have h := jb_t c13 h
        refine lv_iconst (pc := 40) (v := 0) hx hb d26_40 (by decide) ?_
        obtain rfl := Option.some.inj h
        exact m_zret (pc := 41) hx hb hr hlk hS ⟨rfl, hW⟩ (Nat.le_refl _) (Nat.le_refl _) d26_41 (by decide)
      · have h := jb_f c13 h
        refine lv_iload_n (pc := 16) hx hb d26_16 rfl (lv_at hl 2 rfl) ?_
        refine lv_aload_n (pc := 17) hx hb d26_17 rfl (lv_at hl 0 rfl) ?_
        refine c_getI (pc := 18) X hW 2 2 4 (C := "WordFunctions$Answer") (T := T4) (N := 4) (by decide) rfl rfl rfl rfl tin4 rfl wd177 rfl d26_18 ?_
        refine lv_icmp_ge (pc := 21) (tgt := 40) hx hb d26_21 (by decide) (fun c21 => ?_) (fun c21 => ?_)
        · have h := jb_t c21 h
          refine lv_iconst (pc := 40) (v := 0) hx hb d26_40 (by decide) ?_
          obtain rfl := Option.some.inj h
          exact m_zret (pc := 41) hx hb hr hlk hS ⟨rfl, hW⟩ (Nat.le_refl _) (Nat.le_refl _) d26_41 (by decide)
        · have h := jb_f c21 h
          refine lv_iload_n (pc := 24) hx hb d26_24 rfl (lv_at hl 1 rfl) ?_
          refine lv_aload_n (pc := 25) hx hb d26_25 rfl (lv_at hl 0 rfl) ?_
          refine c_getI (pc := 26) X hW 2 2 4 (C := "WordFunctions$Answer") (T := T4) (N := 4) (by decide) rfl rfl rfl rfl tin4 rfl wd177 rfl d26_26 ?_
          refine lv_imul (pc := 29) hx hb d26_29 ?_
          refine lv_iload_n (pc := 30) hx hb d26_30 rfl (lv_at hl 2 rfl) ?_
          refine lv_iadd (pc := 31) hx hb d26_31 ?_
          refine lv_aload_n (pc := 32) hx hb d26_32 rfl (lv_at hl 0 rfl) ?_
          refine c_getK (pc := 33) X hW 2 0 4 42 (C := "WordFunctions$Answer") (T := T4) (N := 4) (by decide) rfl rfl rfl rfl tin4 rfl wd174 rfl rfl d26_33 ?_
          refine c_alen (pc := 36) (v := 512) X hW 42 (by decide) rfl (by decide) (by decide) d26_36 ?_
          refine lv_icmp_lt (pc := 37) (tgt := 42) hx hb d26_37 (by decide) (fun c37 => ?_) (fun c37 => ?_)
          · have h := jb_t c37 h
            refine lv_aload_n (pc := 42) hx hb d26_42 rfl (lv_at hl 0 rfl) ?_
            refine lv_aload_n (pc := 43) hx hb d26_43 rfl (lv_at hl 0 rfl) ?_
            refine c_getK (pc := 44) X hW 2 0 4 42 (C := "WordFunctions$Answer") (T := T4) (N := 4) (by decide) rfl rfl rfl rfl tin4 rfl wd174 rfl rfl d26_44 ?_
            refine lv_iload_n (pc := 47) hx hb d26_47 rfl (lv_at hl 1 rfl) ?_
            refine lv_aload_n (pc := 48) hx hb d26_48 rfl (lv_at hl 0 rfl) ?_
            refine c_getI (pc := 49) X hW 2 2 4 (C := "WordFunctions$Answer") (T := T4) (N := 4) (by decide) rfl rfl rfl rfl tin4 rfl wd177 rfl d26_49 ?_
            refine lv_imul (pc := 52) hx hb d26_52 ?_
            refine lv_iload_n (pc := 53) hx hb d26_53 rfl (lv_at hl 2 rfl) ?_
            refine lv_iadd (pc := 54) hx hb d26_54 ?_
            obtain ⟨g1, h⟩ := jg_some h
            refine c_vald (pc := 55) X hW 42 (by decide) g1 d26_55 (fun u2 fu2 => ?_)
            obtain ⟨st3, est3, h⟩ := jn_ex h
            refine c_puttold (pc := 56) X hW hS fu2 est3 (hAp 2 (by decide)) wd179 d26_56 (fun H locs hW hS hk => ?_)
            have hSz := hS.1
            refine lv_iconst (pc := 59) (v := 1) hx hb d26_59 (by decide) ?_
            obtain rfl := Option.some.inj h
            exact m_zret (pc := 60) hx hb hr hlk hS ⟨rfl, hW⟩ (Nat.le_refl _) (Nat.le_refl _) d26_60 (by decide)
          · have h := jb_f c37 h
            refine lv_iconst (pc := 40) (v := 0) hx hb d26_40 (by decide) ?_
            obtain rfl := Option.some.inj h
            exact m_zret (pc := 41) hx hb hr hlk hS ⟨rfl, hW⟩ (Nat.le_refl _) (Nat.le_refl _) d26_41 (by decide)
def f_wf_look (st : CS) (p0 : Int32) (p1 : Int32) : Option (Int32 × CS) := jc (f_an_tell st p0 p1) (fun q1 => jb (q1.1 = 0) (some ((-1), q1.2)) (some ((q1.2.2 2 3).1, q1.2)))
set_option maxHeartbeats 4000000 in
set_option maxRecDepth 100000 in
theorem c_wf_look (l : Launch) (ρ : RH) (ad : Nat → Nat) (H : Heap) (P : Nat → Prop) (st : CS) (p0 : Int32) (p1 : Int32) (res : Int32 × CS) (hW : CW ρ P ad st H) (h : f_wf_look st p0 p1 = some res) : Met l y13 (wsOf y13 b13 3 (some .int)) ({ frames := 1, cells := 0, slots := 0, locals := 22 } : Room) (va_Pc [.ref (ad 0), .int p0, .int p1] (KP ρ H)) (mQ (fun v H1 => v = some (.int res.1) ∧ CW ρ P ad res.2 H1) (MA wC ad H.size)) 0 0 (MA wC ad H.size) := by
  refine m_ofW (own := "WordFunctions") (plainFor_of_name rfl) rfl (Nat.le_of_ble_eq_true rfl) fun p e s m args below meth c ls hx hb hr hlk _ X hs hl => ?_
  subst hs
  have hS : va_S (MA wC ad s.heap.size) s.heap s.heap [] := va_S.rf
  have hSz := hS.1
  have hAz : ∀ q, s.heap.size ≤ q → (MA wC ad s.heap.size) q := fun q hq => Or.inr hq
  have hAp : ∀ i, i < 46 → (MA wC ad s.heap.size) (ad i) := fun i hi => MA.in hi
  have hPp : ∀ i, i < 46 → P (ad i) := hW.1
  have hl : lv_has ls 3 [(0, .ref (ad 0)), (1, .int p0), (2, .int p1)] := hl
  unfold f_wf_look at h
  refine lv_aload_n (pc := 0) hx hb d13_0 rfl (lv_at hl 0 rfl) ?_
  refine c_getK (pc := 1) X hW 0 4 9 2 (C := "WordFunctions") (T := T9) (N := 9) (by decide) rfl rfl rfl rfl tin9 rfl wd246 rfl rfl d13_1 ?_
  refine lv_iload_n (pc := 4) hx hb d13_4 rfl (lv_at hl 1 rfl) ?_
  refine lv_iload_n (pc := 5) hx hb d13_5 rfl (lv_at hl 2 rfl) ?_
  obtain ⟨q1, hq1, h⟩ := jc_some h
  refine k_callV (pc := 6) (n := 2) X hS (c_an_tell l ρ ad _ P st p0 p1 q1 hW  hq1) wd670 wd667 wd668 wd669 wd6 (by decide) ⟨rfl, rfl, Nat.le_of_ble_eq_true rfl, Nat.le_of_ble_eq_true rfl⟩ (c_recv X hW 2 4 (by decide) rfl rfl) (As := [.int p0, .int p1]) (rest := []) rfl rfl hl.1 (Nat.le_of_ble_eq_true rfl) d13_6 ⟨Nat.le_refl _, Nat.le_refl _⟩ (fun q hq => MA.mono hS.1 hq) (fun v H1 locs1 hv hz1 hz2 hSq1 => ?_)
  have hPq := hW.1
  obtain ⟨rfl, hW⟩ := hv
  have hS := hSq1
  have hSz := hS.1
  refine lv_if_eq (pc := 9) (tgt := 25) hx hb d13_9 (by decide) (fun c9 => ?_) (fun c9 => ?_)
  · have h := jb_t c9 h
    refine lv_iconst (pc := 25) (v := (-1)) hx hb d13_25 (by decide) ?_
    obtain rfl := Option.some.inj h
    exact m_iret (pc := 26) hx hb hr hlk hS ⟨rfl, hW⟩ (Nat.le_refl _) (Nat.le_refl _) d13_26
  · have h := jb_f c9 h
    refine lv_aload_n (pc := 12) hx hb d13_12 rfl (lv_at hl 0 rfl) ?_
    refine c_getK (pc := 13) X hW 0 4 9 2 (C := "WordFunctions") (T := T9) (N := 9) (by decide) rfl rfl rfl rfl tin9 rfl wd246 rfl rfl d13_13 ?_
    refine c_gettold (pc := 16) X hW wd180 d13_16 (fun u2 fu2 => ?_)
    refine v_kind (pc := 19) X fu2 wd78 d13_19 ?_
    refine lv_goto (pc := 22) (tgt := 26) hx hb d13_22 (by decide) ?_
    obtain rfl := Option.some.inj h
    exact m_iret (pc := 26) hx hb hr hlk hS ⟨rfl, hW⟩ (Nat.le_refl _) (Nat.le_refl _) d13_26
def f_ar_grid (st : CS) (p0 : Int32) : Option (Nat) := jb (p0 < 0) (some 8) (jb ((st.1 1 5) ≤ p0) (some 8) (jb (30 ≤ p0) (some 8) (jg (inb p0 30) (jn (9 + p0.toNatClampNeg) (fun v2 => some v2)))))
set_option maxHeartbeats 4000000 in
set_option maxRecDepth 100000 in
theorem c_ar_grid (l : Launch) (ρ : RH) (ad : Nat → Nat) (H : Heap) (P : Nat → Prop) (st : CS) (p0 : Int32) (res : Nat) (hW : CW ρ P ad st H) (h : f_ar_grid st p0 = some res) : Met l y35 (wsOf y35 b35 2 (some (.object "WordFunctions$Grid"))) ({ frames := 0, cells := 0, slots := 0, locals := 0 } : Room) (va_Pc [.ref (ad 1), .int p0] (KP ρ H)) (mQ (fun v H1 => v = some (.ref (ad res)) ∧ (res < 46 ∧ tabC res = (0, 2)) ∧ H1 = H) (fun _ => False)) 0 0 (fun _ => False) := by
  refine m_ofW (own := "WordFunctions$Arguments") (plainFor_of_name rfl) rfl (Nat.le_of_ble_eq_true rfl) fun p e s m args below meth c ls hx hb hr hlk _ X hs hl => ?_
  subst hs
  have hS : va_S (fun _ => False) s.heap s.heap [] := va_S.rf
  have hSz := hS.1
  have hPp : ∀ i, i < 46 → P (ad i) := hW.1
  have hl : lv_has ls 2 [(0, .ref (ad 1)), (1, .int p0)] := hl
  unfold f_ar_grid at h
  refine lv_iload_n (pc := 0) hx hb d35_0 rfl (lv_at hl 1 rfl) ?_
  refine lv_if_lt (pc := 1) (tgt := 30) hx hb d35_1 (by decide) (fun c1 => ?_) (fun c1 => ?_)
  · have h := jb_t c1 h
    refine lv_aload_n (pc := 30) hx hb d35_30 rfl (lv_at hl 0 rfl) ?_
    refine c_getK (pc := 31) X hW 1 1 3 8 (C := "WordFunctions$Arguments") (T := T3) (N := 9) (by decide) rfl rfl rfl rfl tin3 rfl wd130 rfl rfl d35_31 ?_
    obtain rfl := Option.some.inj h
    exact m_aret (pc := 34) hx hb hr (Or.inl ⟨_, rfl⟩) hlk hS ⟨rfl, ⟨by decide, rfl⟩, rfl⟩ (Nat.le_refl _) (Nat.le_refl _) d35_34
  · have h := jb_f c1 h
    refine lv_iload_n (pc := 4) hx hb d35_4 rfl (lv_at hl 1 rfl) ?_
    refine lv_aload_n (pc := 5) hx hb d35_5 rfl (lv_at hl 0 rfl) ?_
    refine c_getI (pc := 6) X hW 1 5 3 (C := "WordFunctions$Arguments") (T := T3) (N := 9) (by decide) rfl rfl rfl rfl tin3 rfl wd134 rfl d35_6 ?_
    refine lv_icmp_ge (pc := 9) (tgt := 30) hx hb d35_9 (by decide) (fun c9 => ?_) (fun c9 => ?_)
    · have h := jb_t c9 h
      refine lv_aload_n (pc := 30) hx hb d35_30 rfl (lv_at hl 0 rfl) ?_
      refine c_getK (pc := 31) X hW 1 1 3 8 (C := "WordFunctions$Arguments") (T := T3) (N := 9) (by decide) rfl rfl rfl rfl tin3 rfl wd130 rfl rfl d35_31 ?_
      obtain rfl := Option.some.inj h
      exact m_aret (pc := 34) hx hb hr (Or.inl ⟨_, rfl⟩) hlk hS ⟨rfl, ⟨by decide, rfl⟩, rfl⟩ (Nat.le_refl _) (Nat.le_refl _) d35_34
    · have h := jb_f c9 h
      refine lv_iload_n (pc := 12) hx hb d35_12 rfl (lv_at hl 1 rfl) ?_
      refine lv_aload_n (pc := 13) hx hb d35_13 rfl (lv_at hl 0 rfl) ?_
      refine c_getK (pc := 14) X hW 1 3 3 41 (C := "WordFunctions$Arguments") (T := T3) (N := 9) (by decide) rfl rfl rfl rfl tin3 rfl wd132 rfl rfl d35_14 ?_
      refine c_alen (pc := 17) (v := 30) X hW 41 (by decide) rfl (by decide) (by decide) d35_17 ?_
      refine lv_icmp_ge (pc := 18) (tgt := 30) hx hb d35_18 (by decide) (fun c18 => ?_) (fun c18 => ?_)
      · have h := jb_t c18 h
        refine lv_aload_n (pc := 30) hx hb d35_30 rfl (lv_at hl 0 rfl) ?_
        refine c_getK (pc := 31) X hW 1 1 3 8 (C := "WordFunctions$Arguments") (T := T3) (N := 9) (by decide) rfl rfl rfl rfl tin3 rfl wd130 rfl rfl d35_31 ?_
        obtain rfl := Option.some.inj h
        exact m_aret (pc := 34) hx hb hr (Or.inl ⟨_, rfl⟩) hlk hS ⟨rfl, ⟨by decide, rfl⟩, rfl⟩ (Nat.le_refl _) (Nat.le_refl _) d35_34
      · have h := jb_f c18 h
        refine lv_aload_n (pc := 21) hx hb d35_21 rfl (lv_at hl 0 rfl) ?_
        refine c_getK (pc := 22) X hW 1 3 3 41 (C := "WordFunctions$Arguments") (T := T3) (N := 9) (by decide) rfl rfl rfl rfl tin3 rfl wd132 rfl rfl d35_22 ?_
        refine lv_iload_n (pc := 25) hx hb d35_25 rfl (lv_at hl 1 rfl) ?_
        obtain ⟨g1, h⟩ := jg_some h
        refine c_gald (pc := 26) X hW g1 d35_26 ?_
        obtain ⟨v2, ev2, h⟩ := jn_ex h
        rw [← ev2]
        have hgv2 : v2 < 46 ∧ tabC v2 = (0, 2) := by rw [ev2]; exact grid_ok g1
        refine lv_goto (pc := 27) (tgt := 34) hx hb d35_27 (by decide) ?_
        obtain rfl := Option.some.inj h
        exact m_aret (pc := 34) hx hb hr (Or.inl ⟨_, rfl⟩) hlk hS ⟨rfl, hgv2, rfl⟩ (Nat.le_refl _) (Nat.le_refl _) d35_34
def f_ar_set (st : CS) (p0 : Int32) (p1 : VV) : Option (Int32 × CS) := jc (f_ar_grid st ((st.1 1 5) - 1)) (fun q1 => jb (p0 < 0) (some (0, st)) (jb (((st.1 q1 0) * (st.1 q1 1)) ≤ p0) (some (0, st)) (jb (((st.1 q1 2) + p0) < 512) (jg (inb ((st.1 q1 2) + p0) 512) (jn (uV st 40 ((st.1 q1 2) + p0).toNatClampNeg p1) (fun st3 => some (1, st3)))) (some (0, st)))))
set_option maxHeartbeats 4000000 in
set_option maxRecDepth 100000 in
theorem c_ar_set (l : Launch) (ρ : RH) (ad : Nat → Nat) (H : Heap) (P : Nat → Prop) (st : CS) (p0 : Int32) (ap1 : Nat) (p1 : VV) (res : Int32 × CS) (hW : CW ρ P ad st H) (fap1 : isV ρ P H ap1 p1) (h : f_ar_set st p0 p1 = some res) : Met l y43 (wsOf y43 b43 4 (some .boolean)) ({ frames := 1, cells := 0, slots := 0, locals := 21 } : Room) (va_Pc [.ref (ad 1), .int p0, .ref ap1] (KP ρ H)) (mQ (fun v H1 => v = some (.int res.1) ∧ CW ρ P ad res.2 H1) (MA wC ad H.size)) 0 0 (MA wC ad H.size) := by
  refine m_ofW (own := "WordFunctions$Arguments") (plainFor_of_name rfl) rfl (Nat.le_of_ble_eq_true rfl) fun p e s m args below meth c ls hx hb hr hlk _ X hs hl => ?_
  subst hs
  have hS : va_S (MA wC ad s.heap.size) s.heap s.heap [] := va_S.rf
  have hSz := hS.1
  have hAz : ∀ q, s.heap.size ≤ q → (MA wC ad s.heap.size) q := fun q hq => Or.inr hq
  have hAp : ∀ i, i < 46 → (MA wC ad s.heap.size) (ad i) := fun i hi => MA.in hi
  have hPp : ∀ i, i < 46 → P (ad i) := hW.1
  have hl : lv_has ls 4 [(0, .ref (ad 1)), (1, .int p0), (2, .ref ap1)] := hl
  unfold f_ar_set at h
  refine lv_aload_n (pc := 0) hx hb d43_0 rfl (lv_at hl 0 rfl) ?_
  refine lv_aload_n (pc := 1) hx hb d43_1 rfl (lv_at hl 0 rfl) ?_
  refine c_getI (pc := 2) X hW 1 5 3 (C := "WordFunctions$Arguments") (T := T3) (N := 9) (by decide) rfl rfl rfl rfl tin3 rfl wd134 rfl d43_2 ?_
  refine lv_iconst (pc := 5) (v := 1) hx hb d43_5 (by decide) ?_
  refine lv_isub (pc := 6) hx hb d43_6 ?_
  obtain ⟨q1, hq1, h⟩ := jc_some h
  refine k_callV (pc := 7) (n := 1) X hS (c_ar_grid l ρ ad _ P st ((st.1 1 5) - 1) q1 hW  hq1) wd628 wd625 wd626 wd627 wd3 (by decide) ⟨rfl, rfl, Nat.le_of_ble_eq_true rfl, Nat.le_of_ble_eq_true rfl⟩ (c_recv X hW 1 3 (by decide) rfl rfl) (As := [.int ((st.1 1 5) - 1)]) (rest := []) rfl rfl hl.1 (Nat.le_of_ble_eq_true rfl) d43_7 ⟨Nat.le_refl _, Nat.le_refl _⟩ (fun q hq => False.elim hq) (fun v H1 locs1 hv _ _ hSq1 => ?_)
  obtain ⟨rfl, hgq1, rfl⟩ := hv
  have hS := hSq1
  have hSz := hS.1
  refine lv_astore_n (pc := 10) (lv' := [(3, .ref (ad q1)), (0, .ref (ad 1)), (1, .int p0), (2, .ref ap1)]) hx hb d43_10 rfl hl (by decide) rfl (fun ls hl => ?_)
  refine lv_iload_n (pc := 11) hx hb d43_11 rfl (lv_at hl 2 rfl) ?_
  refine lv_if_lt (pc := 12) (tgt := 42) hx hb d43_12 (by decide) (fun c12 => ?_) (fun c12 => ?_)
  · have h := jb_t c12 h
    refine lv_iconst (pc := 42) (v := 0) hx hb d43_42 (by decide) ?_
    obtain rfl := Option.some.inj h
    exact m_zret (pc := 43) hx hb hr hlk hS ⟨rfl, hW⟩ (Nat.le_refl _) (Nat.le_refl _) d43_43 (by decide)
  · have h := jb_f c12 h
    refine lv_iload_n (pc := 15) hx hb d43_15 rfl (lv_at hl 2 rfl) ?_
    refine lv_aload_n (pc := 16) hx hb d43_16 rfl (lv_at hl 0 rfl) ?_
    refine c_getI (pc := 17) X hW q1 0 2 (C := "WordFunctions$Grid") (T := T2) (N := 6) hgq1.1 hgq1.2 rfl rfl rfl tin2 rfl wd104 rfl d43_17 ?_
    refine lv_aload_n (pc := 20) hx hb d43_20 rfl (lv_at hl 0 rfl) ?_
    refine c_getI (pc := 21) X hW q1 1 2 (C := "WordFunctions$Grid") (T := T2) (N := 6) hgq1.1 hgq1.2 rfl rfl rfl tin2 rfl wd105 rfl d43_21 ?_
    refine lv_imul (pc := 24) hx hb d43_24 ?_
    refine lv_icmp_ge (pc := 25) (tgt := 42) hx hb d43_25 (by decide) (fun c25 => ?_) (fun c25 => ?_)
    · have h := jb_t c25 h
      refine lv_iconst (pc := 42) (v := 0) hx hb d43_42 (by decide) ?_
      obtain rfl := Option.some.inj h
      exact m_zret (pc := 43) hx hb hr hlk hS ⟨rfl, hW⟩ (Nat.le_refl _) (Nat.le_refl _) d43_43 (by decide)
    · have h := jb_f c25 h
      refine lv_aload_n (pc := 28) hx hb d43_28 rfl (lv_at hl 0 rfl) ?_
      refine c_getI (pc := 29) X hW q1 2 2 (C := "WordFunctions$Grid") (T := T2) (N := 6) hgq1.1 hgq1.2 rfl rfl rfl tin2 rfl wd106 rfl d43_29 ?_
      refine lv_iload_n (pc := 32) hx hb d43_32 rfl (lv_at hl 2 rfl) ?_
      refine lv_iadd (pc := 33) hx hb d43_33 ?_
      refine lv_aload_n (pc := 34) hx hb d43_34 rfl (lv_at hl 1 rfl) ?_
      refine c_getK (pc := 35) X hW 1 2 3 40 (C := "WordFunctions$Arguments") (T := T3) (N := 9) (by decide) rfl rfl rfl rfl tin3 rfl wd131 rfl rfl d43_35 ?_
      refine c_alen (pc := 38) (v := 512) X hW 40 (by decide) rfl (by decide) (by decide) d43_38 ?_
      refine lv_icmp_lt (pc := 39) (tgt := 44) hx hb d43_39 (by decide) (fun c39 => ?_) (fun c39 => ?_)
      · have h := jb_t c39 h
        refine lv_aload_n (pc := 44) hx hb d43_44 rfl (lv_at hl 1 rfl) ?_
        refine c_getK (pc := 45) X hW 1 2 3 40 (C := "WordFunctions$Arguments") (T := T3) (N := 9) (by decide) rfl rfl rfl rfl tin3 rfl wd131 rfl rfl d43_45 ?_
        refine lv_aload_n (pc := 48) hx hb d43_48 rfl (lv_at hl 0 rfl) ?_
        refine c_getI (pc := 49) X hW q1 2 2 (C := "WordFunctions$Grid") (T := T2) (N := 6) hgq1.1 hgq1.2 rfl rfl rfl tin2 rfl wd106 rfl d43_49 ?_
        refine lv_iload_n (pc := 52) hx hb d43_52 rfl (lv_at hl 2 rfl) ?_
        refine lv_iadd (pc := 53) hx hb d43_53 ?_
        refine lv_aload_n (pc := 54) hx hb d43_54 rfl (lv_at hl 3 rfl) ?_
        obtain ⟨g2, h⟩ := jg_some h
        obtain ⟨st3, est3, h⟩ := jn_ex h
        refine c_vast (pc := 55) X hW hS 40 (hAp 40 (by decide)) (by decide) fap1 g2 est3 d43_55 (fun H locs hW hS hk => ?_)
        have hSz := hS.1
        refine lv_iconst (pc := 56) (v := 1) hx hb d43_56 (by decide) ?_
        obtain rfl := Option.some.inj h
        exact m_zret (pc := 57) hx hb hr hlk hS ⟨rfl, hW⟩ (Nat.le_refl _) (Nat.le_refl _) d43_57 (by decide)
      · have h := jb_f c39 h
        refine lv_iconst (pc := 42) (v := 0) hx hb d43_42 (by decide) ?_
        obtain rfl := Option.some.inj h
        exact m_zret (pc := 43) hx hb hr hlk hS ⟨rfl, hW⟩ (Nat.le_refl _) (Nat.le_refl _) d43_43 (by decide)
def wf_put_108  (st : CS) (z1 : Int32) (z2 : Int32) : Option ((Int32 × CS) × Nat × Nat) := jd (f_vl_ofTruth z2) (fun q1 => jc (f_ar_set st z1 q1) (fun q3 => jg (isB q3.1) (some ((q3.1, q3.2), 0, 0))))
def wf_put_60  (st : CS) (x1 : Int32) (x3 : UInt64) (z0 : UInt64) : Option ((Int32 × CS) × Nat × Nat) := jb (0 ≤ (Op.cmpValue (FP.dcmp z0 (9094988921128908188 : UInt64)) .g)) (some ((0, st), 0, 0)) (jd (f_vl_ofNumber x3) (fun q5 => jc (f_ar_set st x1 q5) (fun q7 => jb (q7.1 = 0) (some ((0, q7.2), 0, 0)) (some ((1, q7.2), 0, 0)))))
def f_wf_put (st : CS) (p0 : Int32) (p1 : Int32) (p2 : UInt64) : Option ((Int32 × CS) × Nat × Nat) := jb (p1 = 0) (jd (f_vl_ofEmpty) (fun q8 => jc (f_ar_set st p0 q8) (fun q10 => jg (isB q10.1) (some ((q10.1, q10.2), 0, 0))))) (jb (p1 = 1) (jb (0 ≤ (Op.cmpValue (FP.dcmp p2 FP.dconst0) .g)) (wf_put_60 st p0 p2 p2) (wf_put_60 st p0 p2 (FP.dneg p2))) (jb (p1 = 2) (some ((0, st), 0, 0)) (jb (p1 = 3) (jb ((Op.cmpValue (FP.dcmp p2 FP.dconst0) .l) = 0) (wf_put_108 st p0 0) (wf_put_108 st p0 1)) (jb (p1 = 4) (jc (f_wf_errorNumber p2) (fun q12 => jd (f_vl_ofError q12) (fun q13 => jc (f_ar_set st p0 q13) (fun q15 => jg (isB q15.1) (some ((q15.1, q15.2), 0, 0)))))) (some ((0, st), 0, 0))))))
set_option maxHeartbeats 4000000 in
set_option maxRecDepth 100000 in
theorem c_wf_put (l : Launch) (ρ : RH) (ad : Nat → Nat) (H : Heap) (P : Nat → Prop) (st : CS) (p0 : Int32) (p1 : Int32) (p2 : UInt64) (res : (Int32 × CS) × Nat × Nat) (hW : CW ρ P ad st H) (h : f_wf_put st p0 p1 p2 = some res) : Met l y14 (wsOf y14 b14 7 (some .boolean)) ({ frames := 13, cells := res.2.1, slots := res.2.2, locals := 621 } : Room) (va_Pc [.ref (ad 0), .int p0, .int p1, .double p2] (KP ρ H)) (mQ (fun v H1 => v = some (.int res.1.1) ∧ CW ρ P ad res.1.2 H1) (MA wC ad H.size)) res.2.1 res.2.2 (MA wC ad H.size) := by
  refine m_ofW (own := "WordFunctions") (plainFor_of_name rfl) rfl (Nat.le_of_ble_eq_true rfl) fun p e s m args below meth c ls hx hb hr hlk _ X hs hl => ?_
  subst hs
  have hS : va_S (MA wC ad s.heap.size) s.heap s.heap [] := va_S.rf
  have hSz := hS.1
  have hAz : ∀ q, s.heap.size ≤ q → (MA wC ad s.heap.size) q := fun q hq => Or.inr hq
  have hAp : ∀ i, i < 46 → (MA wC ad s.heap.size) (ad i) := fun i hi => MA.in hi
  have hPp : ∀ i, i < 46 → P (ad i) := hW.1
  have hl : lv_has ls 7 [(0, .ref (ad 0)), (1, .int p0), (2, .int p1), (3, .double p2)] := hl
  have kc108 : ∀ (st : CS) (z1 : Int32) (z2 : Int32) (H : Heap) (locs : List Loc) (ls : Array Slot) (cells slots : Nat) (r : (Int32 × CS) × Nat × Nat), CW ρ P ad st H → va_S (MA wC ad s.heap.size) s.heap H locs → lv_has ls 7 [] → res.1 = r.1 → cells + r.2.1 ≤ res.2.1 → slots + r.2.2 ≤ res.2.2 → wf_put_108 st z1 z2 = some r → W p l e ({ frames := 13, cells := res.2.1, slots := res.2.2, locals := 621 } : Room) s m args below meth c H locs cells slots (MQ below (mQ (fun v H1 => v = some (.int res.1.1) ∧ CW ρ P ad res.1.2 H1) (MA wC ad s.heap.size)) args s res.2.1 res.2.2 (MA wC ad s.heap.size)) (F0 m 108 ls [.int z2, .int z1, .ref (ad 1)]) := by
    intro st z1 z2 H locs ls cells slots r hW hS hl her hc1 hs1 h
    have hSz := hS.1
    unfold wf_put_108 at h
    obtain ⟨q1, rq1, hq1, h, herq1, hccq1, hssq1⟩ := jd_some h
    refine k_callS (pc := 108) (n := 1) X hS (c_vl_ofTruth l ρ _ P z2 q1 hW.2.2.1 hW.2.1  hq1) wd645 wd643 wd644 wd4 (by decide) ⟨rfl, rfl, Nat.le_of_ble_eq_true rfl, Nat.le_of_ble_eq_true rfl⟩ (As := [.int z2]) (rest := [.int z1, .ref (ad 1)]) rfl rfl hl.1 (Nat.le_of_ble_eq_true rfl) d14_108 ⟨room_le hccq1 hc1, room_le hssq1 hs1⟩ (fun q hq => hAz q (Nat.le_trans hS.1 hq)) (fun v H1 locs1 hv hz1 hz2 hSq1 => ?_)
    obtain ⟨u2, rfl, fu2⟩ := hv
    have hk : kp no _ H1 := kp_call hz1 hz2 (fun q hq z => absurd hq (Nat.not_lt.mpr z))
    have hW := hW.keep hk no_hz (fun _ _ z => z)
    have hS := hSq1
    have hSz := hS.1
    have her := her.trans herq1
    have hc1 := room_st hccq1 hc1
    have hs1 := room_st hssq1 hs1
    obtain ⟨q3, hq3, h⟩ := jc_some h
    refine k_callV (pc := 111) (n := 2) X hS (c_ar_set l ρ ad _ P st z1 u2 q1.1 q3 hW fu2 hq3) wd638 wd635 wd636 wd637 wd3 (by decide) ⟨rfl, rfl, Nat.le_of_ble_eq_true rfl, Nat.le_of_ble_eq_true rfl⟩ (c_recv X hW 1 3 (by decide) rfl rfl) (As := [.int z1, .ref u2]) (rest := []) rfl rfl hl.1 (Nat.le_of_ble_eq_true rfl) d14_111 ⟨room_l0 hc1, room_l0 hs1⟩ (fun q hq => MA.mono hS.1 hq) (fun v H1 locs1 hv hz1 hz2 hSq3 => ?_)
    have hPq := hW.1
    obtain ⟨rfl, hW⟩ := hv
    have hS := hSq3
    have hSz := hS.1
    obtain ⟨g4, h⟩ := jg_some h
    have her : res.1 = (q3.1, q3.2) := her.trans (congrArg Prod.fst (Option.some.inj h)).symm
    exact m_zret (pc := 114) hx hb hr hlk hS ⟨by rw [her], by rw [her]; exact hW⟩ (Nat.le_trans (Nat.le_add_right _ _) hc1) (Nat.le_trans (Nat.le_add_right _ _) hs1) d14_114 (isB_nar g4)
  have kc60 : ∀ (st : CS) (x1 : Int32) (x3 : UInt64) (z0 : UInt64) (H : Heap) (locs : List Loc) (ls : Array Slot) (cells slots : Nat) (r : (Int32 × CS) × Nat × Nat), CW ρ P ad st H → va_S (MA wC ad s.heap.size) s.heap H locs → lv_has ls 7 [(0, .ref (ad 0)), (1, .int x1), (3, .double x3)] → res.1 = r.1 → cells + r.2.1 ≤ res.2.1 → slots + r.2.2 ≤ res.2.2 → wf_put_60 st x1 x3 z0 = some r → W p l e ({ frames := 13, cells := res.2.1, slots := res.2.2, locals := 621 } : Room) s m args below meth c H locs cells slots (MQ below (mQ (fun v H1 => v = some (.int res.1.1) ∧ CW ρ P ad res.1.2 H1) (MA wC ad s.heap.size)) args s res.2.1 res.2.2 (MA wC ad s.heap.size)) (F0 m 60 ls [.double z0]) := by
    intro st x1 x3 z0 H locs ls cells slots r hW hS hl her hc1 hs1 h
    have hSz := hS.1
    unfold wf_put_60 at h
    refine lv_dstore (pc := 60) (lv' := [(5, .double z0), (0, .ref (ad 0)), (1, .int x1), (3, .double x3)]) hx hb d14_60 hl (by decide) rfl (fun ls hl => ?_)
    refine lv_dload (pc := 62) hx hb d14_62 (lv_at hl 0 rfl) ?_
    refine lv_ldc2d (pc := 64) hx hb X.1.2.2.2.1 (X.ts wd639) d14_64 ?_
    refine lv_dcmp (pc := 67) hx hb d14_67 ?_
    refine lv_if_ge (pc := 68) (tgt := 90) hx hb d14_68 (by decide) (fun c68 => ?_) (fun c68 => ?_)
    · have h := jb_t c68 h
      refine lv_iconst (pc := 90) (v := 0) hx hb d14_90 (by decide) ?_
      have her : res.1 = (0, st) := her.trans (congrArg Prod.fst (Option.some.inj h)).symm
      exact m_zret (pc := 91) hx hb hr hlk hS ⟨by rw [her], by rw [her]; exact hW⟩ (Nat.le_trans (Nat.le_add_right _ _) hc1) (Nat.le_trans (Nat.le_add_right _ _) hs1) d14_91 (by decide)
    · have h := jb_f c68 h
      refine lv_aload_n (pc := 71) hx hb d14_71 rfl (lv_at hl 1 rfl) ?_
      refine c_getK (pc := 72) X hW 0 3 9 1 (C := "WordFunctions") (T := T9) (N := 9) (by decide) rfl rfl rfl rfl tin9 rfl wd245 rfl rfl d14_72 ?_
      refine lv_iload_n (pc := 75) hx hb d14_75 rfl (lv_at hl 2 rfl) ?_
      refine lv_dload_n (pc := 76) hx hb d14_76 rfl (lv_at hl 3 rfl) ?_
      obtain ⟨q5, rq5, hq5, h, herq5, hccq5, hssq5⟩ := jd_some h
      refine k_callS (pc := 77) (n := 1) X hS (c_vl_ofNumber l ρ _ P x3 q5 hW.2.2.1 hW.2.1  hq5) wd642 wd640 wd641 wd4 (by decide) ⟨rfl, rfl, Nat.le_of_ble_eq_true rfl, Nat.le_of_ble_eq_true rfl⟩ (As := [.double x3]) (rest := [.int x1, .ref (ad 1)]) rfl rfl hl.1 (Nat.le_of_ble_eq_true rfl) d14_77 ⟨room_le hccq5 hc1, room_le hssq5 hs1⟩ (fun q hq => hAz q (Nat.le_trans hS.1 hq)) (fun v H1 locs1 hv hz1 hz2 hSq5 => ?_)
      obtain ⟨u6, rfl, fu6⟩ := hv
      have hk : kp no _ H1 := kp_call hz1 hz2 (fun q hq z => absurd hq (Nat.not_lt.mpr z))
      have hW := hW.keep hk no_hz (fun _ _ z => z)
      have hS := hSq5
      have hSz := hS.1
      have her := her.trans herq5
      have hc1 := room_st hccq5 hc1
      have hs1 := room_st hssq5 hs1
      obtain ⟨q7, hq7, h⟩ := jc_some h
      refine k_callV (pc := 80) (n := 2) X hS (c_ar_set l ρ ad _ P st x1 u6 q5.1 q7 hW fu6 hq7) wd638 wd635 wd636 wd637 wd3 (by decide) ⟨rfl, rfl, Nat.le_of_ble_eq_true rfl, Nat.le_of_ble_eq_true rfl⟩ (c_recv X hW 1 3 (by decide) rfl rfl) (As := [.int x1, .ref u6]) (rest := []) rfl rfl hl.1 (Nat.le_of_ble_eq_true rfl) d14_80 ⟨room_l0 hc1, room_l0 hs1⟩ (fun q hq => MA.mono hS.1 hq) (fun v H1 locs1 hv hz1 hz2 hSq7 => ?_)
      have hPq := hW.1
      obtain ⟨rfl, hW⟩ := hv
      have hS := hSq7
      have hSz := hS.1
      refine lv_if_eq (pc := 83) (tgt := 90) hx hb d14_83 (by decide) (fun c83 => ?_) (fun c83 => ?_)
      · have h := jb_t c83 h
        refine lv_iconst (pc := 90) (v := 0) hx hb d14_90 (by decide) ?_
        have her : res.1 = (0, q7.2) := her.trans (congrArg Prod.fst (Option.some.inj h)).symm
        exact m_zret (pc := 91) hx hb hr hlk hS ⟨by rw [her], by rw [her]; exact hW⟩ (Nat.le_trans (Nat.le_add_right _ _) hc1) (Nat.le_trans (Nat.le_add_right _ _) hs1) d14_91 (by decide)
      · have h := jb_f c83 h
        refine lv_iconst (pc := 86) (v := 1) hx hb d14_86 (by decide) ?_
        refine lv_goto (pc := 87) (tgt := 91) hx hb d14_87 (by decide) ?_
        have her : res.1 = (1, q7.2) := her.trans (congrArg Prod.fst (Option.some.inj h)).symm
        exact m_zret (pc := 91) hx hb hr hlk hS ⟨by rw [her], by rw [her]; exact hW⟩ (Nat.le_trans (Nat.le_add_right _ _) hc1) (Nat.le_trans (Nat.le_add_right _ _) hs1) d14_91 (by decide)
  have her : res.1 = res.1 := rfl
  have hc1 : 0 + res.2.1 ≤ res.2.1 := Nat.le_of_eq (Nat.zero_add _)
  have hs1 : 0 + res.2.2 ≤ res.2.2 := Nat.le_of_eq (Nat.zero_add _)
  unfold f_wf_put at h
  refine lv_iload_n (pc := 0) hx hb d14_0 rfl (lv_at hl 2 rfl) ?_
  by_cases c1_0 : p1 = 0
  · have h := jb_t c1_0 h
    refine lv_tableIn (pc := 1) (off := 35) (tgt := 36) hx hb d14_1 (by rw [c1_0]; decide) (by rw [c1_0]; decide) (by rw [c1_0]; rfl) (by decide) ?_
    refine lv_aload_n (pc := 36) hx hb d14_36 rfl (lv_at hl 0 rfl) ?_
    refine c_getK (pc := 37) X hW 0 3 9 1 (C := "WordFunctions") (T := T9) (N := 9) (by decide) rfl rfl rfl rfl tin9 rfl wd245 rfl rfl d14_37 ?_
    refine lv_iload_n (pc := 40) hx hb d14_40 rfl (lv_at hl 1 rfl) ?_
    obtain ⟨q8, rq8, hq8, h, herq8, hccq8, hssq8⟩ := jd_some h
    refine k_callS (pc := 41) (n := 0) X hS (c_vl_ofEmpty l ρ _ P  q8 hW.2.2.1 hW.2.1  hq8) wd67 wd634 wd66 wd4 (by decide) ⟨rfl, rfl, Nat.le_of_ble_eq_true rfl, Nat.le_of_ble_eq_true rfl⟩ (As := []) (rest := [.int p0, .ref (ad 1)]) rfl rfl hl.1 (Nat.le_of_ble_eq_true rfl) d14_41 ⟨room_le hccq8 hc1, room_le hssq8 hs1⟩ (fun q hq => hAz q (Nat.le_trans hS.1 hq)) (fun v H1 locs1 hv hz1 hz2 hSq8 => ?_)
    obtain ⟨u9, rfl, fu9⟩ := hv
    have hk : kp no _ H1 := kp_call hz1 hz2 (fun q hq z => absurd hq (Nat.not_lt.mpr z))
    have hW := hW.keep hk no_hz (fun _ _ z => z)
    have hS := hSq8
    have hSz := hS.1
    have her := her.trans herq8
    have hc1 := room_st hccq8 hc1
    have hs1 := room_st hssq8 hs1
    obtain ⟨q10, hq10, h⟩ := jc_some h
    refine k_callV (pc := 44) (n := 2) X hS (c_ar_set l ρ ad _ P st p0 u9 q8.1 q10 hW fu9 hq10) wd638 wd635 wd636 wd637 wd3 (by decide) ⟨rfl, rfl, Nat.le_of_ble_eq_true rfl, Nat.le_of_ble_eq_true rfl⟩ (c_recv X hW 1 3 (by decide) rfl rfl) (As := [.int p0, .ref u9]) (rest := []) rfl rfl hl.1 (Nat.le_of_ble_eq_true rfl) d14_44 ⟨room_l0 hc1, room_l0 hs1⟩ (fun q hq => MA.mono hS.1 hq) (fun v H1 locs1 hv hz1 hz2 hSq10 => ?_)
    have hPq := hW.1
    obtain ⟨rfl, hW⟩ := hv
    have hS := hSq10
    have hSz := hS.1
    obtain ⟨g11, h⟩ := jg_some h
    have her : res.1 = (q10.1, q10.2) := her.trans (congrArg Prod.fst (Option.some.inj h)).symm
    exact m_zret (pc := 47) hx hb hr hlk hS ⟨by rw [her], by rw [her]; exact hW⟩ (Nat.le_trans (Nat.le_add_right _ _) hc1) (Nat.le_trans (Nat.le_add_right _ _) hs1) d14_47 (isB_nar g11)
  have h := jb_f c1_0 h
  by_cases c1_1 : p1 = 1
  · have h := jb_t c1_1 h
    refine lv_tableIn (pc := 1) (off := 47) (tgt := 48) hx hb d14_1 (by rw [c1_1]; decide) (by rw [c1_1]; decide) (by rw [c1_1]; rfl) (by decide) ?_
    refine lv_dload_n (pc := 48) hx hb d14_48 rfl (lv_at hl 3 rfl) ?_
    refine lv_dconst0 (pc := 49) hx hb d14_49 ?_
    refine lv_dcmp (pc := 50) hx hb d14_50 ?_
    refine lv_if_ge (pc := 51) (tgt := 59) hx hb d14_51 (by decide) (fun c51 => ?_) (fun c51 => ?_)
    · have h := jb_t c51 h
      refine lv_dload_n (pc := 59) hx hb d14_59 rfl (lv_at hl 3 rfl) ?_
      exact kc60   st p0 p2 p2 _ _ _ _ _ _ hW hS (lv_sub hl [0, 1, 3] rfl) her hc1 hs1 h
    · have h := jb_f c51 h
      refine lv_dload_n (pc := 54) hx hb d14_54 rfl (lv_at hl 3 rfl) ?_
      refine lv_dneg (pc := 55) hx hb d14_55 ?_
      refine lv_goto (pc := 56) (tgt := 60) hx hb d14_56 (by decide) ?_
      exact kc60   st p0 p2 (FP.dneg p2) _ _ _ _ _ _ hW hS (lv_sub hl [0, 1, 3] rfl) her hc1 hs1 h
  have h := jb_f c1_1 h
  by_cases c1_2 : p1 = 2
  · have h := jb_t c1_2 h
    refine lv_tableIn (pc := 1) (off := 130) (tgt := 131) hx hb d14_1 (by rw [c1_2]; decide) (by rw [c1_2]; decide) (by rw [c1_2]; rfl) (by decide) ?_
    refine lv_iconst (pc := 131) (v := 0) hx hb d14_131 (by decide) ?_
    have her : res.1 = (0, st) := her.trans (congrArg Prod.fst (Option.some.inj h)).symm
    exact m_zret (pc := 132) hx hb hr hlk hS ⟨by rw [her], by rw [her]; exact hW⟩ (Nat.le_trans (Nat.le_add_right _ _) hc1) (Nat.le_trans (Nat.le_add_right _ _) hs1) d14_132 (by decide)
  have h := jb_f c1_2 h
  by_cases c1_3 : p1 = 3
  · have h := jb_t c1_3 h
    refine lv_tableIn (pc := 1) (off := 91) (tgt := 92) hx hb d14_1 (by rw [c1_3]; decide) (by rw [c1_3]; decide) (by rw [c1_3]; rfl) (by decide) ?_
    refine lv_aload_n (pc := 92) hx hb d14_92 rfl (lv_at hl 0 rfl) ?_
    refine c_getK (pc := 93) X hW 0 3 9 1 (C := "WordFunctions") (T := T9) (N := 9) (by decide) rfl rfl rfl rfl tin9 rfl wd245 rfl rfl d14_93 ?_
    refine lv_iload_n (pc := 96) hx hb d14_96 rfl (lv_at hl 1 rfl) ?_
    refine lv_dload_n (pc := 97) hx hb d14_97 rfl (lv_at hl 3 rfl) ?_
    refine lv_dconst0 (pc := 98) hx hb d14_98 ?_
    refine lv_dcmp (pc := 99) hx hb d14_99 ?_
    refine lv_if_eq (pc := 100) (tgt := 107) hx hb d14_100 (by decide) (fun c100 => ?_) (fun c100 => ?_)
    · have h := jb_t c100 h
      refine lv_iconst (pc := 107) (v := 0) hx hb d14_107 (by decide) ?_
      exact kc108   st p0 0 _ _ _ _ _ _ hW hS (lv_sub hl [] rfl) her hc1 hs1 h
    · have h := jb_f c100 h
      refine lv_iconst (pc := 103) (v := 1) hx hb d14_103 (by decide) ?_
      refine lv_goto (pc := 104) (tgt := 108) hx hb d14_104 (by decide) ?_
      exact kc108   st p0 1 _ _ _ _ _ _ hW hS (lv_sub hl [] rfl) her hc1 hs1 h
  have h := jb_f c1_3 h
  by_cases c1_4 : p1 = 4
  · have h := jb_t c1_4 h
    refine lv_tableIn (pc := 1) (off := 114) (tgt := 115) hx hb d14_1 (by rw [c1_4]; decide) (by rw [c1_4]; decide) (by rw [c1_4]; rfl) (by decide) ?_
    refine lv_aload_n (pc := 115) hx hb d14_115 rfl (lv_at hl 0 rfl) ?_
    refine c_getK (pc := 116) X hW 0 3 9 1 (C := "WordFunctions") (T := T9) (N := 9) (by decide) rfl rfl rfl rfl tin9 rfl wd245 rfl rfl d14_116 ?_
    refine lv_iload_n (pc := 119) hx hb d14_119 rfl (lv_at hl 1 rfl) ?_
    refine lv_dload_n (pc := 120) hx hb d14_120 rfl (lv_at hl 3 rfl) ?_
    obtain ⟨q12, hq12, h⟩ := jc_some h
    refine k_callS (pc := 121) (n := 1) X hS (c_wf_errorNumber l ρ _ P p2 q12 hW.2.2.1 hW.2.1  hq12) wd648 wd646 wd647 wd1 (by decide) ⟨rfl, rfl, Nat.le_of_ble_eq_true rfl, Nat.le_of_ble_eq_true rfl⟩ (As := [.double p2]) (rest := [.int p0, .ref (ad 1)]) rfl rfl hl.1 (Nat.le_of_ble_eq_true rfl) d14_121 ⟨room_l0 hc1, room_l0 hs1⟩ (fun q hq => False.elim hq) (fun v H1 locs1 hv _ _ hSq12 => ?_)
    obtain ⟨rfl, rfl⟩ := hv
    have hS := hSq12
    have hSz := hS.1
    obtain ⟨q13, rq13, hq13, h, herq13, hccq13, hssq13⟩ := jd_some h
    refine k_callS (pc := 124) (n := 1) X hS (c_vl_ofError l ρ _ P q12 q13 hW.2.2.1 hW.2.1  hq13) wd651 wd649 wd650 wd4 (by decide) ⟨rfl, rfl, Nat.le_of_ble_eq_true rfl, Nat.le_of_ble_eq_true rfl⟩ (As := [.int q12]) (rest := [.int p0, .ref (ad 1)]) rfl rfl hl.1 (Nat.le_of_ble_eq_true rfl) d14_124 ⟨room_le hccq13 hc1, room_le hssq13 hs1⟩ (fun q hq => hAz q (Nat.le_trans hS.1 hq)) (fun v H1 locs1 hv hz1 hz2 hSq13 => ?_)
    obtain ⟨u14, rfl, fu14⟩ := hv
    have hk : kp no _ H1 := kp_call hz1 hz2 (fun q hq z => absurd hq (Nat.not_lt.mpr z))
    have hW := hW.keep hk no_hz (fun _ _ z => z)
    have hS := hSq13
    have hSz := hS.1
    have her := her.trans herq13
    have hc1 := room_st hccq13 hc1
    have hs1 := room_st hssq13 hs1
    obtain ⟨q15, hq15, h⟩ := jc_some h
    refine k_callV (pc := 127) (n := 2) X hS (c_ar_set l ρ ad _ P st p0 u14 q13.1 q15 hW fu14 hq15) wd638 wd635 wd636 wd637 wd3 (by decide) ⟨rfl, rfl, Nat.le_of_ble_eq_true rfl, Nat.le_of_ble_eq_true rfl⟩ (c_recv X hW 1 3 (by decide) rfl rfl) (As := [.int p0, .ref u14]) (rest := []) rfl rfl hl.1 (Nat.le_of_ble_eq_true rfl) d14_127 ⟨room_l0 hc1, room_l0 hs1⟩ (fun q hq => MA.mono hS.1 hq) (fun v H1 locs1 hv hz1 hz2 hSq15 => ?_)
    have hPq := hW.1
    obtain ⟨rfl, hW⟩ := hv
    have hS := hSq15
    have hSz := hS.1
    obtain ⟨g16, h⟩ := jg_some h
    have her : res.1 = (q15.1, q15.2) := her.trans (congrArg Prod.fst (Option.some.inj h)).symm
    exact m_zret (pc := 130) hx hb hr hlk hS ⟨by rw [her], by rw [her]; exact hW⟩ (Nat.le_trans (Nat.le_add_right _ _) hc1) (Nat.le_trans (Nat.le_add_right _ _) hs1) d14_130 (isB_nar g16)
  have h := jb_f c1_4 h
  refine lv_tableOut (pc := 1) (tgt := 131) hx hb d14_1 (sw_out 5 (by decide) (by
    intro i hi
    match i, hi with
    | 0, _ => exact fun z => c1_0 (Int32.toInt_inj.mp (by rw [z]; decide))
    | 1, _ => exact fun z => c1_1 (Int32.toInt_inj.mp (by rw [z]; decide))
    | 2, _ => exact fun z => c1_2 (Int32.toInt_inj.mp (by rw [z]; decide))
    | 3, _ => exact fun z => c1_3 (Int32.toInt_inj.mp (by rw [z]; decide))
    | 4, _ => exact fun z => c1_4 (Int32.toInt_inj.mp (by rw [z]; decide))
    | i + 5, q => exact absurd q (by omega))) (by decide) ?_
  refine lv_iconst (pc := 131) (v := 0) hx hb d14_131 (by decide) ?_
  have her : res.1 = (0, st) := her.trans (congrArg Prod.fst (Option.some.inj h)).symm
  exact m_zret (pc := 132) hx hb hr hlk hS ⟨by rw [her], by rw [her]; exact hW⟩ (Nat.le_trans (Nat.le_add_right _ _) hc1) (Nat.le_trans (Nat.le_add_right _ _) hs1) d14_132 (by decide)
def f_wf_putText (st : CS) (p0 : Int32) : Option ((Int32 × CS) × Nat × Nat) := jd (f_vl_ofText ((st.2 0 2).2.2)) (fun q2 => jc (f_ar_set st p0 q2) (fun q4 => jg (isB q4.1) (some ((q4.1, q4.2), 0, 0))))
set_option maxHeartbeats 4000000 in
set_option maxRecDepth 100000 in
theorem c_wf_putText (l : Launch) (ρ : RH) (ad : Nat → Nat) (H : Heap) (P : Nat → Prop) (st : CS) (p0 : Int32) (res : (Int32 × CS) × Nat × Nat) (hW : CW ρ P ad st H) (h : f_wf_putText st p0 = some res) : Met l y15 (wsOf y15 b15 2 (some .boolean)) ({ frames := 13, cells := res.2.1, slots := res.2.2, locals := 620 } : Room) (va_Pc [.ref (ad 0), .int p0] (KP ρ H)) (mQ (fun v H1 => v = some (.int res.1.1) ∧ CW ρ P ad res.1.2 H1) (MA wC ad H.size)) res.2.1 res.2.2 (MA wC ad H.size) := by
  refine m_ofW (own := "WordFunctions") (plainFor_of_name rfl) rfl (Nat.le_of_ble_eq_true rfl) fun p e s m args below meth c ls hx hb hr hlk _ X hs hl => ?_
  subst hs
  have hS : va_S (MA wC ad s.heap.size) s.heap s.heap [] := va_S.rf
  have hSz := hS.1
  have hAz : ∀ q, s.heap.size ≤ q → (MA wC ad s.heap.size) q := fun q hq => Or.inr hq
  have hAp : ∀ i, i < 46 → (MA wC ad s.heap.size) (ad i) := fun i hi => MA.in hi
  have hPp : ∀ i, i < 46 → P (ad i) := hW.1
  have hl : lv_has ls 2 [(0, .ref (ad 0)), (1, .int p0)] := hl
  have her : res.1 = res.1 := rfl
  have hc1 : 0 + res.2.1 ≤ res.2.1 := Nat.le_of_eq (Nat.zero_add _)
  have hs1 : 0 + res.2.2 ≤ res.2.2 := Nat.le_of_eq (Nat.zero_add _)
  unfold f_wf_putText at h
  refine lv_aload_n (pc := 0) hx hb d15_0 rfl (lv_at hl 0 rfl) ?_
  refine c_getK (pc := 1) X hW 0 3 9 1 (C := "WordFunctions") (T := T9) (N := 9) (by decide) rfl rfl rfl rfl tin9 rfl wd245 rfl rfl d15_1 ?_
  refine lv_iload_n (pc := 4) hx hb d15_4 rfl (lv_at hl 1 rfl) ?_
  refine lv_aload_n (pc := 5) hx hb d15_5 rfl (lv_at hl 0 rfl) ?_
  refine c_getcut (pc := 6) X hW wd244 d15_6 (fun u1 fu1 => ?_)
  obtain ⟨q2, rq2, hq2, h, herq2, hccq2, hssq2⟩ := jd_some h
  refine k_callS (pc := 9) (n := 1) X hS (c_vl_ofText l ρ _ P u1 ((st.2 0 2).2.2) q2 hW.2.2.1 hW.2.1 fu1 hq2) wd658 wd656 wd657 wd4 (by decide) ⟨rfl, rfl, Nat.le_of_ble_eq_true rfl, Nat.le_of_ble_eq_true rfl⟩ (As := [.ref u1]) (rest := [.int p0, .ref (ad 1)]) rfl rfl hl.1 (Nat.le_of_ble_eq_true rfl) d15_9 ⟨room_le hccq2 hc1, room_le hssq2 hs1⟩ (fun q hq => hAz q (Nat.le_trans hS.1 hq)) (fun v H1 locs1 hv hz1 hz2 hSq2 => ?_)
  obtain ⟨u3, rfl, fu3⟩ := hv
  have hk : kp no _ H1 := kp_call hz1 hz2 (fun q hq z => absurd hq (Nat.not_lt.mpr z))
  have hW := hW.keep hk no_hz (fun _ _ z => z)
  have hS := hSq2
  have hSz := hS.1
  have her := her.trans herq2
  have hc1 := room_st hccq2 hc1
  have hs1 := room_st hssq2 hs1
  obtain ⟨q4, hq4, h⟩ := jc_some h
  refine k_callV (pc := 12) (n := 2) X hS (c_ar_set l ρ ad _ P st p0 u3 q2.1 q4 hW fu3 hq4) wd638 wd635 wd636 wd637 wd3 (by decide) ⟨rfl, rfl, Nat.le_of_ble_eq_true rfl, Nat.le_of_ble_eq_true rfl⟩ (c_recv X hW 1 3 (by decide) rfl rfl) (As := [.int p0, .ref u3]) (rest := []) rfl rfl hl.1 (Nat.le_of_ble_eq_true rfl) d15_12 ⟨room_l0 hc1, room_l0 hs1⟩ (fun q hq => MA.mono hS.1 hq) (fun v H1 locs1 hv hz1 hz2 hSq4 => ?_)
  have hPq := hW.1
  obtain ⟨rfl, hW⟩ := hv
  have hS := hSq4
  have hSz := hS.1
  obtain ⟨g5, h⟩ := jg_some h
  have her : res.1 = (q4.1, q4.2) := her.trans (congrArg Prod.fst (Option.some.inj h)).symm
  exact m_zret (pc := 15) hx hb hr hlk hS ⟨by rw [her], by rw [her]; exact hW⟩ (Nat.le_trans (Nat.le_add_right _ _) hc1) (Nat.le_trans (Nat.le_add_right _ _) hs1) d15_15 (isB_nar g5)
def f_ar_stand (st : CS) (p0 : Int32) (p1 : Int32) : Option (Int32 × CS) := jc (f_ar_grid st ((st.1 1 5) - 1)) (fun q1 => jb ((st.1 q1 0) = 0) (some (0, st)) (jc (f_wf_isCell p0 p1) (fun q2 => jb (q2 = 0) (some (0, st)) (jc (f_wf_isCell ((p0 + (st.1 q1 0)) - 1) ((p1 + (st.1 q1 1)) - 1)) (fun q3 => jb (q3 = 0) (some (0, st)) (jn (uC st q1 3 1) (fun st4 => jn (uC st4 q1 4 p0) (fun st5 => jn (uC st5 q1 5 p1) (fun st6 => some (1, st6))))))))))
set_option maxHeartbeats 4000000 in
set_option maxRecDepth 100000 in
theorem c_ar_stand (l : Launch) (ρ : RH) (ad : Nat → Nat) (H : Heap) (P : Nat → Prop) (st : CS) (p0 : Int32) (p1 : Int32) (res : Int32 × CS) (hW : CW ρ P ad st H) (h : f_ar_stand st p0 p1 = some res) : Met l y44 (wsOf y44 b44 4 (some .boolean)) ({ frames := 1, cells := 0, slots := 0, locals := 21 } : Room) (va_Pc [.ref (ad 1), .int p0, .int p1] (KP ρ H)) (mQ (fun v H1 => v = some (.int res.1) ∧ CW ρ P ad res.2 H1) (MA wC ad H.size)) 0 0 (MA wC ad H.size) := by
  refine m_ofW (own := "WordFunctions$Arguments") (plainFor_of_name rfl) rfl (Nat.le_of_ble_eq_true rfl) fun p e s m args below meth c ls hx hb hr hlk _ X hs hl => ?_
  subst hs
  have hS : va_S (MA wC ad s.heap.size) s.heap s.heap [] := va_S.rf
  have hSz := hS.1
  have hAz : ∀ q, s.heap.size ≤ q → (MA wC ad s.heap.size) q := fun q hq => Or.inr hq
  have hAp : ∀ i, i < 46 → (MA wC ad s.heap.size) (ad i) := fun i hi => MA.in hi
  have hPp : ∀ i, i < 46 → P (ad i) := hW.1
  have hl : lv_has ls 4 [(0, .ref (ad 1)), (1, .int p0), (2, .int p1)] := hl
  unfold f_ar_stand at h
  refine lv_aload_n (pc := 0) hx hb d44_0 rfl (lv_at hl 0 rfl) ?_
  refine lv_aload_n (pc := 1) hx hb d44_1 rfl (lv_at hl 0 rfl) ?_
  refine c_getI (pc := 2) X hW 1 5 3 (C := "WordFunctions$Arguments") (T := T3) (N := 9) (by decide) rfl rfl rfl rfl tin3 rfl wd134 rfl d44_2 ?_
  refine lv_iconst (pc := 5) (v := 1) hx hb d44_5 (by decide) ?_
  refine lv_isub (pc := 6) hx hb d44_6 ?_
  obtain ⟨q1, hq1, h⟩ := jc_some h
  refine k_callV (pc := 7) (n := 1) X hS (c_ar_grid l ρ ad _ P st ((st.1 1 5) - 1) q1 hW  hq1) wd628 wd625 wd626 wd627 wd3 (by decide) ⟨rfl, rfl, Nat.le_of_ble_eq_true rfl, Nat.le_of_ble_eq_true rfl⟩ (c_recv X hW 1 3 (by decide) rfl rfl) (As := [.int ((st.1 1 5) - 1)]) (rest := []) rfl rfl hl.1 (Nat.le_of_ble_eq_true rfl) d44_7 ⟨Nat.le_refl _, Nat.le_refl _⟩ (fun q hq => False.elim hq) (fun v H1 locs1 hv _ _ hSq1 => ?_)
  obtain ⟨rfl, hgq1, rfl⟩ := hv
  have hS := hSq1
  have hSz := hS.1
  refine lv_astore_n (pc := 10) (lv' := [(3, .ref (ad q1)), (0, .ref (ad 1)), (1, .int p0), (2, .int p1)]) hx hb d44_10 rfl hl (by decide) rfl (fun ls hl => ?_)
  refine lv_aload_n (pc := 11) hx hb d44_11 rfl (lv_at hl 0 rfl) ?_
  refine c_getI (pc := 12) X hW q1 0 2 (C := "WordFunctions$Grid") (T := T2) (N := 6) hgq1.1 hgq1.2 rfl rfl rfl tin2 rfl wd104 rfl d44_12 ?_
  refine lv_if_eq (pc := 15) (tgt := 48) hx hb d44_15 (by decide) (fun c15 => ?_) (fun c15 => ?_)
  · have h := jb_t c15 h
    refine lv_iconst (pc := 48) (v := 0) hx hb d44_48 (by decide) ?_
    obtain rfl := Option.some.inj h
    exact m_zret (pc := 49) hx hb hr hlk hS ⟨rfl, hW⟩ (Nat.le_refl _) (Nat.le_refl _) d44_49 (by decide)
  · have h := jb_f c15 h
    refine lv_iload_n (pc := 18) hx hb d44_18 rfl (lv_at hl 2 rfl) ?_
    refine lv_iload_n (pc := 19) hx hb d44_19 rfl (lv_at hl 3 rfl) ?_
    obtain ⟨q2, hq2, h⟩ := jc_some h
    refine k_callSN (pc := 20) (n := 2) X hS (c_wf_isCell l ρ _ P p0 p1 q2 hW.2.2.1 hW.2.1  hq2) wd615 2 rfl wd614 wd1 (by decide) ⟨rfl, rfl, Nat.le_of_ble_eq_true rfl, Nat.le_of_ble_eq_true rfl⟩ (As := [.int p0, .int p1]) (rest := []) rfl rfl hl.1 (Nat.le_of_ble_eq_true rfl) d44_20 ⟨Nat.le_refl _, Nat.le_refl _⟩ (fun q hq => False.elim hq) (fun v H1 locs1 hv _ _ hSq2 => ?_)
    obtain ⟨rfl, rfl⟩ := hv
    have hS := hSq2
    have hSz := hS.1
    refine lv_if_eq (pc := 23) (tgt := 48) hx hb d44_23 (by decide) (fun c23 => ?_) (fun c23 => ?_)
    · have h := jb_t c23 h
      refine lv_iconst (pc := 48) (v := 0) hx hb d44_48 (by decide) ?_
      obtain rfl := Option.some.inj h
      exact m_zret (pc := 49) hx hb hr hlk hS ⟨rfl, hW⟩ (Nat.le_refl _) (Nat.le_refl _) d44_49 (by decide)
    · have h := jb_f c23 h
      refine lv_iload_n (pc := 26) hx hb d44_26 rfl (lv_at hl 2 rfl) ?_
      refine lv_aload_n (pc := 27) hx hb d44_27 rfl (lv_at hl 0 rfl) ?_
      refine c_getI (pc := 28) X hW q1 0 2 (C := "WordFunctions$Grid") (T := T2) (N := 6) hgq1.1 hgq1.2 rfl rfl rfl tin2 rfl wd104 rfl d44_28 ?_
      refine lv_iadd (pc := 31) hx hb d44_31 ?_
      refine lv_iconst (pc := 32) (v := 1) hx hb d44_32 (by decide) ?_
      refine lv_isub (pc := 33) hx hb d44_33 ?_
      refine lv_iload_n (pc := 34) hx hb d44_34 rfl (lv_at hl 3 rfl) ?_
      refine lv_aload_n (pc := 35) hx hb d44_35 rfl (lv_at hl 0 rfl) ?_
      refine c_getI (pc := 36) X hW q1 1 2 (C := "WordFunctions$Grid") (T := T2) (N := 6) hgq1.1 hgq1.2 rfl rfl rfl tin2 rfl wd105 rfl d44_36 ?_
      refine lv_iadd (pc := 39) hx hb d44_39 ?_
      refine lv_iconst (pc := 40) (v := 1) hx hb d44_40 (by decide) ?_
      refine lv_isub (pc := 41) hx hb d44_41 ?_
      obtain ⟨q3, hq3, h⟩ := jc_some h
      refine k_callSN (pc := 42) (n := 2) X hS (c_wf_isCell l ρ _ P ((p0 + (st.1 q1 0)) - 1) ((p1 + (st.1 q1 1)) - 1) q3 hW.2.2.1 hW.2.1  hq3) wd615 2 rfl wd614 wd1 (by decide) ⟨rfl, rfl, Nat.le_of_ble_eq_true rfl, Nat.le_of_ble_eq_true rfl⟩ (As := [.int ((p0 + (st.1 q1 0)) - 1), .int ((p1 + (st.1 q1 1)) - 1)]) (rest := []) rfl rfl hl.1 (Nat.le_of_ble_eq_true rfl) d44_42 ⟨Nat.le_refl _, Nat.le_refl _⟩ (fun q hq => False.elim hq) (fun v H1 locs1 hv _ _ hSq3 => ?_)
      obtain ⟨rfl, rfl⟩ := hv
      have hS := hSq3
      have hSz := hS.1
      refine lv_if_ne (pc := 45) (tgt := 50) hx hb d44_45 (by decide) (fun c45 => ?_) (fun c45 => ?_)
      · have h := jb_f c45 h
        refine lv_aload_n (pc := 50) hx hb d44_50 rfl (lv_at hl 0 rfl) ?_
        refine lv_iconst (pc := 51) (v := 1) hx hb d44_51 (by decide) ?_
        obtain ⟨st4, est4, h⟩ := jn_ex h
        refine c_putI (pc := 52) X hW hS q1 3 2 (C := "WordFunctions$Grid") (T := T2) (N := 6) est4 (hAp _ hgq1.1) hgq1.1 hgq1.2 rfl rfl rfl tin2 ty2 tyo2 tnm2 rfl wd107 rfl rfl (by decide) (by decide) d44_52 (fun H locs hW hS hk => ?_)
        have hSz := hS.1
        refine lv_aload_n (pc := 55) hx hb d44_55 rfl (lv_at hl 0 rfl) ?_
        refine lv_iload_n (pc := 56) hx hb d44_56 rfl (lv_at hl 2 rfl) ?_
        obtain ⟨st5, est5, h⟩ := jn_ex h
        refine c_putI (pc := 57) X hW hS q1 4 2 (C := "WordFunctions$Grid") (T := T2) (N := 6) est5 (hAp _ hgq1.1) hgq1.1 hgq1.2 rfl rfl rfl tin2 ty2 tyo2 tnm2 rfl wd109 rfl rfl rfl rfl d44_57 (fun H locs hW hS hk => ?_)
        have hSz := hS.1
        refine lv_aload_n (pc := 60) hx hb d44_60 rfl (lv_at hl 0 rfl) ?_
        refine lv_iload_n (pc := 61) hx hb d44_61 rfl (lv_at hl 3 rfl) ?_
        obtain ⟨st6, est6, h⟩ := jn_ex h
        refine c_putI (pc := 62) X hW hS q1 5 2 (C := "WordFunctions$Grid") (T := T2) (N := 6) est6 (hAp _ hgq1.1) hgq1.1 hgq1.2 rfl rfl rfl tin2 ty2 tyo2 tnm2 rfl wd111 rfl rfl rfl rfl d44_62 (fun H locs hW hS hk => ?_)
        have hSz := hS.1
        refine lv_iconst (pc := 65) (v := 1) hx hb d44_65 (by decide) ?_
        obtain rfl := Option.some.inj h
        exact m_zret (pc := 66) hx hb hr hlk hS ⟨rfl, hW⟩ (Nat.le_refl _) (Nat.le_refl _) d44_66 (by decide)
      · have h := jb_t c45 h
        refine lv_iconst (pc := 48) (v := 0) hx hb d44_48 (by decide) ?_
        obtain rfl := Option.some.inj h
        exact m_zret (pc := 49) hx hb hr hlk hS ⟨rfl, hW⟩ (Nat.le_refl _) (Nat.le_refl _) d44_49 (by decide)
def f_wf_range (st : CS) (p0 : Int32) (p1 : Int32) : Option (Int32 × CS) := jc (f_ar_stand st p0 p1) (fun q1 => jg (isB q1.1) (some (q1.1, q1.2)))
set_option maxHeartbeats 4000000 in
set_option maxRecDepth 100000 in
theorem c_wf_range (l : Launch) (ρ : RH) (ad : Nat → Nat) (H : Heap) (P : Nat → Prop) (st : CS) (p0 : Int32) (p1 : Int32) (res : Int32 × CS) (hW : CW ρ P ad st H) (h : f_wf_range st p0 p1 = some res) : Met l y16 (wsOf y16 b16 3 (some .boolean)) ({ frames := 2, cells := 0, slots := 0, locals := 44 } : Room) (va_Pc [.ref (ad 0), .int p0, .int p1] (KP ρ H)) (mQ (fun v H1 => v = some (.int res.1) ∧ CW ρ P ad res.2 H1) (MA wC ad H.size)) 0 0 (MA wC ad H.size) := by
  refine m_ofW (own := "WordFunctions") (plainFor_of_name rfl) rfl (Nat.le_of_ble_eq_true rfl) fun p e s m args below meth c ls hx hb hr hlk _ X hs hl => ?_
  subst hs
  have hS : va_S (MA wC ad s.heap.size) s.heap s.heap [] := va_S.rf
  have hSz := hS.1
  have hAz : ∀ q, s.heap.size ≤ q → (MA wC ad s.heap.size) q := fun q hq => Or.inr hq
  have hAp : ∀ i, i < 46 → (MA wC ad s.heap.size) (ad i) := fun i hi => MA.in hi
  have hPp : ∀ i, i < 46 → P (ad i) := hW.1
  have hl : lv_has ls 3 [(0, .ref (ad 0)), (1, .int p0), (2, .int p1)] := hl
  unfold f_wf_range at h
  refine lv_aload_n (pc := 0) hx hb d16_0 rfl (lv_at hl 0 rfl) ?_
  refine c_getK (pc := 1) X hW 0 3 9 1 (C := "WordFunctions") (T := T9) (N := 9) (by decide) rfl rfl rfl rfl tin9 rfl wd245 rfl rfl d16_1 ?_
  refine lv_iload_n (pc := 4) hx hb d16_4 rfl (lv_at hl 1 rfl) ?_
  refine lv_iload_n (pc := 5) hx hb d16_5 rfl (lv_at hl 2 rfl) ?_
  obtain ⟨q1, hq1, h⟩ := jc_some h
  refine k_callV (pc := 6) (n := 2) X hS (c_ar_stand l ρ ad _ P st p0 p1 q1 hW  hq1) wd624 wd621 wd622 wd623 wd3 (by decide) ⟨rfl, rfl, Nat.le_of_ble_eq_true rfl, Nat.le_of_ble_eq_true rfl⟩ (c_recv X hW 1 3 (by decide) rfl rfl) (As := [.int p0, .int p1]) (rest := []) rfl rfl hl.1 (Nat.le_of_ble_eq_true rfl) d16_6 ⟨Nat.le_refl _, Nat.le_refl _⟩ (fun q hq => MA.mono hS.1 hq) (fun v H1 locs1 hv hz1 hz2 hSq1 => ?_)
  have hPq := hW.1
  obtain ⟨rfl, hW⟩ := hv
  have hS := hSq1
  have hSz := hS.1
  obtain ⟨g2, h⟩ := jg_some h
  obtain rfl := Option.some.inj h
  exact m_zret (pc := 9) hx hb hr hlk hS ⟨rfl, hW⟩ (Nat.le_refl _) (Nat.le_refl _) d16_9 (isB_nar g2)
def f_wf_size (st : CS) (p0 : Int32) : Option (Int32) := jb (p0 = 0) (some (st.1 2 1)) (some (st.1 2 2))
set_option maxHeartbeats 4000000 in
set_option maxRecDepth 100000 in
theorem c_wf_size (l : Launch) (ρ : RH) (ad : Nat → Nat) (H : Heap) (P : Nat → Prop) (st : CS) (p0 : Int32) (res : Int32) (hW : CW ρ P ad st H) (h : f_wf_size st p0 = some res) : Met l y17 (wsOf y17 b17 2 (some .int)) ({ frames := 0, cells := 0, slots := 0, locals := 0 } : Room) (va_Pc [.ref (ad 0), .int p0] (KP ρ H)) (mQ (fun v H1 => v = some (.int res) ∧ H1 = H) (fun _ => False)) 0 0 (fun _ => False) := by
  refine m_ofW (own := "WordFunctions") (plainFor_of_name rfl) rfl (Nat.le_of_ble_eq_true rfl) fun p e s m args below meth c ls hx hb hr hlk _ X hs hl => ?_
  subst hs
  have hS : va_S (fun _ => False) s.heap s.heap [] := va_S.rf
  have hSz := hS.1
  have hPp : ∀ i, i < 46 → P (ad i) := hW.1
  have hl : lv_has ls 2 [(0, .ref (ad 0)), (1, .int p0)] := hl
  unfold f_wf_size at h
  refine lv_iload_n (pc := 0) hx hb d17_0 rfl (lv_at hl 1 rfl) ?_
  refine lv_if_eq (pc := 1) (tgt := 14) hx hb d17_1 (by decide) (fun c1 => ?_) (fun c1 => ?_)
  · have h := jb_t c1 h
    refine lv_aload_n (pc := 14) hx hb d17_14 rfl (lv_at hl 0 rfl) ?_
    refine c_getK (pc := 15) X hW 0 4 9 2 (C := "WordFunctions") (T := T9) (N := 9) (by decide) rfl rfl rfl rfl tin9 rfl wd246 rfl rfl d17_15 ?_
    refine c_getI (pc := 18) X hW 2 1 4 (C := "WordFunctions$Answer") (T := T4) (N := 4) (by decide) rfl rfl rfl rfl tin4 rfl wd176 rfl d17_18 ?_
    obtain rfl := Option.some.inj h
    exact m_iret (pc := 21) hx hb hr hlk hS ⟨rfl, rfl⟩ (Nat.le_refl _) (Nat.le_refl _) d17_21
  · have h := jb_f c1 h
    refine lv_aload_n (pc := 4) hx hb d17_4 rfl (lv_at hl 0 rfl) ?_
    refine c_getK (pc := 5) X hW 0 4 9 2 (C := "WordFunctions") (T := T9) (N := 9) (by decide) rfl rfl rfl rfl tin9 rfl wd246 rfl rfl d17_5 ?_
    refine c_getI (pc := 8) X hW 2 2 4 (C := "WordFunctions$Answer") (T := T4) (N := 4) (by decide) rfl rfl rfl rfl tin4 rfl wd178 rfl d17_8 ?_
    refine lv_goto (pc := 11) (tgt := 21) hx hb d17_11 (by decide) ?_
    obtain rfl := Option.some.inj h
    exact m_iret (pc := 21) hx hb hr hlk hS ⟨rfl, rfl⟩ (Nat.le_refl _) (Nat.le_refl _) d17_21
def f_wf_small  (p0 : Int32) : Option (Int32) := jb (p0 < 65) (jg (isC p0) (some p0)) (jb (90 < p0) (jg (isC p0) (some p0)) (jg (isC ((((p0 - 65) + 97).toUInt32 % 65536).toInt32)) (some ((((p0 - 65) + 97).toUInt32 % 65536).toInt32))))
set_option maxHeartbeats 4000000 in
set_option maxRecDepth 100000 in
theorem c_wf_small (l : Launch) (ρ : RH) (H : Heap) (P : Nat → Prop) (p0 : Int32) (res : Int32) (hC : CC ρ P H) (hPb : ∀ q, P q → q < H.size) (h : f_wf_small p0 = some res) : Met l y18 (wsOf y18 b18 1 (some .char)) ({ frames := 0, cells := 0, slots := 0, locals := 0 } : Room) (va_Pc [.int p0] (KP ρ H)) (mQ (fun v H1 => v = some (.int res) ∧ H1 = H) (fun _ => False)) 0 0 (fun _ => False) := by
  refine m_ofW (own := "WordFunctions") (plainFor_of_name rfl) rfl (Nat.le_of_ble_eq_true rfl) fun p e s m args below meth c ls hx hb hr hlk _ X hs hl => ?_
  subst hs
  have hS : va_S (fun _ => False) s.heap s.heap [] := va_S.rf
  have hSz := hS.1
  have hl : lv_has ls 1 [(0, .int p0)] := hl
  unfold f_wf_small at h
  refine lv_iload_n (pc := 0) hx hb d18_0 rfl (lv_at hl 0 rfl) ?_
  refine lv_bipush (pc := 1) (v := 65) hx hb d18_1 (by decide) ?_
  refine lv_icmp_lt (pc := 3) (tgt := 23) hx hb d18_3 (by decide) (fun c3 => ?_) (fun c3 => ?_)
  · have h := jb_t c3 h
    refine lv_iload_n (pc := 23) hx hb d18_23 rfl (lv_at hl 0 rfl) ?_
    obtain ⟨g1, h⟩ := jg_some h
    obtain rfl := Option.some.inj h
    exact m_cret (pc := 24) hx hb hr hlk hS ⟨rfl, rfl⟩ (Nat.le_refl _) (Nat.le_refl _) d18_24 (isC_nar g1)
  · have h := jb_f c3 h
    refine lv_iload_n (pc := 6) hx hb d18_6 rfl (lv_at hl 0 rfl) ?_
    refine lv_bipush (pc := 7) (v := 90) hx hb d18_7 (by decide) ?_
    refine lv_icmp_gt (pc := 9) (tgt := 23) hx hb d18_9 (by decide) (fun c9 => ?_) (fun c9 => ?_)
    · have h := jb_t c9 h
      refine lv_iload_n (pc := 23) hx hb d18_23 rfl (lv_at hl 0 rfl) ?_
      obtain ⟨g2, h⟩ := jg_some h
      obtain rfl := Option.some.inj h
      exact m_cret (pc := 24) hx hb hr hlk hS ⟨rfl, rfl⟩ (Nat.le_refl _) (Nat.le_refl _) d18_24 (isC_nar g2)
    · have h := jb_f c9 h
      refine lv_iload_n (pc := 12) hx hb d18_12 rfl (lv_at hl 0 rfl) ?_
      refine lv_bipush (pc := 13) (v := 65) hx hb d18_13 (by decide) ?_
      refine lv_isub (pc := 15) hx hb d18_15 ?_
      refine lv_bipush (pc := 16) (v := 97) hx hb d18_16 (by decide) ?_
      refine lv_iadd (pc := 18) hx hb d18_18 ?_
      refine lv_i2c (pc := 19) hx hb d18_19 rfl ?_
      refine lv_goto (pc := 20) (tgt := 24) hx hb d18_20 (by decide) ?_
      obtain ⟨g3, h⟩ := jg_some h
      obtain rfl := Option.some.inj h
      exact m_cret (pc := 24) hx hb hr hlk hS ⟨rfl, rfl⟩ (Nat.le_refl _) (Nat.le_refl _) d18_24 (isC_nar g3)
def f_wf_textOrTooLong  (p0 : BT) : Option ((VV) × Nat × Nat) := jc (f_sb_len p0) (fun q1 => jb (q1 ≤ 255) (jd (f_sb_toS p0) (fun q2 => jd (f_vl_ofText q2) (fun q4 => some (q4, 0, 0)))) (jd (f_vl_ofError 3) (fun q6 => some (q6, 0, 0))))
set_option maxHeartbeats 4000000 in
set_option maxRecDepth 100000 in
theorem c_wf_textOrTooLong (l : Launch) (ρ : RH) (H : Heap) (P : Nat → Prop) (ba0 bb0 : Nat) (p0 : BT) (res : (VV) × Nat × Nat) (hC : CC ρ P H) (hPb : ∀ q, P q → q < H.size) (hB : SB ρ H ba0 bb0 p0 ∧ P ba0 ∧ P bb0) (h : f_wf_textOrTooLong p0 = some res) : Met l y19 (wsOf y19 b19 1 (some (.object "WordFunctions$Value"))) ({ frames := 13, cells := res.2.1, slots := res.2.2, locals := 620 } : Room) (va_Pc [.ref ba0] (KP ρ H)) (mQ (fun v H1 => ∃ x : Nat, v = some (.ref x) ∧ isV ρ P H1 x res.1) (fun q => H.size ≤ q)) res.2.1 res.2.2 (fun q => H.size ≤ q) := by
  refine m_ofW (own := "WordFunctions") (plainFor_of_name rfl) rfl (Nat.le_of_ble_eq_true rfl) fun p e s m args below meth c ls hx hb hr hlk _ X hs hl => ?_
  subst hs
  have hS : va_S (fun q => s.heap.size ≤ q) s.heap s.heap [] := va_S.rf
  have hSz := hS.1
  have hAz : ∀ q, s.heap.size ≤ q → (fun q => s.heap.size ≤ q) q := fun q hq => hq
  obtain ⟨hSB, hBa, hBb⟩ := hB
  have hAa : True := trivial
  have hPb := pe_in hPb hBa hBb
  have hC := CC_pe hC hBa hBb
  have hl : lv_has ls 1 [(0, .ref ba0)] := hl
  have her : res.1 = res.1 := rfl
  have hc1 : 0 + res.2.1 ≤ res.2.1 := Nat.le_of_eq (Nat.zero_add _)
  have hs1 : 0 + res.2.2 ≤ res.2.2 := Nat.le_of_eq (Nat.zero_add _)
  unfold f_wf_textOrTooLong at h
  refine lv_aload_n (pc := 0) hx hb d19_0 rfl (lv_at hl 0 rfl) ?_
  obtain ⟨q1, hq1, h⟩ := jc_some h
  refine k_callV (pc := 1) (n := 0) X hS (c_sb_len l ρ _ (pe P ba0 bb0) ba0 bb0 p0 q1 hC hPb ⟨hSB, Or.inr (Or.inl rfl), Or.inr (Or.inr rfl)⟩ hq1) wd431 wd1005 wd430 wd2013 wd13 (by decide) ⟨rfl, rfl, Nat.le_of_ble_eq_true rfl, Nat.le_of_ble_eq_true rfl⟩ (sb_recv X hSB) (As := []) (rest := []) rfl rfl hl.1 (Nat.le_of_ble_eq_true rfl) d19_1 ⟨room_l0 hc1, room_l0 hs1⟩ (fun q hq => False.elim hq) (fun v H1 locs1 hv _ _ hSq1 => ?_)
  obtain ⟨rfl, rfl⟩ := hv
  have hS := hSq1
  have hSz := hS.1
  refine lv_sipush (pc := 4) (v := 255) hx hb d19_4 (by decide) ?_
  refine lv_icmp_le (pc := 7) (tgt := 17) hx hb d19_7 (by decide) (fun c7 => ?_) (fun c7 => ?_)
  · have h := jb_t c7 h
    refine lv_aload_n (pc := 17) hx hb d19_17 rfl (lv_at hl 0 rfl) ?_
    obtain ⟨q2, rq2, hq2, h, herq2, hccq2, hssq2⟩ := jd_some h
    refine k_callV (pc := 18) (n := 0) X hS (c_sb_toS l ρ _ (pe P ba0 bb0) ba0 bb0 p0 q2 hC hPb ⟨hSB, Or.inr (Or.inl rfl), Or.inr (Or.inr rfl)⟩ hq2) wd411 wd408 wd409 wd410 wd13 (by decide) ⟨rfl, rfl, Nat.le_of_ble_eq_true rfl, Nat.le_of_ble_eq_true rfl⟩ (sb_recv X hSB) (As := []) (rest := []) rfl rfl hl.1 (Nat.le_of_ble_eq_true rfl) d19_18 ⟨room_le hccq2 hc1, room_le hssq2 hs1⟩ (fun q hq => hAz q (Nat.le_trans hS.1 hq)) (fun v H1 locs1 hv hz1 hz2 hSq2 => ?_)
    obtain ⟨u3, rfl, fu3⟩ := hv
    have hk : kp no _ H1 := kp_call hz1 hz2 (fun q hq z => absurd hq (Nat.not_lt.mpr z))
    have hSB := hSB.keep hk (fun z => z) (fun z => z)
    have hC := hC.keep hk no_hz
    have hPb := fun q hq => hk.lt (hPb q hq)
    have hS := hSq2
    have hSz := hS.1
    have her := her.trans herq2
    have hc1 := room_st hccq2 hc1
    have hs1 := room_st hssq2 hs1
    obtain ⟨q4, rq4, hq4, h, herq4, hccq4, hssq4⟩ := jd_some h
    refine k_callS (pc := 21) (n := 1) X hS (c_vl_ofText l ρ _ (pe P ba0 bb0) u3 q2.1 q4 hC hPb fu3 hq4) wd658 wd656 wd657 wd4 (by decide) ⟨rfl, rfl, Nat.le_of_ble_eq_true rfl, Nat.le_of_ble_eq_true rfl⟩ (As := [.ref u3]) (rest := []) rfl rfl hl.1 (Nat.le_of_ble_eq_true rfl) d19_21 ⟨room_le hccq4 hc1, room_le hssq4 hs1⟩ (fun q hq => hAz q (Nat.le_trans hS.1 hq)) (fun v H1 locs1 hv hz1 hz2 hSq4 => ?_)
    obtain ⟨u5, rfl, fu5⟩ := hv
    have hk : kp no _ H1 := kp_call hz1 hz2 (fun q hq z => absurd hq (Nat.not_lt.mpr z))
    have hSB := hSB.keep hk (fun z => z) (fun z => z)
    have hC := hC.keep hk no_hz
    have hPb := fun q hq => hk.lt (hPb q hq)
    have hS := hSq4
    have hSz := hS.1
    have her := her.trans herq4
    have hc1 := room_st hccq4 hc1
    have hs1 := room_st hssq4 hs1
    have fu5 := fu5.un
    have hPb := fun q hq => hPb q (Or.inl hq)
    have hC := hC.un
    have her : res.1 = q4.1 := her.trans (congrArg Prod.fst (Option.some.inj h)).symm
    exact m_aret (pc := 24) hx hb hr (Or.inl ⟨_, rfl⟩) hlk hS ⟨u5, rfl, by rw [her]; exact fu5⟩ (Nat.le_trans (Nat.le_add_right _ _) hc1) (Nat.le_trans (Nat.le_add_right _ _) hs1) d19_24
  · have h := jb_f c7 h
    refine lv_iconst (pc := 10) (v := 3) hx hb d19_10 (by decide) ?_
    obtain ⟨q6, rq6, hq6, h, herq6, hccq6, hssq6⟩ := jd_some h
    refine k_callS (pc := 11) (n := 1) X hS (c_vl_ofError l ρ _ (pe P ba0 bb0) 3 q6 hC hPb  hq6) wd651 wd649 wd650 wd4 (by decide) ⟨rfl, rfl, Nat.le_of_ble_eq_true rfl, Nat.le_of_ble_eq_true rfl⟩ (As := [.int 3]) (rest := []) rfl rfl hl.1 (Nat.le_of_ble_eq_true rfl) d19_11 ⟨room_le hccq6 hc1, room_le hssq6 hs1⟩ (fun q hq => hAz q (Nat.le_trans hS.1 hq)) (fun v H1 locs1 hv hz1 hz2 hSq6 => ?_)
    obtain ⟨u7, rfl, fu7⟩ := hv
    have hk : kp no _ H1 := kp_call hz1 hz2 (fun q hq z => absurd hq (Nat.not_lt.mpr z))
    have hSB := hSB.keep hk (fun z => z) (fun z => z)
    have hC := hC.keep hk no_hz
    have hPb := fun q hq => hk.lt (hPb q hq)
    have hS := hSq6
    have hSz := hS.1
    have her := her.trans herq6
    have hc1 := room_st hccq6 hc1
    have hs1 := room_st hssq6 hs1
    refine lv_goto (pc := 14) (tgt := 24) hx hb d19_14 (by decide) ?_
    have fu7 := fu7.un
    have hPb := fun q hq => hPb q (Or.inl hq)
    have hC := hC.un
    have her : res.1 = q6.1 := her.trans (congrArg Prod.fst (Option.some.inj h)).symm
    exact m_aret (pc := 24) hx hb hr (Or.inl ⟨_, rfl⟩) hlk hS ⟨u7, rfl, by rw [her]; exact fu7⟩ (Nat.le_trans (Nat.le_add_right _ _) hc1) (Nat.le_trans (Nat.le_add_right _ _) hs1) d19_24
def f_wf_value (st : CS) : Option (UInt64) := jb ((st.2 2 3).1 = 2) (jc (f_js_length ((st.2 2 3).2.2)) (fun q3 => some (FP.i2d q3))) (some ((st.2 2 3).2.1))
set_option maxHeartbeats 4000000 in
set_option maxRecDepth 100000 in
theorem c_wf_value (l : Launch) (ρ : RH) (ad : Nat → Nat) (H : Heap) (P : Nat → Prop) (st : CS) (res : UInt64) (hW : CW ρ P ad st H) (h : f_wf_value st = some res) : Met l y20 (wsOf y20 b20 2 (some .double)) ({ frames := 13, cells := 0, slots := 0, locals := 620 } : Room) (va_Pc [.ref (ad 0)] (KP ρ H)) (mQ (fun v H1 => v = some (.double res) ∧ H1 = H) (fun _ => False)) 0 0 (fun _ => False) := by
  refine m_ofW (own := "WordFunctions") (plainFor_of_name rfl) rfl (Nat.le_of_ble_eq_true rfl) fun p e s m args below meth c ls hx hb hr hlk _ X hs hl => ?_
  subst hs
  have hS : va_S (fun _ => False) s.heap s.heap [] := va_S.rf
  have hSz := hS.1
  have hPp : ∀ i, i < 46 → P (ad i) := hW.1
  have hl : lv_has ls 2 [(0, .ref (ad 0))] := hl
  unfold f_wf_value at h
  refine lv_aload_n (pc := 0) hx hb d20_0 rfl (lv_at hl 0 rfl) ?_
  refine c_getK (pc := 1) X hW 0 4 9 2 (C := "WordFunctions") (T := T9) (N := 9) (by decide) rfl rfl rfl rfl tin9 rfl wd246 rfl rfl d20_1 ?_
  refine c_gettold (pc := 4) X hW wd180 d20_4 (fun u1 fu1 => ?_)
  refine lv_astore_n (pc := 7) (lv' := [(1, .ref u1), (0, .ref (ad 0))]) hx hb d20_7 rfl hl (by decide) rfl (fun ls hl => ?_)
  refine lv_aload_n (pc := 8) hx hb d20_8 rfl (lv_at hl 0 rfl) ?_
  refine v_kind (pc := 9) X fu1 wd78 d20_9 ?_
  refine lv_iconst (pc := 12) (v := 2) hx hb d20_12 (by decide) ?_
  refine lv_icmp_ne (pc := 13) (tgt := 27) hx hb d20_13 (by decide) (fun c13 => ?_) (fun c13 => ?_)
  · have h := jb_f c13 h
    refine lv_aload_n (pc := 27) hx hb d20_27 rfl (lv_at hl 0 rfl) ?_
    refine v_number (pc := 28) X fu1 wd85 d20_28 ?_
    obtain rfl := Option.some.inj h
    exact m_dret (pc := 31) hx hb hr hlk hS ⟨rfl, rfl⟩ (Nat.le_refl _) (Nat.le_refl _) d20_31
  · have h := jb_t c13 h
    refine lv_aload_n (pc := 16) hx hb d20_16 rfl (lv_at hl 0 rfl) ?_
    refine v_text (pc := 17) X fu1 wd89 d20_17 (fun u2 fu2 => ?_)
    obtain ⟨q3, hq3, h⟩ := jc_some h
    refine k_callV (pc := 20) (n := 0) X hS (c_js_length l ρ _ P u2 ((st.2 2 3).2.2) q3 hW.2.2.1 hW.2.1 fu2 hq3) wd538 wd675 wd536 wd537 wd14 (by decide) ⟨rfl, rfl, Nat.le_of_ble_eq_true rfl, Nat.le_of_ble_eq_true rfl⟩ (s_recv X fu2) (As := []) (rest := []) rfl rfl hl.1 (Nat.le_of_ble_eq_true rfl) d20_20 ⟨Nat.le_refl _, Nat.le_refl _⟩ (fun q hq => False.elim hq) (fun v H1 locs1 hv _ _ hSq3 => ?_)
    obtain ⟨rfl, rfl⟩ := hv
    have hS := hSq3
    have hSz := hS.1
    refine lv_i2d (pc := 23) hx hb d20_23 ?_
    refine lv_goto (pc := 24) (tgt := 31) hx hb d20_24 (by decide) ?_
    obtain rfl := Option.some.inj h
    exact m_dret (pc := 31) hx hb hr hlk hS ⟨rfl, rfl⟩ (Nat.le_refl _) (Nat.le_refl _) d20_31
