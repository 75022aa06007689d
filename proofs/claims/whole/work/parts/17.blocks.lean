theorem b_0_e : am_B 0 0 = [.aload 0, .pop2, .aload 0, .new 2, .dup, .invokevirtual 1, .putfield 512, .aload 0, .new 1, .dup, .aload 0, .getfield 512, .invokevirtual 4, .putfield 513, .aload 0, .bipush 4, .anewarray 6, .putfield 514, .bipush 0, .istore 1, .jsr 40] := rfl
theorem b_0_40 : am_B 0 (Int.toNat 40) = [.iload 1, .bipush 4, .if_icmp .ge 64, .aload 0, .getfield 514, .iload 1, .new 5, .dup, .invokevirtual 8, .aastore, .iinc 1 1, .goto 40] := rfl
theorem b_0_64 : am_B 0 (Int.toNat 64) = [.aload 0, .new 4, .dup, .invokevirtual 5, .putfield 515, .return_] := rfl
theorem b_1_e : am_B 1 0 = [.aload 0, .pop2, .aload 0, .bipush 5, .newarray .int, .dup, .bipush 0, .bipush 100, .iastore, .dup, .bipush 1, .bipush 1, .iastore, .dup, .bipush 2, .bipush 750, .iastore, .dup, .bipush 3, .bipush 900, .iastore, .dup, .bipush 4, .bipush 500, .iastore, .putfield 128, .aload 0, .bipush 5, .anewarray 3, .putfield 129, .aload 0, .bipush 5, .anewarray 4, .putfield 130, .aload 0, .bipush 5, .newarray .int, .putfield 131, .bipush 0, .istore 1, .jsr 63] := rfl
theorem b_1_63 : am_B 1 (Int.toNat 63) = [.iload 1, .bipush 5, .if_icmp .ge 87, .aload 0, .getfield 129, .iload 1, .new 6, .dup, .invokevirtual 2, .aastore, .iinc 1 1, .goto 63] := rfl
theorem b_1_87 : am_B 1 (Int.toNat 87) = [.bipush 0, .istore 1, .jsr 89] := rfl
theorem b_1_89 : am_B 1 (Int.toNat 89) = [.iload 1, .bipush 5, .if_icmp .ge 113, .aload 0, .getfield 130, .iload 1, .new 7, .dup, .invokevirtual 3, .aastore, .iinc 1 1, .goto 89] := rfl
theorem b_1_113 : am_B 1 (Int.toNat 113) = [.return_] := rfl
theorem b_2_e : am_B 2 0 = [.aload 0, .pop2, .aload 0, .bipush 1, .putfield 386, .aload 0, .bipush 3000, .putfield 387, .return_] := rfl
theorem b_3_e : am_B 3 0 = [.aload 0, .pop2, .aload 0, .bipush 24, .newarray .int, .putfield 448, .aload 0, .bipush 24, .newarray .int, .putfield 449, .bipush 0, .istore 1, .jsr 22] := rfl
theorem b_3_22 : am_B 3 (Int.toNat 22) = [.iload 1, .bipush 24, .if_icmp .ge 41, .aload 0, .getfield 448, .iload 1, .bipush (-1), .iastore, .iinc 1 1, .goto 22] := rfl
theorem b_3_41 : am_B 3 (Int.toNat 41) = [.return_] := rfl
theorem b_4_e : am_B 4 0 = [.aload 0, .pop2, .aload 0, .new 4, .dup, .invokevirtual 5, .putfield 65, .aload 0, .new 4, .dup, .invokevirtual 5, .putfield 68, .aload 0, .bipush 2, .anewarray 5, .putfield 69, .aload 0, .new 4, .dup, .invokevirtual 5, .putfield 70, .aload 0, .bipush (-9), .putfield 71, .aload 0, .new 4, .dup, .invokevirtual 5, .putfield 74, .aload 0, .new 4, .dup, .invokevirtual 5, .putfield 75, .aload 0, .bipush 5, .newarray .int, .putfield 76, .aload 0, .aload 1, .putfield 73, .aload 0, .new 0, .dup, .aload 1, .getfield 128, .invokevirtual 6, .putfield 64, .bipush 0, .istore 2, .jsr 102] := rfl
theorem b_4_102 : am_B 4 (Int.toNat 102) = [.iload 2, .bipush 2, .if_icmp .ge 126, .aload 0, .getfield 69, .iload 2, .new 3, .dup, .invokevirtual 7, .aastore, .iinc 2 1, .goto 102] := rfl
theorem b_4_126 : am_B 4 (Int.toNat 126) = [.return_] := rfl
theorem b_5_e : am_B 5 0 = [.aload 0, .pop2, .aload 0, .sipush 1, .putfield 257, .return_] := rfl
theorem b_6_e : am_B 6 0 = [.aload 0, .pop2, .aload 0, .bipush 5, .newarray .int, .putfield 0, .aload 0, .bipush 5, .newarray .int, .putfield 1, .aload 0, .bipush 5, .newarray .boolean, .putfield 2, .aload 0, .bipush 5, .newarray .long, .putfield 3, .aload 0, .bipush 5, .newarray .long, .putfield 4, .aload 0, .bipush 5, .newarray .boolean, .putfield 6, .aload 0, .bipush 5, .newarray .int, .putfield 7, .aload 0, .bipush 5, .newarray .int, .putfield 8, .aload 0, .new 4, .dup, .invokevirtual 5, .putfield 10, .aload 0, .new 4, .dup, .invokevirtual 5, .putfield 11, .aload 0, .aload 1, .putfield 9, .return_] := rfl
theorem b_7_e : am_B 7 0 = [.aload 0, .pop2, .aload 0, .new 4, .dup, .invokevirtual 5, .putfield 192, .aload 0, .bipush 5, .newarray .int, .putfield 193, .return_] := rfl
theorem b_8_e : am_B 8 0 = [.aload 0, .pop2, .aload 0, .bipush 60, .newarray .int, .putfield 320, .aload 0, .bipush (-1), .putfield 321, .return_] := rfl
theorem b_9_e : am_B 9 0 = [.iload 1, .ifCond .lt 9, .iload 1, .bipush 5, .if_icmp .lt 11, .jsr 9] := rfl
theorem b_9_9 : am_B 9 (Int.toNat 9) = [.bipush (-1), .ireturn] := rfl
theorem b_9_11 : am_B 9 (Int.toNat 11) = [.iload 2, .getstatic 0, .iload 1, .iaload, .if_icmp .lt 29, .iload 2, .getstatic 1, .iload 1, .iaload, .if_icmp .le 32, .jsr 29] := rfl
theorem b_9_29 : am_B 9 (Int.toNat 29) = [.bipush (-2), .ireturn] := rfl
theorem b_9_32 : am_B 9 (Int.toNat 32) = [.aload 0, .getfield 512, .iload 1, .iload 2, .invokevirtual 10, .ifCond .ne 47, .bipush (-3), .ireturn] := rfl
theorem b_9_47 : am_B 9 (Int.toNat 47) = [.aload 0, .getfield 512, .getfield 128, .iload 1, .iaload, .istore 3, .aload 0, .getfield 512, .getfield 128, .iload 1, .iload 2, .iastore, .aload 0, .getfield 513, .invokevirtual 12, .iload 3, .ireturn] := rfl
theorem b_10_e : am_B 10 0 = [.iload 1, .tableswitch 108 0 4 #[36, 108, 50, 76, 92]] := rfl
theorem b_10_36 : am_B 10 (Int.toNat 36) = [.aload 0, .iload 2, .invokevirtual 11, .ifCond .ne 48, .bipush 1, .goto 49] := rfl
theorem b_10_48 : am_B 10 (Int.toNat 48) = [.bipush 0, .jsr 49] := rfl
theorem b_10_49 : am_B 10 (Int.toNat 49) = [.areturn] := rfl
theorem b_10_50 : am_B 10 (Int.toNat 50) = [.iload 2, .aload 0, .getfield 128, .bipush 3, .iaload, .if_icmp .gt 74, .iload 2, .aload 0, .getfield 128, .bipush 4, .iaload, .if_icmp .lt 74, .bipush 1, .goto 75] := rfl
theorem b_10_74 : am_B 10 (Int.toNat 74) = [.bipush 0, .jsr 75] := rfl
theorem b_10_75 : am_B 10 (Int.toNat 75) = [.areturn] := rfl
theorem b_10_76 : am_B 10 (Int.toNat 76) = [.aload 0, .getfield 128, .bipush 2, .iaload, .iload 2, .if_icmp .gt 90, .bipush 1, .goto 91] := rfl
theorem b_10_90 : am_B 10 (Int.toNat 90) = [.bipush 0, .jsr 91] := rfl
theorem b_10_91 : am_B 10 (Int.toNat 91) = [.areturn] := rfl
theorem b_10_92 : am_B 10 (Int.toNat 92) = [.aload 0, .getfield 128, .bipush 2, .iaload, .iload 2, .if_icmp .lt 106, .bipush 1, .goto 107] := rfl
theorem b_10_106 : am_B 10 (Int.toNat 106) = [.bipush 0, .jsr 107] := rfl
theorem b_10_107 : am_B 10 (Int.toNat 107) = [.areturn] := rfl
theorem b_10_108 : am_B 10 (Int.toNat 108) = [.bipush 1, .areturn] := rfl
theorem b_11_e : am_B 11 0 = [.bipush 0, .istore 2, .jsr 2] := rfl
theorem b_11_2 : am_B 11 (Int.toNat 2) = [.iload 2, .aload 0, .getfield 132, .if_icmp .ge 31, .aload 0, .getfield 129, .iload 2, .aaload, .getfield 385, .iload 1, .if_icmp .le 25, .bipush 1, .areturn] := rfl
theorem b_11_25 : am_B 11 (Int.toNat 25) = [.iinc 2 1, .goto 2] := rfl
theorem b_11_31 : am_B 11 (Int.toNat 31) = [.bipush 0, .istore 2, .jsr 33] := rfl
theorem b_11_33 : am_B 11 (Int.toNat 33) = [.iload 2, .aload 0, .getfield 133, .if_icmp .ge 78, .bipush 0, .istore 3, .jsr 43] := rfl
theorem b_11_43 : am_B 11 (Int.toNat 43) = [.iload 3, .bipush 24, .if_icmp .ge 72, .aload 0, .getfield 130, .iload 2, .aaload, .getfield 448, .iload 3, .iaload, .iload 1, .if_icmp .le 66, .bipush 1, .areturn] := rfl
theorem b_11_66 : am_B 11 (Int.toNat 66) = [.iinc 3 1, .goto 43] := rfl
theorem b_11_72 : am_B 11 (Int.toNat 72) = [.iinc 2 1, .goto 33] := rfl
theorem b_11_78 : am_B 11 (Int.toNat 78) = [.bipush 0, .areturn] := rfl
theorem b_12_e : am_B 12 0 = [.aload 0, .bipush 0, .putfield 72, .bipush 0, .istore 1, .jsr 7] := rfl
theorem b_12_7 : am_B 12 (Int.toNat 7) = [.iload 1, .bipush 2, .if_icmp .ge 28, .aload 0, .getfield 69, .iload 1, .aaload, .bipush 0, .putfield 194, .iinc 1 1, .goto 7] := rfl
theorem b_12_28 : am_B 12 (Int.toNat 28) = [.return_] := rfl
theorem b_13_e : am_B 13 0 = [.iload 1, .ifCond .lt 20, .iload 1, .bipush 2, .if_icmp .gt 20, .aload 0, .getfield 512, .iload 2, .invokevirtual 14, .ifCond .ne 23, .jsr 20] := rfl
theorem b_13_20 : am_B 13 (Int.toNat 20) = [.bipush (-2), .ireturn] := rfl
theorem b_13_23 : am_B 13 (Int.toNat 23) = [.aload 0, .getfield 512, .iload 2, .invokevirtual 15, .ifCond .eq 37, .bipush (-3), .ireturn] := rfl
theorem b_13_37 : am_B 13 (Int.toNat 37) = [.aload 0, .getfield 512, .getfield 132, .bipush 5, .if_icmp .lt 51, .bipush (-4), .ireturn] := rfl
theorem b_13_51 : am_B 13 (Int.toNat 51) = [.aload 0, .getfield 512, .getfield 132, .istore 3, .aload 0, .getfield 512, .getfield 129, .iload 3, .aaload, .iload 1, .putfield 384, .aload 0, .getfield 512, .getfield 129, .iload 3, .aaload, .iload 2, .putfield 385, .aload 0, .getfield 512, .iload 3, .bipush 1, .iadd, .putfield 132, .aload 0, .getfield 513, .invokevirtual 12, .iload 3, .ireturn] := rfl
theorem b_14_e : am_B 14 0 = [.iload 1, .ifCond .lt 18, .iload 1, .aload 0, .getfield 128, .bipush 0, .iaload, .if_icmp .gt 18, .bipush 1, .goto 19] := rfl
theorem b_14_18 : am_B 14 (Int.toNat 18) = [.bipush 0, .jsr 19] := rfl
theorem b_14_19 : am_B 14 (Int.toNat 19) = [.areturn] := rfl
theorem b_15_e : am_B 15 0 = [.bipush 0, .istore 2, .jsr 2] := rfl
theorem b_15_2 : am_B 15 (Int.toNat 2) = [.iload 2, .aload 0, .getfield 132, .if_icmp .ge 31, .aload 0, .getfield 129, .iload 2, .aaload, .getfield 385, .iload 1, .if_icmp .ne 25, .bipush 1, .areturn] := rfl
theorem b_15_25 : am_B 15 (Int.toNat 25) = [.iinc 2 1, .goto 2] := rfl
theorem b_15_31 : am_B 15 (Int.toNat 31) = [.bipush 0, .areturn] := rfl
theorem b_16_e : am_B 16 0 = [.aload 0, .getfield 512, .iload 1, .invokevirtual 17, .ifCond .ne 13, .bipush (-1), .ireturn] := rfl
theorem b_16_13 : am_B 16 (Int.toNat 13) = [.aload 0, .getfield 512, .getfield 129, .iload 1, .aaload, .getfield 386, .iload 2, .if_icmp .ne 31, .bipush 0, .ireturn] := rfl
theorem b_16_31 : am_B 16 (Int.toNat 31) = [.aload 0, .getfield 512, .getfield 129, .iload 1, .aaload, .iload 2, .putfield 386, .aload 0, .getfield 513, .invokevirtual 12, .bipush 1, .ireturn] := rfl
theorem b_17_e : am_B 17 0 = [.iload 1, .ifCond .lt 16, .iload 1, .aload 0, .getfield 132, .if_icmp .ge 16, .bipush 1, .goto 17] := rfl
theorem b_17_16 : am_B 17 (Int.toNat 16) = [.bipush 0, .jsr 17] := rfl
theorem b_17_17 : am_B 17 (Int.toNat 17) = [.areturn] := rfl
theorem b_18_e : am_B 18 0 = [.aload 0, .getfield 512, .iload 1, .invokevirtual 17, .ifCond .ne 13, .bipush (-1), .ireturn] := rfl
theorem b_18_13 : am_B 18 (Int.toNat 13) = [.iload 2, .ifCond .lt 23, .iload 2, .bipush 100000, .if_icmp .le 26, .jsr 23] := rfl
theorem b_18_23 : am_B 18 (Int.toNat 23) = [.bipush (-2), .ireturn] := rfl
theorem b_18_26 : am_B 18 (Int.toNat 26) = [.aload 0, .getfield 512, .getfield 129, .iload 1, .aaload, .getfield 387, .istore 3, .aload 0, .getfield 512, .getfield 129, .iload 1, .aaload, .iload 2, .putfield 387, .iload 3, .ireturn] := rfl
theorem b_19_e : am_B 19 0 = [.aload 0, .getfield 512, .iload 1, .invokevirtual 17, .ifCond .ne 13, .bipush (-1), .ireturn] := rfl
theorem b_19_13 : am_B 19 (Int.toNat 13) = [.aload 0, .getfield 512, .getfield 129, .iload 1, .aaload, .astore 3, .iload 2, .tableswitch 84 0 3 #[56, 61, 66, 79]] := rfl
theorem b_19_56 : am_B 19 (Int.toNat 56) = [.aload 3, .getfield 384, .ireturn] := rfl
theorem b_19_61 : am_B 19 (Int.toNat 61) = [.aload 3, .getfield 385, .ireturn] := rfl
theorem b_19_66 : am_B 19 (Int.toNat 66) = [.aload 3, .getfield 386, .ifCond .eq 77, .bipush 1, .goto 78] := rfl
theorem b_19_77 : am_B 19 (Int.toNat 77) = [.bipush 0, .jsr 78] := rfl
theorem b_19_78 : am_B 19 (Int.toNat 78) = [.ireturn] := rfl
theorem b_19_79 : am_B 19 (Int.toNat 79) = [.aload 3, .getfield 387, .ireturn] := rfl
theorem b_19_84 : am_B 19 (Int.toNat 84) = [.bipush (-2), .ireturn] := rfl
theorem b_20_e : am_B 20 0 = [.aload 0, .getfield 512, .getfield 133, .bipush 5, .if_icmp .lt 14, .bipush (-4), .ireturn] := rfl
theorem b_20_14 : am_B 20 (Int.toNat 14) = [.aload 0, .getfield 512, .getfield 133, .istore 1, .aload 0, .getfield 512, .iload 1, .bipush 1, .iadd, .putfield 133, .aload 0, .getfield 513, .invokevirtual 12, .iload 1, .ireturn] := rfl
theorem b_21_e : am_B 21 0 = [.aload 0, .getfield 512, .iload 1, .invokevirtual 22, .ifCond .eq 18, .iload 2, .invokevirtual 23, .ifCond .ne 20, .jsr 18] := rfl
theorem b_21_18 : am_B 21 (Int.toNat 18) = [.bipush (-1), .ireturn] := rfl
theorem b_21_20 : am_B 21 (Int.toNat 20) = [.aload 0, .getfield 512, .iload 3, .iload 4, .invokevirtual 24, .ifCond .ne 36, .bipush (-2), .ireturn] := rfl
theorem b_21_36 : am_B 21 (Int.toNat 36) = [.aload 0, .getfield 512, .getfield 130, .iload 1, .aaload, .iload 2, .iload 3, .iload 4, .invokevirtual 25, .aload 0, .getfield 513, .invokevirtual 12, .bipush 1, .ireturn] := rfl
theorem b_22_e : am_B 22 0 = [.iload 1, .ifCond .lt 16, .iload 1, .aload 0, .getfield 133, .if_icmp .ge 16, .bipush 1, .goto 17] := rfl
theorem b_22_16 : am_B 22 (Int.toNat 16) = [.bipush 0, .jsr 17] := rfl
theorem b_22_17 : am_B 22 (Int.toNat 17) = [.areturn] := rfl
theorem b_23_e : am_B 23 0 = [.iload 0, .ifCond .lt 14, .iload 0, .bipush 24, .if_icmp .ge 14, .bipush 1, .goto 15] := rfl
theorem b_23_14 : am_B 23 (Int.toNat 14) = [.bipush 0, .jsr 15] := rfl
theorem b_23_15 : am_B 23 (Int.toNat 15) = [.areturn] := rfl
theorem b_24_e : am_B 24 0 = [.iload 1, .bipush (-1), .if_icmp .ne 7, .bipush 1, .areturn] := rfl
theorem b_24_7 : am_B 24 (Int.toNat 7) = [.aload 0, .iload 1, .invokevirtual 14, .ifCond .eq 33, .iload 2, .bipush (-400), .if_icmp .lt 33, .iload 2, .bipush 400, .if_icmp .gt 33, .bipush 1, .goto 34] := rfl
theorem b_24_33 : am_B 24 (Int.toNat 33) = [.bipush 0, .jsr 34] := rfl
theorem b_24_34 : am_B 24 (Int.toNat 34) = [.areturn] := rfl
theorem b_25_e : am_B 25 0 = [.aload 0, .getfield 448, .iload 1, .iload 2, .iastore, .aload 0, .getfield 449, .iload 1, .iload 3, .iastore, .return_] := rfl
theorem b_26_e : am_B 26 0 = [.aload 0, .bipush 0, .putfield 517, .aload 0, .getfield 512, .iload 1, .invokevirtual 22, .ifCond .eq 23, .iload 2, .invokevirtual 27, .ifCond .ne 25, .jsr 23] := rfl
theorem b_26_23 : am_B 26 (Int.toNat 23) = [.bipush (-1), .ireturn] := rfl
theorem b_26_25 : am_B 26 (Int.toNat 25) = [.iload 3, .invokevirtual 28, .ifCond .ne 35, .bipush (-2), .ireturn] := rfl
theorem b_26_35 : am_B 26 (Int.toNat 35) = [.aload 0, .getfield 514, .iload 2, .aaload, .astore 6, .aload 6, .iload 3, .invokevirtual 29, .istore 7, .iload 7, .ifCond .ne 64, .iload 5, .ifCond .ge 64, .bipush 4, .istore 7, .jsr 64] := rfl
theorem b_26_64 : am_B 26 (Int.toNat 64) = [.iload 7, .ifCond .ne 89, .aload 6, .iload 4, .sipush 2, .iload 5, .i2l, .lmul, .invokevirtual 30, .ifCond .ne 89, .bipush 3, .istore 7, .jsr 89] := rfl
theorem b_26_89 : am_B 26 (Int.toNat 89) = [.iload 7, .ifCond .eq 101, .aload 0, .iload 7, .invokevirtual 31, .ireturn] := rfl
theorem b_26_101 : am_B 26 (Int.toNat 101) = [.iload 5, .bipush 24, .if_icmp .gt 121, .aload 0, .aload 6, .iload 4, .iload 5, .invokevirtual 32, .ifCond .ne 124, .jsr 121] := rfl
theorem b_26_121 : am_B 26 (Int.toNat 121) = [.bipush (-2), .ireturn] := rfl
theorem b_26_124 : am_B 26 (Int.toNat 124) = [.aload 0, .getfield 513, .invokevirtual 12, .aload 0, .getfield 512, .getfield 130, .iload 1, .aaload, .aload 6, .iload 4, .iload 5, .invokevirtual 33, .ireturn] := rfl
theorem b_27_e : am_B 27 0 = [.iload 0, .ifCond .lt 13, .iload 0, .bipush 4, .if_icmp .ge 13, .bipush 1, .goto 14] := rfl
theorem b_27_13 : am_B 27 (Int.toNat 13) = [.bipush 0, .jsr 14] := rfl
theorem b_27_14 : am_B 27 (Int.toNat 14) = [.areturn] := rfl
theorem b_28_e : am_B 28 0 = [.iload 0, .ifCond .lt 13, .iload 0, .bipush 2, .if_icmp .gt 13, .bipush 1, .goto 14] := rfl
theorem b_28_13 : am_B 28 (Int.toNat 13) = [.bipush 0, .jsr 14] := rfl
theorem b_28_14 : am_B 28 (Int.toNat 14) = [.areturn] := rfl
theorem b_29_e : am_B 29 0 = [.aload 0, .getfield 321, .bipush (-1), .if_icmp .ne 10, .bipush 1, .ireturn] := rfl
theorem b_29_10 : am_B 29 (Int.toNat 10) = [.aload 0, .getfield 321, .iload 1, .if_icmp .ne 22, .bipush 0, .goto 23] := rfl
theorem b_29_22 : am_B 29 (Int.toNat 22) = [.bipush 2, .jsr 23] := rfl
theorem b_29_23 : am_B 29 (Int.toNat 23) = [.ireturn] := rfl
theorem b_30_e : am_B 30 0 = [.iload 1, .ifCond .lt 28, .iload 1, .aload 0, .getfield 322, .if_icmp .gt 28, .lload 2, .aload 0, .getfield 322, .iload 1, .isub, .i2l, .lcmp, .ifCond .gt 28, .bipush 1, .goto 29] := rfl
theorem b_30_28 : am_B 30 (Int.toNat 28) = [.bipush 0, .jsr 29] := rfl
theorem b_30_29 : am_B 30 (Int.toNat 29) = [.areturn] := rfl
theorem b_31_e : am_B 31 0 = [.aload 0, .iload 1, .putfield 517, .bipush (-10), .iload 1, .isub, .ireturn] := rfl
theorem b_32_e : am_B 32 0 = [.bipush 0, .istore 4, .jsr 3] := rfl
theorem b_32_3 : am_B 32 (Int.toNat 3) = [.iload 4, .iload 3, .if_icmp .ge 51, .aload 0, .getfield 512, .aload 1, .getfield 320, .iload 2, .bipush 2, .iload 4, .imul, .iadd, .iaload, .aload 1, .getfield 320, .iload 2, .bipush 2, .iload 4, .imul, .iadd, .bipush 1, .iadd, .iaload, .invokevirtual 24, .ifCond .ne 45, .bipush 0, .areturn] := rfl
theorem b_32_45 : am_B 32 (Int.toNat 45) = [.iinc 4 1, .goto 3] := rfl
theorem b_32_51 : am_B 32 (Int.toNat 51) = [.bipush 1, .areturn] := rfl
theorem b_33_e : am_B 33 0 = [.bipush 0, .istore 4, .bipush 0, .istore 5, .jsr 6] := rfl
theorem b_33_6 : am_B 33 (Int.toNat 6) = [.iload 5, .bipush 24, .if_icmp .ge 80, .iload 5, .iload 3, .if_icmp .ge 52, .aload 0, .iload 5, .aload 1, .getfield 320, .iload 2, .bipush 2, .iload 5, .imul, .iadd, .iaload, .aload 1, .getfield 320, .iload 2, .bipush 2, .iload 5, .imul, .iadd, .bipush 1, .iadd, .iaload, .invokevirtual 25, .goto 60] := rfl
theorem b_33_52 : am_B 33 (Int.toNat 52) = [.aload 0, .iload 5, .bipush (-1), .bipush 0, .invokevirtual 25, .jsr 60] := rfl
theorem b_33_60 : am_B 33 (Int.toNat 60) = [.aload 0, .getfield 448, .iload 5, .iaload, .bipush (-1), .if_icmp .eq 74, .iinc 4 1, .jsr 74] := rfl
theorem b_33_74 : am_B 33 (Int.toNat 74) = [.iinc 5 1, .goto 6] := rfl
theorem b_33_80 : am_B 33 (Int.toNat 80) = [.iload 4, .ireturn] := rfl
theorem b_34_e : am_B 34 0 = [.aload 0, .getfield 512, .iload 1, .invokevirtual 22, .ifCond .ne 13, .bipush (-1), .ireturn] := rfl
theorem b_34_13 : am_B 34 (Int.toNat 13) = [.iload 2, .ifCond .lt 22, .iload 2, .bipush 5, .if_icmp .le 25, .jsr 22] := rfl
theorem b_34_22 : am_B 34 (Int.toNat 22) = [.bipush (-2), .ireturn] := rfl
theorem b_34_25 : am_B 34 (Int.toNat 25) = [.aload 0, .getfield 512, .getfield 131, .iload 1, .iaload, .istore 3, .aload 0, .getfield 512, .getfield 131, .iload 1, .iload 2, .iastore, .aload 0, .getfield 513, .invokevirtual 12, .iload 3, .ireturn] := rfl
theorem b_35_e : am_B 35 0 = [.aload 0, .getfield 512, .iload 1, .invokevirtual 22, .ifCond .eq 18, .iload 2, .invokevirtual 23, .ifCond .ne 20, .jsr 18] := rfl
theorem b_35_18 : am_B 35 (Int.toNat 18) = [.bipush (-1), .ireturn] := rfl
theorem b_35_20 : am_B 35 (Int.toNat 20) = [.iload 3, .ifCond .lt 29, .iload 3, .bipush 2, .if_icmp .le 32, .jsr 29] := rfl
theorem b_35_29 : am_B 35 (Int.toNat 29) = [.bipush (-2), .ireturn] := rfl
theorem b_35_32 : am_B 35 (Int.toNat 32) = [.iload 3, .bipush 2, .if_icmp .ne 50, .aload 0, .getfield 512, .invokevirtual 36, .ifCond .eq 50, .bipush (-3), .ireturn] := rfl
theorem b_35_50 : am_B 35 (Int.toNat 50) = [.iload 2, .aload 0, .getfield 512, .getfield 131, .iload 1, .iaload, .isub, .istore 4, .iload 4, .invokevirtual 23, .ifCond .eq 90, .aload 0, .getfield 512, .getfield 130, .iload 1, .aaload, .getfield 448, .iload 4, .iaload, .bipush (-1), .if_icmp .ne 101, .jsr 90] := rfl
theorem b_35_90 : am_B 35 (Int.toNat 90) = [.iload 3, .ifCond .ne 99, .bipush (-9), .goto 100] := rfl
theorem b_35_99 : am_B 35 (Int.toNat 99) = [.bipush 0, .jsr 100] := rfl
theorem b_35_100 : am_B 35 (Int.toNat 100) = [.ireturn] := rfl
theorem b_35_101 : am_B 35 (Int.toNat 101) = [.iload 3, .ifCond .ne 121, .aload 0, .getfield 512, .getfield 130, .iload 1, .aaload, .getfield 448, .iload 4, .iaload, .ireturn] := rfl
theorem b_35_121 : am_B 35 (Int.toNat 121) = [.iload 3, .bipush 1, .if_icmp .ne 142, .aload 0, .getfield 512, .getfield 130, .iload 1, .aaload, .getfield 449, .iload 4, .iaload, .ireturn] := rfl
theorem b_35_142 : am_B 35 (Int.toNat 142) = [.aload 0, .getfield 513, .iload 2, .invokevirtual 38, .aload 0, .getfield 513, .getfield 64, .getfield 8, .iload 1, .iaload, .ireturn] := rfl
theorem b_36_e : am_B 36 0 = [.aload 0, .invokevirtual 37, .ifCond .ne 11, .bipush 1, .goto 12] := rfl
theorem b_36_11 : am_B 36 (Int.toNat 11) = [.bipush 0, .jsr 12] := rfl
theorem b_36_12 : am_B 36 (Int.toNat 12) = [.areturn] := rfl
theorem b_37_e : am_B 37 0 = [.bipush 0, .istore 1, .bipush 0, .istore 2, .jsr 4] := rfl
theorem b_37_4 : am_B 37 (Int.toNat 4) = [.iload 2, .aload 0, .getfield 132, .if_icmp .ge 33, .aload 0, .getfield 129, .iload 2, .aaload, .getfield 386, .ifCond .eq 27, .iinc 1 1, .jsr 27] := rfl
theorem b_37_27 : am_B 37 (Int.toNat 27) = [.iinc 2 1, .goto 4] := rfl
theorem b_37_33 : am_B 37 (Int.toNat 33) = [.iload 1, .ireturn] := rfl
theorem b_38_e : am_B 38 0 = [.aload 0, .bipush (-9), .invokevirtual 39, .aload 0, .iload 1, .aload 0, .getfield 73, .getfield 131, .invokevirtual 42, .pop, .aload 0, .getfield 64, .invokevirtual 45, .return_] := rfl
theorem b_39_e : am_B 39 0 = [.aload 0, .getfield 64, .invokevirtual 40, .bipush 0, .istore 2, .jsr 9] := rfl
theorem b_39_9 : am_B 39 (Int.toNat 9) = [.iload 2, .aload 0, .getfield 73, .getfield 132, .if_icmp .ge 66, .aload 0, .getfield 73, .getfield 129, .iload 2, .aaload, .getfield 386, .ifCond .eq 60, .iload 2, .iload 1, .if_icmp .eq 60, .aload 0, .getfield 64, .iload 2, .aload 0, .getfield 73, .getfield 129, .iload 2, .aaload, .getfield 385, .invokevirtual 41, .jsr 60] := rfl
theorem b_39_60 : am_B 39 (Int.toNat 60) = [.iinc 2 1, .goto 9] := rfl
theorem b_39_66 : am_B 39 (Int.toNat 66) = [.return_] := rfl
theorem b_40_e : am_B 40 0 = [.aload 0, .bipush 0, .putfield 5, .return_] := rfl
theorem b_41_e : am_B 41 0 = [.aload 0, .getfield 5, .bipush 5, .if_icmp .lt 9, .return_] := rfl
theorem b_41_9 : am_B 41 (Int.toNat 9) = [.aload 0, .getfield 5, .istore 3, .jsr 14] := rfl
theorem b_41_14 : am_B 41 (Int.toNat 14) = [.iload 3, .ifCond .le 64, .aload 0, .getfield 1, .iload 3, .bipush 1, .isub, .iaload, .iload 2, .if_icmp .le 64, .aload 0, .getfield 1, .iload 3, .aload 0, .getfield 1, .iload 3, .bipush 1, .isub, .iaload, .iastore, .aload 0, .getfield 0, .iload 3, .aload 0, .getfield 0, .iload 3, .bipush 1, .isub, .iaload, .iastore, .iinc 3 (-1), .goto 14] := rfl
theorem b_41_64 : am_B 41 (Int.toNat 64) = [.aload 0, .getfield 1, .iload 3, .iload 2, .iastore, .aload 0, .getfield 0, .iload 3, .iload 1, .iastore, .aload 0, .dup, .getfield 5, .bipush 1, .iadd, .putfield 5, .return_] := rfl
theorem b_42_e : am_B 42 0 = [.bipush 0, .istore 3, .aload 0, .getfield 64, .invokevirtual 43, .bipush 0, .istore 4, .jsr 12] := rfl
theorem b_42_12 : am_B 42 (Int.toNat 12) = [.iload 4, .aload 0, .getfield 73, .getfield 133, .if_icmp .ge 109, .iload 1, .aload 2, .iload 4, .iaload, .isub, .istore 5, .iload 5, .invokevirtual 23, .ifCond .eq 103, .aload 0, .getfield 73, .getfield 130, .iload 4, .aaload, .getfield 448, .iload 5, .iaload, .bipush (-1), .if_icmp .eq 103, .aload 0, .getfield 64, .iload 4, .aload 0, .getfield 73, .getfield 130, .iload 4, .aaload, .getfield 448, .iload 5, .iaload, .aload 0, .getfield 73, .getfield 130, .iload 4, .aaload, .getfield 449, .iload 5, .iaload, .invokevirtual 44, .bipush 1, .istore 3, .jsr 103] := rfl
theorem b_42_103 : am_B 42 (Int.toNat 103) = [.iinc 4 1, .goto 12] := rfl
theorem b_42_109 : am_B 42 (Int.toNat 109) = [.iload 3, .areturn] := rfl
theorem b_43_e : am_B 43 0 = [.bipush 0, .istore 1, .jsr 2] := rfl
theorem b_43_2 : am_B 43 (Int.toNat 2) = [.iload 1, .bipush 5, .if_icmp .ge 27, .aload 0, .getfield 6, .iload 1, .bipush 0, .bastore, .aload 0, .getfield 8, .iload 1, .bipush 0, .iastore, .iinc 1 1, .goto 2] := rfl
theorem b_43_27 : am_B 43 (Int.toNat 27) = [.return_] := rfl
theorem b_44_e : am_B 44 0 = [.aload 0, .getfield 6, .iload 1, .bipush 1, .bastore, .aload 0, .getfield 7, .iload 1, .iload 2, .iastore, .aload 0, .getfield 8, .iload 1, .iload 3, .iastore, .return_] := rfl
theorem b_45_e : am_B 45 0 = [.bipush 0, .istore 1, .jsr 2] := rfl
theorem b_45_2 : am_B 45 (Int.toNat 2) = [.iload 1, .bipush 45, .if_icmp .gt 48, .aload 0, .invokevirtual 46, .ifCond .eq 22, .aload 0, .invokevirtual 53, .goto 26] := rfl
theorem b_45_22 : am_B 45 (Int.toNat 22) = [.aload 0, .invokevirtual 54, .jsr 26] := rfl
theorem b_45_26 : am_B 45 (Int.toNat 26) = [.istore 2, .iload 2, .ifCond .ge 32, .return_] := rfl
theorem b_45_32 : am_B 45 (Int.toNat 32) = [.aload 0, .getfield 8, .iload 2, .dup2, .iaload, .bipush 2, .idiv, .iastore, .iinc 1 1, .goto 2] := rfl
theorem b_45_48 : am_B 45 (Int.toNat 48) = [.return_] := rfl
theorem b_46_e : am_B 46 0 = [.aload 0, .invokevirtual 47, .sipush 0, .lcmp, .ifCond .ge 11, .bipush 0, .areturn] := rfl
theorem b_46_11 : am_B 46 (Int.toNat 11) = [.bipush 0, .istore 1, .jsr 13] := rfl
theorem b_46_13 : am_B 46 (Int.toNat 13) = [.iload 1, .aload 0, .getfield 5, .if_icmp .ge 34, .aload 0, .getfield 2, .iload 1, .bipush 1, .bastore, .iinc 1 1, .goto 13] := rfl
theorem b_46_34 : am_B 46 (Int.toNat 34) = [.bipush 0, .istore 1, .jsr 36] := rfl
theorem b_46_36 : am_B 46 (Int.toNat 36) = [.iload 1, .aload 0, .getfield 5, .if_icmp .ge 64, .aload 0, .invokevirtual 48, .aload 0, .invokevirtual 51, .ifCond .ne 58, .goto 64] := rfl
theorem b_46_58 : am_B 46 (Int.toNat 58) = [.iinc 1 1, .goto 36] := rfl
theorem b_46_64 : am_B 46 (Int.toNat 64) = [.aload 0, .invokevirtual 52, .bipush 1, .areturn] := rfl
theorem b_47_e : am_B 47 0 = [.sipush 0, .lstore 1, .bipush 0, .istore 3, .jsr 4] := rfl
theorem b_47_4 : am_B 47 (Int.toNat 4) = [.iload 3, .bipush 5, .if_icmp .ge 25, .lload 1, .aload 0, .getfield 8, .iload 3, .iaload, .i2l, .ladd, .lstore 1, .iinc 3 1, .goto 4] := rfl
theorem b_47_25 : am_B 47 (Int.toNat 25) = [.lload 1, .lreturn] := rfl
theorem b_48_e : am_B 48 0 = [.bipush (-1), .istore 1, .bipush 0, .istore 2, .jsr 4] := rfl
theorem b_48_4 : am_B 48 (Int.toNat 4) = [.iload 2, .aload 0, .getfield 5, .if_icmp .ge 40, .aload 0, .getfield 2, .iload 2, .baload, .ifCond .eq 34, .aload 0, .iload 2, .iload 1, .aload 0, .iload 2, .invokevirtual 49, .invokevirtual 50, .iload 2, .istore 1, .jsr 34] := rfl
theorem b_48_34 : am_B 48 (Int.toNat 34) = [.iinc 2 1, .goto 4] := rfl
theorem b_48_40 : am_B 48 (Int.toNat 40) = [.return_] := rfl
theorem b_49_e : am_B 49 0 = [.iload 1, .bipush 1, .iadd, .istore 2, .jsr 4] := rfl
theorem b_49_4 : am_B 49 (Int.toNat 4) = [.iload 2, .aload 0, .getfield 5, .if_icmp .ge 29, .aload 0, .getfield 2, .iload 2, .baload, .ifCond .eq 23, .iload 2, .ireturn] := rfl
theorem b_49_23 : am_B 49 (Int.toNat 23) = [.iinc 2 1, .goto 4] := rfl
theorem b_49_29 : am_B 49 (Int.toNat 29) = [.bipush (-1), .ireturn] := rfl
theorem b_50_e : am_B 50 0 = [.aload 0, .getfield 1, .iload 1, .iaload, .istore 4, .iload 2, .ifCond .ge 16, .sipush 1, .goto 26] := rfl
theorem b_50_16 : am_B 50 (Int.toNat 16) = [.iload 4, .aload 0, .getfield 1, .iload 2, .iaload, .isub, .i2l, .jsr 26] := rfl
theorem b_50_26 : am_B 50 (Int.toNat 26) = [.lstore 5, .iload 3, .ifCond .ge 36, .sipush 1, .goto 46] := rfl
theorem b_50_36 : am_B 50 (Int.toNat 36) = [.aload 0, .getfield 1, .iload 3, .iaload, .iload 4, .isub, .i2l, .jsr 46] := rfl
theorem b_50_46 : am_B 50 (Int.toNat 46) = [.lstore 7, .sipush 0, .lstore 9, .bipush 0, .istore 11, .jsr 54] := rfl
theorem b_50_54 : am_B 50 (Int.toNat 54) = [.iload 11, .bipush 5, .if_icmp .ge 205, .aload 0, .getfield 6, .iload 11, .baload, .ifCond .ne 73, .goto 199] := rfl
theorem b_50_73 : am_B 50 (Int.toNat 73) = [.aload 0, .getfield 7, .iload 11, .iaload, .istore 12, .iload 12, .iload 4, .if_icmp .ge 131, .lload 9, .aload 0, .getfield 8, .iload 11, .iaload, .i2l, .lload 7, .lmul, .iload 2, .ifCond .ge 110, .bipush 1, .goto 123] := rfl
theorem b_50_110 : am_B 50 (Int.toNat 110) = [.bipush 0, .iload 12, .aload 0, .getfield 1, .iload 2, .iaload, .isub, .fadd, .jsr 123] := rfl
theorem b_50_123 : am_B 50 (Int.toNat 123) = [.i2l, .lmul, .ladd, .lstore 9, .goto 199] := rfl
theorem b_50_131 : am_B 50 (Int.toNat 131) = [.iload 12, .iload 4, .if_icmp .le 180, .lload 9, .aload 0, .getfield 8, .iload 11, .iaload, .i2l, .lload 5, .lmul, .iload 3, .ifCond .ge 159, .bipush 1, .goto 172] := rfl
theorem b_50_159 : am_B 50 (Int.toNat 159) = [.bipush 0, .aload 0, .getfield 1, .iload 3, .iaload, .iload 12, .isub, .fadd, .jsr 172] := rfl
theorem b_50_172 : am_B 50 (Int.toNat 172) = [.i2l, .lmul, .ladd, .lstore 9, .goto 199] := rfl
theorem b_50_180 : am_B 50 (Int.toNat 180) = [.lload 9, .aload 0, .getfield 8, .iload 11, .iaload, .i2l, .lload 5, .lmul, .lload 7, .lmul, .ladd, .lstore 9, .jsr 199] := rfl
theorem b_50_199 : am_B 50 (Int.toNat 199) = [.iinc 11 1, .goto 54] := rfl
theorem b_50_205 : am_B 50 (Int.toNat 205) = [.aload 0, .getfield 3, .iload 1, .lload 9, .lastore, .aload 0, .getfield 4, .iload 1, .lload 5, .lload 7, .lmul, .lastore, .return_] := rfl
theorem b_51_e : am_B 51 0 = [.bipush 0, .istore 1, .bipush 0, .istore 2, .jsr 4] := rfl
theorem b_51_4 : am_B 51 (Int.toNat 4) = [.iload 2, .aload 0, .getfield 5, .if_icmp .ge 47, .aload 0, .getfield 2, .iload 2, .baload, .ifCond .eq 41, .aload 0, .getfield 3, .iload 2, .laload, .sipush 0, .lcmp, .ifCond .ge 41, .aload 0, .getfield 2, .iload 2, .bipush 0, .bastore, .bipush 1, .istore 1, .jsr 41] := rfl
theorem b_51_41 : am_B 51 (Int.toNat 41) = [.iinc 2 1, .goto 4] := rfl
theorem b_51_47 : am_B 51 (Int.toNat 47) = [.iload 1, .areturn] := rfl
theorem b_52_e : am_B 52 0 = [.bipush (-1), .istore 1, .bipush 0, .istore 2, .bipush 0, .istore 3, .jsr 6] := rfl
theorem b_52_6 : am_B 52 (Int.toNat 6) = [.iload 3, .aload 0, .getfield 5, .if_icmp .ge 71, .aload 0, .getfield 2, .iload 3, .baload, .ifCond .eq 65, .iload 2, .ifCond .ne 38, .aload 0, .getfield 3, .iload 3, .laload, .sipush 0, .lcmp, .ifCond .le 42, .jsr 38] := rfl
theorem b_52_38 : am_B 52 (Int.toNat 38) = [.bipush 1, .goto 43] := rfl
theorem b_52_42 : am_B 52 (Int.toNat 42) = [.bipush 0, .jsr 43] := rfl
theorem b_52_43 : am_B 52 (Int.toNat 43) = [.istore 2, .iload 1, .ifCond .lt 63, .aload 0, .getfield 0, .iload 3, .iaload, .aload 0, .getfield 0, .iload 1, .iaload, .if_icmp .ge 65, .jsr 63] := rfl
theorem b_52_63 : am_B 52 (Int.toNat 63) = [.iload 3, .istore 1, .jsr 65] := rfl
theorem b_52_65 : am_B 52 (Int.toNat 65) = [.iinc 3 1, .goto 6] := rfl
theorem b_52_71 : am_B 52 (Int.toNat 71) = [.bipush 0, .istore 3, .jsr 73] := rfl
theorem b_52_73 : am_B 52 (Int.toNat 73) = [.iload 3, .aload 0, .getfield 5, .if_icmp .ge 114, .aload 0, .getfield 3, .iload 3, .laload, .sipush 0, .lcmp, .ifCond .ne 108, .iload 2, .ifCond .ne 101, .iload 3, .iload 1, .if_icmp .eq 108, .jsr 101] := rfl
theorem b_52_101 : am_B 52 (Int.toNat 101) = [.aload 0, .getfield 2, .iload 3, .bipush 0, .bastore, .jsr 108] := rfl
theorem b_52_108 : am_B 52 (Int.toNat 108) = [.iinc 3 1, .goto 73] := rfl
theorem b_52_114 : am_B 52 (Int.toNat 114) = [.return_] := rfl
theorem b_53_e : am_B 53 0 = [.aload 0, .invokevirtual 54, .ifCond .ge 9, .bipush (-1), .ireturn] := rfl
theorem b_53_9 : am_B 53 (Int.toNat 9) = [.bipush (-1), .istore 1, .bipush 0, .istore 2, .bipush 0, .istore 3, .jsr 15] := rfl
theorem b_53_15 : am_B 53 (Int.toNat 15) = [.iload 3, .bipush 5, .if_icmp .ge 138, .aload 0, .getfield 6, .iload 3, .baload, .ifCond .ne 32, .goto 132] := rfl
theorem b_53_32 : am_B 53 (Int.toNat 32) = [.aload 0, .aload 0, .getfield 7, .iload 3, .iaload, .aload 0, .getfield 10, .invokevirtual 55, .iload 2, .ifCond .ne 76, .aload 0, .getfield 10, .getfield 256, .aload 0, .getfield 9, .bipush 3, .iaload, .i2l, .aload 0, .getfield 10, .getfield 257, .lmul, .lcmp, .ifCond .le 80, .jsr 76] := rfl
theorem b_53_76 : am_B 53 (Int.toNat 76) = [.bipush 1, .goto 81] := rfl
theorem b_53_80 : am_B 53 (Int.toNat 80) = [.bipush 0, .jsr 81] := rfl
theorem b_53_81 : am_B 53 (Int.toNat 81) = [.istore 2, .aload 0, .getfield 8, .iload 3, .iaload, .ifCond .ge 132, .iload 1, .ifCond .lt 109, .aload 0, .getfield 11, .aload 0, .getfield 10, .invokevirtual 59, .ifCond .eq 132, .jsr 109] := rfl
theorem b_53_109 : am_B 53 (Int.toNat 109) = [.iload 3, .istore 1, .aload 0, .getfield 11, .aload 0, .getfield 10, .getfield 256, .aload 0, .getfield 10, .getfield 257, .invokevirtual 58, .jsr 132] := rfl
theorem b_53_132 : am_B 53 (Int.toNat 132) = [.iinc 3 1, .goto 15] := rfl
theorem b_53_138 : am_B 53 (Int.toNat 138) = [.iload 2, .ifCond .eq 146, .iload 1, .goto 147] := rfl
theorem b_53_146 : am_B 53 (Int.toNat 146) = [.bipush (-1), .jsr 147] := rfl
theorem b_53_147 : am_B 53 (Int.toNat 147) = [.ireturn] := rfl
theorem b_54_e : am_B 54 0 = [.bipush (-1), .istore 1, .bipush 0, .istore 2, .jsr 4] := rfl
theorem b_54_4 : am_B 54 (Int.toNat 4) = [.iload 2, .bipush 5, .if_icmp .ge 45, .aload 0, .getfield 8, .iload 2, .iaload, .ifCond .ge 39, .iload 1, .ifCond .lt 37, .aload 0, .getfield 8, .iload 2, .iaload, .aload 0, .getfield 8, .iload 1, .iaload, .if_icmp .ge 39, .jsr 37] := rfl
theorem b_54_37 : am_B 54 (Int.toNat 37) = [.iload 2, .istore 1, .jsr 39] := rfl
theorem b_54_39 : am_B 54 (Int.toNat 39) = [.iinc 2 1, .goto 4] := rfl
theorem b_54_45 : am_B 54 (Int.toNat 45) = [.iload 1, .ireturn] := rfl
theorem b_55_e : am_B 55 0 = [.bipush (-1), .istore 3, .bipush (-1), .istore 4, .bipush 0, .istore 5, .jsr 8] := rfl
theorem b_55_8 : am_B 55 (Int.toNat 8) = [.iload 5, .aload 0, .getfield 5, .if_icmp .ge 77, .aload 0, .getfield 2, .iload 5, .baload, .ifCond .eq 41, .aload 0, .getfield 1, .iload 5, .iaload, .iload 1, .if_icmp .gt 41, .iload 5, .istore 3, .jsr 41] := rfl
theorem b_55_41 : am_B 55 (Int.toNat 41) = [.aload 0, .getfield 2, .iload 5, .baload, .ifCond .eq 71, .aload 0, .getfield 1, .iload 5, .iaload, .iload 1, .if_icmp .lt 71, .iload 4, .ifCond .ge 71, .iload 5, .istore 4, .jsr 71] := rfl
theorem b_55_71 : am_B 55 (Int.toNat 71) = [.iinc 5 1, .goto 8] := rfl
theorem b_55_77 : am_B 55 (Int.toNat 77) = [.sipush 1, .lstore 5, .sipush 0, .lstore 7, .iload 3, .ifCond .lt 133, .iload 4, .iload 3, .if_icmp .le 133, .aload 0, .getfield 1, .iload 4, .iaload, .aload 0, .getfield 1, .iload 3, .iaload, .isub, .i2l, .lstore 5, .aload 0, .aload 0, .getfield 1, .iload 3, .iaload, .aload 0, .getfield 1, .iload 4, .iaload, .iload 1, .invokevirtual 56, .lstore 7, .goto 157] := rfl
theorem b_55_133 : am_B 55 (Int.toNat 133) = [.iload 3, .iload 4, .if_icmp .eq 157, .aload 0, .aload 0, .getfield 1, .iload 3, .iload 4, .fadd, .iaload, .iload 1, .invokevirtual 57, .lstore 7, .jsr 157] := rfl
theorem b_55_157 : am_B 55 (Int.toNat 157) = [.aload 2, .sipush 1000, .aload 0, .getfield 9, .bipush 2, .iaload, .i2l, .lmul, .lload 5, .lmul, .aload 0, .getfield 9, .bipush 1, .iaload, .i2l, .lload 7, .lmul, .lsub, .sipush 1000, .lload 5, .lmul, .invokevirtual 58, .return_] := rfl
theorem b_56_e : am_B 56 0 = [.sipush 0, .lstore 4, .bipush 0, .istore 6, .jsr 6] := rfl
theorem b_56_6 : am_B 56 (Int.toNat 6) = [.iload 6, .bipush 5, .if_icmp .ge 82, .aload 0, .getfield 7, .iload 6, .iaload, .istore 7, .aload 0, .getfield 6, .iload 6, .baload, .ifCond .eq 76, .iload 7, .iload 1, .if_icmp .le 76, .iload 7, .iload 2, .if_icmp .ge 76, .lload 4, .aload 0, .getfield 8, .iload 6, .iaload, .i2l, .iload 3, .iload 7, .fsub, .iload 1, .isub, .i2l, .lmul, .iload 2, .iload 3, .iload 7, .fadd, .isub, .i2l, .lmul, .ladd, .lstore 4, .jsr 76] := rfl
theorem b_56_76 : am_B 56 (Int.toNat 76) = [.iinc 6 1, .goto 6] := rfl
theorem b_56_82 : am_B 56 (Int.toNat 82) = [.lload 4, .lreturn] := rfl
theorem b_57_e : am_B 57 0 = [.sipush 0, .lstore 3, .bipush 0, .istore 5, .jsr 5] := rfl
theorem b_57_5 : am_B 57 (Int.toNat 5) = [.iload 5, .bipush 5, .if_icmp .ge 89, .aload 0, .getfield 7, .iload 5, .iaload, .istore 6, .aload 0, .getfield 6, .iload 5, .baload, .ifCond .eq 83, .iload 6, .iload 1, .if_icmp .le 40, .bipush 1, .goto 41] := rfl
theorem b_57_40 : am_B 57 (Int.toNat 40) = [.bipush 0, .jsr 41] := rfl
theorem b_57_41 : am_B 57 (Int.toNat 41) = [.iload 2, .iload 1, .if_icmp .le 50, .bipush 1, .goto 51] := rfl
theorem b_57_50 : am_B 57 (Int.toNat 50) = [.bipush 0, .jsr 51] := rfl
theorem b_57_51 : am_B 57 (Int.toNat 51) = [.if_icmp .ne 83, .lload 3, .aload 0, .getfield 8, .iload 5, .iaload, .i2l, .iload 2, .iload 1, .isub, .fmul, .iload 6, .iload 1, .isub, .fmul, .fsub, .i2l, .lmul, .ladd, .lstore 3, .jsr 83] := rfl
theorem b_57_83 : am_B 57 (Int.toNat 83) = [.iinc 5 1, .goto 5] := rfl
theorem b_57_89 : am_B 57 (Int.toNat 89) = [.lload 3, .lreturn] := rfl
theorem b_58_e : am_B 58 0 = [.aload 0, .lload 1, .putfield 256, .aload 0, .lload 3, .putfield 257, .return_] := rfl
theorem b_59_e : am_B 59 0 = [.aload 0, .getfield 256, .aload 1, .getfield 257, .lmul, .aload 1, .getfield 256, .aload 0, .getfield 257, .lmul, .lcmp, .ifCond .ge 26, .bipush 1, .goto 27] := rfl
theorem b_59_26 : am_B 59 (Int.toNat 26) = [.bipush 0, .jsr 27] := rfl
theorem b_59_27 : am_B 59 (Int.toNat 27) = [.areturn] := rfl
theorem b_60_e : am_B 60 0 = [.iload 1, .invokevirtual 23, .ifCond .ne 9, .bipush (-1), .ireturn] := rfl
theorem b_60_9 : am_B 60 (Int.toNat 9) = [.aload 0, .getfield 512, .invokevirtual 36, .ifCond .eq 22, .bipush (-3), .ireturn] := rfl
theorem b_60_22 : am_B 60 (Int.toNat 22) = [.aload 0, .getfield 513, .iload 1, .invokevirtual 38, .aload 0, .getfield 513, .getfield 64, .invokevirtual 61, .ireturn] := rfl
theorem b_61_e : am_B 61 0 = [.bipush 0, .istore 1, .bipush 0, .istore 2, .jsr 4] := rfl
theorem b_61_4 : am_B 61 (Int.toNat 4) = [.iload 2, .aload 0, .getfield 5, .if_icmp .ge 38, .aload 0, .getfield 2, .iload 2, .baload, .ifCond .eq 32, .iload 1, .bipush 1, .aload 0, .getfield 0, .iload 2, .iaload, .ishl, .ior, .istore 1, .jsr 32] := rfl
theorem b_61_32 : am_B 61 (Int.toNat 32) = [.iinc 2 1, .goto 4] := rfl
theorem b_61_38 : am_B 61 (Int.toNat 38) = [.iload 1, .ireturn] := rfl
theorem b_62_e : am_B 62 0 = [.iload 1, .invokevirtual 23, .ifCond .eq 35, .aload 0, .getfield 512, .iload 2, .invokevirtual 14, .ifCond .eq 35, .iload 3, .invokevirtual 63, .ifCond .eq 35, .aload 0, .getfield 512, .invokevirtual 36, .ifCond .eq 39, .jsr 35] := rfl
theorem b_62_35 : am_B 62 (Int.toNat 35) = [.sipush (-9223372036854775808), .lreturn] := rfl
theorem b_62_39 : am_B 62 (Int.toNat 39) = [.aload 0, .getfield 513, .iload 1, .invokevirtual 38, .aload 0, .getfield 513, .getfield 64, .iload 2, .aload 0, .getfield 515, .invokevirtual 55, .aload 0, .getfield 515, .iload 3, .invokevirtual 64, .lreturn] := rfl
theorem b_63_e : am_B 63 0 = [.iload 0, .ifCond .eq 9, .iload 0, .bipush 1, .if_icmp .ne 13, .jsr 9] := rfl
theorem b_63_9 : am_B 63 (Int.toNat 9) = [.bipush 1, .goto 14] := rfl
theorem b_63_13 : am_B 63 (Int.toNat 13) = [.bipush 0, .jsr 14] := rfl
theorem b_63_14 : am_B 63 (Int.toNat 14) = [.areturn] := rfl
theorem b_64_e : am_B 64 0 = [.aload 0, .getfield 256, .fdiv, .aload 0, .getfield 257, .invokevirtual 65, .lstore 2, .lload 2, .sipush 0, .lcmp, .ifCond .gt 25, .sipush (-9223372036854775808), .lreturn] := rfl
theorem b_64_25 : am_B 64 (Int.toNat 25) = [.iload 1, .ifCond .ne 38, .aload 0, .getfield 256, .lload 2, .ldiv, .goto 44] := rfl
theorem b_64_38 : am_B 64 (Int.toNat 38) = [.aload 0, .getfield 257, .lload 2, .ldiv, .jsr 44] := rfl
theorem b_64_44 : am_B 64 (Int.toNat 44) = [.lreturn] := rfl
theorem b_65_e : am_B 65 0 = [.lload 0, .lstore 4, .lload 2, .lstore 6, .bipush 0, .istore 8, .jsr 9] := rfl
theorem b_65_9 : am_B 65 (Int.toNat 9) = [.iload 8, .bipush 100, .if_icmp .ge 44, .lload 6, .sipush 0, .lcmp, .ifCond .eq 44, .lload 4, .lload 6, .lrem, .lstore 9, .lload 6, .lstore 4, .lload 9, .lstore 6, .iinc 8 1, .goto 9] := rfl
theorem b_65_44 : am_B 65 (Int.toNat 44) = [.lload 4, .lreturn] := rfl
theorem b_66_e : am_B 66 0 = [.iload 1, .invokevirtual 23, .ifCond .eq 35, .aload 0, .getfield 512, .iload 2, .invokevirtual 17, .ifCond .eq 35, .iload 3, .invokevirtual 63, .ifCond .eq 35, .aload 0, .getfield 512, .invokevirtual 36, .ifCond .eq 39, .jsr 35] := rfl
theorem b_66_35 : am_B 66 (Int.toNat 35) = [.sipush (-9223372036854775808), .lreturn] := rfl
theorem b_66_39 : am_B 66 (Int.toNat 39) = [.aload 0, .getfield 513, .iload 1, .invokevirtual 38, .aload 0, .getfield 513, .getfield 64, .iload 2, .aload 0, .getfield 515, .invokevirtual 67, .aload 0, .getfield 515, .iload 3, .invokevirtual 64, .lreturn] := rfl
theorem b_67_e : am_B 67 0 = [.aload 2, .sipush 0, .sipush 1, .invokevirtual 58, .bipush 0, .istore 3, .jsr 8] := rfl
theorem b_67_8 : am_B 67 (Int.toNat 8) = [.iload 3, .aload 0, .getfield 5, .if_icmp .ge 57, .aload 0, .getfield 2, .iload 3, .baload, .ifCond .eq 51, .aload 0, .getfield 0, .iload 3, .iaload, .iload 1, .if_icmp .ne 51, .aload 2, .aload 0, .getfield 3, .iload 3, .laload, .aload 0, .getfield 4, .iload 3, .laload, .invokevirtual 58, .jsr 51] := rfl
theorem b_67_51 : am_B 67 (Int.toNat 51) = [.iinc 3 1, .goto 8] := rfl
theorem b_67_57 : am_B 67 (Int.toNat 57) = [.return_] := rfl
theorem b_68_e : am_B 68 0 = [.iload 1, .ifCond .lt 19, .iload 1, .bipush 3, .if_icmp .gt 19, .aload 0, .getfield 512, .invokevirtual 36, .ifCond .eq 23, .jsr 19] := rfl
theorem b_68_19 : am_B 68 (Int.toNat 19) = [.sipush (-9223372036854775808), .lreturn] := rfl
theorem b_68_23 : am_B 68 (Int.toNat 23) = [.aload 0, .getfield 513, .bipush (-9), .invokevirtual 39, .aload 0, .getfield 513, .sipush (-1000000000), .sipush 1, .invokevirtual 69, .ifCond .ne 50, .sipush (-9223372036854775808), .lreturn] := rfl
theorem b_68_50 : am_B 68 (Int.toNat 50) = [.iload 1, .bipush 2, .if_icmp .ne 64, .aload 0, .getfield 513, .getfield 66, .i2l, .lreturn] := rfl
theorem b_68_64 : am_B 68 (Int.toNat 64) = [.iload 1, .bipush 3, .if_icmp .ne 80, .aload 0, .getfield 513, .getfield 67, .i2l, .goto 91] := rfl
theorem b_68_80 : am_B 68 (Int.toNat 80) = [.aload 0, .getfield 513, .getfield 65, .iload 1, .invokevirtual 64, .jsr 91] := rfl
theorem b_68_91 : am_B 68 (Int.toNat 91) = [.lreturn] := rfl
theorem b_69_e : am_B 69 0 = [.bipush 0, .istore 5, .aload 0, .getfield 75, .lload 1, .lload 3, .invokevirtual 58, .bipush 0, .istore 6, .jsr 15] := rfl
theorem b_69_15 : am_B 69 (Int.toNat 15) = [.iload 6, .bipush 24, .if_icmp .ge 79, .aload 0, .iload 6, .aload 0, .getfield 73, .getfield 131, .invokevirtual 42, .ifCond .eq 73, .aload 0, .getfield 64, .invokevirtual 45, .aload 0, .iload 6, .iload 5, .invokevirtual 70, .bipush 1, .istore 5, .aload 0, .getfield 75, .aload 0, .getfield 65, .invokevirtual 59, .ifCond .ne 73, .goto 79] := rfl
theorem b_69_73 : am_B 69 (Int.toNat 73) = [.iinc 6 1, .goto 15] := rfl
theorem b_69_79 : am_B 69 (Int.toNat 79) = [.iload 5, .areturn] := rfl
theorem b_70_e : am_B 70 0 = [.iload 2, .istore 3, .bipush 0, .istore 4, .jsr 5] := rfl
theorem b_70_5 : am_B 70 (Int.toNat 5) = [.iload 4, .aload 0, .getfield 73, .getfield 133, .if_icmp .ge 109, .aload 0, .getfield 64, .getfield 6, .iload 4, .baload, .ifCond .eq 103, .aload 0, .getfield 64, .aload 0, .getfield 64, .getfield 7, .iload 4, .iaload, .aload 0, .getfield 74, .invokevirtual 55, .iload 3, .ifCond .eq 69, .aload 0, .getfield 74, .aload 0, .getfield 65, .invokevirtual 59, .ifCond .eq 103, .jsr 69] := rfl
theorem b_70_69 : am_B 70 (Int.toNat 69) = [.aload 0, .getfield 65, .aload 0, .getfield 74, .getfield 256, .aload 0, .getfield 74, .getfield 257, .invokevirtual 58, .aload 0, .iload 1, .putfield 66, .aload 0, .iload 4, .putfield 67, .bipush 1, .istore 3, .jsr 103] := rfl
theorem b_70_103 : am_B 70 (Int.toNat 103) = [.iinc 4 1, .goto 5] := rfl
theorem b_70_109 : am_B 70 (Int.toNat 109) = [.return_] := rfl
theorem b_71_e : am_B 71 0 = [.aload 0, .getfield 512, .invokevirtual 36, .ifCond .eq 13, .bipush (-3), .ireturn] := rfl
theorem b_71_13 : am_B 71 (Int.toNat 13) = [.aload 0, .getfield 513, .bipush (-9), .invokevirtual 72, .ifCond .eq 29, .bipush 1, .goto 30] := rfl
theorem b_71_29 : am_B 71 (Int.toNat 29) = [.bipush 0, .jsr 30] := rfl
theorem b_71_30 : am_B 71 (Int.toNat 30) = [.ireturn] := rfl
theorem b_72_e : am_B 72 0 = [.aload 0, .iload 1, .invokevirtual 39, .aload 0, .getfield 64, .getfield 5, .ifCond .ne 17, .bipush 0, .areturn] := rfl
theorem b_72_17 : am_B 72 (Int.toNat 17) = [.aload 0, .sipush (-1000000000), .sipush 1, .invokevirtual 69, .ifCond .eq 57, .aload 0, .getfield 65, .getfield 256, .aload 0, .getfield 73, .getfield 128, .bipush 4, .iaload, .i2l, .aload 0, .getfield 65, .getfield 257, .lmul, .lcmp, .ifCond .lt 61, .jsr 57] := rfl
theorem b_72_57 : am_B 72 (Int.toNat 57) = [.bipush 1, .goto 62] := rfl
theorem b_72_61 : am_B 72 (Int.toNat 61) = [.bipush 0, .jsr 62] := rfl
theorem b_72_62 : am_B 72 (Int.toNat 62) = [.areturn] := rfl
theorem b_73_e : am_B 73 0 = [.aload 0, .getfield 512, .invokevirtual 36, .ifCond .eq 13, .bipush (-3), .ireturn] := rfl
theorem b_73_13 : am_B 73 (Int.toNat 13) = [.bipush 0, .istore 1, .jsr 15] := rfl
theorem b_73_15 : am_B 73 (Int.toNat 15) = [.iload 1, .aload 0, .getfield 512, .getfield 132, .if_icmp .ge 60, .aload 0, .getfield 512, .getfield 129, .iload 1, .aaload, .getfield 386, .ifCond .eq 54, .aload 0, .getfield 513, .iload 1, .invokevirtual 72, .ifCond .ne 54, .iload 1, .ireturn] := rfl
theorem b_73_54 : am_B 73 (Int.toNat 54) = [.iinc 1 1, .goto 15] := rfl
theorem b_73_60 : am_B 73 (Int.toNat 60) = [.bipush (-9), .ireturn] := rfl
theorem b_74_e : am_B 74 0 = [.iload 1, .invokevirtual 63, .ifCond .eq 17, .aload 0, .getfield 512, .invokevirtual 36, .ifCond .eq 21, .jsr 17] := rfl
theorem b_74_17 : am_B 74 (Int.toNat 17) = [.sipush (-9223372036854775808), .lreturn] := rfl
theorem b_74_21 : am_B 74 (Int.toNat 21) = [.aload 0, .getfield 513, .bipush (-9), .invokevirtual 39, .aload 0, .getfield 513, .aload 0, .getfield 512, .getfield 131, .sipush 1000000000, .sipush 1, .invokevirtual 75, .aload 0, .getfield 513, .getfield 68, .iload 1, .invokevirtual 64, .lreturn] := rfl
theorem b_75_e : am_B 75 0 = [.aload 0, .getfield 75, .lload 2, .lload 4, .invokevirtual 58, .aload 0, .getfield 68, .sipush 0, .sipush 1, .invokevirtual 58, .bipush 0, .istore 6, .jsr 22] := rfl
theorem b_75_22 : am_B 75 (Int.toNat 22) = [.iload 6, .bipush 24, .if_icmp .ge 78, .aload 0, .iload 6, .aload 1, .invokevirtual 42, .ifCond .eq 72, .aload 0, .getfield 64, .invokevirtual 45, .aload 0, .getfield 64, .aload 0, .getfield 68, .invokevirtual 76, .aload 0, .getfield 68, .aload 0, .getfield 75, .invokevirtual 59, .ifCond .ne 72, .return_] := rfl
theorem b_75_72 : am_B 75 (Int.toNat 72) = [.iinc 6 1, .goto 22] := rfl
theorem b_75_78 : am_B 75 (Int.toNat 78) = [.return_] := rfl
theorem b_76_e : am_B 76 0 = [.bipush 0, .istore 2, .jsr 2] := rfl
theorem b_76_2 : am_B 76 (Int.toNat 2) = [.iload 2, .aload 0, .getfield 5, .if_icmp .ge 71, .aload 0, .getfield 2, .iload 2, .baload, .ifCond .eq 65, .aload 0, .getfield 10, .aload 0, .getfield 3, .iload 2, .laload, .aload 0, .getfield 4, .iload 2, .laload, .invokevirtual 58, .aload 1, .aload 0, .getfield 10, .invokevirtual 59, .ifCond .eq 65, .aload 1, .aload 0, .getfield 3, .iload 2, .laload, .aload 0, .getfield 4, .iload 2, .laload, .invokevirtual 58, .jsr 65] := rfl
theorem b_76_65 : am_B 76 (Int.toNat 65) = [.iinc 2 1, .goto 2] := rfl
theorem b_76_71 : am_B 76 (Int.toNat 71) = [.return_] := rfl
theorem b_77_e : am_B 77 0 = [.aload 0, .getfield 512, .iload 1, .invokevirtual 14, .ifCond .ne 13, .bipush (-1), .ireturn] := rfl
theorem b_77_13 : am_B 77 (Int.toNat 13) = [.iload 2, .invokevirtual 78, .ifCond .ne 23, .bipush (-2), .ireturn] := rfl
theorem b_77_23 : am_B 77 (Int.toNat 23) = [.aload 0, .getfield 512, .invokevirtual 36, .ifCond .eq 36, .bipush (-3), .ireturn] := rfl
theorem b_77_36 : am_B 77 (Int.toNat 36) = [.aload 0, .getfield 513, .bipush (-9), .invokevirtual 39, .aload 0, .getfield 513, .iload 1, .iload 2, .invokevirtual 79, .aload 0, .getfield 513, .getfield 64, .invokevirtual 61, .ireturn] := rfl
theorem b_78_e : am_B 78 0 = [.iload 0, .bipush 1, .if_icmp .lt 15, .iload 0, .bipush 100000, .if_icmp .gt 15, .bipush 1, .goto 16] := rfl
theorem b_78_15 : am_B 78 (Int.toNat 15) = [.bipush 0, .jsr 16] := rfl
theorem b_78_16 : am_B 78 (Int.toNat 16) = [.areturn] := rfl
theorem b_79_e : am_B 79 0 = [.aload 0, .getfield 64, .invokevirtual 43, .aload 0, .getfield 64, .bipush 0, .iload 1, .iload 2, .invokevirtual 44, .aload 0, .getfield 64, .invokevirtual 46, .pop, .return_] := rfl
theorem b_80_e : am_B 80 0 = [.iload 1, .invokevirtual 78, .ifCond .ne 10, .bipush (-2), .ireturn] := rfl
theorem b_80_10 : am_B 80 (Int.toNat 10) = [.aload 0, .getfield 512, .invokevirtual 36, .ifCond .eq 23, .bipush (-3), .ireturn] := rfl
theorem b_80_23 : am_B 80 (Int.toNat 23) = [.aload 0, .getfield 513, .bipush (-9), .invokevirtual 39, .aload 0, .getfield 513, .invokevirtual 81, .ifCond .eq 44, .bipush 1, .ireturn] := rfl
theorem b_80_44 : am_B 80 (Int.toNat 44) = [.aload 0, .getfield 513, .iload 1, .invokevirtual 83, .ifCond .eq 59, .bipush 0, .goto 60] := rfl
theorem b_80_59 : am_B 80 (Int.toNat 59) = [.bipush 2, .jsr 60] := rfl
theorem b_80_60 : am_B 80 (Int.toNat 60) = [.ireturn] := rfl
theorem b_81_e : am_B 81 0 = [.bipush 0, .istore 1, .jsr 2] := rfl
theorem b_81_2 : am_B 81 (Int.toNat 2) = [.iload 1, .bipush 24, .if_icmp .ge 43, .aload 0, .iload 1, .aload 0, .getfield 73, .getfield 131, .invokevirtual 42, .pop, .aload 0, .getfield 64, .invokevirtual 45, .aload 0, .invokevirtual 82, .ifCond .eq 37, .bipush 1, .areturn] := rfl
theorem b_81_37 : am_B 81 (Int.toNat 37) = [.iinc 1 1, .goto 2] := rfl
theorem b_81_43 : am_B 81 (Int.toNat 43) = [.bipush 0, .areturn] := rfl
theorem b_82_e : am_B 82 0 = [.bipush 0, .istore 1, .jsr 2] := rfl
theorem b_82_2 : am_B 82 (Int.toNat 2) = [.iload 1, .aload 0, .getfield 64, .getfield 5, .if_icmp .ge 79, .aload 0, .getfield 73, .getfield 129, .aload 0, .getfield 64, .getfield 0, .iload 1, .iaload, .aaload, .getfield 387, .i2l, .lstore 2, .aload 0, .getfield 64, .getfield 2, .iload 1, .baload, .ifCond .eq 73, .aload 0, .getfield 64, .getfield 3, .iload 1, .laload, .lload 2, .aload 0, .getfield 64, .getfield 4, .iload 1, .laload, .lmul, .lcmp, .ifCond .lt 73, .bipush 1, .areturn] := rfl
theorem b_82_73 : am_B 82 (Int.toNat 73) = [.iinc 1 1, .goto 2] := rfl
theorem b_82_79 : am_B 82 (Int.toNat 79) = [.bipush 0, .areturn] := rfl
theorem b_83_e : am_B 83 0 = [.bipush 0, .istore 2, .jsr 2] := rfl
theorem b_83_2 : am_B 83 (Int.toNat 2) = [.iload 2, .aload 0, .getfield 73, .getfield 128, .bipush 0, .iaload, .if_icmp .gt 36, .aload 0, .iload 2, .iload 1, .invokevirtual 79, .aload 0, .invokevirtual 82, .ifCond .ne 30, .bipush 0, .areturn] := rfl
theorem b_83_30 : am_B 83 (Int.toNat 30) = [.iinc 2 1, .goto 2] := rfl
theorem b_83_36 : am_B 83 (Int.toNat 36) = [.bipush 1, .areturn] := rfl
theorem b_84_e : am_B 84 0 = [.iload 2, .bipush 10, .if_icmp .lt 10, .bipush 1, .goto 11] := rfl
theorem b_84_10 : am_B 84 (Int.toNat 10) = [.bipush 0, .jsr 11] := rfl
theorem b_84_11 : am_B 84 (Int.toNat 11) = [.istore 3, .iload 1, .bipush 1, .if_icmp .lt 33, .iload 1, .bipush 2, .if_icmp .gt 33, .iload 3, .ifCond .ne 37, .iload 2, .invokevirtual 63, .ifCond .ne 37, .jsr 33] := rfl
theorem b_84_33 : am_B 84 (Int.toNat 33) = [.sipush (-9223372036854775808), .lreturn] := rfl
theorem b_84_37 : am_B 84 (Int.toNat 37) = [.iload 3, .ifCond .eq 55, .aload 0, .getfield 512, .iload 2, .bipush 10, .isub, .invokevirtual 22, .ifCond .eq 65, .jsr 55] := rfl
theorem b_84_55 : am_B 84 (Int.toNat 55) = [.aload 0, .getfield 512, .invokevirtual 36, .ifCond .eq 69, .jsr 65] := rfl
theorem b_84_65 : am_B 84 (Int.toNat 65) = [.sipush (-9223372036854775808), .lreturn] := rfl
theorem b_84_69 : am_B 84 (Int.toNat 69) = [.aload 0, .getfield 513, .getfield 69, .iload 1, .bipush 1, .isub, .aaload, .astore 4, .aload 4, .getfield 194, .ifCond .ne 100, .aload 0, .getfield 513, .iload 1, .aload 4, .invokevirtual 85, .jsr 100] := rfl
theorem b_84_100 : am_B 84 (Int.toNat 100) = [.iload 3, .ifCond .eq 118, .aload 4, .getfield 193, .iload 2, .bipush 10, .isub, .iaload, .i2l, .goto 127] := rfl
theorem b_84_118 : am_B 84 (Int.toNat 118) = [.aload 4, .getfield 192, .iload 2, .invokevirtual 64, .jsr 127] := rfl
theorem b_84_127 : am_B 84 (Int.toNat 127) = [.lreturn] := rfl
theorem b_85_e : am_B 85 0 = [.bipush 1, .istore 3, .bipush 0, .istore 4, .jsr 5] := rfl
theorem b_85_5 : am_B 85 (Int.toNat 5) = [.iload 4, .aload 0, .getfield 73, .getfield 133, .if_icmp .ge 29, .iload 3, .iload 1, .bipush 1, .iadd, .imul, .istore 3, .iinc 4 1, .goto 5] := rfl
theorem b_85_29 : am_B 85 (Int.toNat 29) = [.aload 0, .bipush (-9), .invokevirtual 39, .aload 2, .getfield 192, .sipush 1000000000, .sipush 1, .invokevirtual 58, .bipush 0, .istore 4, .jsr 49] := rfl
theorem b_85_49 : am_B 85 (Int.toNat 49) = [.iload 4, .iload 3, .if_icmp .ge 156, .aload 0, .iload 4, .iload 1, .bipush 1, .iadd, .invokevirtual 86, .aload 0, .aload 0, .getfield 76, .aload 2, .getfield 192, .getfield 256, .aload 2, .getfield 192, .getfield 257, .invokevirtual 75, .aload 0, .getfield 68, .aload 2, .getfield 192, .invokevirtual 59, .ifCond .eq 150, .aload 2, .getfield 192, .aload 0, .getfield 68, .getfield 256, .aload 0, .getfield 68, .getfield 257, .invokevirtual 58, .bipush 0, .istore 5, .jsr 124] := rfl
theorem b_85_124 : am_B 85 (Int.toNat 124) = [.iload 5, .bipush 5, .if_icmp .ge 150, .aload 2, .getfield 193, .iload 5, .aload 0, .getfield 76, .iload 5, .iaload, .iastore, .iinc 5 1, .goto 124] := rfl
theorem b_85_150 : am_B 85 (Int.toNat 150) = [.iinc 4 1, .goto 49] := rfl
theorem b_85_156 : am_B 85 (Int.toNat 156) = [.aload 2, .bipush 1, .putfield 194, .return_] := rfl
theorem b_86_e : am_B 86 0 = [.iload 1, .istore 3, .aload 0, .getfield 73, .getfield 133, .bipush 1, .isub, .istore 4, .jsr 13] := rfl
theorem b_86_13 : am_B 86 (Int.toNat 13) = [.iload 4, .ifCond .lt 54, .aload 0, .getfield 76, .iload 4, .iload 2, .ifCond .le 34, .iload 3, .iload 2, .irem, .goto 35] := rfl
theorem b_86_34 : am_B 86 (Int.toNat 34) = [.bipush 0, .jsr 35] := rfl
theorem b_86_35 : am_B 86 (Int.toNat 35) = [.iastore, .iload 2, .ifCond .le 46, .iload 3, .iload 2, .idiv, .goto 47] := rfl
theorem b_86_46 : am_B 86 (Int.toNat 46) = [.bipush 0, .jsr 47] := rfl
theorem b_86_47 : am_B 86 (Int.toNat 47) = [.istore 3, .iinc 4 (-1), .goto 13] := rfl
theorem b_86_54 : am_B 86 (Int.toNat 54) = [.return_] := rfl
theorem b_87_e : am_B 87 0 = [.aload 0, .getfield 512, .iload 1, .invokevirtual 22, .ifCond .eq 21, .aload 0, .getfield 512, .invokevirtual 36, .ifCond .eq 25, .jsr 21] := rfl
theorem b_87_21 : am_B 87 (Int.toNat 21) = [.sipush (-9223372036854775808), .lreturn] := rfl
theorem b_87_25 : am_B 87 (Int.toNat 25) = [.aload 0, .getfield 513, .bipush (-9), .invokevirtual 39, .aload 0, .getfield 513, .iload 1, .invokevirtual 88, .lreturn] := rfl
theorem b_88_e : am_B 88 0 = [.sipush 0, .lstore 2, .bipush 0, .istore 4, .jsr 5] := rfl
theorem b_88_5 : am_B 88 (Int.toNat 5) = [.iload 4, .bipush 24, .if_icmp .ge 91, .aload 0, .iload 4, .aload 0, .getfield 73, .getfield 131, .invokevirtual 42, .pop, .aload 0, .getfield 64, .getfield 6, .iload 1, .baload, .ifCond .eq 85, .aload 0, .getfield 64, .invokevirtual 45, .aload 0, .getfield 64, .aload 0, .getfield 64, .getfield 7, .iload 1, .iaload, .aload 0, .getfield 74, .invokevirtual 55, .lload 2, .aload 0, .getfield 74, .aload 0, .getfield 64, .getfield 8, .iload 1, .iaload, .i2l, .invokevirtual 89, .ladd, .lstore 2, .jsr 85] := rfl
theorem b_88_85 : am_B 88 (Int.toNat 85) = [.iinc 4 1, .goto 5] := rfl
theorem b_88_91 : am_B 88 (Int.toNat 91) = [.lload 2, .lreturn] := rfl
theorem b_89_e : am_B 89 0 = [.aload 0, .getfield 257, .sipush 0, .lcmp, .ifCond .le 23, .aload 0, .getfield 256, .lload 1, .lmul, .aload 0, .getfield 257, .ldiv, .goto 24] := rfl
theorem b_89_23 : am_B 89 (Int.toNat 23) = [.sipush 0, .jsr 24] := rfl
theorem b_89_24 : am_B 89 (Int.toNat 24) = [.lreturn] := rfl
theorem b_90_e : am_B 90 0 = [.aload 0, .getfield 512, .iload 1, .invokevirtual 17, .ifCond .eq 21, .aload 0, .getfield 512, .invokevirtual 36, .ifCond .eq 25, .jsr 21] := rfl
theorem b_90_21 : am_B 90 (Int.toNat 21) = [.sipush (-9223372036854775808), .lreturn] := rfl
theorem b_90_25 : am_B 90 (Int.toNat 25) = [.aload 0, .getfield 513, .bipush (-9), .invokevirtual 39, .aload 0, .getfield 513, .iload 1, .invokevirtual 91, .lreturn] := rfl
theorem b_91_e : am_B 91 0 = [.sipush 0, .lstore 2, .bipush 0, .istore 4, .jsr 5] := rfl
theorem b_91_5 : am_B 91 (Int.toNat 5) = [.iload 4, .bipush 24, .if_icmp .ge 73, .aload 0, .iload 4, .aload 0, .getfield 73, .getfield 131, .invokevirtual 42, .ifCond .eq 67, .aload 0, .getfield 64, .invokevirtual 45, .aload 0, .getfield 64, .iload 1, .aload 0, .getfield 74, .invokevirtual 67, .lload 2, .aload 0, .getfield 74, .aload 0, .getfield 73, .getfield 128, .bipush 2, .iaload, .i2l, .invokevirtual 89, .ladd, .lstore 2, .jsr 67] := rfl
theorem b_91_67 : am_B 91 (Int.toNat 67) = [.iinc 4 1, .goto 5] := rfl
theorem b_91_73 : am_B 91 (Int.toNat 73) = [.lload 2, .lreturn] := rfl
theorem b_92_e : am_B 92 0 = [.iload 1, .ifCond .lt 20, .iload 1, .bipush 2, .if_icmp .gt 20, .aload 0, .getfield 512, .getfield 132, .bipush 5, .if_icmp .lt 24, .jsr 20] := rfl
theorem b_92_20 : am_B 92 (Int.toNat 20) = [.sipush (-9223372036854775808), .lreturn] := rfl
theorem b_92_24 : am_B 92 (Int.toNat 24) = [.aload 0, .getfield 513, .getfield 72, .ifCond .ne 41, .aload 0, .getfield 513, .invokevirtual 93, .jsr 41] := rfl
theorem b_92_41 : am_B 92 (Int.toNat 41) = [.aload 0, .getfield 513, .getfield 71, .bipush (-9), .if_icmp .ne 57, .sipush (-9223372036854775808), .lreturn] := rfl
theorem b_92_57 : am_B 92 (Int.toNat 57) = [.iload 1, .ifCond .ne 72, .aload 0, .getfield 513, .getfield 71, .i2l, .goto 85] := rfl
theorem b_92_72 : am_B 92 (Int.toNat 72) = [.aload 0, .getfield 513, .getfield 70, .iload 1, .bipush 1, .isub, .invokevirtual 64, .jsr 85] := rfl
theorem b_92_85 : am_B 92 (Int.toNat 85) = [.lreturn] := rfl
theorem b_93_e : am_B 93 0 = [.aload 0, .bipush (-9), .putfield 71, .aload 0, .getfield 70, .sipush (-1000000000), .sipush 1, .invokevirtual 58, .bipush 0, .istore 1, .jsr 19] := rfl
theorem b_93_19 : am_B 93 (Int.toNat 19) = [.iload 1, .aload 0, .getfield 73, .getfield 128, .bipush 0, .iaload, .if_icmp .gt 131, .aload 0, .getfield 73, .iload 1, .invokevirtual 15, .ifCond .ne 125, .aload 0, .bipush (-9), .invokevirtual 39, .aload 0, .getfield 64, .aload 0, .getfield 73, .getfield 132, .iload 1, .invokevirtual 41, .aload 0, .aload 0, .getfield 70, .getfield 256, .aload 0, .getfield 70, .getfield 257, .invokevirtual 69, .ifCond .eq 125, .aload 0, .getfield 70, .aload 0, .getfield 65, .invokevirtual 59, .ifCond .eq 125, .aload 0, .getfield 70, .aload 0, .getfield 65, .getfield 256, .aload 0, .getfield 65, .getfield 257, .invokevirtual 58, .aload 0, .iload 1, .putfield 71, .jsr 125] := rfl
theorem b_93_125 : am_B 93 (Int.toNat 125) = [.iinc 1 1, .goto 19] := rfl
theorem b_93_131 : am_B 93 (Int.toNat 131) = [.aload 0, .bipush 1, .putfield 72, .return_] := rfl
theorem b_94_e : am_B 94 0 = [.aload 0, .bipush 0, .putfield 517, .iload 1, .invokevirtual 27, .ifCond .ne 14, .bipush (-1), .ireturn] := rfl
theorem b_94_14 : am_B 94 (Int.toNat 14) = [.iload 2, .invokevirtual 28, .ifCond .eq 27, .iload 3, .bipush 60, .if_icmp .le 30, .jsr 27] := rfl
theorem b_94_27 : am_B 94 (Int.toNat 27) = [.bipush (-2), .ireturn] := rfl
theorem b_94_30 : am_B 94 (Int.toNat 30) = [.iload 3, .ifCond .ge 40, .aload 0, .bipush 4, .invokevirtual 31, .ireturn] := rfl
theorem b_94_40 : am_B 94 (Int.toNat 40) = [.aload 0, .getfield 514, .iload 1, .aaload, .iload 2, .iload 3, .invokevirtual 95, .bipush 1, .ireturn] := rfl
theorem b_95_e : am_B 95 0 = [.bipush 0, .istore 3, .jsr 2] := rfl
theorem b_95_2 : am_B 95 (Int.toNat 2) = [.iload 3, .bipush 60, .if_icmp .ge 21, .aload 0, .getfield 320, .iload 3, .bipush 0, .iastore, .iinc 3 1, .goto 2] := rfl
theorem b_95_21 : am_B 95 (Int.toNat 21) = [.aload 0, .iload 1, .putfield 321, .aload 0, .iload 2, .putfield 322, .return_] := rfl
theorem b_96_e : am_B 96 0 = [.iload 1, .invokevirtual 27, .ifCond .ne 9, .bipush (-1), .ireturn] := rfl
theorem b_96_9 : am_B 96 (Int.toNat 9) = [.aload 0, .getfield 514, .iload 1, .aaload, .getfield 321, .bipush (-1), .if_icmp .ne 24, .bipush 0, .ireturn] := rfl
theorem b_96_24 : am_B 96 (Int.toNat 24) = [.aload 0, .getfield 514, .iload 1, .aaload, .bipush (-1), .putfield 321, .bipush 1, .ireturn] := rfl
theorem b_97_e : am_B 97 0 = [.aload 0, .bipush 0, .putfield 517, .iload 1, .invokevirtual 27, .ifCond .ne 14, .bipush (-1), .ireturn] := rfl
theorem b_97_14 : am_B 97 (Int.toNat 14) = [.aload 0, .getfield 514, .iload 1, .aaload, .getfield 321, .bipush (-1), .if_icmp .ne 33, .aload 0, .bipush 1, .invokevirtual 31, .ireturn] := rfl
theorem b_97_33 : am_B 97 (Int.toNat 33) = [.aload 0, .getfield 514, .iload 1, .aaload, .iload 2, .invokevirtual 98, .ifCond .ne 52, .aload 0, .bipush 3, .invokevirtual 31, .ireturn] := rfl
theorem b_97_52 : am_B 97 (Int.toNat 52) = [.aload 0, .getfield 514, .iload 1, .aaload, .iload 2, .iload 3, .invokevirtual 99, .bipush 1, .ireturn] := rfl
theorem b_98_e : am_B 98 0 = [.iload 1, .ifCond .lt 16, .iload 1, .aload 0, .getfield 322, .if_icmp .ge 16, .bipush 1, .goto 17] := rfl
theorem b_98_16 : am_B 98 (Int.toNat 16) = [.bipush 0, .jsr 17] := rfl
theorem b_98_17 : am_B 98 (Int.toNat 17) = [.areturn] := rfl
theorem b_99_e : am_B 99 0 = [.aload 0, .getfield 321, .ifCond .ne 18, .aload 0, .getfield 320, .iload 1, .iload 2, .i2b, .iastore, .goto 38] := rfl
theorem b_99_18 : am_B 99 (Int.toNat 18) = [.aload 0, .getfield 320, .iload 1, .aload 0, .getfield 321, .bipush 1, .if_icmp .ne 36, .iload 2, .i2s, .goto 37] := rfl
theorem b_99_36 : am_B 99 (Int.toNat 36) = [.iload 2, .jsr 37] := rfl
theorem b_99_37 : am_B 99 (Int.toNat 37) = [.iastore, .jsr 38] := rfl
theorem b_99_38 : am_B 99 (Int.toNat 38) = [.return_] := rfl
theorem b_100_e : am_B 100 0 = [.aload 0, .bipush 0, .putfield 517, .iload 1, .invokevirtual 27, .ifCond .eq 19, .iload 3, .invokevirtual 28, .ifCond .ne 23, .jsr 19] := rfl
theorem b_100_19 : am_B 100 (Int.toNat 19) = [.sipush (-9223372036854775808), .lreturn] := rfl
theorem b_100_23 : am_B 100 (Int.toNat 23) = [.aload 0, .getfield 514, .iload 1, .aaload, .iload 3, .invokevirtual 29, .istore 4, .iload 4, .ifCond .ne 56, .aload 0, .getfield 514, .iload 1, .aaload, .iload 2, .invokevirtual 98, .ifCond .ne 56, .bipush 3, .istore 4, .jsr 56] := rfl
theorem b_100_56 : am_B 100 (Int.toNat 56) = [.iload 4, .ifCond .eq 72, .aload 0, .iload 4, .invokevirtual 31, .pop, .sipush (-9223372036854775808), .lreturn] := rfl
theorem b_100_72 : am_B 100 (Int.toNat 72) = [.aload 0, .getfield 514, .iload 1, .aaload, .getfield 320, .iload 2, .iaload, .i2l, .lreturn] := rfl
theorem b_101_e : am_B 101 0 = [.aload 0, .getfield 512, .iload 1, .invokevirtual 17, .ifCond .ne 13, .bipush (-1), .ireturn] := rfl
theorem b_101_13 : am_B 101 (Int.toNat 13) = [.aload 0, .getfield 512, .getfield 129, .iload 1, .aaload, .astore 2, .aload 2, .getfield 384, .bipush 2, .if_icmp .ne 37, .aload 0, .aload 2, .invokevirtual 102, .ireturn] := rfl
theorem b_101_37 : am_B 101 (Int.toNat 37) = [.aload 2, .getfield 384, .bipush 1, .if_icmp .ne 53, .aload 0, .aload 2, .invokevirtual 104, .goto 58] := rfl
theorem b_101_53 : am_B 101 (Int.toNat 53) = [.aload 0, .aload 2, .invokevirtual 105, .jsr 58] := rfl
theorem b_101_58 : am_B 101 (Int.toNat 58) = [.ireturn] := rfl
theorem b_102_e : am_B 102 0 = [.aload 0, .bipush 3, .invokevirtual 103, .aload 0, .aload 1, .invokevirtual 104, .istore 2, .iload 2, .aload 0, .aload 1, .invokevirtual 105, .iadd, .ireturn] := rfl
theorem b_103_e : am_B 103 0 = [.aload 0, .bipush 31, .aload 0, .getfield 516, .imul, .iload 1, .iadd, .putfield 516, .return_] := rfl
theorem b_104_e : am_B 104 0 = [.aload 0, .bipush 2, .invokevirtual 103, .aload 0, .aload 1, .invokevirtual 105, .aload 1, .getfield 386, .ifCond .eq 23, .bipush 1000, .goto 24] := rfl
theorem b_104_23 : am_B 104 (Int.toNat 23) = [.bipush 0, .jsr 24] := rfl
theorem b_104_24 : am_B 104 (Int.toNat 24) = [.iadd, .ireturn] := rfl
theorem b_105_e : am_B 105 0 = [.aload 0, .bipush 1, .invokevirtual 103, .aload 1, .getfield 385, .ireturn] := rfl
theorem b_106_e : am_B 106 0 = [.aload 0, .getfield 512, .iload 1, .invokevirtual 17, .ifCond .ne 13, .bipush (-1), .ireturn] := rfl
theorem b_106_13 : am_B 106 (Int.toNat 13) = [.aload 0, .getfield 512, .getfield 129, .iload 1, .aaload, .getfield 384, .bipush 2, .if_icmp .ne 37, .aload 0, .bipush 5, .invokevirtual 103, .bipush 50, .ireturn] := rfl
theorem b_106_37 : am_B 106 (Int.toNat 37) = [.aload 0, .bipush 4, .invokevirtual 103, .iload 1, .ireturn] := rfl
theorem b_107_e : am_B 107 0 = [.aload 0, .bipush 0, .putfield 517, .aload 0, .getfield 512, .iload 1, .invokevirtual 17, .ifCond .ne 18, .bipush (-1), .ireturn] := rfl
theorem b_107_18 : am_B 107 (Int.toNat 18) = [.iload 2, .ifCond .lt 27, .iload 2, .bipush 2, .if_icmp .le 30, .jsr 27] := rfl
theorem b_107_27 : am_B 107 (Int.toNat 27) = [.bipush (-2), .ireturn] := rfl
theorem b_107_30 : am_B 107 (Int.toNat 30) = [.iload 2, .aload 0, .getfield 512, .getfield 129, .iload 1, .aaload, .getfield 384, .if_icmp .gt 50, .bipush 1, .goto 55] := rfl
theorem b_107_50 : am_B 107 (Int.toNat 50) = [.aload 0, .bipush 2, .invokevirtual 31, .jsr 55] := rfl
theorem b_107_55 : am_B 107 (Int.toNat 55) = [.ireturn] := rfl
theorem b_108_e : am_B 108 0 = [.aload 0, .getfield 516, .ireturn] := rfl
theorem b_109_e : am_B 109 0 = [.aload 0, .getfield 517, .ireturn] := rfl
theorem b_110_e : am_B 110 0 = [.iload 1, .tableswitch 64 0 3 #[32, 40, 48, 56]] := rfl
theorem b_110_32 : am_B 110 (Int.toNat 32) = [.aload 0, .getfield 512, .getfield 132, .ireturn] := rfl
theorem b_110_40 : am_B 110 (Int.toNat 40) = [.aload 0, .getfield 512, .invokevirtual 37, .ireturn] := rfl
theorem b_110_48 : am_B 110 (Int.toNat 48) = [.aload 0, .getfield 512, .getfield 133, .ireturn] := rfl
theorem b_110_56 : am_B 110 (Int.toNat 56) = [.aload 0, .getfield 513, .invokevirtual 111, .ireturn] := rfl
theorem b_110_64 : am_B 110 (Int.toNat 64) = [.bipush (-2), .ireturn] := rfl
theorem b_111_e : am_B 111 0 = [.bipush 0, .istore 1, .bipush 0, .istore 2, .jsr 4] := rfl
theorem b_111_4 : am_B 111 (Int.toNat 4) = [.iload 2, .bipush 24, .if_icmp .ge 34, .aload 0, .iload 2, .aload 0, .getfield 73, .getfield 131, .invokevirtual 42, .ifCond .eq 28, .iinc 1 1, .jsr 28] := rfl
theorem b_111_28 : am_B 111 (Int.toNat 28) = [.iinc 2 1, .goto 4] := rfl
theorem b_111_34 : am_B 111 (Int.toNat 34) = [.iload 1, .ireturn] := rfl
theorem b_112_e : am_B 112 0 = [.aload 0, .pop2, .aload 0, .bipush 5, .newarray .int, .dup, .bipush 0, .bipush 100, .iastore, .dup, .bipush 1, .bipush 1, .iastore, .dup, .bipush 2, .bipush 750, .iastore, .dup, .bipush 3, .bipush 900, .iastore, .dup, .bipush 4, .bipush 500, .iastore, .putfield 578, .aload 0, .bipush 5, .newarray .int, .putfield 580, .aload 0, .bipush 6, .newarray .int, .putfield 581, .aload 0, .bipush 5, .newarray .boolean, .putfield 582, .aload 0, .bipush 5, .newarray .int, .putfield 583, .aload 0, .bipush 120, .newarray .int, .putfield 585, .aload 0, .bipush 120, .newarray .int, .putfield 586, .aload 0, .bipush 5, .newarray .int, .putfield 587, .aload 0, .bipush 4, .newarray .int, .dup, .bipush 0, .bipush (-9), .iastore, .dup, .bipush 1, .bipush (-9), .iastore, .dup, .bipush 2, .bipush (-9), .iastore, .dup, .bipush 3, .bipush (-9), .iastore, .putfield 588, .aload 0, .bipush 4, .newarray .int, .putfield 589, .aload 0, .bipush 240, .newarray .int, .putfield 590, .aload 0, .bipush 5, .newarray .int, .putfield 592, .aload 0, .bipush 5, .newarray .int, .putfield 593, .aload 0, .bipush 5, .newarray .int, .putfield 597, .aload 0, .bipush 5, .newarray .int, .putfield 605, .aload 0, .bipush 5, .newarray .int, .putfield 606, .return_] := rfl
theorem b_113_e : am_B 113 0 = [.iload 1, .bipush 0, .bipush 4, .invokevirtual 114, .ifCond .ne 11, .bipush (-1), .ireturn] := rfl
theorem b_113_11 : am_B 113 (Int.toNat 11) = [.iload 2, .iload 1, .invokevirtual 115, .iload 1, .invokevirtual 116, .invokevirtual 114, .ifCond .ne 29, .bipush (-2), .ireturn] := rfl
theorem b_113_29 : am_B 113 (Int.toNat 29) = [.aload 0, .iload 1, .iload 2, .invokevirtual 117, .ifCond .eq 41, .bipush (-3), .ireturn] := rfl
theorem b_113_41 : am_B 113 (Int.toNat 41) = [.aload 0, .getfield 578, .iload 1, .iaload, .istore 3, .aload 0, .getfield 578, .iload 1, .iload 2, .iastore, .iload 3, .ireturn] := rfl
theorem b_114_e : am_B 114 0 = [.iload 0, .iload 1, .if_icmp .lt 14, .iload 0, .iload 2, .if_icmp .gt 14, .bipush 1, .goto 15] := rfl
theorem b_114_14 : am_B 114 (Int.toNat 14) = [.bipush 0, .jsr 15] := rfl
theorem b_114_15 : am_B 114 (Int.toNat 15) = [.areturn] := rfl
theorem b_115_e : am_B 115 0 = [.iload 0, .bipush 2, .if_icmp .eq 10, .iload 0, .bipush 3, .if_icmp .ne 15, .jsr 10] := rfl
theorem b_115_10 : am_B 115 (Int.toNat 10) = [.bipush 100, .goto 16] := rfl
theorem b_115_15 : am_B 115 (Int.toNat 15) = [.bipush 1, .jsr 16] := rfl
theorem b_115_16 : am_B 115 (Int.toNat 16) = [.ireturn] := rfl
theorem b_116_e : am_B 116 0 = [.iload 0, .tableswitch 43 0 3 #[32, 36, 43, 39]] := rfl
theorem b_116_32 : am_B 116 (Int.toNat 32) = [.bipush 200, .ireturn] := rfl
theorem b_116_36 : am_B 116 (Int.toNat 36) = [.bipush 20, .ireturn] := rfl
theorem b_116_39 : am_B 116 (Int.toNat 39) = [.bipush 3000, .ireturn] := rfl
theorem b_116_43 : am_B 116 (Int.toNat 43) = [.bipush 2000, .ireturn] := rfl
theorem b_117_e : am_B 117 0 = [.iload 1, .tableswitch 100 0 4 #[36, 100, 42, 68, 84]] := rfl
theorem b_117_36 : am_B 117 (Int.toNat 36) = [.aload 0, .iload 2, .invokevirtual 118, .areturn] := rfl
theorem b_117_42 : am_B 117 (Int.toNat 42) = [.iload 2, .aload 0, .getfield 578, .bipush 3, .iaload, .if_icmp .gt 62, .iload 2, .aload 0, .getfield 578, .bipush 4, .iaload, .if_icmp .ge 66, .jsr 62] := rfl
theorem b_117_62 : am_B 117 (Int.toNat 62) = [.bipush 1, .goto 67] := rfl
theorem b_117_66 : am_B 117 (Int.toNat 66) = [.bipush 0, .jsr 67] := rfl
theorem b_117_67 : am_B 117 (Int.toNat 67) = [.areturn] := rfl
theorem b_117_68 : am_B 117 (Int.toNat 68) = [.iload 2, .aload 0, .getfield 578, .bipush 2, .iaload, .if_icmp .ge 82, .bipush 1, .goto 83] := rfl
theorem b_117_82 : am_B 117 (Int.toNat 82) = [.bipush 0, .jsr 83] := rfl
theorem b_117_83 : am_B 117 (Int.toNat 83) = [.areturn] := rfl
theorem b_117_84 : am_B 117 (Int.toNat 84) = [.iload 2, .aload 0, .getfield 578, .bipush 2, .iaload, .if_icmp .le 98, .bipush 1, .goto 99] := rfl
theorem b_117_98 : am_B 117 (Int.toNat 98) = [.bipush 0, .jsr 99] := rfl
theorem b_117_99 : am_B 117 (Int.toNat 99) = [.areturn] := rfl
theorem b_117_100 : am_B 117 (Int.toNat 100) = [.bipush 0, .areturn] := rfl
theorem b_118_e : am_B 118 0 = [.bipush 0, .istore 2, .jsr 2] := rfl
theorem b_118_2 : am_B 118 (Int.toNat 2) = [.iload 2, .aload 0, .getfield 579, .if_icmp .ge 28, .aload 0, .getfield 581, .iload 2, .iaload, .iload 1, .if_icmp .le 22, .bipush 1, .areturn] := rfl
theorem b_118_22 : am_B 118 (Int.toNat 22) = [.iinc 2 1, .goto 2] := rfl
theorem b_118_28 : am_B 118 (Int.toNat 28) = [.bipush 0, .istore 2, .jsr 30] := rfl
theorem b_118_30 : am_B 118 (Int.toNat 30) = [.iload 2, .bipush 24, .aload 0, .getfield 584, .imul, .if_icmp .ge 61, .aload 0, .getfield 585, .iload 2, .iaload, .iload 1, .bipush 1, .iadd, .if_icmp .le 55, .bipush 1, .areturn] := rfl
theorem b_118_55 : am_B 118 (Int.toNat 55) = [.iinc 2 1, .goto 30] := rfl
theorem b_118_61 : am_B 118 (Int.toNat 61) = [.bipush 0, .areturn] := rfl
theorem b_119_e : am_B 119 0 = [.iload 1, .bipush 0, .bipush 2, .invokevirtual 114, .ifCond .eq 17, .aload 0, .iload 2, .invokevirtual 120, .ifCond .ne 20, .jsr 17] := rfl
theorem b_119_17 : am_B 119 (Int.toNat 17) = [.bipush (-2), .ireturn] := rfl
theorem b_119_20 : am_B 119 (Int.toNat 20) = [.aload 0, .iload 2, .invokevirtual 121, .ifCond .eq 31, .bipush (-3), .ireturn] := rfl
theorem b_119_31 : am_B 119 (Int.toNat 31) = [.aload 0, .getfield 579, .bipush 5, .if_icmp .ne 42, .bipush (-4), .ireturn] := rfl
theorem b_119_42 : am_B 119 (Int.toNat 42) = [.aload 0, .getfield 580, .aload 0, .getfield 579, .iload 1, .iastore, .aload 0, .getfield 581, .aload 0, .getfield 579, .iload 2, .iastore, .aload 0, .getfield 582, .aload 0, .getfield 579, .bipush 0, .bastore, .aload 0, .getfield 583, .aload 0, .getfield 579, .bipush 3000, .iastore, .aload 0, .dup, .getfield 579, .bipush 1, .iadd, .putfield 579, .aload 0, .getfield 579, .bipush 1, .isub, .ireturn] := rfl
theorem b_120_e : am_B 120 0 = [.iload 1, .bipush 0, .aload 0, .getfield 578, .bipush 0, .iaload, .invokevirtual 114, .areturn] := rfl
theorem b_121_e : am_B 121 0 = [.bipush 0, .istore 2, .jsr 2] := rfl
theorem b_121_2 : am_B 121 (Int.toNat 2) = [.iload 2, .aload 0, .getfield 579, .if_icmp .ge 28, .aload 0, .getfield 581, .iload 2, .iaload, .iload 1, .if_icmp .ne 22, .bipush 1, .areturn] := rfl
theorem b_121_22 : am_B 121 (Int.toNat 22) = [.iinc 2 1, .goto 2] := rfl
theorem b_121_28 : am_B 121 (Int.toNat 28) = [.bipush 0, .areturn] := rfl
theorem b_122_e : am_B 122 0 = [.aload 0, .iload 1, .invokevirtual 123, .ifCond .ne 10, .bipush (-1), .ireturn] := rfl
theorem b_122_10 : am_B 122 (Int.toNat 10) = [.aload 0, .getfield 582, .iload 1, .baload, .iload 2, .if_icmp .ne 24, .bipush 1, .goto 25] := rfl
theorem b_122_24 : am_B 122 (Int.toNat 24) = [.bipush 0, .jsr 25] := rfl
theorem b_122_25 : am_B 122 (Int.toNat 25) = [.istore 3, .aload 0, .getfield 582, .iload 1, .iload 2, .ifCond .ne 39, .bipush 1, .goto 40] := rfl
theorem b_122_39 : am_B 122 (Int.toNat 39) = [.bipush 0, .jsr 40] := rfl
theorem b_122_40 : am_B 122 (Int.toNat 40) = [.bastore, .iload 3, .ireturn] := rfl
theorem b_123_e : am_B 123 0 = [.iload 1, .ifCond .lt 16, .iload 1, .aload 0, .getfield 579, .if_icmp .ge 16, .bipush 1, .goto 17] := rfl
theorem b_123_16 : am_B 123 (Int.toNat 16) = [.bipush 0, .jsr 17] := rfl
theorem b_123_17 : am_B 123 (Int.toNat 17) = [.areturn] := rfl
theorem b_124_e : am_B 124 0 = [.aload 0, .iload 1, .invokevirtual 123, .ifCond .ne 10, .bipush (-1), .ireturn] := rfl
theorem b_124_10 : am_B 124 (Int.toNat 10) = [.iload 2, .bipush 0, .bipush 100000, .invokevirtual 114, .ifCond .ne 23, .bipush (-2), .ireturn] := rfl
theorem b_124_23 : am_B 124 (Int.toNat 23) = [.aload 0, .getfield 583, .iload 1, .iaload, .istore 3, .aload 0, .getfield 583, .iload 1, .iload 2, .iastore, .iload 3, .ireturn] := rfl
theorem b_125_e : am_B 125 0 = [.aload 0, .iload 1, .invokevirtual 123, .ifCond .ne 10, .bipush (-1), .ireturn] := rfl
theorem b_125_10 : am_B 125 (Int.toNat 10) = [.iload 2, .tableswitch 76 0 3 #[40, 47, 54, 69]] := rfl
theorem b_125_40 : am_B 125 (Int.toNat 40) = [.aload 0, .getfield 580, .iload 1, .iaload, .ireturn] := rfl
theorem b_125_47 : am_B 125 (Int.toNat 47) = [.aload 0, .getfield 581, .iload 1, .iaload, .ireturn] := rfl
theorem b_125_54 : am_B 125 (Int.toNat 54) = [.aload 0, .getfield 582, .iload 1, .baload, .ifCond .eq 67, .bipush 0, .goto 68] := rfl
theorem b_125_67 : am_B 125 (Int.toNat 67) = [.bipush 1, .jsr 68] := rfl
theorem b_125_68 : am_B 125 (Int.toNat 68) = [.ireturn] := rfl
theorem b_125_69 : am_B 125 (Int.toNat 69) = [.aload 0, .getfield 583, .iload 1, .iaload, .ireturn] := rfl
theorem b_125_76 : am_B 125 (Int.toNat 76) = [.bipush (-2), .ireturn] := rfl
theorem b_126_e : am_B 126 0 = [.aload 0, .getfield 584, .bipush 5, .if_icmp .ne 11, .bipush (-4), .ireturn] := rfl
theorem b_126_11 : am_B 126 (Int.toNat 11) = [.bipush 0, .istore 1, .jsr 13] := rfl
theorem b_126_13 : am_B 126 (Int.toNat 13) = [.iload 1, .bipush 24, .if_icmp .ge 55, .aload 0, .getfield 585, .bipush 24, .aload 0, .getfield 584, .imul, .iload 1, .iadd, .bipush 0, .iastore, .aload 0, .getfield 586, .bipush 24, .aload 0, .getfield 584, .imul, .iload 1, .iadd, .bipush 0, .iastore, .iinc 1 1, .goto 13] := rfl
theorem b_126_55 : am_B 126 (Int.toNat 55) = [.aload 0, .getfield 587, .aload 0, .getfield 584, .bipush 0, .iastore, .aload 0, .dup, .getfield 584, .bipush 1, .iadd, .putfield 584, .aload 0, .getfield 584, .bipush 1, .isub, .ireturn] := rfl
theorem b_127_e : am_B 127 0 = [.aload 0, .iload 1, .invokevirtual 128, .ifCond .eq 15, .iload 2, .invokevirtual 129, .ifCond .ne 17, .jsr 15] := rfl
theorem b_127_15 : am_B 127 (Int.toNat 15) = [.bipush (-1), .ireturn] := rfl
theorem b_127_17 : am_B 127 (Int.toNat 17) = [.aload 0, .iload 3, .iload 4, .invokevirtual 130, .ifCond .ne 30, .bipush (-2), .ireturn] := rfl
theorem b_127_30 : am_B 127 (Int.toNat 30) = [.aload 0, .iload 1, .iload 2, .iload 3, .iload 4, .invokevirtual 131, .bipush 1, .ireturn] := rfl
theorem b_128_e : am_B 128 0 = [.iload 1, .ifCond .lt 16, .iload 1, .aload 0, .getfield 584, .if_icmp .ge 16, .bipush 1, .goto 17] := rfl
theorem b_128_16 : am_B 128 (Int.toNat 16) = [.bipush 0, .jsr 17] := rfl
theorem b_128_17 : am_B 128 (Int.toNat 17) = [.areturn] := rfl
theorem b_129_e : am_B 129 0 = [.iload 0, .bipush 0, .bipush 23, .invokevirtual 114, .areturn] := rfl
theorem b_130_e : am_B 130 0 = [.iload 1, .bipush (-1), .if_icmp .eq 26, .aload 0, .iload 1, .invokevirtual 120, .ifCond .eq 30, .iload 2, .bipush (-400), .bipush 400, .invokevirtual 114, .ifCond .eq 30, .jsr 26] := rfl
theorem b_130_26 : am_B 130 (Int.toNat 26) = [.bipush 1, .goto 31] := rfl
theorem b_130_30 : am_B 130 (Int.toNat 30) = [.bipush 0, .jsr 31] := rfl
theorem b_130_31 : am_B 130 (Int.toNat 31) = [.areturn] := rfl
theorem b_131_e : am_B 131 0 = [.aload 0, .getfield 585, .bipush 24, .iload 1, .imul, .iload 2, .iadd, .iload 3, .bipush 1, .iadd, .iastore, .aload 0, .getfield 586, .bipush 24, .iload 1, .imul, .iload 2, .iadd, .iload 3, .ifCond .ge 32, .bipush 0, .goto 34] := rfl
theorem b_131_32 : am_B 131 (Int.toNat 32) = [.iload 4, .jsr 34] := rfl
theorem b_131_34 : am_B 131 (Int.toNat 34) = [.iastore, .return_] := rfl
theorem b_132_e : am_B 132 0 = [.aload 0, .bipush 0, .putfield 576, .aload 0, .iload 1, .invokevirtual 128, .ifCond .eq 20, .iload 2, .invokevirtual 133, .ifCond .ne 22, .jsr 20] := rfl
theorem b_132_20 : am_B 132 (Int.toNat 20) = [.bipush (-1), .ireturn] := rfl
theorem b_132_22 : am_B 132 (Int.toNat 22) = [.iload 3, .invokevirtual 134, .ifCond .ne 32, .bipush (-2), .ireturn] := rfl
theorem b_132_32 : am_B 132 (Int.toNat 32) = [.aload 0, .getfield 588, .iload 2, .iaload, .bipush (-9), .if_icmp .eq 59, .aload 0, .getfield 588, .iload 2, .iaload, .iload 3, .if_icmp .eq 59, .aload 0, .bipush 2, .invokevirtual 135, .ireturn] := rfl
theorem b_132_59 : am_B 132 (Int.toNat 59) = [.aload 0, .getfield 588, .iload 2, .iaload, .bipush (-9), .if_icmp .ne 76, .aload 0, .bipush 1, .invokevirtual 135, .ireturn] := rfl
theorem b_132_76 : am_B 132 (Int.toNat 76) = [.iload 5, .ifCond .ge 87, .aload 0, .bipush 4, .invokevirtual 135, .ireturn] := rfl
theorem b_132_87 : am_B 132 (Int.toNat 87) = [.iload 4, .ifCond .lt 124, .iload 4, .aload 0, .getfield 589, .iload 2, .iaload, .if_icmp .gt 124, .sipush 2, .iload 5, .i2l, .lmul, .aload 0, .getfield 589, .iload 2, .iaload, .iload 4, .isub, .i2l, .lcmp, .ifCond .le 130, .jsr 124] := rfl
theorem b_132_124 : am_B 132 (Int.toNat 124) = [.aload 0, .bipush 3, .invokevirtual 135, .ireturn] := rfl
theorem b_132_130 : am_B 132 (Int.toNat 130) = [.iload 5, .bipush 24, .if_icmp .le 140, .bipush (-2), .ireturn] := rfl
theorem b_132_140 : am_B 132 (Int.toNat 140) = [.bipush 60, .iload 2, .imul, .iload 4, .iadd, .istore 6, .bipush 0, .istore 7, .jsr 152] := rfl
theorem b_132_152 : am_B 132 (Int.toNat 152) = [.iload 7, .iload 5, .if_icmp .ge 201, .aload 0, .aload 0, .getfield 590, .iload 6, .bipush 2, .iload 7, .imul, .iadd, .iaload, .aload 0, .getfield 590, .iload 6, .bipush 2, .iload 7, .imul, .iadd, .bipush 1, .iadd, .iaload, .invokevirtual 130, .ifCond .ne 195, .bipush (-2), .ireturn] := rfl
theorem b_132_195 : am_B 132 (Int.toNat 195) = [.iinc 7 1, .goto 152] := rfl
theorem b_132_201 : am_B 132 (Int.toNat 201) = [.bipush 0, .istore 7, .bipush 0, .istore 8, .jsr 207] := rfl
theorem b_132_207 : am_B 132 (Int.toNat 207) = [.iload 8, .bipush 24, .if_icmp .ge 294, .iload 8, .iload 5, .if_icmp .ge 236, .aload 0, .getfield 590, .iload 6, .bipush 2, .iload 8, .imul, .iadd, .iaload, .goto 237] := rfl
theorem b_132_236 : am_B 132 (Int.toNat 236) = [.bipush (-1), .jsr 237] := rfl
theorem b_132_237 : am_B 132 (Int.toNat 237) = [.istore 9, .aload 0, .iload 1, .iload 8, .iload 9, .iload 8, .iload 5, .if_icmp .ge 269, .aload 0, .getfield 590, .iload 6, .bipush 2, .iload 8, .imul, .iadd, .bipush 1, .iadd, .iaload, .goto 270] := rfl
theorem b_132_269 : am_B 132 (Int.toNat 269) = [.bipush 0, .jsr 270] := rfl
theorem b_132_270 : am_B 132 (Int.toNat 270) = [.invokevirtual 131, .iload 7, .iload 9, .ifCond .lt 284, .bipush 1, .goto 285] := rfl
theorem b_132_284 : am_B 132 (Int.toNat 284) = [.bipush 0, .jsr 285] := rfl
theorem b_132_285 : am_B 132 (Int.toNat 285) = [.iadd, .istore 7, .iinc 8 1, .goto 207] := rfl
theorem b_132_294 : am_B 132 (Int.toNat 294) = [.iload 7, .ireturn] := rfl
theorem b_133_e : am_B 133 0 = [.iload 0, .bipush 0, .bipush 3, .invokevirtual 114, .areturn] := rfl
theorem b_134_e : am_B 134 0 = [.iload 0, .bipush 0, .bipush 2, .invokevirtual 114, .areturn] := rfl
theorem b_135_e : am_B 135 0 = [.aload 0, .iload 1, .putfield 576, .bipush (-10), .iload 1, .isub, .ireturn] := rfl
theorem b_136_e : am_B 136 0 = [.aload 0, .iload 1, .invokevirtual 128, .ifCond .ne 10, .bipush (-1), .ireturn] := rfl
theorem b_136_10 : am_B 136 (Int.toNat 10) = [.iload 2, .bipush 0, .bipush 5, .invokevirtual 114, .ifCond .ne 22, .bipush (-2), .ireturn] := rfl
theorem b_136_22 : am_B 136 (Int.toNat 22) = [.aload 0, .getfield 587, .iload 1, .iaload, .istore 3, .aload 0, .getfield 587, .iload 1, .iload 2, .iastore, .iload 3, .ireturn] := rfl
theorem b_137_e : am_B 137 0 = [.aload 0, .iload 1, .invokevirtual 128, .ifCond .eq 15, .iload 2, .invokevirtual 129, .ifCond .ne 17, .jsr 15] := rfl
theorem b_137_15 : am_B 137 (Int.toNat 15) = [.bipush (-1), .ireturn] := rfl
theorem b_137_17 : am_B 137 (Int.toNat 17) = [.iload 3, .tableswitch 100 0 2 #[44, 51, 58]] := rfl
theorem b_137_44 : am_B 137 (Int.toNat 44) = [.aload 0, .iload 1, .iload 2, .invokevirtual 138, .ireturn] := rfl
theorem b_137_51 : am_B 137 (Int.toNat 51) = [.aload 0, .iload 1, .iload 2, .invokevirtual 139, .ireturn] := rfl
theorem b_137_58 : am_B 137 (Int.toNat 58) = [.aload 0, .invokevirtual 140, .ifCond .eq 68, .bipush (-3), .ireturn] := rfl
theorem b_137_68 : am_B 137 (Int.toNat 68) = [.aload 0, .iload 2, .invokevirtual 142, .aload 0, .getfield 597, .iload 1, .iaload, .bipush (-9), .if_icmp .ne 88, .bipush 0, .goto 99] := rfl
theorem b_137_88 : am_B 137 (Int.toNat 88) = [.aload 0, .getfield 593, .aload 0, .getfield 597, .iload 1, .iaload, .iaload, .jsr 99] := rfl
theorem b_137_99 : am_B 137 (Int.toNat 99) = [.ireturn] := rfl
theorem b_137_100 : am_B 137 (Int.toNat 100) = [.bipush (-2), .ireturn] := rfl
theorem b_138_e : am_B 138 0 = [.iload 2, .aload 0, .getfield 587, .iload 1, .iaload, .isub, .istore 3, .iload 3, .ifCond .ge 18, .bipush (-9), .goto 50] := rfl
theorem b_138_18 : am_B 138 (Int.toNat 18) = [.aload 0, .getfield 585, .bipush 24, .iload 1, .imul, .iload 3, .iadd, .iaload, .ifCond .ne 37, .bipush (-9), .goto 50] := rfl
theorem b_138_37 : am_B 138 (Int.toNat 37) = [.aload 0, .getfield 585, .bipush 24, .iload 1, .imul, .iload 3, .iadd, .iaload, .bipush 1, .isub, .jsr 50] := rfl
theorem b_138_50 : am_B 138 (Int.toNat 50) = [.ireturn] := rfl
theorem b_139_e : am_B 139 0 = [.aload 0, .iload 1, .iload 2, .invokevirtual 138, .bipush (-9), .if_icmp .ne 15, .bipush 0, .goto 33] := rfl
theorem b_139_15 : am_B 139 (Int.toNat 15) = [.aload 0, .getfield 586, .bipush 24, .iload 1, .imul, .iload 2, .iadd, .aload 0, .getfield 587, .iload 1, .iaload, .isub, .iaload, .jsr 33] := rfl
theorem b_139_33 : am_B 139 (Int.toNat 33) = [.ireturn] := rfl
theorem b_140_e : am_B 140 0 = [.aload 0, .invokevirtual 141, .ifCond .ne 11, .bipush 1, .goto 12] := rfl
theorem b_140_11 : am_B 140 (Int.toNat 11) = [.bipush 0, .jsr 12] := rfl
theorem b_140_12 : am_B 140 (Int.toNat 12) = [.areturn] := rfl
theorem b_141_e : am_B 141 0 = [.bipush 0, .istore 1, .bipush 0, .istore 2, .jsr 4] := rfl
theorem b_141_4 : am_B 141 (Int.toNat 4) = [.iload 2, .aload 0, .getfield 579, .if_icmp .ge 37, .iload 1, .aload 0, .getfield 582, .iload 2, .baload, .ifCond .eq 26, .bipush 0, .goto 29] := rfl
theorem b_141_26 : am_B 141 (Int.toNat 26) = [.bipush 1, .iload 2, .ishl, .jsr 29] := rfl
theorem b_141_29 : am_B 141 (Int.toNat 29) = [.ior, .istore 1, .iinc 2 1, .goto 4] := rfl
theorem b_141_37 : am_B 141 (Int.toNat 37) = [.iload 1, .ireturn] := rfl
theorem b_142_e : am_B 142 0 = [.aload 0, .iload 1, .invokevirtual 143, .aload 0, .aload 0, .invokevirtual 144, .putfield 594, .jsr 13] := rfl
theorem b_142_13 : am_B 142 (Int.toNat 13) = [.aload 0, .getfield 594, .bipush (-9), .if_icmp .eq 29, .aload 0, .invokevirtual 150, .ifCond .eq 55, .jsr 29] := rfl
theorem b_142_29 : am_B 142 (Int.toNat 29) = [.aload 0, .invokevirtual 151, .istore 2, .aload 0, .getfield 593, .iload 2, .dup2, .iaload, .bipush 2, .idiv, .iastore, .aload 0, .aload 0, .invokevirtual 144, .putfield 594, .goto 13] := rfl
theorem b_142_55 : am_B 142 (Int.toNat 55) = [.return_] := rfl
theorem b_143_e : am_B 143 0 = [.aload 0, .bipush 0, .putfield 591, .bipush 0, .istore 2, .jsr 7] := rfl
theorem b_143_7 : am_B 143 (Int.toNat 7) = [.iload 2, .aload 0, .getfield 584, .if_icmp .ge 87, .aload 0, .getfield 597, .iload 2, .bipush (-9), .iastore, .aload 0, .iload 2, .iload 1, .invokevirtual 138, .istore 3, .iload 3, .bipush (-9), .if_icmp .eq 81, .aload 0, .getfield 597, .iload 2, .aload 0, .getfield 591, .iastore, .aload 0, .getfield 592, .aload 0, .getfield 591, .iload 3, .iastore, .aload 0, .getfield 593, .aload 0, .getfield 591, .aload 0, .iload 2, .iload 1, .invokevirtual 139, .iastore, .aload 0, .dup, .getfield 591, .bipush 1, .iadd, .putfield 591, .jsr 81] := rfl
theorem b_143_81 : am_B 143 (Int.toNat 81) = [.iinc 2 1, .goto 7] := rfl
theorem b_143_87 : am_B 143 (Int.toNat 87) = [.return_] := rfl
theorem b_144_e : am_B 144 0 = [.aload 0, .invokevirtual 141, .istore 1, .bipush 1, .istore 2, .jsr 7] := rfl
theorem b_144_7 : am_B 144 (Int.toNat 7) = [.iload 2, .iload 1, .if_icmp .gt 37, .iload 2, .iload 1, .bipush (-1), .ixor, .iand, .ifCond .ne 31, .aload 0, .iload 2, .iload 1, .invokevirtual 145, .ifCond .eq 31, .iload 2, .ireturn] := rfl
theorem b_144_31 : am_B 144 (Int.toNat 31) = [.iinc 2 1, .goto 7] := rfl
theorem b_144_37 : am_B 144 (Int.toNat 37) = [.bipush (-9), .ireturn] := rfl
theorem b_145_e : am_B 145 0 = [.bipush 0, .istore 3, .jsr 2] := rfl
theorem b_145_2 : am_B 145 (Int.toNat 2) = [.iload 3, .aload 0, .getfield 579, .if_icmp .ge 84, .iload 1, .iload 3, .ishr, .bipush 1, .iand, .bipush 1, .if_icmp .ne 36, .aload 0, .iload 1, .iload 3, .invokevirtual 146, .aload 0, .getfield 595, .sipush 0, .lcmp, .ifCond .ge 78, .bipush 0, .areturn] := rfl
theorem b_145_36 : am_B 145 (Int.toNat 36) = [.iload 2, .iload 3, .ishr, .bipush 1, .iand, .bipush 1, .if_icmp .ne 78, .aload 0, .iload 1, .aload 0, .getfield 581, .iload 3, .iaload, .invokevirtual 149, .aload 0, .getfield 595, .aload 0, .getfield 578, .bipush 2, .iaload, .i2l, .aload 0, .getfield 596, .lmul, .lcmp, .ifCond .ge 78, .bipush 0, .areturn] := rfl
theorem b_145_78 : am_B 145 (Int.toNat 78) = [.iinc 3 1, .goto 2] := rfl
theorem b_145_84 : am_B 145 (Int.toNat 84) = [.bipush 1, .areturn] := rfl
theorem b_146_e : am_B 146 0 = [.aload 0, .getfield 581, .iload 2, .iaload, .istore 3, .iload 3, .ifCond .ne 16, .bipush (-9), .goto 25] := rfl
theorem b_146_16 : am_B 146 (Int.toNat 16) = [.aload 0, .iload 1, .iload 3, .bipush 1, .isub, .bipush 1, .invokevirtual 147, .jsr 25] := rfl
theorem b_146_25 : am_B 146 (Int.toNat 25) = [.istore 4, .aload 0, .iload 1, .iload 3, .bipush 1, .iadd, .bipush 0, .invokevirtual 147, .istore 5, .sipush 0, .lstore 6, .sipush 0, .lstore 8, .sipush 0, .lstore 10, .bipush 0, .istore 12, .jsr 50] := rfl
theorem b_146_50 : am_B 146 (Int.toNat 50) = [.iload 12, .aload 0, .getfield 591, .if_icmp .ge 227, .aload 0, .getfield 592, .iload 12, .iaload, .istore 13, .iload 13, .iload 3, .if_icmp .ge 79, .iload 4, .goto 81] := rfl
theorem b_146_79 : am_B 146 (Int.toNat 79) = [.iload 5, .jsr 81] := rfl
theorem b_146_81 : am_B 146 (Int.toNat 81) = [.istore 14, .iload 13, .iload 3, .if_icmp .eq 96, .iload 14, .bipush (-9), .if_icmp .ne 112, .jsr 96] := rfl
theorem b_146_96 : am_B 146 (Int.toNat 96) = [.lload 6, .aload 0, .getfield 593, .iload 12, .iaload, .i2l, .ladd, .lstore 6, .goto 221] := rfl
theorem b_146_112 : am_B 146 (Int.toNat 112) = [.aload 0, .getfield 581, .iload 14, .iaload, .istore 15, .iload 13, .iload 3, .if_icmp .ge 142, .iload 13, .iload 15, .if_icmp .le 138, .bipush 1, .goto 154] := rfl
theorem b_146_138 : am_B 146 (Int.toNat 138) = [.bipush 0, .goto 154] := rfl
theorem b_146_142 : am_B 146 (Int.toNat 142) = [.iload 13, .iload 15, .if_icmp .ge 153, .bipush 1, .goto 154] := rfl
theorem b_146_153 : am_B 146 (Int.toNat 153) = [.bipush 0, .jsr 154] := rfl
theorem b_146_154 : am_B 146 (Int.toNat 154) = [.istore 16, .iload 16, .ifCond .eq 193, .iload 13, .iload 3, .if_icmp .ge 193, .lload 8, .aload 0, .getfield 593, .iload 12, .iaload, .i2l, .iload 13, .iload 15, .isub, .invokevirtual 148, .i2l, .lmul, .ladd, .lstore 8, .goto 221] := rfl
theorem b_146_193 : am_B 146 (Int.toNat 193) = [.iload 16, .ifCond .eq 221, .lload 10, .aload 0, .getfield 593, .iload 12, .iaload, .i2l, .iload 13, .iload 15, .isub, .invokevirtual 148, .i2l, .lmul, .ladd, .lstore 10, .jsr 221] := rfl
theorem b_146_221 : am_B 146 (Int.toNat 221) = [.iinc 12 1, .goto 50] := rfl
theorem b_146_227 : am_B 146 (Int.toNat 227) = [.iload 4, .bipush (-9), .if_icmp .ne 238, .sipush 1, .goto 248] := rfl
theorem b_146_238 : am_B 146 (Int.toNat 238) = [.iload 3, .aload 0, .getfield 581, .iload 4, .iaload, .isub, .i2l, .jsr 248] := rfl
theorem b_146_248 : am_B 146 (Int.toNat 248) = [.lstore 12, .iload 5, .bipush (-9), .if_icmp .ne 261, .sipush 1, .goto 271] := rfl
theorem b_146_261 : am_B 146 (Int.toNat 261) = [.aload 0, .getfield 581, .iload 5, .iaload, .iload 3, .isub, .i2l, .jsr 271] := rfl
theorem b_146_271 : am_B 146 (Int.toNat 271) = [.lstore 14, .aload 0, .lload 6, .lload 12, .lmul, .lload 14, .lmul, .lload 8, .lload 14, .lmul, .ladd, .lload 10, .lload 12, .lmul, .ladd, .putfield 595, .aload 0, .lload 12, .lload 14, .lmul, .putfield 596, .return_] := rfl
theorem b_147_e : am_B 147 0 = [.bipush (-9), .istore 4, .bipush 0, .istore 5, .jsr 7] := rfl
theorem b_147_7 : am_B 147 (Int.toNat 7) = [.iload 5, .aload 0, .getfield 579, .if_icmp .ge 125, .iload 1, .iload 5, .ishr, .bipush 1, .iand, .bipush 1, .if_icmp .ne 59, .iload 3, .ifCond .eq 44, .aload 0, .getfield 581, .iload 5, .iaload, .iload 2, .if_icmp .gt 59, .goto 55] := rfl
theorem b_147_44 : am_B 147 (Int.toNat 44) = [.aload 0, .getfield 581, .iload 5, .iaload, .iload 2, .if_icmp .lt 59, .jsr 55] := rfl
theorem b_147_55 : am_B 147 (Int.toNat 55) = [.bipush 1, .goto 60] := rfl
theorem b_147_59 : am_B 147 (Int.toNat 59) = [.bipush 0, .jsr 60] := rfl
theorem b_147_60 : am_B 147 (Int.toNat 60) = [.istore 6, .iload 6, .ifCond .eq 119, .iload 4, .bipush (-9), .if_icmp .eq 115, .iload 3, .ifCond .eq 98, .aload 0, .getfield 581, .iload 5, .iaload, .aload 0, .getfield 581, .iload 4, .iaload, .if_icmp .le 119, .goto 115] := rfl
theorem b_147_98 : am_B 147 (Int.toNat 98) = [.aload 0, .getfield 581, .iload 5, .iaload, .aload 0, .getfield 581, .iload 4, .iaload, .if_icmp .ge 119, .jsr 115] := rfl
theorem b_147_115 : am_B 147 (Int.toNat 115) = [.iload 5, .istore 4, .jsr 119] := rfl
theorem b_147_119 : am_B 147 (Int.toNat 119) = [.iinc 5 1, .goto 7] := rfl
theorem b_147_125 : am_B 147 (Int.toNat 125) = [.iload 4, .ireturn] := rfl
theorem b_148_e : am_B 148 0 = [.iload 0, .ifCond .ge 9, .iload 0, .ineg, .goto 10] := rfl
theorem b_148_9 : am_B 148 (Int.toNat 9) = [.iload 0, .jsr 10] := rfl
theorem b_148_10 : am_B 148 (Int.toNat 10) = [.ireturn] := rfl
theorem b_149_e : am_B 149 0 = [.aload 0, .iload 1, .iload 2, .bipush 1, .invokevirtual 147, .istore 3, .aload 0, .iload 1, .iload 2, .bipush 0, .invokevirtual 147, .istore 4, .sipush 0, .lstore 5, .iload 3, .bipush (-9), .if_icmp .eq 183, .iload 4, .bipush (-9), .if_icmp .eq 183, .aload 0, .getfield 581, .iload 3, .iaload, .i2l, .lstore 7, .aload 0, .getfield 581, .iload 4, .iaload, .i2l, .lstore 9, .bipush 0, .istore 11, .jsr 55] := rfl
theorem b_149_55 : am_B 149 (Int.toNat 55) = [.iload 11, .aload 0, .getfield 591, .if_icmp .ge 155, .aload 0, .getfield 592, .iload 11, .iaload, .i2l, .lstore 12, .lload 12, .lload 7, .lcmp, .ifCond .le 149, .lload 12, .lload 9, .lcmp, .ifCond .ge 149, .iload 2, .i2l, .lload 12, .lcmp, .ifCond .ge 103, .iload 2, .i2l, .goto 105] := rfl
theorem b_149_103 : am_B 149 (Int.toNat 103) = [.lload 12, .jsr 105] := rfl
theorem b_149_105 : am_B 149 (Int.toNat 105) = [.lstore 14, .iload 2, .i2l, .lload 12, .lcmp, .ifCond .ge 120, .lload 12, .goto 122] := rfl
theorem b_149_120 : am_B 149 (Int.toNat 120) = [.iload 2, .i2l, .jsr 122] := rfl
theorem b_149_122 : am_B 149 (Int.toNat 122) = [.lstore 16, .lload 5, .aload 0, .getfield 593, .iload 11, .iaload, .i2l, .lload 14, .lload 7, .lsub, .lmul, .lload 9, .lload 16, .lsub, .lmul, .ladd, .lstore 5, .jsr 149] := rfl
theorem b_149_149 : am_B 149 (Int.toNat 149) = [.iinc 11 1, .goto 55] := rfl
theorem b_149_155 : am_B 149 (Int.toNat 155) = [.aload 0, .lload 7, .lload 9, .lcmp, .ifCond .ne 168, .sipush 1, .goto 177] := rfl
theorem b_149_168 : am_B 149 (Int.toNat 168) = [.sipush 1000, .lload 9, .lload 7, .lsub, .lmul, .jsr 177] := rfl
theorem b_149_177 : am_B 149 (Int.toNat 177) = [.putfield 596, .goto 346] := rfl
theorem b_149_183 : am_B 149 (Int.toNat 183) = [.aload 0, .getfield 581, .iload 3, .bipush (-9), .if_icmp .ne 198, .iload 4, .goto 199] := rfl
theorem b_149_198 : am_B 149 (Int.toNat 198) = [.iload 3, .jsr 199] := rfl
theorem b_149_199 : am_B 149 (Int.toNat 199) = [.iaload, .istore 7, .bipush 0, .istore 8, .jsr 205] := rfl
theorem b_149_205 : am_B 149 (Int.toNat 205) = [.iload 8, .aload 0, .getfield 591, .if_icmp .ge 339, .aload 0, .getfield 592, .iload 8, .iaload, .istore 9, .iload 3, .bipush (-9), .if_icmp .ne 244, .iload 9, .iload 7, .if_icmp .ge 240, .bipush 1, .goto 256] := rfl
theorem b_149_240 : am_B 149 (Int.toNat 240) = [.bipush 0, .goto 256] := rfl
theorem b_149_244 : am_B 149 (Int.toNat 244) = [.iload 9, .iload 7, .if_icmp .le 255, .bipush 1, .goto 256] := rfl
theorem b_149_255 : am_B 149 (Int.toNat 255) = [.bipush 0, .jsr 256] := rfl
theorem b_149_256 : am_B 149 (Int.toNat 256) = [.istore 10, .iload 10, .ifCond .eq 333, .iload 2, .iload 7, .if_icmp .ge 276, .iload 7, .iload 2, .isub, .goto 280] := rfl
theorem b_149_276 : am_B 149 (Int.toNat 276) = [.iload 2, .iload 7, .isub, .jsr 280] := rfl
theorem b_149_280 : am_B 149 (Int.toNat 280) = [.istore 11, .iload 9, .iload 7, .if_icmp .ge 297, .iload 7, .iload 9, .isub, .goto 302] := rfl
theorem b_149_297 : am_B 149 (Int.toNat 297) = [.iload 9, .iload 7, .isub, .jsr 302] := rfl
theorem b_149_302 : am_B 149 (Int.toNat 302) = [.istore 12, .lload 5, .aload 0, .getfield 593, .iload 8, .iaload, .i2l, .iload 11, .iload 12, .if_icmp .ge 326, .iload 11, .goto 328] := rfl
theorem b_149_326 : am_B 149 (Int.toNat 326) = [.iload 12, .jsr 328] := rfl
theorem b_149_328 : am_B 149 (Int.toNat 328) = [.i2l, .lmul, .ladd, .lstore 5, .jsr 333] := rfl
theorem b_149_333 : am_B 149 (Int.toNat 333) = [.iinc 8 1, .goto 205] := rfl
theorem b_149_339 : am_B 149 (Int.toNat 339) = [.aload 0, .sipush 1000, .putfield 596, .jsr 346] := rfl
theorem b_149_346 : am_B 149 (Int.toNat 346) = [.aload 0, .aload 0, .getfield 578, .bipush 2, .iaload, .i2l, .aload 0, .getfield 596, .lmul, .aload 0, .getfield 578, .bipush 1, .iaload, .i2l, .lload 5, .lmul, .lsub, .putfield 595, .return_] := rfl
theorem b_150_e : am_B 150 0 = [.bipush 0, .istore 1, .jsr 2] := rfl
theorem b_150_2 : am_B 150 (Int.toNat 2) = [.iload 1, .aload 0, .getfield 591, .if_icmp .ge 52, .aload 0, .aload 0, .getfield 594, .aload 0, .getfield 592, .iload 1, .iaload, .invokevirtual 149, .aload 0, .getfield 595, .aload 0, .getfield 578, .bipush 3, .iaload, .i2l, .aload 0, .getfield 596, .lmul, .lcmp, .ifCond .le 46, .bipush 1, .areturn] := rfl
theorem b_150_46 : am_B 150 (Int.toNat 46) = [.iinc 1 1, .goto 2] := rfl
theorem b_150_52 : am_B 150 (Int.toNat 52) = [.bipush 0, .areturn] := rfl
theorem b_151_e : am_B 151 0 = [.bipush (-9), .istore 1, .sipush 0, .lstore 2, .sipush 1, .lstore 4, .bipush 0, .istore 6, .jsr 11] := rfl
theorem b_151_11 : am_B 151 (Int.toNat 11) = [.iload 6, .aload 0, .getfield 591, .if_icmp .ge 121, .aload 0, .getfield 593, .iload 6, .iaload, .ifCond .lt 33, .goto 115] := rfl
theorem b_151_33 : am_B 151 (Int.toNat 33) = [.aload 0, .getfield 594, .bipush (-9), .if_icmp .ne 63, .aload 0, .aload 0, .getfield 593, .iload 6, .iaload, .ineg, .i2l, .putfield 595, .aload 0, .sipush 1, .putfield 596, .goto 78] := rfl
theorem b_151_63 : am_B 151 (Int.toNat 63) = [.aload 0, .aload 0, .getfield 594, .aload 0, .getfield 592, .iload 6, .iaload, .invokevirtual 149, .jsr 78] := rfl
theorem b_151_78 : am_B 151 (Int.toNat 78) = [.iload 1, .bipush (-9), .if_icmp .eq 101, .aload 0, .getfield 595, .lload 4, .lmul, .lload 2, .aload 0, .getfield 596, .lmul, .lcmp, .ifCond .le 115, .jsr 101] := rfl
theorem b_151_101 : am_B 151 (Int.toNat 101) = [.iload 6, .istore 1, .aload 0, .getfield 595, .lstore 2, .aload 0, .getfield 596, .lstore 4, .jsr 115] := rfl
theorem b_151_115 : am_B 151 (Int.toNat 115) = [.iinc 6 1, .goto 11] := rfl
theorem b_151_121 : am_B 151 (Int.toNat 121) = [.iload 1, .ireturn] := rfl
theorem b_152_e : am_B 152 0 = [.iload 1, .invokevirtual 129, .ifCond .ne 9, .bipush (-1), .ireturn] := rfl
theorem b_152_9 : am_B 152 (Int.toNat 9) = [.aload 0, .invokevirtual 140, .ifCond .eq 19, .bipush (-3), .ireturn] := rfl
theorem b_152_19 : am_B 152 (Int.toNat 19) = [.aload 0, .iload 1, .invokevirtual 142, .aload 0, .getfield 594, .ireturn] := rfl
theorem b_153_e : am_B 153 0 = [.iload 1, .invokevirtual 129, .ifCond .eq 31, .aload 0, .iload 2, .invokevirtual 120, .ifCond .eq 31, .iload 3, .bipush 0, .bipush 1, .invokevirtual 114, .ifCond .eq 31, .aload 0, .invokevirtual 140, .ifCond .eq 35, .jsr 31] := rfl
theorem b_153_31 : am_B 153 (Int.toNat 31) = [.sipush (-9223372036854775808), .lreturn] := rfl
theorem b_153_35 : am_B 153 (Int.toNat 35) = [.aload 0, .iload 1, .invokevirtual 142, .aload 0, .aload 0, .getfield 594, .iload 2, .invokevirtual 149, .aload 0, .iload 3, .invokevirtual 154, .lreturn] := rfl
theorem b_154_e : am_B 154 0 = [.aload 0, .getfield 595, .sipush 0, .lcmp, .ifCond .ge 17, .aload 0, .getfield 595, .lneg, .goto 21] := rfl
theorem b_154_17 : am_B 154 (Int.toNat 17) = [.aload 0, .getfield 595, .jsr 21] := rfl
theorem b_154_21 : am_B 154 (Int.toNat 21) = [.lstore 2, .aload 0, .getfield 596, .lstore 4, .jsr 28] := rfl
theorem b_154_28 : am_B 154 (Int.toNat 28) = [.lload 4, .sipush 0, .lcmp, .ifCond .eq 51, .lload 2, .lload 4, .lrem, .lstore 6, .lload 4, .lstore 2, .lload 6, .lstore 4, .goto 28] := rfl
theorem b_154_51 : am_B 154 (Int.toNat 51) = [.iload 1, .ifCond .ne 64, .aload 0, .getfield 595, .lload 2, .ldiv, .goto 70] := rfl
theorem b_154_64 : am_B 154 (Int.toNat 64) = [.aload 0, .getfield 596, .lload 2, .ldiv, .jsr 70] := rfl
theorem b_154_70 : am_B 154 (Int.toNat 70) = [.lreturn] := rfl
theorem b_155_e : am_B 155 0 = [.iload 1, .invokevirtual 129, .ifCond .eq 31, .aload 0, .iload 2, .invokevirtual 123, .ifCond .eq 31, .iload 3, .bipush 0, .bipush 1, .invokevirtual 114, .ifCond .eq 31, .aload 0, .invokevirtual 140, .ifCond .eq 35, .jsr 31] := rfl
theorem b_155_31 : am_B 155 (Int.toNat 31) = [.sipush (-9223372036854775808), .lreturn] := rfl
theorem b_155_35 : am_B 155 (Int.toNat 35) = [.aload 0, .iload 1, .invokevirtual 142, .aload 0, .getfield 594, .iload 2, .ishr, .bipush 1, .iand, .ifCond .ne 54, .iload 3, .i2l, .lreturn] := rfl
theorem b_155_54 : am_B 155 (Int.toNat 54) = [.aload 0, .aload 0, .getfield 594, .iload 2, .invokevirtual 146, .aload 0, .iload 3, .invokevirtual 154, .lreturn] := rfl
theorem b_156_e : am_B 156 0 = [.iload 1, .bipush 0, .bipush 3, .invokevirtual 114, .ifCond .eq 16, .aload 0, .invokevirtual 140, .ifCond .eq 20, .jsr 16] := rfl
theorem b_156_16 : am_B 156 (Int.toNat 16) = [.sipush (-9223372036854775808), .lreturn] := rfl
theorem b_156_20 : am_B 156 (Int.toNat 20) = [.aload 0, .invokevirtual 157, .aload 0, .getfield 598, .ifCond .ne 35, .sipush (-9223372036854775808), .lreturn] := rfl
theorem b_156_35 : am_B 156 (Int.toNat 35) = [.aload 0, .aload 0, .getfield 599, .putfield 595, .aload 0, .aload 0, .getfield 600, .putfield 596, .iload 1, .bipush 2, .if_icmp .ge 64, .aload 0, .iload 1, .invokevirtual 154, .goto 82] := rfl
theorem b_156_64 : am_B 156 (Int.toNat 64) = [.iload 1, .bipush 2, .if_icmp .ne 77, .aload 0, .getfield 601, .i2l, .goto 82] := rfl
theorem b_156_77 : am_B 156 (Int.toNat 77) = [.aload 0, .getfield 602, .i2l, .jsr 82] := rfl
theorem b_156_82 : am_B 156 (Int.toNat 82) = [.lreturn] := rfl
theorem b_157_e : am_B 157 0 = [.aload 0, .bipush 0, .putfield 598, .bipush 0, .istore 1, .jsr 7] := rfl
theorem b_157_7 : am_B 157 (Int.toNat 7) = [.iload 1, .bipush 24, .if_icmp .ge 133, .aload 0, .iload 1, .invokevirtual 142, .bipush 0, .istore 2, .jsr 20] := rfl
theorem b_157_20 : am_B 157 (Int.toNat 20) = [.iload 2, .aload 0, .getfield 584, .if_icmp .ge 127, .aload 0, .getfield 597, .iload 2, .iaload, .bipush (-9), .if_icmp .ne 42, .goto 121] := rfl
theorem b_157_42 : am_B 157 (Int.toNat 42) = [.aload 0, .aload 0, .getfield 594, .aload 0, .getfield 592, .aload 0, .getfield 597, .iload 2, .iaload, .iaload, .invokevirtual 149, .aload 0, .getfield 598, .ifCond .eq 90, .aload 0, .getfield 595, .aload 0, .getfield 600, .lmul, .aload 0, .getfield 599, .aload 0, .getfield 596, .lmul, .lcmp, .ifCond .ge 121, .jsr 90] := rfl
theorem b_157_90 : am_B 157 (Int.toNat 90) = [.aload 0, .bipush 1, .putfield 598, .aload 0, .aload 0, .getfield 595, .putfield 599, .aload 0, .aload 0, .getfield 596, .putfield 600, .aload 0, .iload 1, .putfield 601, .aload 0, .iload 2, .putfield 602, .jsr 121] := rfl
theorem b_157_121 : am_B 157 (Int.toNat 121) = [.iinc 2 1, .goto 20] := rfl
theorem b_157_127 : am_B 157 (Int.toNat 127) = [.iinc 1 1, .goto 7] := rfl
theorem b_157_133 : am_B 157 (Int.toNat 133) = [.return_] := rfl
theorem b_158_e : am_B 158 0 = [.aload 0, .invokevirtual 140, .ifCond .eq 10, .bipush (-3), .ireturn] := rfl
theorem b_158_10 : am_B 158 (Int.toNat 10) = [.aload 0, .invokevirtual 159, .ifCond .eq 21, .bipush 1, .goto 22] := rfl
theorem b_158_21 : am_B 158 (Int.toNat 21) = [.bipush 0, .jsr 22] := rfl
theorem b_158_22 : am_B 158 (Int.toNat 22) = [.ireturn] := rfl
theorem b_159_e : am_B 159 0 = [.aload 0, .invokevirtual 157, .aload 0, .getfield 598, .ifCond .eq 31, .aload 0, .getfield 599, .aload 0, .getfield 578, .bipush 4, .iaload, .i2l, .aload 0, .getfield 600, .lmul, .lcmp, .ifCond .lt 35, .jsr 31] := rfl
theorem b_159_31 : am_B 159 (Int.toNat 31) = [.bipush 1, .goto 36] := rfl
theorem b_159_35 : am_B 159 (Int.toNat 35) = [.bipush 0, .jsr 36] := rfl
theorem b_159_36 : am_B 159 (Int.toNat 36) = [.areturn] := rfl
theorem b_160_e : am_B 160 0 = [.aload 0, .invokevirtual 140, .ifCond .eq 10, .bipush (-3), .ireturn] := rfl
theorem b_160_10 : am_B 160 (Int.toNat 10) = [.bipush 0, .istore 1, .jsr 12] := rfl
theorem b_160_12 : am_B 160 (Int.toNat 12) = [.iload 1, .aload 0, .getfield 579, .if_icmp .ge 78, .aload 0, .getfield 582, .iload 1, .baload, .ifCond .eq 32, .goto 72] := rfl
theorem b_160_32 : am_B 160 (Int.toNat 32) = [.aload 0, .getfield 582, .iload 1, .bipush 1, .bastore, .aload 0, .invokevirtual 140, .ifCond .ne 53, .aload 0, .invokevirtual 159, .ifCond .ne 57, .jsr 53] := rfl
theorem b_160_53 : am_B 160 (Int.toNat 53) = [.bipush 1, .goto 58] := rfl
theorem b_160_57 : am_B 160 (Int.toNat 57) = [.bipush 0, .jsr 58] := rfl
theorem b_160_58 : am_B 160 (Int.toNat 58) = [.istore 2, .aload 0, .getfield 582, .iload 1, .bipush 0, .bastore, .iload 2, .ifCond .eq 72, .iload 1, .ireturn] := rfl
theorem b_160_72 : am_B 160 (Int.toNat 72) = [.iinc 1 1, .goto 12] := rfl
theorem b_160_78 : am_B 160 (Int.toNat 78) = [.bipush (-9), .ireturn] := rfl
theorem b_161_e : am_B 161 0 = [.iload 1, .bipush 0, .bipush 1, .invokevirtual 114, .ifCond .eq 16, .aload 0, .invokevirtual 140, .ifCond .eq 20, .jsr 16] := rfl
theorem b_161_16 : am_B 161 (Int.toNat 16) = [.sipush (-9223372036854775808), .lreturn] := rfl
theorem b_161_20 : am_B 161 (Int.toNat 20) = [.aload 0, .invokevirtual 162, .aload 0, .aload 0, .getfield 603, .putfield 595, .aload 0, .aload 0, .getfield 604, .putfield 596, .aload 0, .iload 1, .invokevirtual 154, .lreturn] := rfl
theorem b_162_e : am_B 162 0 = [.aload 0, .sipush 0, .putfield 603, .aload 0, .sipush 1, .putfield 604, .bipush 0, .istore 1, .jsr 12] := rfl
theorem b_162_12 : am_B 162 (Int.toNat 12) = [.iload 1, .bipush 24, .if_icmp .ge 104, .aload 0, .iload 1, .invokevirtual 142, .bipush 0, .istore 2, .jsr 25] := rfl
theorem b_162_25 : am_B 162 (Int.toNat 25) = [.iload 2, .aload 0, .getfield 579, .if_icmp .ge 98, .aload 0, .getfield 594, .iload 2, .ishr, .bipush 1, .iand, .bipush 1, .if_icmp .ne 92, .aload 0, .aload 0, .getfield 594, .iload 2, .invokevirtual 146, .aload 0, .getfield 595, .aload 0, .getfield 604, .lmul, .aload 0, .getfield 603, .aload 0, .getfield 596, .lmul, .lcmp, .ifCond .le 92, .aload 0, .aload 0, .getfield 595, .putfield 603, .aload 0, .aload 0, .getfield 596, .putfield 604, .jsr 92] := rfl
theorem b_162_92 : am_B 162 (Int.toNat 92) = [.iinc 2 1, .goto 25] := rfl
theorem b_162_98 : am_B 162 (Int.toNat 98) = [.iinc 1 1, .goto 12] := rfl
theorem b_162_104 : am_B 162 (Int.toNat 104) = [.return_] := rfl
theorem b_163_e : am_B 163 0 = [.aload 0, .iload 1, .invokevirtual 120, .ifCond .ne 10, .bipush (-1), .ireturn] := rfl
theorem b_163_10 : am_B 163 (Int.toNat 10) = [.iload 2, .bipush 1, .bipush 100000, .invokevirtual 114, .ifCond .ne 23, .bipush (-2), .ireturn] := rfl
theorem b_163_23 : am_B 163 (Int.toNat 23) = [.aload 0, .invokevirtual 140, .ifCond .eq 33, .bipush (-3), .ireturn] := rfl
theorem b_163_33 : am_B 163 (Int.toNat 33) = [.aload 0, .iload 1, .iload 2, .invokevirtual 164, .aload 0, .getfield 594, .ireturn] := rfl
theorem b_164_e : am_B 164 0 = [.aload 0, .bipush 1, .putfield 591, .aload 0, .getfield 592, .bipush 0, .iload 1, .iastore, .aload 0, .getfield 593, .bipush 0, .iload 2, .iastore, .aload 0, .aload 0, .invokevirtual 144, .putfield 594, .return_] := rfl
theorem b_165_e : am_B 165 0 = [.iload 1, .bipush 1, .bipush 100000, .invokevirtual 114, .ifCond .ne 13, .bipush (-2), .ireturn] := rfl
theorem b_165_13 : am_B 165 (Int.toNat 13) = [.aload 0, .invokevirtual 140, .ifCond .eq 23, .bipush (-3), .ireturn] := rfl
theorem b_165_23 : am_B 165 (Int.toNat 23) = [.bipush 0, .istore 2, .jsr 25] := rfl
theorem b_165_25 : am_B 165 (Int.toNat 25) = [.iload 2, .bipush 24, .if_icmp .ge 51, .aload 0, .iload 2, .invokevirtual 142, .aload 0, .invokevirtual 166, .ifCond .eq 45, .bipush 1, .ireturn] := rfl
theorem b_165_45 : am_B 165 (Int.toNat 45) = [.iinc 2 1, .goto 25] := rfl
theorem b_165_51 : am_B 165 (Int.toNat 51) = [.bipush 0, .istore 2, .jsr 53] := rfl
theorem b_165_53 : am_B 165 (Int.toNat 53) = [.iload 2, .aload 0, .getfield 578, .bipush 0, .iaload, .if_icmp .gt 84, .aload 0, .iload 2, .iload 1, .invokevirtual 164, .aload 0, .invokevirtual 166, .ifCond .ne 78, .bipush 2, .ireturn] := rfl
theorem b_165_78 : am_B 165 (Int.toNat 78) = [.iinc 2 1, .goto 53] := rfl
theorem b_165_84 : am_B 165 (Int.toNat 84) = [.bipush 0, .ireturn] := rfl
theorem b_166_e : am_B 166 0 = [.bipush 0, .istore 1, .jsr 2] := rfl
theorem b_166_2 : am_B 166 (Int.toNat 2) = [.iload 1, .aload 0, .getfield 579, .if_icmp .ge 59, .aload 0, .getfield 594, .iload 1, .ishr, .bipush 1, .iand, .bipush 1, .if_icmp .ne 53, .aload 0, .aload 0, .getfield 594, .iload 1, .invokevirtual 146, .aload 0, .getfield 595, .aload 0, .getfield 583, .iload 1, .iaload, .i2l, .aload 0, .getfield 596, .lmul, .lcmp, .ifCond .lt 53, .bipush 1, .areturn] := rfl
theorem b_166_53 : am_B 166 (Int.toNat 53) = [.iinc 1 1, .goto 2] := rfl
theorem b_166_59 : am_B 166 (Int.toNat 59) = [.bipush 0, .areturn] := rfl
theorem b_167_e : am_B 167 0 = [.iload 1, .bipush 1, .bipush 2, .invokevirtual 114, .ifCond .eq 36, .iload 2, .bipush 0, .bipush 1, .invokevirtual 114, .ifCond .ne 29, .aload 0, .iload 2, .bipush 10, .isub, .invokevirtual 128, .ifCond .eq 36, .jsr 29] := rfl
theorem b_167_29 : am_B 167 (Int.toNat 29) = [.aload 0, .invokevirtual 140, .ifCond .eq 40, .jsr 36] := rfl
theorem b_167_36 : am_B 167 (Int.toNat 36) = [.sipush (-9223372036854775808), .lreturn] := rfl
theorem b_167_40 : am_B 167 (Int.toNat 40) = [.aload 0, .iload 1, .invokevirtual 168, .iload 2, .bipush 10, .if_icmp .lt 62, .aload 0, .getfield 606, .iload 2, .bipush 10, .isub, .iaload, .i2l, .lreturn] := rfl
theorem b_167_62 : am_B 167 (Int.toNat 62) = [.aload 0, .aload 0, .getfield 607, .putfield 595, .aload 0, .aload 0, .getfield 608, .putfield 596, .aload 0, .iload 2, .invokevirtual 154, .lreturn] := rfl
theorem b_168_e : am_B 168 0 = [.bipush 1, .istore 2, .bipush 0, .istore 3, .jsr 4] := rfl
theorem b_168_4 : am_B 168 (Int.toNat 4) = [.iload 3, .aload 0, .getfield 584, .if_icmp .ge 36, .aload 0, .getfield 605, .iload 3, .aload 0, .getfield 587, .iload 3, .iaload, .iastore, .iload 2, .iload 1, .bipush 1, .iadd, .imul, .istore 2, .iinc 3 1, .goto 4] := rfl
theorem b_168_36 : am_B 168 (Int.toNat 36) = [.aload 0, .sipush (-1), .putfield 607, .bipush 0, .istore 3, .jsr 45] := rfl
theorem b_168_45 : am_B 168 (Int.toNat 45) = [.iload 3, .iload 2, .if_icmp .ge 182, .iload 3, .istore 4, .aload 0, .getfield 584, .bipush 1, .isub, .istore 5, .jsr 61] := rfl
theorem b_168_61 : am_B 168 (Int.toNat 61) = [.iload 5, .ifCond .lt 93, .aload 0, .getfield 587, .iload 5, .iload 4, .iload 1, .bipush 1, .iadd, .irem, .iastore, .iload 4, .iload 1, .bipush 1, .iadd, .idiv, .istore 4, .iinc 5 (-1), .goto 61] := rfl
theorem b_168_93 : am_B 168 (Int.toNat 93) = [.aload 0, .invokevirtual 162, .aload 0, .getfield 607, .sipush 0, .lcmp, .ifCond .lt 128, .aload 0, .getfield 603, .aload 0, .getfield 608, .lmul, .aload 0, .getfield 607, .aload 0, .getfield 604, .lmul, .lcmp, .ifCond .ge 176, .jsr 128] := rfl
theorem b_168_128 : am_B 168 (Int.toNat 128) = [.aload 0, .aload 0, .getfield 603, .putfield 607, .aload 0, .aload 0, .getfield 604, .putfield 608, .bipush 0, .istore 5, .jsr 147] := rfl
theorem b_168_147 : am_B 168 (Int.toNat 147) = [.iload 5, .aload 0, .getfield 584, .if_icmp .ge 176, .aload 0, .getfield 606, .iload 5, .aload 0, .getfield 587, .iload 5, .iaload, .iastore, .iinc 5 1, .goto 147] := rfl
theorem b_168_176 : am_B 168 (Int.toNat 176) = [.iinc 3 1, .goto 45] := rfl
theorem b_168_182 : am_B 168 (Int.toNat 182) = [.bipush 0, .istore 3, .jsr 184] := rfl
theorem b_168_184 : am_B 168 (Int.toNat 184) = [.iload 3, .aload 0, .getfield 584, .if_icmp .ge 210, .aload 0, .getfield 587, .iload 3, .aload 0, .getfield 605, .iload 3, .iaload, .iastore, .iinc 3 1, .goto 184] := rfl
theorem b_168_210 : am_B 168 (Int.toNat 210) = [.return_] := rfl
theorem b_169_e : am_B 169 0 = [.aload 0, .iload 1, .invokevirtual 128, .ifCond .eq 15, .aload 0, .invokevirtual 140, .ifCond .eq 19, .jsr 15] := rfl
theorem b_169_15 : am_B 169 (Int.toNat 15) = [.sipush (-9223372036854775808), .lreturn] := rfl
theorem b_169_19 : am_B 169 (Int.toNat 19) = [.sipush 0, .lstore 2, .bipush 0, .istore 4, .jsr 24] := rfl
theorem b_169_24 : am_B 169 (Int.toNat 24) = [.iload 4, .bipush 24, .if_icmp .ge 98, .aload 0, .iload 4, .invokevirtual 142, .aload 0, .getfield 597, .iload 1, .iaload, .bipush (-9), .if_icmp .eq 92, .aload 0, .aload 0, .getfield 594, .aload 0, .getfield 592, .aload 0, .getfield 597, .iload 1, .iaload, .iaload, .invokevirtual 149, .lload 2, .aload 0, .getfield 595, .aload 0, .getfield 593, .aload 0, .getfield 597, .iload 1, .iaload, .iaload, .i2l, .lmul, .aload 0, .getfield 596, .ldiv, .ladd, .lstore 2, .jsr 92] := rfl
theorem b_169_92 : am_B 169 (Int.toNat 92) = [.iinc 4 1, .goto 24] := rfl
theorem b_169_98 : am_B 169 (Int.toNat 98) = [.lload 2, .lreturn] := rfl
theorem b_170_e : am_B 170 0 = [.aload 0, .iload 1, .invokevirtual 123, .ifCond .eq 15, .aload 0, .invokevirtual 140, .ifCond .eq 19, .jsr 15] := rfl
theorem b_170_15 : am_B 170 (Int.toNat 15) = [.sipush (-9223372036854775808), .lreturn] := rfl
theorem b_170_19 : am_B 170 (Int.toNat 19) = [.sipush 0, .lstore 2, .bipush 0, .istore 4, .jsr 24] := rfl
theorem b_170_24 : am_B 170 (Int.toNat 24) = [.iload 4, .bipush 24, .if_icmp .ge 84, .aload 0, .iload 4, .invokevirtual 142, .aload 0, .getfield 594, .iload 1, .ishr, .bipush 1, .iand, .bipush 1, .if_icmp .ne 78, .aload 0, .aload 0, .getfield 594, .iload 1, .invokevirtual 146, .lload 2, .aload 0, .getfield 578, .bipush 2, .iaload, .i2l, .aload 0, .getfield 595, .lmul, .aload 0, .getfield 596, .ldiv, .ladd, .lstore 2, .jsr 78] := rfl
theorem b_170_78 : am_B 170 (Int.toNat 78) = [.iinc 4 1, .goto 24] := rfl
theorem b_170_84 : am_B 170 (Int.toNat 84) = [.lload 2, .lreturn] := rfl
theorem b_171_e : am_B 171 0 = [.iload 1, .bipush 0, .bipush 2, .invokevirtual 114, .ifCond .eq 24, .aload 0, .getfield 579, .bipush 5, .if_icmp .eq 24, .aload 0, .invokevirtual 172, .ifCond .ne 28, .jsr 24] := rfl
theorem b_171_24 : am_B 171 (Int.toNat 24) = [.sipush (-9223372036854775808), .lreturn] := rfl
theorem b_171_28 : am_B 171 (Int.toNat 28) = [.aload 0, .bipush (-9), .putfield 609, .aload 0, .getfield 579, .istore 2, .bipush 0, .istore 3, .jsr 41] := rfl
theorem b_171_41 : am_B 171 (Int.toNat 41) = [.iload 3, .aload 0, .getfield 578, .bipush 0, .iaload, .if_icmp .gt 158, .aload 0, .iload 3, .invokevirtual 121, .ifCond .eq 62, .goto 152] := rfl
theorem b_171_62 : am_B 171 (Int.toNat 62) = [.aload 0, .getfield 581, .iload 2, .iload 3, .iastore, .aload 0, .getfield 582, .iload 2, .bipush 0, .bastore, .aload 0, .dup, .getfield 579, .bipush 1, .iadd, .putfield 579, .aload 0, .invokevirtual 157, .aload 0, .dup, .getfield 579, .bipush 1, .isub, .putfield 579, .aload 0, .getfield 609, .bipush (-9), .if_icmp .eq 131, .aload 0, .getfield 599, .aload 0, .getfield 611, .lmul, .aload 0, .getfield 610, .aload 0, .getfield 600, .lmul, .lcmp, .ifCond .le 152, .jsr 131] := rfl
theorem b_171_131 : am_B 171 (Int.toNat 131) = [.aload 0, .iload 3, .putfield 609, .aload 0, .aload 0, .getfield 599, .putfield 610, .aload 0, .aload 0, .getfield 600, .putfield 611, .jsr 152] := rfl
theorem b_171_152 : am_B 171 (Int.toNat 152) = [.iinc 3 1, .goto 41] := rfl
theorem b_171_158 : am_B 171 (Int.toNat 158) = [.aload 0, .getfield 609, .bipush (-9), .if_icmp .ne 171, .sipush (-9223372036854775808), .lreturn] := rfl
theorem b_171_171 : am_B 171 (Int.toNat 171) = [.aload 0, .aload 0, .getfield 610, .putfield 595, .aload 0, .aload 0, .getfield 611, .putfield 596, .iload 1, .ifCond .ne 199, .aload 0, .getfield 609, .i2l, .goto 206] := rfl
theorem b_171_199 : am_B 171 (Int.toNat 199) = [.aload 0, .iload 1, .bipush 1, .isub, .invokevirtual 154, .jsr 206] := rfl
theorem b_171_206 : am_B 171 (Int.toNat 206) = [.lreturn] := rfl
theorem b_172_e : am_B 172 0 = [.aload 0, .invokevirtual 173, .ifCond .le 11, .bipush 1, .goto 12] := rfl
theorem b_172_11 : am_B 172 (Int.toNat 11) = [.bipush 0, .jsr 12] := rfl
theorem b_172_12 : am_B 172 (Int.toNat 12) = [.areturn] := rfl
theorem b_173_e : am_B 173 0 = [.bipush 0, .istore 1, .bipush 0, .istore 2, .jsr 4] := rfl
theorem b_173_4 : am_B 173 (Int.toNat 4) = [.iload 2, .bipush 24, .if_icmp .ge 36, .aload 0, .iload 2, .invokevirtual 143, .iload 1, .aload 0, .getfield 591, .ifCond .le 27, .bipush 1, .goto 28] := rfl
theorem b_173_27 : am_B 173 (Int.toNat 27) = [.bipush 0, .jsr 28] := rfl
theorem b_173_28 : am_B 173 (Int.toNat 28) = [.iadd, .istore 1, .iinc 2 1, .goto 4] := rfl
theorem b_173_36 : am_B 173 (Int.toNat 36) = [.iload 1, .ireturn] := rfl
theorem b_174_e : am_B 174 0 = [.aload 0, .bipush 0, .putfield 576, .iload 1, .invokevirtual 133, .ifCond .ne 14, .bipush (-1), .ireturn] := rfl
theorem b_174_14 : am_B 174 (Int.toNat 14) = [.iload 2, .invokevirtual 134, .ifCond .eq 27, .iload 3, .bipush 60, .if_icmp .le 30, .jsr 27] := rfl
theorem b_174_27 : am_B 174 (Int.toNat 27) = [.bipush (-2), .ireturn] := rfl
theorem b_174_30 : am_B 174 (Int.toNat 30) = [.iload 3, .ifCond .ge 40, .aload 0, .bipush 4, .invokevirtual 135, .ireturn] := rfl
theorem b_174_40 : am_B 174 (Int.toNat 40) = [.aload 0, .getfield 588, .iload 1, .iload 2, .iastore, .aload 0, .getfield 589, .iload 1, .iload 3, .iastore, .bipush 0, .istore 4, .jsr 57] := rfl
theorem b_174_57 : am_B 174 (Int.toNat 57) = [.iload 4, .bipush 60, .if_icmp .ge 83, .aload 0, .getfield 590, .bipush 60, .iload 1, .imul, .iload 4, .iadd, .bipush 0, .iastore, .iinc 4 1, .goto 57] := rfl
theorem b_174_83 : am_B 174 (Int.toNat 83) = [.bipush 1, .ireturn] := rfl
theorem b_175_e : am_B 175 0 = [.iload 1, .invokevirtual 133, .ifCond .ne 9, .bipush (-1), .ireturn] := rfl
theorem b_175_9 : am_B 175 (Int.toNat 9) = [.aload 0, .getfield 588, .iload 1, .iaload, .bipush (-9), .if_icmp .ne 24, .bipush 0, .goto 25] := rfl
theorem b_175_24 : am_B 175 (Int.toNat 24) = [.bipush 1, .jsr 25] := rfl
theorem b_175_25 : am_B 175 (Int.toNat 25) = [.istore 2, .aload 0, .getfield 588, .iload 1, .bipush (-9), .iastore, .iload 2, .ireturn] := rfl
theorem b_176_e : am_B 176 0 = [.aload 0, .bipush 0, .putfield 576, .iload 1, .invokevirtual 133, .ifCond .ne 14, .bipush (-1), .ireturn] := rfl
theorem b_176_14 : am_B 176 (Int.toNat 14) = [.aload 0, .getfield 588, .iload 1, .iaload, .bipush (-9), .if_icmp .ne 31, .aload 0, .bipush 1, .invokevirtual 135, .ireturn] := rfl
theorem b_176_31 : am_B 176 (Int.toNat 31) = [.iload 2, .bipush 0, .aload 0, .getfield 589, .iload 1, .iaload, .bipush 1, .isub, .invokevirtual 114, .ifCond .ne 53, .aload 0, .bipush 3, .invokevirtual 135, .ireturn] := rfl
theorem b_176_53 : am_B 176 (Int.toNat 53) = [.aload 0, .getfield 590, .bipush 60, .iload 1, .imul, .iload 2, .iadd, .aload 0, .getfield 588, .iload 1, .iaload, .ifCond .ne 77, .iload 3, .i2b, .goto 93] := rfl
theorem b_176_77 : am_B 176 (Int.toNat 77) = [.aload 0, .getfield 588, .iload 1, .iaload, .bipush 1, .if_icmp .ne 92, .iload 3, .i2s, .goto 93] := rfl
theorem b_176_92 : am_B 176 (Int.toNat 92) = [.iload 3, .jsr 93] := rfl
theorem b_176_93 : am_B 176 (Int.toNat 93) = [.iastore, .bipush 1, .ireturn] := rfl
theorem b_177_e : am_B 177 0 = [.aload 0, .bipush 0, .putfield 576, .iload 1, .invokevirtual 133, .ifCond .eq 19, .iload 3, .invokevirtual 134, .ifCond .ne 23, .jsr 19] := rfl
theorem b_177_19 : am_B 177 (Int.toNat 19) = [.sipush (-9223372036854775808), .lreturn] := rfl
theorem b_177_23 : am_B 177 (Int.toNat 23) = [.aload 0, .getfield 588, .iload 1, .iaload, .bipush (-9), .if_icmp .eq 50, .aload 0, .getfield 588, .iload 1, .iaload, .iload 3, .if_icmp .eq 50, .aload 0, .bipush 2, .invokevirtual 178, .lreturn] := rfl
theorem b_177_50 : am_B 177 (Int.toNat 50) = [.aload 0, .getfield 588, .iload 1, .iaload, .bipush (-9), .if_icmp .ne 67, .aload 0, .bipush 1, .invokevirtual 178, .lreturn] := rfl
theorem b_177_67 : am_B 177 (Int.toNat 67) = [.iload 2, .bipush 0, .aload 0, .getfield 589, .iload 1, .iaload, .bipush 1, .isub, .invokevirtual 114, .ifCond .ne 89, .aload 0, .bipush 3, .invokevirtual 178, .lreturn] := rfl
theorem b_177_89 : am_B 177 (Int.toNat 89) = [.aload 0, .getfield 590, .bipush 60, .iload 1, .imul, .iload 2, .iadd, .iaload, .i2l, .lreturn] := rfl
theorem b_178_e : am_B 178 0 = [.aload 0, .iload 1, .putfield 576, .sipush (-9223372036854775808), .lreturn] := rfl
theorem b_179_e : am_B 179 0 = [.aload 0, .iload 1, .invokevirtual 123, .ifCond .ne 10, .bipush (-1), .ireturn] := rfl
theorem b_179_10 : am_B 179 (Int.toNat 10) = [.aload 0, .getfield 582, .iload 1, .baload, .ifCond .eq 23, .bipush 0, .goto 26] := rfl
theorem b_179_23 : am_B 179 (Int.toNat 23) = [.bipush 1000, .jsr 26] := rfl
theorem b_179_26 : am_B 179 (Int.toNat 26) = [.istore 2, .aload 0, .getfield 580, .iload 1, .iaload, .lookupswitch 110 #[(1, 60), (2, 79)]] := rfl
theorem b_179_60 : am_B 179 (Int.toNat 60) = [.aload 0, .bipush 2, .invokevirtual 180, .aload 0, .bipush 1, .invokevirtual 180, .aload 0, .getfield 581, .iload 1, .iaload, .iload 2, .iadd, .ireturn] := rfl
theorem b_179_79 : am_B 179 (Int.toNat 79) = [.aload 0, .bipush 3, .invokevirtual 180, .aload 0, .bipush 2, .invokevirtual 180, .aload 0, .bipush 1, .invokevirtual 180, .aload 0, .bipush 1, .invokevirtual 180, .bipush 2, .aload 0, .getfield 581, .iload 1, .iaload, .imul, .iload 2, .iadd, .ireturn] := rfl
theorem b_179_110 : am_B 179 (Int.toNat 110) = [.aload 0, .bipush 1, .invokevirtual 180, .aload 0, .getfield 581, .iload 1, .iaload, .ireturn] := rfl
theorem b_180_e : am_B 180 0 = [.aload 0, .bipush 31, .aload 0, .getfield 577, .imul, .iload 1, .iadd, .putfield 577, .return_] := rfl
theorem b_181_e : am_B 181 0 = [.aload 0, .iload 1, .invokevirtual 123, .ifCond .ne 10, .bipush (-1), .ireturn] := rfl
theorem b_181_10 : am_B 181 (Int.toNat 10) = [.aload 0, .aload 0, .getfield 580, .iload 1, .iaload, .bipush 2, .if_icmp .ne 25, .bipush 5, .goto 26] := rfl
theorem b_181_25 : am_B 181 (Int.toNat 25) = [.bipush 4, .jsr 26] := rfl
theorem b_181_26 : am_B 181 (Int.toNat 26) = [.invokevirtual 180, .aload 0, .getfield 580, .iload 1, .iaload, .bipush 2, .if_icmp .ne 44, .bipush 50, .goto 45] := rfl
theorem b_181_44 : am_B 181 (Int.toNat 44) = [.iload 1, .jsr 45] := rfl
theorem b_181_45 : am_B 181 (Int.toNat 45) = [.ireturn] := rfl
theorem b_182_e : am_B 182 0 = [.aload 0, .bipush 0, .putfield 576, .aload 0, .iload 1, .invokevirtual 123, .ifCond .ne 15, .bipush (-1), .ireturn] := rfl
theorem b_182_15 : am_B 182 (Int.toNat 15) = [.iload 2, .bipush 0, .bipush 2, .invokevirtual 114, .ifCond .ne 27, .bipush (-2), .ireturn] := rfl
theorem b_182_27 : am_B 182 (Int.toNat 27) = [.aload 0, .getfield 580, .iload 1, .iaload, .iload 2, .if_icmp .lt 41, .bipush 1, .goto 46] := rfl
theorem b_182_41 : am_B 182 (Int.toNat 41) = [.aload 0, .bipush 2, .invokevirtual 135, .jsr 46] := rfl
theorem b_182_46 : am_B 182 (Int.toNat 46) = [.ireturn] := rfl
theorem b_183_e : am_B 183 0 = [.aload 0, .getfield 577, .ireturn] := rfl
theorem b_184_e : am_B 184 0 = [.aload 0, .getfield 576, .ireturn] := rfl
theorem b_185_e : am_B 185 0 = [.bipush 0, .istore 2, .iload 1, .tableswitch 82 0 3 #[32, 37, 72, 77]] := rfl
theorem b_185_32 : am_B 185 (Int.toNat 32) = [.aload 0, .getfield 579, .ireturn] := rfl
theorem b_185_37 : am_B 185 (Int.toNat 37) = [.bipush 0, .istore 3, .jsr 39] := rfl
theorem b_185_39 : am_B 185 (Int.toNat 39) = [.iload 3, .aload 0, .getfield 579, .if_icmp .ge 70, .iload 2, .aload 0, .getfield 582, .iload 3, .baload, .ifCond .eq 61, .bipush 0, .goto 62] := rfl
theorem b_185_61 : am_B 185 (Int.toNat 61) = [.bipush 1, .jsr 62] := rfl
theorem b_185_62 : am_B 185 (Int.toNat 62) = [.iadd, .istore 2, .iinc 3 1, .goto 39] := rfl
theorem b_185_70 : am_B 185 (Int.toNat 70) = [.iload 2, .ireturn] := rfl
theorem b_185_72 : am_B 185 (Int.toNat 72) = [.aload 0, .getfield 584, .ireturn] := rfl
theorem b_185_77 : am_B 185 (Int.toNat 77) = [.aload 0, .invokevirtual 173, .ireturn] := rfl
theorem b_185_82 : am_B 185 (Int.toNat 82) = [.bipush (-2), .ireturn] := rfl
theorem b_186_e : am_B 186 0 = [.new 8, .dup, .invokevirtual 0, .astore 1, .new 9, .dup, .invokevirtual 112, .astore 2, .bipush 0, .istore 3, .jsr 18] := rfl
theorem b_186_18 : am_B 186 (Int.toNat 18) = [.iload 3, .aload 0, .arraylength, .bipush 6, .isub, .if_icmp .gt 1200, .aload 0, .iload 3, .iaload, .bipush 63, .iand, .tableswitch 1194 0 32 #[180, 213, 246, 295, 328, 361, 374, 427, 490, 523, 566, 589, 633, 677, 701, 714, 727, 751, 784, 807, 841, 865, 889, 913, 956, 979, 1022, 1066, 1089, 1112, 1145, 1158, 1171]] := rfl
theorem b_186_180 : am_B 186 (Int.toNat 180) = [.aload 1, .aload 0, .iload 3, .bipush 1, .iadd, .iaload, .aload 0, .iload 3, .bipush 2, .iadd, .iaload, .invokevirtual 9, .aload 2, .aload 0, .iload 3, .bipush 1, .iadd, .iaload, .aload 0, .iload 3, .bipush 2, .iadd, .iaload, .invokevirtual 113, .if_icmp .eq 1194, .bipush 0, .areturn] := rfl
theorem b_186_213 : am_B 186 (Int.toNat 213) = [.aload 1, .aload 0, .iload 3, .bipush 1, .iadd, .iaload, .aload 0, .iload 3, .bipush 2, .iadd, .iaload, .invokevirtual 13, .aload 2, .aload 0, .iload 3, .bipush 1, .iadd, .iaload, .aload 0, .iload 3, .bipush 2, .iadd, .iaload, .invokevirtual 119, .if_icmp .eq 1194, .bipush 0, .areturn] := rfl
theorem b_186_246 : am_B 186 (Int.toNat 246) = [.aload 1, .aload 0, .iload 3, .bipush 1, .iadd, .iaload, .aload 0, .iload 3, .bipush 2, .iadd, .iaload, .ifCond .eq 264, .bipush 1, .goto 265] := rfl
theorem b_186_264 : am_B 186 (Int.toNat 264) = [.bipush 0, .jsr 265] := rfl
theorem b_186_265 : am_B 186 (Int.toNat 265) = [.invokevirtual 16, .aload 2, .aload 0, .iload 3, .bipush 1, .iadd, .iaload, .aload 0, .iload 3, .bipush 2, .iadd, .iaload, .ifCond .eq 286, .bipush 1, .goto 287] := rfl
theorem b_186_286 : am_B 186 (Int.toNat 286) = [.bipush 0, .jsr 287] := rfl
theorem b_186_287 : am_B 186 (Int.toNat 287) = [.invokevirtual 122, .if_icmp .eq 1194, .bipush 0, .areturn] := rfl
theorem b_186_295 : am_B 186 (Int.toNat 295) = [.aload 1, .aload 0, .iload 3, .bipush 1, .iadd, .iaload, .aload 0, .iload 3, .bipush 2, .iadd, .iaload, .invokevirtual 18, .aload 2, .aload 0, .iload 3, .bipush 1, .iadd, .iaload, .aload 0, .iload 3, .bipush 2, .iadd, .iaload, .invokevirtual 124, .if_icmp .eq 1194, .bipush 0, .areturn] := rfl
theorem b_186_328 : am_B 186 (Int.toNat 328) = [.aload 1, .aload 0, .iload 3, .bipush 1, .iadd, .iaload, .aload 0, .iload 3, .bipush 2, .iadd, .iaload, .invokevirtual 19, .aload 2, .aload 0, .iload 3, .bipush 1, .iadd, .iaload, .aload 0, .iload 3, .bipush 2, .iadd, .iaload, .invokevirtual 125, .if_icmp .eq 1194, .bipush 0, .areturn] := rfl
theorem b_186_361 : am_B 186 (Int.toNat 361) = [.aload 1, .invokevirtual 20, .aload 2, .invokevirtual 126, .if_icmp .eq 1194, .bipush 0, .areturn] := rfl
theorem b_186_374 : am_B 186 (Int.toNat 374) = [.aload 1, .aload 0, .iload 3, .bipush 1, .iadd, .iaload, .aload 0, .iload 3, .bipush 2, .iadd, .iaload, .aload 0, .iload 3, .bipush 3, .iadd, .iaload, .aload 0, .iload 3, .bipush 4, .iadd, .iaload, .invokevirtual 21, .aload 2, .aload 0, .iload 3, .bipush 1, .iadd, .iaload, .aload 0, .iload 3, .bipush 2, .iadd, .iaload, .aload 0, .iload 3, .bipush 3, .iadd, .iaload, .aload 0, .iload 3, .bipush 4, .iadd, .iaload, .invokevirtual 127, .if_icmp .eq 1194, .bipush 0, .areturn] := rfl
theorem b_186_427 : am_B 186 (Int.toNat 427) = [.aload 1, .aload 0, .iload 3, .bipush 1, .iadd, .iaload, .aload 0, .iload 3, .bipush 2, .iadd, .iaload, .aload 0, .iload 3, .bipush 3, .iadd, .iaload, .aload 0, .iload 3, .bipush 4, .iadd, .iaload, .aload 0, .iload 3, .bipush 5, .iadd, .iaload, .invokevirtual 26, .aload 2, .aload 0, .iload 3, .bipush 1, .iadd, .iaload, .aload 0, .iload 3, .bipush 2, .iadd, .iaload, .aload 0, .iload 3, .bipush 3, .iadd, .iaload, .aload 0, .iload 3, .bipush 4, .iadd, .iaload, .aload 0, .iload 3, .bipush 5, .iadd, .iaload, .invokevirtual 132, .if_icmp .eq 1194, .bipush 0, .areturn] := rfl
theorem b_186_490 : am_B 186 (Int.toNat 490) = [.aload 1, .aload 0, .iload 3, .bipush 1, .iadd, .iaload, .aload 0, .iload 3, .bipush 2, .iadd, .iaload, .invokevirtual 34, .aload 2, .aload 0, .iload 3, .bipush 1, .iadd, .iaload, .aload 0, .iload 3, .bipush 2, .iadd, .iaload, .invokevirtual 136, .if_icmp .eq 1194, .bipush 0, .areturn] := rfl
theorem b_186_523 : am_B 186 (Int.toNat 523) = [.aload 1, .aload 0, .iload 3, .bipush 1, .iadd, .iaload, .aload 0, .iload 3, .bipush 2, .iadd, .iaload, .aload 0, .iload 3, .bipush 3, .iadd, .iaload, .invokevirtual 35, .aload 2, .aload 0, .iload 3, .bipush 1, .iadd, .iaload, .aload 0, .iload 3, .bipush 2, .iadd, .iaload, .aload 0, .iload 3, .bipush 3, .iadd, .iaload, .invokevirtual 137, .if_icmp .eq 1194, .bipush 0, .areturn] := rfl
theorem b_186_566 : am_B 186 (Int.toNat 566) = [.aload 1, .aload 0, .iload 3, .bipush 1, .iadd, .iaload, .invokevirtual 60, .aload 2, .aload 0, .iload 3, .bipush 1, .iadd, .iaload, .invokevirtual 152, .if_icmp .eq 1194, .bipush 0, .areturn] := rfl
theorem b_186_589 : am_B 186 (Int.toNat 589) = [.aload 1, .aload 0, .iload 3, .bipush 1, .iadd, .iaload, .aload 0, .iload 3, .bipush 2, .iadd, .iaload, .aload 0, .iload 3, .bipush 3, .iadd, .iaload, .invokevirtual 62, .aload 2, .aload 0, .iload 3, .bipush 1, .iadd, .iaload, .aload 0, .iload 3, .bipush 2, .iadd, .iaload, .aload 0, .iload 3, .bipush 3, .iadd, .iaload, .invokevirtual 153, .lcmp, .ifCond .eq 1194, .bipush 0, .areturn] := rfl
theorem b_186_633 : am_B 186 (Int.toNat 633) = [.aload 1, .aload 0, .iload 3, .bipush 1, .iadd, .iaload, .aload 0, .iload 3, .bipush 2, .iadd, .iaload, .aload 0, .iload 3, .bipush 3, .iadd, .iaload, .invokevirtual 66, .aload 2, .aload 0, .iload 3, .bipush 1, .iadd, .iaload, .aload 0, .iload 3, .bipush 2, .iadd, .iaload, .aload 0, .iload 3, .bipush 3, .iadd, .iaload, .invokevirtual 155, .lcmp, .ifCond .eq 1194, .bipush 0, .areturn] := rfl
theorem b_186_677 : am_B 186 (Int.toNat 677) = [.aload 1, .aload 0, .iload 3, .bipush 1, .iadd, .iaload, .invokevirtual 68, .aload 2, .aload 0, .iload 3, .bipush 1, .iadd, .iaload, .invokevirtual 156, .lcmp, .ifCond .eq 1194, .bipush 0, .areturn] := rfl
theorem b_186_701 : am_B 186 (Int.toNat 701) = [.aload 1, .invokevirtual 71, .aload 2, .invokevirtual 158, .if_icmp .eq 1194, .bipush 0, .areturn] := rfl
theorem b_186_714 : am_B 186 (Int.toNat 714) = [.aload 1, .invokevirtual 73, .aload 2, .invokevirtual 160, .if_icmp .eq 1194, .bipush 0, .areturn] := rfl
theorem b_186_727 : am_B 186 (Int.toNat 727) = [.aload 1, .aload 0, .iload 3, .bipush 1, .iadd, .iaload, .invokevirtual 74, .aload 2, .aload 0, .iload 3, .bipush 1, .iadd, .iaload, .invokevirtual 161, .lcmp, .ifCond .eq 1194, .bipush 0, .areturn] := rfl
theorem b_186_751 : am_B 186 (Int.toNat 751) = [.aload 1, .aload 0, .iload 3, .bipush 1, .iadd, .iaload, .aload 0, .iload 3, .bipush 2, .iadd, .iaload, .invokevirtual 77, .aload 2, .aload 0, .iload 3, .bipush 1, .iadd, .iaload, .aload 0, .iload 3, .bipush 2, .iadd, .iaload, .invokevirtual 163, .if_icmp .eq 1194, .bipush 0, .areturn] := rfl
theorem b_186_784 : am_B 186 (Int.toNat 784) = [.aload 1, .aload 0, .iload 3, .bipush 1, .iadd, .iaload, .invokevirtual 80, .aload 2, .aload 0, .iload 3, .bipush 1, .iadd, .iaload, .invokevirtual 165, .if_icmp .eq 1194, .bipush 0, .areturn] := rfl
theorem b_186_807 : am_B 186 (Int.toNat 807) = [.aload 1, .aload 0, .iload 3, .bipush 1, .iadd, .iaload, .aload 0, .iload 3, .bipush 2, .iadd, .iaload, .invokevirtual 84, .aload 2, .aload 0, .iload 3, .bipush 1, .iadd, .iaload, .aload 0, .iload 3, .bipush 2, .iadd, .iaload, .invokevirtual 167, .lcmp, .ifCond .eq 1194, .bipush 0, .areturn] := rfl
theorem b_186_841 : am_B 186 (Int.toNat 841) = [.aload 1, .aload 0, .iload 3, .bipush 1, .iadd, .iaload, .invokevirtual 87, .aload 2, .aload 0, .iload 3, .bipush 1, .iadd, .iaload, .invokevirtual 169, .lcmp, .ifCond .eq 1194, .bipush 0, .areturn] := rfl
theorem b_186_865 : am_B 186 (Int.toNat 865) = [.aload 1, .aload 0, .iload 3, .bipush 1, .iadd, .iaload, .invokevirtual 90, .aload 2, .aload 0, .iload 3, .bipush 1, .iadd, .iaload, .invokevirtual 170, .lcmp, .ifCond .eq 1194, .bipush 0, .areturn] := rfl
theorem b_186_889 : am_B 186 (Int.toNat 889) = [.aload 1, .aload 0, .iload 3, .bipush 1, .iadd, .iaload, .invokevirtual 92, .aload 2, .aload 0, .iload 3, .bipush 1, .iadd, .iaload, .invokevirtual 171, .lcmp, .ifCond .eq 1194, .bipush 0, .areturn] := rfl
theorem b_186_913 : am_B 186 (Int.toNat 913) = [.aload 1, .aload 0, .iload 3, .bipush 1, .iadd, .iaload, .aload 0, .iload 3, .bipush 2, .iadd, .iaload, .aload 0, .iload 3, .bipush 3, .iadd, .iaload, .invokevirtual 94, .aload 2, .aload 0, .iload 3, .bipush 1, .iadd, .iaload, .aload 0, .iload 3, .bipush 2, .iadd, .iaload, .aload 0, .iload 3, .bipush 3, .iadd, .iaload, .invokevirtual 174, .if_icmp .eq 1194, .bipush 0, .areturn] := rfl
theorem b_186_956 : am_B 186 (Int.toNat 956) = [.aload 1, .aload 0, .iload 3, .bipush 1, .iadd, .iaload, .invokevirtual 96, .aload 2, .aload 0, .iload 3, .bipush 1, .iadd, .iaload, .invokevirtual 175, .if_icmp .eq 1194, .bipush 0, .areturn] := rfl
theorem b_186_979 : am_B 186 (Int.toNat 979) = [.aload 1, .aload 0, .iload 3, .bipush 1, .iadd, .iaload, .aload 0, .iload 3, .bipush 2, .iadd, .iaload, .aload 0, .iload 3, .bipush 3, .iadd, .iaload, .invokevirtual 97, .aload 2, .aload 0, .iload 3, .bipush 1, .iadd, .iaload, .aload 0, .iload 3, .bipush 2, .iadd, .iaload, .aload 0, .iload 3, .bipush 3, .iadd, .iaload, .invokevirtual 176, .if_icmp .eq 1194, .bipush 0, .areturn] := rfl
theorem b_186_1022 : am_B 186 (Int.toNat 1022) = [.aload 1, .aload 0, .iload 3, .bipush 1, .iadd, .iaload, .aload 0, .iload 3, .bipush 2, .iadd, .iaload, .aload 0, .iload 3, .bipush 3, .iadd, .iaload, .invokevirtual 100, .aload 2, .aload 0, .iload 3, .bipush 1, .iadd, .iaload, .aload 0, .iload 3, .bipush 2, .iadd, .iaload, .aload 0, .iload 3, .bipush 3, .iadd, .iaload, .invokevirtual 177, .lcmp, .ifCond .eq 1194, .bipush 0, .areturn] := rfl
theorem b_186_1066 : am_B 186 (Int.toNat 1066) = [.aload 1, .aload 0, .iload 3, .bipush 1, .iadd, .iaload, .invokevirtual 101, .aload 2, .aload 0, .iload 3, .bipush 1, .iadd, .iaload, .invokevirtual 179, .if_icmp .eq 1194, .bipush 0, .areturn] := rfl
theorem b_186_1089 : am_B 186 (Int.toNat 1089) = [.aload 1, .aload 0, .iload 3, .bipush 1, .iadd, .iaload, .invokevirtual 106, .aload 2, .aload 0, .iload 3, .bipush 1, .iadd, .iaload, .invokevirtual 181, .if_icmp .eq 1194, .bipush 0, .areturn] := rfl
theorem b_186_1112 : am_B 186 (Int.toNat 1112) = [.aload 1, .aload 0, .iload 3, .bipush 1, .iadd, .iaload, .aload 0, .iload 3, .bipush 2, .iadd, .iaload, .invokevirtual 107, .aload 2, .aload 0, .iload 3, .bipush 1, .iadd, .iaload, .aload 0, .iload 3, .bipush 2, .iadd, .iaload, .invokevirtual 182, .if_icmp .eq 1194, .bipush 0, .areturn] := rfl
theorem b_186_1145 : am_B 186 (Int.toNat 1145) = [.aload 1, .invokevirtual 108, .aload 2, .invokevirtual 183, .if_icmp .eq 1194, .bipush 0, .areturn] := rfl
theorem b_186_1158 : am_B 186 (Int.toNat 1158) = [.aload 1, .invokevirtual 109, .aload 2, .invokevirtual 184, .if_icmp .eq 1194, .bipush 0, .areturn] := rfl
theorem b_186_1171 : am_B 186 (Int.toNat 1171) = [.aload 1, .aload 0, .iload 3, .bipush 1, .iadd, .iaload, .invokevirtual 110, .aload 2, .aload 0, .iload 3, .bipush 1, .iadd, .iaload, .invokevirtual 185, .if_icmp .eq 1194, .bipush 0, .areturn] := rfl
theorem b_186_1194 : am_B 186 (Int.toNat 1194) = [.iinc 3 6, .goto 18] := rfl
theorem b_186_1200 : am_B 186 (Int.toNat 1200) = [.bipush 1, .areturn] := rfl
