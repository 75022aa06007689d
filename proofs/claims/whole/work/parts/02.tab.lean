/-- 0: RailPower.<init>()V -/
def am_L0 : List (Nat × List Instr) := [(0, [.aload 0, .pop2, .aload 0, .new 2, .dup, .invokevirtual 1, .putfield 512, .aload 0, .new 1, .dup, .aload 0, .getfield 512, .invokevirtual 4, .putfield 513, .aload 0, .bipush 4, .anewarray 6, .putfield 514, .bipush 0, .istore 1, .jsr 40]),
  (40, [.iload 1, .bipush 4, .if_icmp .ge 64, .aload 0, .getfield 514, .iload 1, .new 5, .dup, .invokevirtual 8, .aastore, .iinc 1 1, .goto 40]),
  (64, [.aload 0, .new 4, .dup, .invokevirtual 5, .putfield 515, .return_])]
/-- 1: RailPower$Line.<init>()V -/
def am_L1 : List (Nat × List Instr) := [(0, [.aload 0, .pop2, .aload 0, .bipush 5, .newarray .int, .dup, .bipush 0, .bipush 100, .iastore, .dup, .bipush 1, .bipush 1, .iastore, .dup, .bipush 2, .bipush 750, .iastore, .dup, .bipush 3, .bipush 900, .iastore, .dup, .bipush 4, .bipush 500, .iastore, .putfield 128, .aload 0, .bipush 5, .anewarray 3, .putfield 129, .aload 0, .bipush 5, .anewarray 4, .putfield 130, .aload 0, .bipush 5, .newarray .int, .putfield 131, .bipush 0, .istore 1, .jsr 63]),
  (63, [.iload 1, .bipush 5, .if_icmp .ge 87, .aload 0, .getfield 129, .iload 1, .new 6, .dup, .invokevirtual 2, .aastore, .iinc 1 1, .goto 63]),
  (87, [.bipush 0, .istore 1, .jsr 89]),
  (89, [.iload 1, .bipush 5, .if_icmp .ge 113, .aload 0, .getfield 130, .iload 1, .new 7, .dup, .invokevirtual 3, .aastore, .iinc 1 1, .goto 89]),
  (113, [.return_])]
/-- 2: RailPower$Station.<init>()V -/
def am_L2 : List (Nat × List Instr) := [(0, [.aload 0, .pop2, .aload 0, .bipush 1, .putfield 386, .aload 0, .bipush 3000, .putfield 387, .return_])]
/-- 3: RailPower$Train.<init>()V -/
def am_L3 : List (Nat × List Instr) := [(0, [.aload 0, .pop2, .aload 0, .bipush 24, .newarray .int, .putfield 448, .aload 0, .bipush 24, .newarray .int, .putfield 449, .bipush 0, .istore 1, .jsr 22]),
  (22, [.iload 1, .bipush 24, .if_icmp .ge 41, .aload 0, .getfield 448, .iload 1, .bipush (-1), .iastore, .iinc 1 1, .goto 22]),
  (41, [.return_])]
/-- 4: RailPower$Day.<init>(LRailPower$Line;)V -/
def am_L4 : List (Nat × List Instr) := [(0, [.aload 0, .pop2, .aload 0, .new 4, .dup, .invokevirtual 5, .putfield 65, .aload 0, .new 4, .dup, .invokevirtual 5, .putfield 68, .aload 0, .bipush 2, .anewarray 5, .putfield 69, .aload 0, .new 4, .dup, .invokevirtual 5, .putfield 70, .aload 0, .bipush (-9), .putfield 71, .aload 0, .new 4, .dup, .invokevirtual 5, .putfield 74, .aload 0, .new 4, .dup, .invokevirtual 5, .putfield 75, .aload 0, .bipush 5, .newarray .int, .putfield 76, .aload 0, .aload 1, .putfield 73, .aload 0, .new 0, .dup, .aload 1, .getfield 128, .invokevirtual 6, .putfield 64, .bipush 0, .istore 2, .jsr 102]),
  (102, [.iload 2, .bipush 2, .if_icmp .ge 126, .aload 0, .getfield 69, .iload 2, .new 3, .dup, .invokevirtual 7, .aastore, .iinc 2 1, .goto 102]),
  (126, [.return_])]
/-- 5: RailPower$Share.<init>()V -/
def am_L5 : List (Nat × List Instr) := [(0, [.aload 0, .pop2, .aload 0, .sipush 1, .putfield 257, .return_])]
/-- 6: RailPower$Circuit.<init>([I)V -/
def am_L6 : List (Nat × List Instr) := [(0, [.aload 0, .pop2, .aload 0, .bipush 5, .newarray .int, .putfield 0, .aload 0, .bipush 5, .newarray .int, .putfield 1, .aload 0, .bipush 5, .newarray .boolean, .putfield 2, .aload 0, .bipush 5, .newarray .long, .putfield 3, .aload 0, .bipush 5, .newarray .long, .putfield 4, .aload 0, .bipush 5, .newarray .boolean, .putfield 6, .aload 0, .bipush 5, .newarray .int, .putfield 7, .aload 0, .bipush 5, .newarray .int, .putfield 8, .aload 0, .new 4, .dup, .invokevirtual 5, .putfield 10, .aload 0, .new 4, .dup, .invokevirtual 5, .putfield 11, .aload 0, .aload 1, .putfield 9, .return_])]
/-- 7: RailPower$Peak.<init>()V -/
def am_L7 : List (Nat × List Instr) := [(0, [.aload 0, .pop2, .aload 0, .new 4, .dup, .invokevirtual 5, .putfield 192, .aload 0, .bipush 5, .newarray .int, .putfield 193, .return_])]
/-- 8: RailPower$Sheet.<init>()V -/
def am_L8 : List (Nat × List Instr) := [(0, [.aload 0, .pop2, .aload 0, .bipush 60, .newarray .int, .putfield 320, .aload 0, .bipush (-1), .putfield 321, .return_])]
/-- 9: RailPower.rule(II)I -/
def am_L9 : List (Nat × List Instr) := [(0, [.iload 1, .ifCond .lt 9, .iload 1, .bipush 5, .if_icmp .lt 11, .jsr 9]),
  (9, [.bipush (-1), .ireturn]),
  (11, [.iload 2, .getstatic 0, .iload 1, .iaload, .if_icmp .lt 29, .iload 2, .getstatic 1, .iload 1, .iaload, .if_icmp .le 32, .jsr 29]),
  (29, [.bipush (-2), .ireturn]),
  (32, [.aload 0, .getfield 512, .iload 1, .iload 2, .invokevirtual 10, .ifCond .ne 47, .bipush (-3), .ireturn]),
  (47, [.aload 0, .getfield 512, .getfield 128, .iload 1, .iaload, .istore 3, .aload 0, .getfield 512, .getfield 128, .iload 1, .iload 2, .iastore, .aload 0, .getfield 513, .invokevirtual 12, .iload 3, .ireturn])]
/-- 10: RailPower$Line.allows(II)Z -/
def am_L10 : List (Nat × List Instr) := [(0, [.iload 1, .tableswitch 108 0 4 #[36, 108, 50, 76, 92]]),
  (36, [.aload 0, .iload 2, .invokevirtual 11, .ifCond .ne 48, .bipush 1, .goto 49]),
  (48, [.bipush 0, .jsr 49]),
  (49, [.areturn]),
  (50, [.iload 2, .aload 0, .getfield 128, .bipush 3, .iaload, .if_icmp .gt 74, .iload 2, .aload 0, .getfield 128, .bipush 4, .iaload, .if_icmp .lt 74, .bipush 1, .goto 75]),
  (74, [.bipush 0, .jsr 75]),
  (75, [.areturn]),
  (76, [.aload 0, .getfield 128, .bipush 2, .iaload, .iload 2, .if_icmp .gt 90, .bipush 1, .goto 91]),
  (90, [.bipush 0, .jsr 91]),
  (91, [.areturn]),
  (92, [.aload 0, .getfield 128, .bipush 2, .iaload, .iload 2, .if_icmp .lt 106, .bipush 1, .goto 107]),
  (106, [.bipush 0, .jsr 107]),
  (107, [.areturn]),
  (108, [.bipush 1, .areturn])]
/-- 11: RailPower$Line.isAnyBeyond(I)Z -/
def am_L11 : List (Nat × List Instr) := [(0, [.bipush 0, .istore 2, .jsr 2]),
  (2, [.iload 2, .aload 0, .getfield 132, .if_icmp .ge 31, .aload 0, .getfield 129, .iload 2, .aaload, .getfield 385, .iload 1, .if_icmp .le 25, .bipush 1, .areturn]),
  (25, [.iinc 2 1, .goto 2]),
  (31, [.bipush 0, .istore 2, .jsr 33]),
  (33, [.iload 2, .aload 0, .getfield 133, .if_icmp .ge 78, .bipush 0, .istore 3, .jsr 43]),
  (43, [.iload 3, .bipush 24, .if_icmp .ge 72, .aload 0, .getfield 130, .iload 2, .aaload, .getfield 448, .iload 3, .iaload, .iload 1, .if_icmp .le 66, .bipush 1, .areturn]),
  (66, [.iinc 3 1, .goto 43]),
  (72, [.iinc 2 1, .goto 33]),
  (78, [.bipush 0, .areturn])]
/-- 12: RailPower$Day.forget()V -/
def am_L12 : List (Nat × List Instr) := [(0, [.aload 0, .bipush 0, .putfield 72, .bipush 0, .istore 1, .jsr 7]),
  (7, [.iload 1, .bipush 2, .if_icmp .ge 28, .aload 0, .getfield 69, .iload 1, .aaload, .bipush 0, .putfield 194, .iinc 1 1, .goto 7]),
  (28, [.return_])]
/-- 13: RailPower.station(II)I -/
def am_L13 : List (Nat × List Instr) := [(0, [.iload 1, .ifCond .lt 20, .iload 1, .bipush 2, .if_icmp .gt 20, .aload 0, .getfield 512, .iload 2, .invokevirtual 14, .ifCond .ne 23, .jsr 20]),
  (20, [.bipush (-2), .ireturn]),
  (23, [.aload 0, .getfield 512, .iload 2, .invokevirtual 15, .ifCond .eq 37, .bipush (-3), .ireturn]),
  (37, [.aload 0, .getfield 512, .getfield 132, .bipush 5, .if_icmp .lt 51, .bipush (-4), .ireturn]),
  (51, [.aload 0, .getfield 512, .getfield 132, .istore 3, .aload 0, .getfield 512, .getfield 129, .iload 3, .aaload, .iload 1, .putfield 384, .aload 0, .getfield 512, .getfield 129, .iload 3, .aaload, .iload 2, .putfield 385, .aload 0, .getfield 512, .iload 3, .bipush 1, .iadd, .putfield 132, .aload 0, .getfield 513, .invokevirtual 12, .iload 3, .ireturn])]
/-- 14: RailPower$Line.hasPlace(I)Z -/
def am_L14 : List (Nat × List Instr) := [(0, [.iload 1, .ifCond .lt 18, .iload 1, .aload 0, .getfield 128, .bipush 0, .iaload, .if_icmp .gt 18, .bipush 1, .goto 19]),
  (18, [.bipush 0, .jsr 19]),
  (19, [.areturn])]
/-- 15: RailPower$Line.hasStationAt(I)Z -/
def am_L15 : List (Nat × List Instr) := [(0, [.bipush 0, .istore 2, .jsr 2]),
  (2, [.iload 2, .aload 0, .getfield 132, .if_icmp .ge 31, .aload 0, .getfield 129, .iload 2, .aaload, .getfield 385, .iload 1, .if_icmp .ne 25, .bipush 1, .areturn]),
  (25, [.iinc 2 1, .goto 2]),
  (31, [.bipush 0, .areturn])]
/-- 16: RailPower.set(IZ)I -/
def am_L16 : List (Nat × List Instr) := [(0, [.aload 0, .getfield 512, .iload 1, .invokevirtual 17, .ifCond .ne 13, .bipush (-1), .ireturn]),
  (13, [.aload 0, .getfield 512, .getfield 129, .iload 1, .aaload, .getfield 386, .iload 2, .if_icmp .ne 31, .bipush 0, .ireturn]),
  (31, [.aload 0, .getfield 512, .getfield 129, .iload 1, .aaload, .iload 2, .putfield 386, .aload 0, .getfield 513, .invokevirtual 12, .bipush 1, .ireturn])]
/-- 17: RailPower$Line.hasStation(I)Z -/
def am_L17 : List (Nat × List Instr) := [(0, [.iload 1, .ifCond .lt 16, .iload 1, .aload 0, .getfield 132, .if_icmp .ge 16, .bipush 1, .goto 17]),
  (16, [.bipush 0, .jsr 17]),
  (17, [.areturn])]
/-- 18: RailPower.trip(II)I -/
def am_L18 : List (Nat × List Instr) := [(0, [.aload 0, .getfield 512, .iload 1, .invokevirtual 17, .ifCond .ne 13, .bipush (-1), .ireturn]),
  (13, [.iload 2, .ifCond .lt 23, .iload 2, .bipush 100000, .if_icmp .le 26, .jsr 23]),
  (23, [.bipush (-2), .ireturn]),
  (26, [.aload 0, .getfield 512, .getfield 129, .iload 1, .aaload, .getfield 387, .istore 3, .aload 0, .getfield 512, .getfield 129, .iload 1, .aaload, .iload 2, .putfield 387, .iload 3, .ireturn])]
/-- 19: RailPower.about(II)I -/
def am_L19 : List (Nat × List Instr) := [(0, [.aload 0, .getfield 512, .iload 1, .invokevirtual 17, .ifCond .ne 13, .bipush (-1), .ireturn]),
  (13, [.aload 0, .getfield 512, .getfield 129, .iload 1, .aaload, .astore 3, .iload 2, .tableswitch 84 0 3 #[56, 61, 66, 79]]),
  (56, [.aload 3, .getfield 384, .ireturn]),
  (61, [.aload 3, .getfield 385, .ireturn]),
  (66, [.aload 3, .getfield 386, .ifCond .eq 77, .bipush 1, .goto 78]),
  (77, [.bipush 0, .jsr 78]),
  (78, [.ireturn]),
  (79, [.aload 3, .getfield 387, .ireturn]),
  (84, [.bipush (-2), .ireturn])]
/-- 20: RailPower.train()I -/
def am_L20 : List (Nat × List Instr) := [(0, [.aload 0, .getfield 512, .getfield 133, .bipush 5, .if_icmp .lt 14, .bipush (-4), .ireturn]),
  (14, [.aload 0, .getfield 512, .getfield 133, .istore 1, .aload 0, .getfield 512, .iload 1, .bipush 1, .iadd, .putfield 133, .aload 0, .getfield 513, .invokevirtual 12, .iload 1, .ireturn])]
/-- 21: RailPower.run(IIII)I -/
def am_L21 : List (Nat × List Instr) := [(0, [.aload 0, .getfield 512, .iload 1, .invokevirtual 22, .ifCond .eq 18, .iload 2, .invokevirtual 23, .ifCond .ne 20, .jsr 18]),
  (18, [.bipush (-1), .ireturn]),
  (20, [.aload 0, .getfield 512, .iload 3, .iload 4, .invokevirtual 24, .ifCond .ne 36, .bipush (-2), .ireturn]),
  (36, [.aload 0, .getfield 512, .getfield 130, .iload 1, .aaload, .iload 2, .iload 3, .iload 4, .invokevirtual 25, .aload 0, .getfield 513, .invokevirtual 12, .bipush 1, .ireturn])]
/-- 22: RailPower$Line.hasTrain(I)Z -/
def am_L22 : List (Nat × List Instr) := [(0, [.iload 1, .ifCond .lt 16, .iload 1, .aload 0, .getfield 133, .if_icmp .ge 16, .bipush 1, .goto 17]),
  (16, [.bipush 0, .jsr 17]),
  (17, [.areturn])]
/-- 23: RailPower.isTick(I)Z -/
def am_L23 : List (Nat × List Instr) := [(0, [.iload 0, .ifCond .lt 14, .iload 0, .bipush 24, .if_icmp .ge 14, .bipush 1, .goto 15]),
  (14, [.bipush 0, .jsr 15]),
  (15, [.areturn])]
/-- 24: RailPower$Line.mayRun(II)Z -/
def am_L24 : List (Nat × List Instr) := [(0, [.iload 1, .bipush (-1), .if_icmp .ne 7, .bipush 1, .areturn]),
  (7, [.aload 0, .iload 1, .invokevirtual 14, .ifCond .eq 33, .iload 2, .bipush (-400), .if_icmp .lt 33, .iload 2, .bipush 400, .if_icmp .gt 33, .bipush 1, .goto 34]),
  (33, [.bipush 0, .jsr 34]),
  (34, [.areturn])]
/-- 25: RailPower$Train.beAt(III)V -/
def am_L25 : List (Nat × List Instr) := [(0, [.aload 0, .getfield 448, .iload 1, .iload 2, .iastore, .aload 0, .getfield 449, .iload 1, .iload 3, .iastore, .return_])]
/-- 26: RailPower.runs(IIIII)I -/
def am_L26 : List (Nat × List Instr) := [(0, [.aload 0, .bipush 0, .putfield 517, .aload 0, .getfield 512, .iload 1, .invokevirtual 22, .ifCond .eq 23, .iload 2, .invokevirtual 27, .ifCond .ne 25, .jsr 23]),
  (23, [.bipush (-1), .ireturn]),
  (25, [.iload 3, .invokevirtual 28, .ifCond .ne 35, .bipush (-2), .ireturn]),
  (35, [.aload 0, .getfield 514, .iload 2, .aaload, .astore 6, .aload 6, .iload 3, .invokevirtual 29, .istore 7, .iload 7, .ifCond .ne 64, .iload 5, .ifCond .ge 64, .bipush 4, .istore 7, .jsr 64]),
  (64, [.iload 7, .ifCond .ne 89, .aload 6, .iload 4, .sipush 2, .iload 5, .i2l, .lmul, .invokevirtual 30, .ifCond .ne 89, .bipush 3, .istore 7, .jsr 89]),
  (89, [.iload 7, .ifCond .eq 101, .aload 0, .iload 7, .invokevirtual 31, .ireturn]),
  (101, [.iload 5, .bipush 24, .if_icmp .gt 121, .aload 0, .aload 6, .iload 4, .iload 5, .invokevirtual 32, .ifCond .ne 124, .jsr 121]),
  (121, [.bipush (-2), .ireturn]),
  (124, [.aload 0, .getfield 513, .invokevirtual 12, .aload 0, .getfield 512, .getfield 130, .iload 1, .aaload, .aload 6, .iload 4, .iload 5, .invokevirtual 33, .ireturn])]
/-- 27: RailPower.isSheet(I)Z -/
def am_L27 : List (Nat × List Instr) := [(0, [.iload 0, .ifCond .lt 13, .iload 0, .bipush 4, .if_icmp .ge 13, .bipush 1, .goto 14]),
  (13, [.bipush 0, .jsr 14]),
  (14, [.areturn])]
/-- 28: RailPower.isLane(I)Z -/
def am_L28 : List (Nat × List Instr) := [(0, [.iload 0, .ifCond .lt 13, .iload 0, .bipush 2, .if_icmp .gt 13, .bipush 1, .goto 14]),
  (13, [.bipush 0, .jsr 14]),
  (14, [.areturn])]
/-- 29: RailPower$Sheet.failingAs(I)I -/
def am_L29 : List (Nat × List Instr) := [(0, [.aload 0, .getfield 321, .bipush (-1), .if_icmp .ne 10, .bipush 1, .ireturn]),
  (10, [.aload 0, .getfield 321, .iload 1, .if_icmp .ne 22, .bipush 0, .goto 23]),
  (22, [.bipush 2, .jsr 23]),
  (23, [.ireturn])]
/-- 30: RailPower$Sheet.holdsFrom(IJ)Z -/
def am_L30 : List (Nat × List Instr) := [(0, [.iload 1, .ifCond .lt 28, .iload 1, .aload 0, .getfield 322, .if_icmp .gt 28, .lload 2, .aload 0, .getfield 322, .iload 1, .isub, .i2l, .lcmp, .ifCond .gt 28, .bipush 1, .goto 29]),
  (28, [.bipush 0, .jsr 29]),
  (29, [.areturn])]
/-- 31: RailPower.failed(I)I -/
def am_L31 : List (Nat × List Instr) := [(0, [.aload 0, .iload 1, .putfield 517, .bipush (-10), .iload 1, .isub, .ireturn])]
/-- 32: RailPower.mayRunBy(LRailPower$Sheet;II)Z -/
def am_L32 : List (Nat × List Instr) := [(0, [.bipush 0, .istore 4, .jsr 3]),
  (3, [.iload 4, .iload 3, .if_icmp .ge 51, .aload 0, .getfield 512, .aload 1, .getfield 320, .iload 2, .bipush 2, .iload 4, .imul, .iadd, .iaload, .aload 1, .getfield 320, .iload 2, .bipush 2, .iload 4, .imul, .iadd, .bipush 1, .iadd, .iaload, .invokevirtual 24, .ifCond .ne 45, .bipush 0, .areturn]),
  (45, [.iinc 4 1, .goto 3]),
  (51, [.bipush 1, .areturn])]
/-- 33: RailPower.runBy(LRailPower$Train;LRailPower$Sheet;II)I -/
def am_L33 : List (Nat × List Instr) := [(0, [.bipush 0, .istore 4, .bipush 0, .istore 5, .jsr 6]),
  (6, [.iload 5, .bipush 24, .if_icmp .ge 80, .iload 5, .iload 3, .if_icmp .ge 52, .aload 0, .iload 5, .aload 1, .getfield 320, .iload 2, .bipush 2, .iload 5, .imul, .iadd, .iaload, .aload 1, .getfield 320, .iload 2, .bipush 2, .iload 5, .imul, .iadd, .bipush 1, .iadd, .iaload, .invokevirtual 25, .goto 60]),
  (52, [.aload 0, .iload 5, .bipush (-1), .bipush 0, .invokevirtual 25, .jsr 60]),
  (60, [.aload 0, .getfield 448, .iload 5, .iaload, .bipush (-1), .if_icmp .eq 74, .iinc 4 1, .jsr 74]),
  (74, [.iinc 5 1, .goto 6]),
  (80, [.iload 4, .ireturn])]
/-- 34: RailPower.putOff(II)I -/
def am_L34 : List (Nat × List Instr) := [(0, [.aload 0, .getfield 512, .iload 1, .invokevirtual 22, .ifCond .ne 13, .bipush (-1), .ireturn]),
  (13, [.iload 2, .ifCond .lt 22, .iload 2, .bipush 5, .if_icmp .le 25, .jsr 22]),
  (22, [.bipush (-2), .ireturn]),
  (25, [.aload 0, .getfield 512, .getfield 131, .iload 1, .iaload, .istore 3, .aload 0, .getfield 512, .getfield 131, .iload 1, .iload 2, .iastore, .aload 0, .getfield 513, .invokevirtual 12, .iload 3, .ireturn])]
/-- 35: RailPower.at(III)I -/
def am_L35 : List (Nat × List Instr) := [(0, [.aload 0, .getfield 512, .iload 1, .invokevirtual 22, .ifCond .eq 18, .iload 2, .invokevirtual 23, .ifCond .ne 20, .jsr 18]),
  (18, [.bipush (-1), .ireturn]),
  (20, [.iload 3, .ifCond .lt 29, .iload 3, .bipush 2, .if_icmp .le 32, .jsr 29]),
  (29, [.bipush (-2), .ireturn]),
  (32, [.iload 3, .bipush 2, .if_icmp .ne 50, .aload 0, .getfield 512, .invokevirtual 36, .ifCond .eq 50, .bipush (-3), .ireturn]),
  (50, [.iload 2, .aload 0, .getfield 512, .getfield 131, .iload 1, .iaload, .isub, .istore 4, .iload 4, .invokevirtual 23, .ifCond .eq 90, .aload 0, .getfield 512, .getfield 130, .iload 1, .aaload, .getfield 448, .iload 4, .iaload, .bipush (-1), .if_icmp .ne 101, .jsr 90]),
  (90, [.iload 3, .ifCond .ne 99, .bipush (-9), .goto 100]),
  (99, [.bipush 0, .jsr 100]),
  (100, [.ireturn]),
  (101, [.iload 3, .ifCond .ne 121, .aload 0, .getfield 512, .getfield 130, .iload 1, .aaload, .getfield 448, .iload 4, .iaload, .ireturn]),
  (121, [.iload 3, .bipush 1, .if_icmp .ne 142, .aload 0, .getfield 512, .getfield 130, .iload 1, .aaload, .getfield 449, .iload 4, .iaload, .ireturn]),
  (142, [.aload 0, .getfield 513, .iload 2, .invokevirtual 38, .aload 0, .getfield 513, .getfield 64, .getfield 8, .iload 1, .iaload, .ireturn])]
/-- 36: RailPower$Line.isDark()Z -/
def am_L36 : List (Nat × List Instr) := [(0, [.aload 0, .invokevirtual 37, .ifCond .ne 11, .bipush 1, .goto 12]),
  (11, [.bipush 0, .jsr 12]),
  (12, [.areturn])]
/-- 37: RailPower$Line.stationsIn()I -/
def am_L37 : List (Nat × List Instr) := [(0, [.bipush 0, .istore 1, .bipush 0, .istore 2, .jsr 4]),
  (4, [.iload 2, .aload 0, .getfield 132, .if_icmp .ge 33, .aload 0, .getfield 129, .iload 2, .aaload, .getfield 386, .ifCond .eq 27, .iinc 1 1, .jsr 27]),
  (27, [.iinc 2 1, .goto 4]),
  (33, [.iload 1, .ireturn])]
/-- 38: RailPower$Day.solve(I)V -/
def am_L38 : List (Nat × List Instr) := [(0, [.aload 0, .bipush (-9), .invokevirtual 39, .aload 0, .iload 1, .aload 0, .getfield 73, .getfield 131, .invokevirtual 42, .pop, .aload 0, .getfield 64, .invokevirtual 45, .return_])]
/-- 39: RailPower$Day.takeStations(I)V -/
def am_L39 : List (Nat × List Instr) := [(0, [.aload 0, .getfield 64, .invokevirtual 40, .bipush 0, .istore 2, .jsr 9]),
  (9, [.iload 2, .aload 0, .getfield 73, .getfield 132, .if_icmp .ge 66, .aload 0, .getfield 73, .getfield 129, .iload 2, .aaload, .getfield 386, .ifCond .eq 60, .iload 2, .iload 1, .if_icmp .eq 60, .aload 0, .getfield 64, .iload 2, .aload 0, .getfield 73, .getfield 129, .iload 2, .aaload, .getfield 385, .invokevirtual 41, .jsr 60]),
  (60, [.iinc 2 1, .goto 9]),
  (66, [.return_])]
/-- 40: RailPower$Circuit.clearStations()V -/
def am_L40 : List (Nat × List Instr) := [(0, [.aload 0, .bipush 0, .putfield 5, .return_])]
/-- 41: RailPower$Circuit.addStation(II)V -/
def am_L41 : List (Nat × List Instr) := [(0, [.aload 0, .getfield 5, .bipush 5, .if_icmp .lt 9, .return_]),
  (9, [.aload 0, .getfield 5, .istore 3, .jsr 14]),
  (14, [.iload 3, .ifCond .le 64, .aload 0, .getfield 1, .iload 3, .bipush 1, .isub, .iaload, .iload 2, .if_icmp .le 64, .aload 0, .getfield 1, .iload 3, .aload 0, .getfield 1, .iload 3, .bipush 1, .isub, .iaload, .iastore, .aload 0, .getfield 0, .iload 3, .aload 0, .getfield 0, .iload 3, .bipush 1, .isub, .iaload, .iastore, .iinc 3 (-1), .goto 14]),
  (64, [.aload 0, .getfield 1, .iload 3, .iload 2, .iastore, .aload 0, .getfield 0, .iload 3, .iload 1, .iastore, .aload 0, .dup, .getfield 5, .bipush 1, .iadd, .putfield 5, .return_])]
/-- 42: RailPower$Day.takeLoads(I[I)Z -/
def am_L42 : List (Nat × List Instr) := [(0, [.bipush 0, .istore 3, .aload 0, .getfield 64, .invokevirtual 43, .bipush 0, .istore 4, .jsr 12]),
  (12, [.iload 4, .aload 0, .getfield 73, .getfield 133, .if_icmp .ge 109, .iload 1, .aload 2, .iload 4, .iaload, .isub, .istore 5, .iload 5, .invokevirtual 23, .ifCond .eq 103, .aload 0, .getfield 73, .getfield 130, .iload 4, .aaload, .getfield 448, .iload 5, .iaload, .bipush (-1), .if_icmp .eq 103, .aload 0, .getfield 64, .iload 4, .aload 0, .getfield 73, .getfield 130, .iload 4, .aaload, .getfield 448, .iload 5, .iaload, .aload 0, .getfield 73, .getfield 130, .iload 4, .aaload, .getfield 449, .iload 5, .iaload, .invokevirtual 44, .bipush 1, .istore 3, .jsr 103]),
  (103, [.iinc 4 1, .goto 12]),
  (109, [.iload 3, .areturn])]
/-- 43: RailPower$Circuit.clearLoads()V -/
def am_L43 : List (Nat × List Instr) := [(0, [.bipush 0, .istore 1, .jsr 2]),
  (2, [.iload 1, .bipush 5, .if_icmp .ge 27, .aload 0, .getfield 6, .iload 1, .bipush 0, .bastore, .aload 0, .getfield 8, .iload 1, .bipush 0, .iastore, .iinc 1 1, .goto 2]),
  (27, [.return_])]
/-- 44: RailPower$Circuit.addLoad(III)V -/
def am_L44 : List (Nat × List Instr) := [(0, [.aload 0, .getfield 6, .iload 1, .bipush 1, .bastore, .aload 0, .getfield 7, .iload 1, .iload 2, .iastore, .aload 0, .getfield 8, .iload 1, .iload 3, .iastore, .return_])]
/-- 45: RailPower$Circuit.settle()V -/
def am_L45 : List (Nat × List Instr) := [(0, [.bipush 0, .istore 1, .jsr 2]),
  (2, [.iload 1, .bipush 45, .if_icmp .gt 48, .aload 0, .invokevirtual 46, .ifCond .eq 22, .aload 0, .invokevirtual 53, .goto 26]),
  (22, [.aload 0, .invokevirtual 54, .jsr 26]),
  (26, [.istore 2, .iload 2, .ifCond .ge 32, .return_]),
  (32, [.aload 0, .getfield 8, .iload 2, .dup2, .iaload, .bipush 2, .idiv, .iastore, .iinc 1 1, .goto 2]),
  (48, [.return_])]
/-- 46: RailPower$Circuit.findFeeding()Z -/
def am_L46 : List (Nat × List Instr) := [(0, [.aload 0, .invokevirtual 47, .sipush 0, .lcmp, .ifCond .ge 11, .bipush 0, .areturn]),
  (11, [.bipush 0, .istore 1, .jsr 13]),
  (13, [.iload 1, .aload 0, .getfield 5, .if_icmp .ge 34, .aload 0, .getfield 2, .iload 1, .bipush 1, .bastore, .iinc 1 1, .goto 13]),
  (34, [.bipush 0, .istore 1, .jsr 36]),
  (36, [.iload 1, .aload 0, .getfield 5, .if_icmp .ge 64, .aload 0, .invokevirtual 48, .aload 0, .invokevirtual 51, .ifCond .ne 58, .goto 64]),
  (58, [.iinc 1 1, .goto 36]),
  (64, [.aload 0, .invokevirtual 52, .bipush 1, .areturn])]
/-- 47: RailPower$Circuit.pulledTogether()J -/
def am_L47 : List (Nat × List Instr) := [(0, [.sipush 0, .lstore 1, .bipush 0, .istore 3, .jsr 4]),
  (4, [.iload 3, .bipush 5, .if_icmp .ge 25, .lload 1, .aload 0, .getfield 8, .iload 3, .iaload, .i2l, .ladd, .lstore 1, .iinc 3 1, .goto 4]),
  (25, [.lload 1, .lreturn])]
/-- 48: RailPower$Circuit.weigh()V -/
def am_L48 : List (Nat × List Instr) := [(0, [.bipush (-1), .istore 1, .bipush 0, .istore 2, .jsr 4]),
  (4, [.iload 2, .aload 0, .getfield 5, .if_icmp .ge 40, .aload 0, .getfield 2, .iload 2, .baload, .ifCond .eq 34, .aload 0, .iload 2, .iload 1, .aload 0, .iload 2, .invokevirtual 49, .invokevirtual 50, .iload 2, .istore 1, .jsr 34]),
  (34, [.iinc 2 1, .goto 4]),
  (40, [.return_])]
/-- 49: RailPower$Circuit.nextFeeding(I)I -/
def am_L49 : List (Nat × List Instr) := [(0, [.iload 1, .bipush 1, .iadd, .istore 2, .jsr 4]),
  (4, [.iload 2, .aload 0, .getfield 5, .if_icmp .ge 29, .aload 0, .getfield 2, .iload 2, .baload, .ifCond .eq 23, .iload 2, .ireturn]),
  (23, [.iinc 2 1, .goto 4]),
  (29, [.bipush (-1), .ireturn])]
/-- 50: RailPower$Circuit.weighOne(III)V -/
def am_L50 : List (Nat × List Instr) := [(0, [.aload 0, .getfield 1, .iload 1, .iaload, .istore 4, .iload 2, .ifCond .ge 16, .sipush 1, .goto 26]),
  (16, [.iload 4, .aload 0, .getfield 1, .iload 2, .iaload, .isub, .i2l, .jsr 26]),
  (26, [.lstore 5, .iload 3, .ifCond .ge 36, .sipush 1, .goto 46]),
  (36, [.aload 0, .getfield 1, .iload 3, .iaload, .iload 4, .isub, .i2l, .jsr 46]),
  (46, [.lstore 7, .sipush 0, .lstore 9, .bipush 0, .istore 11, .jsr 54]),
  (54, [.iload 11, .bipush 5, .if_icmp .ge 205, .aload 0, .getfield 6, .iload 11, .baload, .ifCond .ne 73, .goto 199]),
  (73, [.aload 0, .getfield 7, .iload 11, .iaload, .istore 12, .iload 12, .iload 4, .if_icmp .ge 131, .lload 9, .aload 0, .getfield 8, .iload 11, .iaload, .i2l, .lload 7, .lmul, .iload 2, .ifCond .ge 110, .bipush 1, .goto 123]),
  (110, [.bipush 0, .iload 12, .aload 0, .getfield 1, .iload 2, .iaload, .isub, .fadd, .jsr 123]),
  (123, [.i2l, .lmul, .ladd, .lstore 9, .goto 199]),
  (131, [.iload 12, .iload 4, .if_icmp .le 180, .lload 9, .aload 0, .getfield 8, .iload 11, .iaload, .i2l, .lload 5, .lmul, .iload 3, .ifCond .ge 159, .bipush 1, .goto 172]),
  (159, [.bipush 0, .aload 0, .getfield 1, .iload 3, .iaload, .iload 12, .isub, .fadd, .jsr 172]),
  (172, [.i2l, .lmul, .ladd, .lstore 9, .goto 199]),
  (180, [.lload 9, .aload 0, .getfield 8, .iload 11, .iaload, .i2l, .lload 5, .lmul, .lload 7, .lmul, .ladd, .lstore 9, .jsr 199]),
  (199, [.iinc 11 1, .goto 54]),
  (205, [.aload 0, .getfield 3, .iload 1, .lload 9, .lastore, .aload 0, .getfield 4, .iload 1, .lload 5, .lload 7, .lmul, .lastore, .return_])]
/-- 51: RailPower$Circuit.leaveOutTaking()Z -/
def am_L51 : List (Nat × List Instr) := [(0, [.bipush 0, .istore 1, .bipush 0, .istore 2, .jsr 4]),
  (4, [.iload 2, .aload 0, .getfield 5, .if_icmp .ge 47, .aload 0, .getfield 2, .iload 2, .baload, .ifCond .eq 41, .aload 0, .getfield 3, .iload 2, .laload, .sipush 0, .lcmp, .ifCond .ge 41, .aload 0, .getfield 2, .iload 2, .bipush 0, .bastore, .bipush 1, .istore 1, .jsr 41]),
  (41, [.iinc 2 1, .goto 4]),
  (47, [.iload 1, .areturn])]
/-- 52: RailPower$Circuit.leaveOutIdle()V -/
def am_L52 : List (Nat × List Instr) := [(0, [.bipush (-1), .istore 1, .bipush 0, .istore 2, .bipush 0, .istore 3, .jsr 6]),
  (6, [.iload 3, .aload 0, .getfield 5, .if_icmp .ge 71, .aload 0, .getfield 2, .iload 3, .baload, .ifCond .eq 65, .iload 2, .ifCond .ne 38, .aload 0, .getfield 3, .iload 3, .laload, .sipush 0, .lcmp, .ifCond .le 42, .jsr 38]),
  (38, [.bipush 1, .goto 43]),
  (42, [.bipush 0, .jsr 43]),
  (43, [.istore 2, .iload 1, .ifCond .lt 63, .aload 0, .getfield 0, .iload 3, .iaload, .aload 0, .getfield 0, .iload 1, .iaload, .if_icmp .ge 65, .jsr 63]),
  (63, [.iload 3, .istore 1, .jsr 65]),
  (65, [.iinc 3 1, .goto 6]),
  (71, [.bipush 0, .istore 3, .jsr 73]),
  (73, [.iload 3, .aload 0, .getfield 5, .if_icmp .ge 114, .aload 0, .getfield 3, .iload 3, .laload, .sipush 0, .lcmp, .ifCond .ne 108, .iload 2, .ifCond .ne 101, .iload 3, .iload 1, .if_icmp .eq 108, .jsr 101]),
  (101, [.aload 0, .getfield 2, .iload 3, .bipush 0, .bastore, .jsr 108]),
  (108, [.iinc 3 1, .goto 73]),
  (114, [.return_])]
/-- 53: RailPower$Circuit.highestIfAnyTooHigh()I -/
def am_L53 : List (Nat × List Instr) := [(0, [.aload 0, .invokevirtual 54, .ifCond .ge 9, .bipush (-1), .ireturn]),
  (9, [.bipush (-1), .istore 1, .bipush 0, .istore 2, .bipush 0, .istore 3, .jsr 15]),
  (15, [.iload 3, .bipush 5, .if_icmp .ge 138, .aload 0, .getfield 6, .iload 3, .baload, .ifCond .ne 32, .goto 132]),
  (32, [.aload 0, .aload 0, .getfield 7, .iload 3, .iaload, .aload 0, .getfield 10, .invokevirtual 55, .iload 2, .ifCond .ne 76, .aload 0, .getfield 10, .getfield 256, .aload 0, .getfield 9, .bipush 3, .iaload, .i2l, .aload 0, .getfield 10, .getfield 257, .lmul, .lcmp, .ifCond .le 80, .jsr 76]),
  (76, [.bipush 1, .goto 81]),
  (80, [.bipush 0, .jsr 81]),
  (81, [.istore 2, .aload 0, .getfield 8, .iload 3, .iaload, .ifCond .ge 132, .iload 1, .ifCond .lt 109, .aload 0, .getfield 11, .aload 0, .getfield 10, .invokevirtual 59, .ifCond .eq 132, .jsr 109]),
  (109, [.iload 3, .istore 1, .aload 0, .getfield 11, .aload 0, .getfield 10, .getfield 256, .aload 0, .getfield 10, .getfield 257, .invokevirtual 58, .jsr 132]),
  (132, [.iinc 3 1, .goto 15]),
  (138, [.iload 2, .ifCond .eq 146, .iload 1, .goto 147]),
  (146, [.bipush (-1), .jsr 147]),
  (147, [.ireturn])]
/-- 54: RailPower$Circuit.givingBackMost()I -/
def am_L54 : List (Nat × List Instr) := [(0, [.bipush (-1), .istore 1, .bipush 0, .istore 2, .jsr 4]),
  (4, [.iload 2, .bipush 5, .if_icmp .ge 45, .aload 0, .getfield 8, .iload 2, .iaload, .ifCond .ge 39, .iload 1, .ifCond .lt 37, .aload 0, .getfield 8, .iload 2, .iaload, .aload 0, .getfield 8, .iload 1, .iaload, .if_icmp .ge 39, .jsr 37]),
  (37, [.iload 2, .istore 1, .jsr 39]),
  (39, [.iinc 2 1, .goto 4]),
  (45, [.iload 1, .ireturn])]
/-- 55: RailPower$Circuit.voltsAt(ILRailPower$Share;)V -/
def am_L55 : List (Nat × List Instr) := [(0, [.bipush (-1), .istore 3, .bipush (-1), .istore 4, .bipush 0, .istore 5, .jsr 8]),
  (8, [.iload 5, .aload 0, .getfield 5, .if_icmp .ge 77, .aload 0, .getfield 2, .iload 5, .baload, .ifCond .eq 41, .aload 0, .getfield 1, .iload 5, .iaload, .iload 1, .if_icmp .gt 41, .iload 5, .istore 3, .jsr 41]),
  (41, [.aload 0, .getfield 2, .iload 5, .baload, .ifCond .eq 71, .aload 0, .getfield 1, .iload 5, .iaload, .iload 1, .if_icmp .lt 71, .iload 4, .ifCond .ge 71, .iload 5, .istore 4, .jsr 71]),
  (71, [.iinc 5 1, .goto 8]),
  (77, [.sipush 1, .lstore 5, .sipush 0, .lstore 7, .iload 3, .ifCond .lt 133, .iload 4, .iload 3, .if_icmp .le 133, .aload 0, .getfield 1, .iload 4, .iaload, .aload 0, .getfield 1, .iload 3, .iaload, .isub, .i2l, .lstore 5, .aload 0, .aload 0, .getfield 1, .iload 3, .iaload, .aload 0, .getfield 1, .iload 4, .iaload, .iload 1, .invokevirtual 56, .lstore 7, .goto 157]),
  (133, [.iload 3, .iload 4, .if_icmp .eq 157, .aload 0, .aload 0, .getfield 1, .iload 3, .iload 4, .fadd, .iaload, .iload 1, .invokevirtual 57, .lstore 7, .jsr 157]),
  (157, [.aload 2, .sipush 1000, .aload 0, .getfield 9, .bipush 2, .iaload, .i2l, .lmul, .lload 5, .lmul, .aload 0, .getfield 9, .bipush 1, .iaload, .i2l, .lload 7, .lmul, .lsub, .sipush 1000, .lload 5, .lmul, .invokevirtual 58, .return_])]
/-- 56: RailPower$Circuit.lostBetween(III)J -/
def am_L56 : List (Nat × List Instr) := [(0, [.sipush 0, .lstore 4, .bipush 0, .istore 6, .jsr 6]),
  (6, [.iload 6, .bipush 5, .if_icmp .ge 82, .aload 0, .getfield 7, .iload 6, .iaload, .istore 7, .aload 0, .getfield 6, .iload 6, .baload, .ifCond .eq 76, .iload 7, .iload 1, .if_icmp .le 76, .iload 7, .iload 2, .if_icmp .ge 76, .lload 4, .aload 0, .getfield 8, .iload 6, .iaload, .i2l, .iload 3, .iload 7, .fsub, .iload 1, .isub, .i2l, .lmul, .iload 2, .iload 3, .iload 7, .fadd, .isub, .i2l, .lmul, .ladd, .lstore 4, .jsr 76]),
  (76, [.iinc 6 1, .goto 6]),
  (82, [.lload 4, .lreturn])]
/-- 57: RailPower$Circuit.lostBeyond(II)J -/
def am_L57 : List (Nat × List Instr) := [(0, [.sipush 0, .lstore 3, .bipush 0, .istore 5, .jsr 5]),
  (5, [.iload 5, .bipush 5, .if_icmp .ge 89, .aload 0, .getfield 7, .iload 5, .iaload, .istore 6, .aload 0, .getfield 6, .iload 5, .baload, .ifCond .eq 83, .iload 6, .iload 1, .if_icmp .le 40, .bipush 1, .goto 41]),
  (40, [.bipush 0, .jsr 41]),
  (41, [.iload 2, .iload 1, .if_icmp .le 50, .bipush 1, .goto 51]),
  (50, [.bipush 0, .jsr 51]),
  (51, [.if_icmp .ne 83, .lload 3, .aload 0, .getfield 8, .iload 5, .iaload, .i2l, .iload 2, .iload 1, .isub, .fmul, .iload 6, .iload 1, .isub, .fmul, .fsub, .i2l, .lmul, .ladd, .lstore 3, .jsr 83]),
  (83, [.iinc 5 1, .goto 5]),
  (89, [.lload 3, .lreturn])]
/-- 58: RailPower$Share.become(JJ)V -/
def am_L58 : List (Nat × List Instr) := [(0, [.aload 0, .lload 1, .putfield 256, .aload 0, .lload 3, .putfield 257, .return_])]
/-- 59: RailPower$Share.isBelow(LRailPower$Share;)Z -/
def am_L59 : List (Nat × List Instr) := [(0, [.aload 0, .getfield 256, .aload 1, .getfield 257, .lmul, .aload 1, .getfield 256, .aload 0, .getfield 257, .lmul, .lcmp, .ifCond .ge 26, .bipush 1, .goto 27]),
  (26, [.bipush 0, .jsr 27]),
  (27, [.areturn])]
/-- 60: RailPower.feeds(I)I -/
def am_L60 : List (Nat × List Instr) := [(0, [.iload 1, .invokevirtual 23, .ifCond .ne 9, .bipush (-1), .ireturn]),
  (9, [.aload 0, .getfield 512, .invokevirtual 36, .ifCond .eq 22, .bipush (-3), .ireturn]),
  (22, [.aload 0, .getfield 513, .iload 1, .invokevirtual 38, .aload 0, .getfield 513, .getfield 64, .invokevirtual 61, .ireturn])]
/-- 61: RailPower$Circuit.bits()I -/
def am_L61 : List (Nat × List Instr) := [(0, [.bipush 0, .istore 1, .bipush 0, .istore 2, .jsr 4]),
  (4, [.iload 2, .aload 0, .getfield 5, .if_icmp .ge 38, .aload 0, .getfield 2, .iload 2, .baload, .ifCond .eq 32, .iload 1, .bipush 1, .aload 0, .getfield 0, .iload 2, .iaload, .ishl, .ior, .istore 1, .jsr 32]),
  (32, [.iinc 2 1, .goto 4]),
  (38, [.iload 1, .ireturn])]
/-- 62: RailPower.volts(III)J -/
def am_L62 : List (Nat × List Instr) := [(0, [.iload 1, .invokevirtual 23, .ifCond .eq 35, .aload 0, .getfield 512, .iload 2, .invokevirtual 14, .ifCond .eq 35, .iload 3, .invokevirtual 63, .ifCond .eq 35, .aload 0, .getfield 512, .invokevirtual 36, .ifCond .eq 39, .jsr 35]),
  (35, [.sipush (-9223372036854775808), .lreturn]),
  (39, [.aload 0, .getfield 513, .iload 1, .invokevirtual 38, .aload 0, .getfield 513, .getfield 64, .iload 2, .aload 0, .getfield 515, .invokevirtual 55, .aload 0, .getfield 515, .iload 3, .invokevirtual 64, .lreturn])]
/-- 63: RailPower.isHalf(I)Z -/
def am_L63 : List (Nat × List Instr) := [(0, [.iload 0, .ifCond .eq 9, .iload 0, .bipush 1, .if_icmp .ne 13, .jsr 9]),
  (9, [.bipush 1, .goto 14]),
  (13, [.bipush 0, .jsr 14]),
  (14, [.areturn])]
/-- 64: RailPower$Share.told(I)J -/
def am_L64 : List (Nat × List Instr) := [(0, [.aload 0, .getfield 256, .fdiv, .aload 0, .getfield 257, .invokevirtual 65, .lstore 2, .lload 2, .sipush 0, .lcmp, .ifCond .gt 25, .sipush (-9223372036854775808), .lreturn]),
  (25, [.iload 1, .ifCond .ne 38, .aload 0, .getfield 256, .lload 2, .ldiv, .goto 44]),
  (38, [.aload 0, .getfield 257, .lload 2, .ldiv, .jsr 44]),
  (44, [.lreturn])]
/-- 65: RailPower$Share.greatestDivisor(JJ)J -/
def am_L65 : List (Nat × List Instr) := [(0, [.lload 0, .lstore 4, .lload 2, .lstore 6, .bipush 0, .istore 8, .jsr 9]),
  (9, [.iload 8, .bipush 100, .if_icmp .ge 44, .lload 6, .sipush 0, .lcmp, .ifCond .eq 44, .lload 4, .lload 6, .lrem, .lstore 9, .lload 6, .lstore 4, .lload 9, .lstore 6, .iinc 8 1, .goto 9]),
  (44, [.lload 4, .lreturn])]
/-- 66: RailPower.gives(III)J -/
def am_L66 : List (Nat × List Instr) := [(0, [.iload 1, .invokevirtual 23, .ifCond .eq 35, .aload 0, .getfield 512, .iload 2, .invokevirtual 17, .ifCond .eq 35, .iload 3, .invokevirtual 63, .ifCond .eq 35, .aload 0, .getfield 512, .invokevirtual 36, .ifCond .eq 39, .jsr 35]),
  (35, [.sipush (-9223372036854775808), .lreturn]),
  (39, [.aload 0, .getfield 513, .iload 1, .invokevirtual 38, .aload 0, .getfield 513, .getfield 64, .iload 2, .aload 0, .getfield 515, .invokevirtual 67, .aload 0, .getfield 515, .iload 3, .invokevirtual 64, .lreturn])]
/-- 67: RailPower$Circuit.givenBy(ILRailPower$Share;)V -/
def am_L67 : List (Nat × List Instr) := [(0, [.aload 2, .sipush 0, .sipush 1, .invokevirtual 58, .bipush 0, .istore 3, .jsr 8]),
  (8, [.iload 3, .aload 0, .getfield 5, .if_icmp .ge 57, .aload 0, .getfield 2, .iload 3, .baload, .ifCond .eq 51, .aload 0, .getfield 0, .iload 3, .iaload, .iload 1, .if_icmp .ne 51, .aload 2, .aload 0, .getfield 3, .iload 3, .laload, .aload 0, .getfield 4, .iload 3, .laload, .invokevirtual 58, .jsr 51]),
  (51, [.iinc 3 1, .goto 8]),
  (57, [.return_])]
/-- 68: RailPower.lowest(I)J -/
def am_L68 : List (Nat × List Instr) := [(0, [.iload 1, .ifCond .lt 19, .iload 1, .bipush 3, .if_icmp .gt 19, .aload 0, .getfield 512, .invokevirtual 36, .ifCond .eq 23, .jsr 19]),
  (19, [.sipush (-9223372036854775808), .lreturn]),
  (23, [.aload 0, .getfield 513, .bipush (-9), .invokevirtual 39, .aload 0, .getfield 513, .sipush (-1000000000), .sipush 1, .invokevirtual 69, .ifCond .ne 50, .sipush (-9223372036854775808), .lreturn]),
  (50, [.iload 1, .bipush 2, .if_icmp .ne 64, .aload 0, .getfield 513, .getfield 66, .i2l, .lreturn]),
  (64, [.iload 1, .bipush 3, .if_icmp .ne 80, .aload 0, .getfield 513, .getfield 67, .i2l, .goto 91]),
  (80, [.aload 0, .getfield 513, .getfield 65, .iload 1, .invokevirtual 64, .jsr 91]),
  (91, [.lreturn])]
/-- 69: RailPower$Day.findLowest(JJ)Z -/
def am_L69 : List (Nat × List Instr) := [(0, [.bipush 0, .istore 5, .aload 0, .getfield 75, .lload 1, .lload 3, .invokevirtual 58, .bipush 0, .istore 6, .jsr 15]),
  (15, [.iload 6, .bipush 24, .if_icmp .ge 79, .aload 0, .iload 6, .aload 0, .getfield 73, .getfield 131, .invokevirtual 42, .ifCond .eq 73, .aload 0, .getfield 64, .invokevirtual 45, .aload 0, .iload 6, .iload 5, .invokevirtual 70, .bipush 1, .istore 5, .aload 0, .getfield 75, .aload 0, .getfield 65, .invokevirtual 59, .ifCond .ne 73, .goto 79]),
  (73, [.iinc 6 1, .goto 15]),
  (79, [.iload 5, .areturn])]
/-- 70: RailPower$Day.sinkToLowest(IZ)V -/
def am_L70 : List (Nat × List Instr) := [(0, [.iload 2, .istore 3, .bipush 0, .istore 4, .jsr 5]),
  (5, [.iload 4, .aload 0, .getfield 73, .getfield 133, .if_icmp .ge 109, .aload 0, .getfield 64, .getfield 6, .iload 4, .baload, .ifCond .eq 103, .aload 0, .getfield 64, .aload 0, .getfield 64, .getfield 7, .iload 4, .iaload, .aload 0, .getfield 74, .invokevirtual 55, .iload 3, .ifCond .eq 69, .aload 0, .getfield 74, .aload 0, .getfield 65, .invokevirtual 59, .ifCond .eq 103, .jsr 69]),
  (69, [.aload 0, .getfield 65, .aload 0, .getfield 74, .getfield 256, .aload 0, .getfield 74, .getfield 257, .invokevirtual 58, .aload 0, .iload 1, .putfield 66, .aload 0, .iload 4, .putfield 67, .bipush 1, .istore 3, .jsr 103]),
  (103, [.iinc 4 1, .goto 5]),
  (109, [.return_])]
/-- 71: RailPower.safe()I -/
def am_L71 : List (Nat × List Instr) := [(0, [.aload 0, .getfield 512, .invokevirtual 36, .ifCond .eq 13, .bipush (-3), .ireturn]),
  (13, [.aload 0, .getfield 513, .bipush (-9), .invokevirtual 72, .ifCond .eq 29, .bipush 1, .goto 30]),
  (29, [.bipush 0, .jsr 30]),
  (30, [.ireturn])]
/-- 72: RailPower$Day.isSafeWithout(I)Z -/
def am_L72 : List (Nat × List Instr) := [(0, [.aload 0, .iload 1, .invokevirtual 39, .aload 0, .getfield 64, .getfield 5, .ifCond .ne 17, .bipush 0, .areturn]),
  (17, [.aload 0, .sipush (-1000000000), .sipush 1, .invokevirtual 69, .ifCond .eq 57, .aload 0, .getfield 65, .getfield 256, .aload 0, .getfield 73, .getfield 128, .bipush 4, .iaload, .i2l, .aload 0, .getfield 65, .getfield 257, .lmul, .lcmp, .ifCond .lt 61, .jsr 57]),
  (57, [.bipush 1, .goto 62]),
  (61, [.bipush 0, .jsr 62]),
  (62, [.areturn])]
/-- 73: RailPower.firstOut()I -/
def am_L73 : List (Nat × List Instr) := [(0, [.aload 0, .getfield 512, .invokevirtual 36, .ifCond .eq 13, .bipush (-3), .ireturn]),
  (13, [.bipush 0, .istore 1, .jsr 15]),
  (15, [.iload 1, .aload 0, .getfield 512, .getfield 132, .if_icmp .ge 60, .aload 0, .getfield 512, .getfield 129, .iload 1, .aaload, .getfield 386, .ifCond .eq 54, .aload 0, .getfield 513, .iload 1, .invokevirtual 72, .ifCond .ne 54, .iload 1, .ireturn]),
  (54, [.iinc 1 1, .goto 15]),
  (60, [.bipush (-9), .ireturn])]
/-- 74: RailPower.most(I)J -/
def am_L74 : List (Nat × List Instr) := [(0, [.iload 1, .invokevirtual 63, .ifCond .eq 17, .aload 0, .getfield 512, .invokevirtual 36, .ifCond .eq 21, .jsr 17]),
  (17, [.sipush (-9223372036854775808), .lreturn]),
  (21, [.aload 0, .getfield 513, .bipush (-9), .invokevirtual 39, .aload 0, .getfield 513, .aload 0, .getfield 512, .getfield 131, .sipush 1000000000, .sipush 1, .invokevirtual 75, .aload 0, .getfield 513, .getfield 68, .iload 1, .invokevirtual 64, .lreturn])]
/-- 75: RailPower$Day.findMost([IJJ)V -/
def am_L75 : List (Nat × List Instr) := [(0, [.aload 0, .getfield 75, .lload 2, .lload 4, .invokevirtual 58, .aload 0, .getfield 68, .sipush 0, .sipush 1, .invokevirtual 58, .bipush 0, .istore 6, .jsr 22]),
  (22, [.iload 6, .bipush 24, .if_icmp .ge 78, .aload 0, .iload 6, .aload 1, .invokevirtual 42, .ifCond .eq 72, .aload 0, .getfield 64, .invokevirtual 45, .aload 0, .getfield 64, .aload 0, .getfield 68, .invokevirtual 76, .aload 0, .getfield 68, .aload 0, .getfield 75, .invokevirtual 59, .ifCond .ne 72, .return_]),
  (72, [.iinc 6 1, .goto 22]),
  (78, [.return_])]
/-- 76: RailPower$Circuit.raiseToMost(LRailPower$Share;)V -/
def am_L76 : List (Nat × List Instr) := [(0, [.bipush 0, .istore 2, .jsr 2]),
  (2, [.iload 2, .aload 0, .getfield 5, .if_icmp .ge 71, .aload 0, .getfield 2, .iload 2, .baload, .ifCond .eq 65, .aload 0, .getfield 10, .aload 0, .getfield 3, .iload 2, .laload, .aload 0, .getfield 4, .iload 2, .laload, .invokevirtual 58, .aload 1, .aload 0, .getfield 10, .invokevirtual 59, .ifCond .eq 65, .aload 1, .aload 0, .getfield 3, .iload 2, .laload, .aload 0, .getfield 4, .iload 2, .laload, .invokevirtual 58, .jsr 65]),
  (65, [.iinc 2 1, .goto 2]),
  (71, [.return_])]
/-- 77: RailPower.shorted(II)I -/
def am_L77 : List (Nat × List Instr) := [(0, [.aload 0, .getfield 512, .iload 1, .invokevirtual 14, .ifCond .ne 13, .bipush (-1), .ireturn]),
  (13, [.iload 2, .invokevirtual 78, .ifCond .ne 23, .bipush (-2), .ireturn]),
  (23, [.aload 0, .getfield 512, .invokevirtual 36, .ifCond .eq 36, .bipush (-3), .ireturn]),
  (36, [.aload 0, .getfield 513, .bipush (-9), .invokevirtual 39, .aload 0, .getfield 513, .iload 1, .iload 2, .invokevirtual 79, .aload 0, .getfield 513, .getfield 64, .invokevirtual 61, .ireturn])]
/-- 78: RailPower.isFaultCurrent(I)Z -/
def am_L78 : List (Nat × List Instr) := [(0, [.iload 0, .bipush 1, .if_icmp .lt 15, .iload 0, .bipush 100000, .if_icmp .gt 15, .bipush 1, .goto 16]),
  (15, [.bipush 0, .jsr 16]),
  (16, [.areturn])]
/-- 79: RailPower$Day.feedFault(II)V -/
def am_L79 : List (Nat × List Instr) := [(0, [.aload 0, .getfield 64, .invokevirtual 43, .aload 0, .getfield 64, .bipush 0, .iload 1, .iload 2, .invokevirtual 44, .aload 0, .getfield 64, .invokevirtual 46, .pop, .return_])]
/-- 80: RailPower.right(I)I -/
def am_L80 : List (Nat × List Instr) := [(0, [.iload 1, .invokevirtual 78, .ifCond .ne 10, .bipush (-2), .ireturn]),
  (10, [.aload 0, .getfield 512, .invokevirtual 36, .ifCond .eq 23, .bipush (-3), .ireturn]),
  (23, [.aload 0, .getfield 513, .bipush (-9), .invokevirtual 39, .aload 0, .getfield 513, .invokevirtual 81, .ifCond .eq 44, .bipush 1, .ireturn]),
  (44, [.aload 0, .getfield 513, .iload 1, .invokevirtual 83, .ifCond .eq 59, .bipush 0, .goto 60]),
  (59, [.bipush 2, .jsr 60]),
  (60, [.ireturn])]
/-- 81: RailPower$Day.trainsTrip()Z -/
def am_L81 : List (Nat × List Instr) := [(0, [.bipush 0, .istore 1, .jsr 2]),
  (2, [.iload 1, .bipush 24, .if_icmp .ge 43, .aload 0, .iload 1, .aload 0, .getfield 73, .getfield 131, .invokevirtual 42, .pop, .aload 0, .getfield 64, .invokevirtual 45, .aload 0, .invokevirtual 82, .ifCond .eq 37, .bipush 1, .areturn]),
  (37, [.iinc 1 1, .goto 2]),
  (43, [.bipush 0, .areturn])]
/-- 82: RailPower$Day.someTrips()Z -/
def am_L82 : List (Nat × List Instr) := [(0, [.bipush 0, .istore 1, .jsr 2]),
  (2, [.iload 1, .aload 0, .getfield 64, .getfield 5, .if_icmp .ge 79, .aload 0, .getfield 73, .getfield 129, .aload 0, .getfield 64, .getfield 0, .iload 1, .iaload, .aaload, .getfield 387, .i2l, .lstore 2, .aload 0, .getfield 64, .getfield 2, .iload 1, .baload, .ifCond .eq 73, .aload 0, .getfield 64, .getfield 3, .iload 1, .laload, .lload 2, .aload 0, .getfield 64, .getfield 4, .iload 1, .laload, .lmul, .lcmp, .ifCond .lt 73, .bipush 1, .areturn]),
  (73, [.iinc 1 1, .goto 2]),
  (79, [.bipush 0, .areturn])]
/-- 83: RailPower$Day.partsAll(I)Z -/
def am_L83 : List (Nat × List Instr) := [(0, [.bipush 0, .istore 2, .jsr 2]),
  (2, [.iload 2, .aload 0, .getfield 73, .getfield 128, .bipush 0, .iaload, .if_icmp .gt 36, .aload 0, .iload 2, .iload 1, .invokevirtual 79, .aload 0, .invokevirtual 82, .ifCond .ne 30, .bipush 0, .areturn]),
  (30, [.iinc 2 1, .goto 2]),
  (36, [.bipush 1, .areturn])]
/-- 84: RailPower.peak(II)J -/
def am_L84 : List (Nat × List Instr) := [(0, [.iload 2, .bipush 10, .if_icmp .lt 10, .bipush 1, .goto 11]),
  (10, [.bipush 0, .jsr 11]),
  (11, [.istore 3, .iload 1, .bipush 1, .if_icmp .lt 33, .iload 1, .bipush 2, .if_icmp .gt 33, .iload 3, .ifCond .ne 37, .iload 2, .invokevirtual 63, .ifCond .ne 37, .jsr 33]),
  (33, [.sipush (-9223372036854775808), .lreturn]),
  (37, [.iload 3, .ifCond .eq 55, .aload 0, .getfield 512, .iload 2, .bipush 10, .isub, .invokevirtual 22, .ifCond .eq 65, .jsr 55]),
  (55, [.aload 0, .getfield 512, .invokevirtual 36, .ifCond .eq 69, .jsr 65]),
  (65, [.sipush (-9223372036854775808), .lreturn]),
  (69, [.aload 0, .getfield 513, .getfield 69, .iload 1, .bipush 1, .isub, .aaload, .astore 4, .aload 4, .getfield 194, .ifCond .ne 100, .aload 0, .getfield 513, .iload 1, .aload 4, .invokevirtual 85, .jsr 100]),
  (100, [.iload 3, .ifCond .eq 118, .aload 4, .getfield 193, .iload 2, .bipush 10, .isub, .iaload, .i2l, .goto 127]),
  (118, [.aload 4, .getfield 192, .iload 2, .invokevirtual 64, .jsr 127]),
  (127, [.lreturn])]
/-- 85: RailPower$Day.findPeak(ILRailPower$Peak;)V -/
def am_L85 : List (Nat × List Instr) := [(0, [.bipush 1, .istore 3, .bipush 0, .istore 4, .jsr 5]),
  (5, [.iload 4, .aload 0, .getfield 73, .getfield 133, .if_icmp .ge 29, .iload 3, .iload 1, .bipush 1, .iadd, .imul, .istore 3, .iinc 4 1, .goto 5]),
  (29, [.aload 0, .bipush (-9), .invokevirtual 39, .aload 2, .getfield 192, .sipush 1000000000, .sipush 1, .invokevirtual 58, .bipush 0, .istore 4, .jsr 49]),
  (49, [.iload 4, .iload 3, .if_icmp .ge 156, .aload 0, .iload 4, .iload 1, .bipush 1, .iadd, .invokevirtual 86, .aload 0, .aload 0, .getfield 76, .aload 2, .getfield 192, .getfield 256, .aload 2, .getfield 192, .getfield 257, .invokevirtual 75, .aload 0, .getfield 68, .aload 2, .getfield 192, .invokevirtual 59, .ifCond .eq 150, .aload 2, .getfield 192, .aload 0, .getfield 68, .getfield 256, .aload 0, .getfield 68, .getfield 257, .invokevirtual 58, .bipush 0, .istore 5, .jsr 124]),
  (124, [.iload 5, .bipush 5, .if_icmp .ge 150, .aload 2, .getfield 193, .iload 5, .aload 0, .getfield 76, .iload 5, .iaload, .iastore, .iinc 5 1, .goto 124]),
  (150, [.iinc 4 1, .goto 49]),
  (156, [.aload 2, .bipush 1, .putfield 194, .return_])]
/-- 86: RailPower$Day.spread(II)V -/
def am_L86 : List (Nat × List Instr) := [(0, [.iload 1, .istore 3, .aload 0, .getfield 73, .getfield 133, .bipush 1, .isub, .istore 4, .jsr 13]),
  (13, [.iload 4, .ifCond .lt 54, .aload 0, .getfield 76, .iload 4, .iload 2, .ifCond .le 34, .iload 3, .iload 2, .irem, .goto 35]),
  (34, [.bipush 0, .jsr 35]),
  (35, [.iastore, .iload 2, .ifCond .le 46, .iload 3, .iload 2, .idiv, .goto 47]),
  (46, [.bipush 0, .jsr 47]),
  (47, [.istore 3, .iinc 4 (-1), .goto 13]),
  (54, [.return_])]
/-- 87: RailPower.used(I)J -/
def am_L87 : List (Nat × List Instr) := [(0, [.aload 0, .getfield 512, .iload 1, .invokevirtual 22, .ifCond .eq 21, .aload 0, .getfield 512, .invokevirtual 36, .ifCond .eq 25, .jsr 21]),
  (21, [.sipush (-9223372036854775808), .lreturn]),
  (25, [.aload 0, .getfield 513, .bipush (-9), .invokevirtual 39, .aload 0, .getfield 513, .iload 1, .invokevirtual 88, .lreturn])]
/-- 88: RailPower$Day.usedBy(I)J -/
def am_L88 : List (Nat × List Instr) := [(0, [.sipush 0, .lstore 2, .bipush 0, .istore 4, .jsr 5]),
  (5, [.iload 4, .bipush 24, .if_icmp .ge 91, .aload 0, .iload 4, .aload 0, .getfield 73, .getfield 131, .invokevirtual 42, .pop, .aload 0, .getfield 64, .getfield 6, .iload 1, .baload, .ifCond .eq 85, .aload 0, .getfield 64, .invokevirtual 45, .aload 0, .getfield 64, .aload 0, .getfield 64, .getfield 7, .iload 1, .iaload, .aload 0, .getfield 74, .invokevirtual 55, .lload 2, .aload 0, .getfield 74, .aload 0, .getfield 64, .getfield 8, .iload 1, .iaload, .i2l, .invokevirtual 89, .ladd, .lstore 2, .jsr 85]),
  (85, [.iinc 4 1, .goto 5]),
  (91, [.lload 2, .lreturn])]
/-- 89: RailPower$Share.times(J)J -/
def am_L89 : List (Nat × List Instr) := [(0, [.aload 0, .getfield 257, .sipush 0, .lcmp, .ifCond .le 23, .aload 0, .getfield 256, .lload 1, .lmul, .aload 0, .getfield 257, .ldiv, .goto 24]),
  (23, [.sipush 0, .jsr 24]),
  (24, [.lreturn])]
/-- 90: RailPower.given(I)J -/
def am_L90 : List (Nat × List Instr) := [(0, [.aload 0, .getfield 512, .iload 1, .invokevirtual 17, .ifCond .eq 21, .aload 0, .getfield 512, .invokevirtual 36, .ifCond .eq 25, .jsr 21]),
  (21, [.sipush (-9223372036854775808), .lreturn]),
  (25, [.aload 0, .getfield 513, .bipush (-9), .invokevirtual 39, .aload 0, .getfield 513, .iload 1, .invokevirtual 91, .lreturn])]
/-- 91: RailPower$Day.givenBy(I)J -/
def am_L91 : List (Nat × List Instr) := [(0, [.sipush 0, .lstore 2, .bipush 0, .istore 4, .jsr 5]),
  (5, [.iload 4, .bipush 24, .if_icmp .ge 73, .aload 0, .iload 4, .aload 0, .getfield 73, .getfield 131, .invokevirtual 42, .ifCond .eq 67, .aload 0, .getfield 64, .invokevirtual 45, .aload 0, .getfield 64, .iload 1, .aload 0, .getfield 74, .invokevirtual 67, .lload 2, .aload 0, .getfield 74, .aload 0, .getfield 73, .getfield 128, .bipush 2, .iaload, .i2l, .invokevirtual 89, .ladd, .lstore 2, .jsr 67]),
  (67, [.iinc 4 1, .goto 5]),
  (73, [.lload 2, .lreturn])]
/-- 92: RailPower.best(I)J -/
def am_L92 : List (Nat × List Instr) := [(0, [.iload 1, .ifCond .lt 20, .iload 1, .bipush 2, .if_icmp .gt 20, .aload 0, .getfield 512, .getfield 132, .bipush 5, .if_icmp .lt 24, .jsr 20]),
  (20, [.sipush (-9223372036854775808), .lreturn]),
  (24, [.aload 0, .getfield 513, .getfield 72, .ifCond .ne 41, .aload 0, .getfield 513, .invokevirtual 93, .jsr 41]),
  (41, [.aload 0, .getfield 513, .getfield 71, .bipush (-9), .if_icmp .ne 57, .sipush (-9223372036854775808), .lreturn]),
  (57, [.iload 1, .ifCond .ne 72, .aload 0, .getfield 513, .getfield 71, .i2l, .goto 85]),
  (72, [.aload 0, .getfield 513, .getfield 70, .iload 1, .bipush 1, .isub, .invokevirtual 64, .jsr 85]),
  (85, [.lreturn])]
/-- 93: RailPower$Day.findBest()V -/
def am_L93 : List (Nat × List Instr) := [(0, [.aload 0, .bipush (-9), .putfield 71, .aload 0, .getfield 70, .sipush (-1000000000), .sipush 1, .invokevirtual 58, .bipush 0, .istore 1, .jsr 19]),
  (19, [.iload 1, .aload 0, .getfield 73, .getfield 128, .bipush 0, .iaload, .if_icmp .gt 131, .aload 0, .getfield 73, .iload 1, .invokevirtual 15, .ifCond .ne 125, .aload 0, .bipush (-9), .invokevirtual 39, .aload 0, .getfield 64, .aload 0, .getfield 73, .getfield 132, .iload 1, .invokevirtual 41, .aload 0, .aload 0, .getfield 70, .getfield 256, .aload 0, .getfield 70, .getfield 257, .invokevirtual 69, .ifCond .eq 125, .aload 0, .getfield 70, .aload 0, .getfield 65, .invokevirtual 59, .ifCond .eq 125, .aload 0, .getfield 70, .aload 0, .getfield 65, .getfield 256, .aload 0, .getfield 65, .getfield 257, .invokevirtual 58, .aload 0, .iload 1, .putfield 71, .jsr 125]),
  (125, [.iinc 1 1, .goto 19]),
  (131, [.aload 0, .bipush 1, .putfield 72, .return_])]
/-- 94: RailPower.sheet(III)I -/
def am_L94 : List (Nat × List Instr) := [(0, [.aload 0, .bipush 0, .putfield 517, .iload 1, .invokevirtual 27, .ifCond .ne 14, .bipush (-1), .ireturn]),
  (14, [.iload 2, .invokevirtual 28, .ifCond .eq 27, .iload 3, .bipush 60, .if_icmp .le 30, .jsr 27]),
  (27, [.bipush (-2), .ireturn]),
  (30, [.iload 3, .ifCond .ge 40, .aload 0, .bipush 4, .invokevirtual 31, .ireturn]),
  (40, [.aload 0, .getfield 514, .iload 1, .aaload, .iload 2, .iload 3, .invokevirtual 95, .bipush 1, .ireturn])]
/-- 95: RailPower$Sheet.renew(II)V -/
def am_L95 : List (Nat × List Instr) := [(0, [.bipush 0, .istore 3, .jsr 2]),
  (2, [.iload 3, .bipush 60, .if_icmp .ge 21, .aload 0, .getfield 320, .iload 3, .bipush 0, .iastore, .iinc 3 1, .goto 2]),
  (21, [.aload 0, .iload 1, .putfield 321, .aload 0, .iload 2, .putfield 322, .return_])]
/-- 96: RailPower.lose(I)I -/
def am_L96 : List (Nat × List Instr) := [(0, [.iload 1, .invokevirtual 27, .ifCond .ne 9, .bipush (-1), .ireturn]),
  (9, [.aload 0, .getfield 514, .iload 1, .aaload, .getfield 321, .bipush (-1), .if_icmp .ne 24, .bipush 0, .ireturn]),
  (24, [.aload 0, .getfield 514, .iload 1, .aaload, .bipush (-1), .putfield 321, .bipush 1, .ireturn])]
/-- 97: RailPower.put(III)I -/
def am_L97 : List (Nat × List Instr) := [(0, [.aload 0, .bipush 0, .putfield 517, .iload 1, .invokevirtual 27, .ifCond .ne 14, .bipush (-1), .ireturn]),
  (14, [.aload 0, .getfield 514, .iload 1, .aaload, .getfield 321, .bipush (-1), .if_icmp .ne 33, .aload 0, .bipush 1, .invokevirtual 31, .ireturn]),
  (33, [.aload 0, .getfield 514, .iload 1, .aaload, .iload 2, .invokevirtual 98, .ifCond .ne 52, .aload 0, .bipush 3, .invokevirtual 31, .ireturn]),
  (52, [.aload 0, .getfield 514, .iload 1, .aaload, .iload 2, .iload 3, .invokevirtual 99, .bipush 1, .ireturn])]
/-- 98: RailPower$Sheet.holds(I)Z -/
def am_L98 : List (Nat × List Instr) := [(0, [.iload 1, .ifCond .lt 16, .iload 1, .aload 0, .getfield 322, .if_icmp .ge 16, .bipush 1, .goto 17]),
  (16, [.bipush 0, .jsr 17]),
  (17, [.areturn])]
/-- 99: RailPower$Sheet.write(II)V -/
def am_L99 : List (Nat × List Instr) := [(0, [.aload 0, .getfield 321, .ifCond .ne 18, .aload 0, .getfield 320, .iload 1, .iload 2, .i2b, .iastore, .goto 38]),
  (18, [.aload 0, .getfield 320, .iload 1, .aload 0, .getfield 321, .bipush 1, .if_icmp .ne 36, .iload 2, .i2s, .goto 37]),
  (36, [.iload 2, .jsr 37]),
  (37, [.iastore, .jsr 38]),
  (38, [.return_])]
/-- 100: RailPower.cell(III)J -/
def am_L100 : List (Nat × List Instr) := [(0, [.aload 0, .bipush 0, .putfield 517, .iload 1, .invokevirtual 27, .ifCond .eq 19, .iload 3, .invokevirtual 28, .ifCond .ne 23, .jsr 19]),
  (19, [.sipush (-9223372036854775808), .lreturn]),
  (23, [.aload 0, .getfield 514, .iload 1, .aaload, .iload 3, .invokevirtual 29, .istore 4, .iload 4, .ifCond .ne 56, .aload 0, .getfield 514, .iload 1, .aaload, .iload 2, .invokevirtual 98, .ifCond .ne 56, .bipush 3, .istore 4, .jsr 56]),
  (56, [.iload 4, .ifCond .eq 72, .aload 0, .iload 4, .invokevirtual 31, .pop, .sipush (-9223372036854775808), .lreturn]),
  (72, [.aload 0, .getfield 514, .iload 1, .aaload, .getfield 320, .iload 2, .iaload, .i2l, .lreturn])]
/-- 101: RailPower.tell(I)I -/
def am_L101 : List (Nat × List Instr) := [(0, [.aload 0, .getfield 512, .iload 1, .invokevirtual 17, .ifCond .ne 13, .bipush (-1), .ireturn]),
  (13, [.aload 0, .getfield 512, .getfield 129, .iload 1, .aaload, .astore 2, .aload 2, .getfield 384, .bipush 2, .if_icmp .ne 37, .aload 0, .aload 2, .invokevirtual 102, .ireturn]),
  (37, [.aload 2, .getfield 384, .bipush 1, .if_icmp .ne 53, .aload 0, .aload 2, .invokevirtual 104, .goto 58]),
  (53, [.aload 0, .aload 2, .invokevirtual 105, .jsr 58]),
  (58, [.ireturn])]
/-- 102: RailPower.tellWorks(LRailPower$Station;)I -/
def am_L102 : List (Nat × List Instr) := [(0, [.aload 0, .bipush 3, .invokevirtual 103, .aload 0, .aload 1, .invokevirtual 104, .istore 2, .iload 2, .aload 0, .aload 1, .invokevirtual 105, .iadd, .ireturn])]
/-- 103: RailPower.leaveTrace(I)V -/
def am_L103 : List (Nat × List Instr) := [(0, [.aload 0, .bipush 31, .aload 0, .getfield 516, .imul, .iload 1, .iadd, .putfield 516, .return_])]
/-- 104: RailPower.tellHouse(LRailPower$Station;)I -/
def am_L104 : List (Nat × List Instr) := [(0, [.aload 0, .bipush 2, .invokevirtual 103, .aload 0, .aload 1, .invokevirtual 105, .aload 1, .getfield 386, .ifCond .eq 23, .bipush 1000, .goto 24]),
  (23, [.bipush 0, .jsr 24]),
  (24, [.iadd, .ireturn])]
/-- 105: RailPower.tellPost(LRailPower$Station;)I -/
def am_L105 : List (Nat × List Instr) := [(0, [.aload 0, .bipush 1, .invokevirtual 103, .aload 1, .getfield 385, .ireturn])]
/-- 106: RailPower.call(I)I -/
def am_L106 : List (Nat × List Instr) := [(0, [.aload 0, .getfield 512, .iload 1, .invokevirtual 17, .ifCond .ne 13, .bipush (-1), .ireturn]),
  (13, [.aload 0, .getfield 512, .getfield 129, .iload 1, .aaload, .getfield 384, .bipush 2, .if_icmp .ne 37, .aload 0, .bipush 5, .invokevirtual 103, .bipush 50, .ireturn]),
  (37, [.aload 0, .bipush 4, .invokevirtual 103, .iload 1, .ireturn])]
/-- 107: RailPower.as(II)I -/
def am_L107 : List (Nat × List Instr) := [(0, [.aload 0, .bipush 0, .putfield 517, .aload 0, .getfield 512, .iload 1, .invokevirtual 17, .ifCond .ne 18, .bipush (-1), .ireturn]),
  (18, [.iload 2, .ifCond .lt 27, .iload 2, .bipush 2, .if_icmp .le 30, .jsr 27]),
  (27, [.bipush (-2), .ireturn]),
  (30, [.iload 2, .aload 0, .getfield 512, .getfield 129, .iload 1, .aaload, .getfield 384, .if_icmp .gt 50, .bipush 1, .goto 55]),
  (50, [.aload 0, .bipush 2, .invokevirtual 31, .jsr 55]),
  (55, [.ireturn])]
/-- 108: RailPower.trace()I -/
def am_L108 : List (Nat × List Instr) := [(0, [.aload 0, .getfield 516, .ireturn])]
/-- 109: RailPower.fault()I -/
def am_L109 : List (Nat × List Instr) := [(0, [.aload 0, .getfield 517, .ireturn])]
/-- 110: RailPower.many(I)I -/
def am_L110 : List (Nat × List Instr) := [(0, [.iload 1, .tableswitch 64 0 3 #[32, 40, 48, 56]]),
  (32, [.aload 0, .getfield 512, .getfield 132, .ireturn]),
  (40, [.aload 0, .getfield 512, .invokevirtual 37, .ireturn]),
  (48, [.aload 0, .getfield 512, .getfield 133, .ireturn]),
  (56, [.aload 0, .getfield 513, .invokevirtual 111, .ireturn]),
  (64, [.bipush (-2), .ireturn])]
/-- 111: RailPower$Day.busyTicks()I -/
def am_L111 : List (Nat × List Instr) := [(0, [.bipush 0, .istore 1, .bipush 0, .istore 2, .jsr 4]),
  (4, [.iload 2, .bipush 24, .if_icmp .ge 34, .aload 0, .iload 2, .aload 0, .getfield 73, .getfield 131, .invokevirtual 42, .ifCond .eq 28, .iinc 1 1, .jsr 28]),
  (28, [.iinc 2 1, .goto 4]),
  (34, [.iload 1, .ireturn])]
/-- 112: RailPowerModel.<init>()V -/
def am_L112 : List (Nat × List Instr) := [(0, [.aload 0, .pop2, .aload 0, .bipush 5, .newarray .int, .dup, .bipush 0, .bipush 100, .iastore, .dup, .bipush 1, .bipush 1, .iastore, .dup, .bipush 2, .bipush 750, .iastore, .dup, .bipush 3, .bipush 900, .iastore, .dup, .bipush 4, .bipush 500, .iastore, .putfield 578, .aload 0, .bipush 5, .newarray .int, .putfield 580, .aload 0, .bipush 6, .newarray .int, .putfield 581, .aload 0, .bipush 5, .newarray .boolean, .putfield 582, .aload 0, .bipush 5, .newarray .int, .putfield 583, .aload 0, .bipush 120, .newarray .int, .putfield 585, .aload 0, .bipush 120, .newarray .int, .putfield 586, .aload 0, .bipush 5, .newarray .int, .putfield 587, .aload 0, .bipush 4, .newarray .int, .dup, .bipush 0, .bipush (-9), .iastore, .dup, .bipush 1, .bipush (-9), .iastore, .dup, .bipush 2, .bipush (-9), .iastore, .dup, .bipush 3, .bipush (-9), .iastore, .putfield 588, .aload 0, .bipush 4, .newarray .int, .putfield 589, .aload 0, .bipush 240, .newarray .int, .putfield 590, .aload 0, .bipush 5, .newarray .int, .putfield 592, .aload 0, .bipush 5, .newarray .int, .putfield 593, .aload 0, .bipush 5, .newarray .int, .putfield 597, .aload 0, .bipush 5, .newarray .int, .putfield 605, .aload 0, .bipush 5, .newarray .int, .putfield 606, .return_])]
/-- 113: RailPowerModel.rule(II)I -/
def am_L113 : List (Nat × List Instr) := [(0, [.iload 1, .bipush 0, .bipush 4, .invokevirtual 114, .ifCond .ne 11, .bipush (-1), .ireturn]),
  (11, [.iload 2, .iload 1, .invokevirtual 115, .iload 1, .invokevirtual 116, .invokevirtual 114, .ifCond .ne 29, .bipush (-2), .ireturn]),
  (29, [.aload 0, .iload 1, .iload 2, .invokevirtual 117, .ifCond .eq 41, .bipush (-3), .ireturn]),
  (41, [.aload 0, .getfield 578, .iload 1, .iaload, .istore 3, .aload 0, .getfield 578, .iload 1, .iload 2, .iastore, .iload 3, .ireturn])]
/-- 114: RailPowerModel.within(III)Z -/
def am_L114 : List (Nat × List Instr) := [(0, [.iload 0, .iload 1, .if_icmp .lt 14, .iload 0, .iload 2, .if_icmp .gt 14, .bipush 1, .goto 15]),
  (14, [.bipush 0, .jsr 15]),
  (15, [.areturn])]
/-- 115: RailPowerModel.leastOf(I)I -/
def am_L115 : List (Nat × List Instr) := [(0, [.iload 0, .bipush 2, .if_icmp .eq 10, .iload 0, .bipush 3, .if_icmp .ne 15, .jsr 10]),
  (10, [.bipush 100, .goto 16]),
  (15, [.bipush 1, .jsr 16]),
  (16, [.ireturn])]
/-- 116: RailPowerModel.mostOf(I)I -/
def am_L116 : List (Nat × List Instr) := [(0, [.iload 0, .tableswitch 43 0 3 #[32, 36, 43, 39]]),
  (32, [.bipush 200, .ireturn]),
  (36, [.bipush 20, .ireturn]),
  (39, [.bipush 3000, .ireturn]),
  (43, [.bipush 2000, .ireturn])]
/-- 117: RailPowerModel.isAgainst(II)Z -/
def am_L117 : List (Nat × List Instr) := [(0, [.iload 1, .tableswitch 100 0 4 #[36, 100, 42, 68, 84]]),
  (36, [.aload 0, .iload 2, .invokevirtual 118, .areturn]),
  (42, [.iload 2, .aload 0, .getfield 578, .bipush 3, .iaload, .if_icmp .gt 62, .iload 2, .aload 0, .getfield 578, .bipush 4, .iaload, .if_icmp .ge 66, .jsr 62]),
  (62, [.bipush 1, .goto 67]),
  (66, [.bipush 0, .jsr 67]),
  (67, [.areturn]),
  (68, [.iload 2, .aload 0, .getfield 578, .bipush 2, .iaload, .if_icmp .ge 82, .bipush 1, .goto 83]),
  (82, [.bipush 0, .jsr 83]),
  (83, [.areturn]),
  (84, [.iload 2, .aload 0, .getfield 578, .bipush 2, .iaload, .if_icmp .le 98, .bipush 1, .goto 99]),
  (98, [.bipush 0, .jsr 99]),
  (99, [.areturn]),
  (100, [.bipush 0, .areturn])]
/-- 118: RailPowerModel.isBeyond(I)Z -/
def am_L118 : List (Nat × List Instr) := [(0, [.bipush 0, .istore 2, .jsr 2]),
  (2, [.iload 2, .aload 0, .getfield 579, .if_icmp .ge 28, .aload 0, .getfield 581, .iload 2, .iaload, .iload 1, .if_icmp .le 22, .bipush 1, .areturn]),
  (22, [.iinc 2 1, .goto 2]),
  (28, [.bipush 0, .istore 2, .jsr 30]),
  (30, [.iload 2, .bipush 24, .aload 0, .getfield 584, .imul, .if_icmp .ge 61, .aload 0, .getfield 585, .iload 2, .iaload, .iload 1, .bipush 1, .iadd, .if_icmp .le 55, .bipush 1, .areturn]),
  (55, [.iinc 2 1, .goto 30]),
  (61, [.bipush 0, .areturn])]
/-- 119: RailPowerModel.station(II)I -/
def am_L119 : List (Nat × List Instr) := [(0, [.iload 1, .bipush 0, .bipush 2, .invokevirtual 114, .ifCond .eq 17, .aload 0, .iload 2, .invokevirtual 120, .ifCond .ne 20, .jsr 17]),
  (17, [.bipush (-2), .ireturn]),
  (20, [.aload 0, .iload 2, .invokevirtual 121, .ifCond .eq 31, .bipush (-3), .ireturn]),
  (31, [.aload 0, .getfield 579, .bipush 5, .if_icmp .ne 42, .bipush (-4), .ireturn]),
  (42, [.aload 0, .getfield 580, .aload 0, .getfield 579, .iload 1, .iastore, .aload 0, .getfield 581, .aload 0, .getfield 579, .iload 2, .iastore, .aload 0, .getfield 582, .aload 0, .getfield 579, .bipush 0, .bastore, .aload 0, .getfield 583, .aload 0, .getfield 579, .bipush 3000, .iastore, .aload 0, .dup, .getfield 579, .bipush 1, .iadd, .putfield 579, .aload 0, .getfield 579, .bipush 1, .isub, .ireturn])]
/-- 120: RailPowerModel.isPlace(I)Z -/
def am_L120 : List (Nat × List Instr) := [(0, [.iload 1, .bipush 0, .aload 0, .getfield 578, .bipush 0, .iaload, .invokevirtual 114, .areturn])]
/-- 121: RailPowerModel.isTaken(I)Z -/
def am_L121 : List (Nat × List Instr) := [(0, [.bipush 0, .istore 2, .jsr 2]),
  (2, [.iload 2, .aload 0, .getfield 579, .if_icmp .ge 28, .aload 0, .getfield 581, .iload 2, .iaload, .iload 1, .if_icmp .ne 22, .bipush 1, .areturn]),
  (22, [.iinc 2 1, .goto 2]),
  (28, [.bipush 0, .areturn])]
/-- 122: RailPowerModel.set(IZ)I -/
def am_L122 : List (Nat × List Instr) := [(0, [.aload 0, .iload 1, .invokevirtual 123, .ifCond .ne 10, .bipush (-1), .ireturn]),
  (10, [.aload 0, .getfield 582, .iload 1, .baload, .iload 2, .if_icmp .ne 24, .bipush 1, .goto 25]),
  (24, [.bipush 0, .jsr 25]),
  (25, [.istore 3, .aload 0, .getfield 582, .iload 1, .iload 2, .ifCond .ne 39, .bipush 1, .goto 40]),
  (39, [.bipush 0, .jsr 40]),
  (40, [.bastore, .iload 3, .ireturn])]
/-- 123: RailPowerModel.isStation(I)Z -/
def am_L123 : List (Nat × List Instr) := [(0, [.iload 1, .ifCond .lt 16, .iload 1, .aload 0, .getfield 579, .if_icmp .ge 16, .bipush 1, .goto 17]),
  (16, [.bipush 0, .jsr 17]),
  (17, [.areturn])]
/-- 124: RailPowerModel.trip(II)I -/
def am_L124 : List (Nat × List Instr) := [(0, [.aload 0, .iload 1, .invokevirtual 123, .ifCond .ne 10, .bipush (-1), .ireturn]),
  (10, [.iload 2, .bipush 0, .bipush 100000, .invokevirtual 114, .ifCond .ne 23, .bipush (-2), .ireturn]),
  (23, [.aload 0, .getfield 583, .iload 1, .iaload, .istore 3, .aload 0, .getfield 583, .iload 1, .iload 2, .iastore, .iload 3, .ireturn])]
/-- 125: RailPowerModel.about(II)I -/
def am_L125 : List (Nat × List Instr) := [(0, [.aload 0, .iload 1, .invokevirtual 123, .ifCond .ne 10, .bipush (-1), .ireturn]),
  (10, [.iload 2, .tableswitch 76 0 3 #[40, 47, 54, 69]]),
  (40, [.aload 0, .getfield 580, .iload 1, .iaload, .ireturn]),
  (47, [.aload 0, .getfield 581, .iload 1, .iaload, .ireturn]),
  (54, [.aload 0, .getfield 582, .iload 1, .baload, .ifCond .eq 67, .bipush 0, .goto 68]),
  (67, [.bipush 1, .jsr 68]),
  (68, [.ireturn]),
  (69, [.aload 0, .getfield 583, .iload 1, .iaload, .ireturn]),
  (76, [.bipush (-2), .ireturn])]
/-- 126: RailPowerModel.train()I -/
def am_L126 : List (Nat × List Instr) := [(0, [.aload 0, .getfield 584, .bipush 5, .if_icmp .ne 11, .bipush (-4), .ireturn]),
  (11, [.bipush 0, .istore 1, .jsr 13]),
  (13, [.iload 1, .bipush 24, .if_icmp .ge 55, .aload 0, .getfield 585, .bipush 24, .aload 0, .getfield 584, .imul, .iload 1, .iadd, .bipush 0, .iastore, .aload 0, .getfield 586, .bipush 24, .aload 0, .getfield 584, .imul, .iload 1, .iadd, .bipush 0, .iastore, .iinc 1 1, .goto 13]),
  (55, [.aload 0, .getfield 587, .aload 0, .getfield 584, .bipush 0, .iastore, .aload 0, .dup, .getfield 584, .bipush 1, .iadd, .putfield 584, .aload 0, .getfield 584, .bipush 1, .isub, .ireturn])]
/-- 127: RailPowerModel.run(IIII)I -/
def am_L127 : List (Nat × List Instr) := [(0, [.aload 0, .iload 1, .invokevirtual 128, .ifCond .eq 15, .iload 2, .invokevirtual 129, .ifCond .ne 17, .jsr 15]),
  (15, [.bipush (-1), .ireturn]),
  (17, [.aload 0, .iload 3, .iload 4, .invokevirtual 130, .ifCond .ne 30, .bipush (-2), .ireturn]),
  (30, [.aload 0, .iload 1, .iload 2, .iload 3, .iload 4, .invokevirtual 131, .bipush 1, .ireturn])]
/-- 128: RailPowerModel.isTrain(I)Z -/
def am_L128 : List (Nat × List Instr) := [(0, [.iload 1, .ifCond .lt 16, .iload 1, .aload 0, .getfield 584, .if_icmp .ge 16, .bipush 1, .goto 17]),
  (16, [.bipush 0, .jsr 17]),
  (17, [.areturn])]
/-- 129: RailPowerModel.isTick(I)Z -/
def am_L129 : List (Nat × List Instr) := [(0, [.iload 0, .bipush 0, .bipush 23, .invokevirtual 114, .areturn])]
/-- 130: RailPowerModel.mayRun(II)Z -/
def am_L130 : List (Nat × List Instr) := [(0, [.iload 1, .bipush (-1), .if_icmp .eq 26, .aload 0, .iload 1, .invokevirtual 120, .ifCond .eq 30, .iload 2, .bipush (-400), .bipush 400, .invokevirtual 114, .ifCond .eq 30, .jsr 26]),
  (26, [.bipush 1, .goto 31]),
  (30, [.bipush 0, .jsr 31]),
  (31, [.areturn])]
/-- 131: RailPowerModel.lay(IIII)V -/
def am_L131 : List (Nat × List Instr) := [(0, [.aload 0, .getfield 585, .bipush 24, .iload 1, .imul, .iload 2, .iadd, .iload 3, .bipush 1, .iadd, .iastore, .aload 0, .getfield 586, .bipush 24, .iload 1, .imul, .iload 2, .iadd, .iload 3, .ifCond .ge 32, .bipush 0, .goto 34]),
  (32, [.iload 4, .jsr 34]),
  (34, [.iastore, .return_])]
/-- 132: RailPowerModel.runs(IIIII)I -/
def am_L132 : List (Nat × List Instr) := [(0, [.aload 0, .bipush 0, .putfield 576, .aload 0, .iload 1, .invokevirtual 128, .ifCond .eq 20, .iload 2, .invokevirtual 133, .ifCond .ne 22, .jsr 20]),
  (20, [.bipush (-1), .ireturn]),
  (22, [.iload 3, .invokevirtual 134, .ifCond .ne 32, .bipush (-2), .ireturn]),
  (32, [.aload 0, .getfield 588, .iload 2, .iaload, .bipush (-9), .if_icmp .eq 59, .aload 0, .getfield 588, .iload 2, .iaload, .iload 3, .if_icmp .eq 59, .aload 0, .bipush 2, .invokevirtual 135, .ireturn]),
  (59, [.aload 0, .getfield 588, .iload 2, .iaload, .bipush (-9), .if_icmp .ne 76, .aload 0, .bipush 1, .invokevirtual 135, .ireturn]),
  (76, [.iload 5, .ifCond .ge 87, .aload 0, .bipush 4, .invokevirtual 135, .ireturn]),
  (87, [.iload 4, .ifCond .lt 124, .iload 4, .aload 0, .getfield 589, .iload 2, .iaload, .if_icmp .gt 124, .sipush 2, .iload 5, .i2l, .lmul, .aload 0, .getfield 589, .iload 2, .iaload, .iload 4, .isub, .i2l, .lcmp, .ifCond .le 130, .jsr 124]),
  (124, [.aload 0, .bipush 3, .invokevirtual 135, .ireturn]),
  (130, [.iload 5, .bipush 24, .if_icmp .le 140, .bipush (-2), .ireturn]),
  (140, [.bipush 60, .iload 2, .imul, .iload 4, .iadd, .istore 6, .bipush 0, .istore 7, .jsr 152]),
  (152, [.iload 7, .iload 5, .if_icmp .ge 201, .aload 0, .aload 0, .getfield 590, .iload 6, .bipush 2, .iload 7, .imul, .iadd, .iaload, .aload 0, .getfield 590, .iload 6, .bipush 2, .iload 7, .imul, .iadd, .bipush 1, .iadd, .iaload, .invokevirtual 130, .ifCond .ne 195, .bipush (-2), .ireturn]),
  (195, [.iinc 7 1, .goto 152]),
  (201, [.bipush 0, .istore 7, .bipush 0, .istore 8, .jsr 207]),
  (207, [.iload 8, .bipush 24, .if_icmp .ge 294, .iload 8, .iload 5, .if_icmp .ge 236, .aload 0, .getfield 590, .iload 6, .bipush 2, .iload 8, .imul, .iadd, .iaload, .goto 237]),
  (236, [.bipush (-1), .jsr 237]),
  (237, [.istore 9, .aload 0, .iload 1, .iload 8, .iload 9, .iload 8, .iload 5, .if_icmp .ge 269, .aload 0, .getfield 590, .iload 6, .bipush 2, .iload 8, .imul, .iadd, .bipush 1, .iadd, .iaload, .goto 270]),
  (269, [.bipush 0, .jsr 270]),
  (270, [.invokevirtual 131, .iload 7, .iload 9, .ifCond .lt 284, .bipush 1, .goto 285]),
  (284, [.bipush 0, .jsr 285]),
  (285, [.iadd, .istore 7, .iinc 8 1, .goto 207]),
  (294, [.iload 7, .ireturn])]
/-- 133: RailPowerModel.isSheet(I)Z -/
def am_L133 : List (Nat × List Instr) := [(0, [.iload 0, .bipush 0, .bipush 3, .invokevirtual 114, .areturn])]
/-- 134: RailPowerModel.isLane(I)Z -/
def am_L134 : List (Nat × List Instr) := [(0, [.iload 0, .bipush 0, .bipush 2, .invokevirtual 114, .areturn])]
/-- 135: RailPowerModel.fails(I)I -/
def am_L135 : List (Nat × List Instr) := [(0, [.aload 0, .iload 1, .putfield 576, .bipush (-10), .iload 1, .isub, .ireturn])]
/-- 136: RailPowerModel.putOff(II)I -/
def am_L136 : List (Nat × List Instr) := [(0, [.aload 0, .iload 1, .invokevirtual 128, .ifCond .ne 10, .bipush (-1), .ireturn]),
  (10, [.iload 2, .bipush 0, .bipush 5, .invokevirtual 114, .ifCond .ne 22, .bipush (-2), .ireturn]),
  (22, [.aload 0, .getfield 587, .iload 1, .iaload, .istore 3, .aload 0, .getfield 587, .iload 1, .iload 2, .iastore, .iload 3, .ireturn])]
/-- 137: RailPowerModel.at(III)I -/
def am_L137 : List (Nat × List Instr) := [(0, [.aload 0, .iload 1, .invokevirtual 128, .ifCond .eq 15, .iload 2, .invokevirtual 129, .ifCond .ne 17, .jsr 15]),
  (15, [.bipush (-1), .ireturn]),
  (17, [.iload 3, .tableswitch 100 0 2 #[44, 51, 58]]),
  (44, [.aload 0, .iload 1, .iload 2, .invokevirtual 138, .ireturn]),
  (51, [.aload 0, .iload 1, .iload 2, .invokevirtual 139, .ireturn]),
  (58, [.aload 0, .invokevirtual 140, .ifCond .eq 68, .bipush (-3), .ireturn]),
  (68, [.aload 0, .iload 2, .invokevirtual 142, .aload 0, .getfield 597, .iload 1, .iaload, .bipush (-9), .if_icmp .ne 88, .bipush 0, .goto 99]),
  (88, [.aload 0, .getfield 593, .aload 0, .getfield 597, .iload 1, .iaload, .iaload, .jsr 99]),
  (99, [.ireturn]),
  (100, [.bipush (-2), .ireturn])]
/-- 138: RailPowerModel.placeOf(II)I -/
def am_L138 : List (Nat × List Instr) := [(0, [.iload 2, .aload 0, .getfield 587, .iload 1, .iaload, .isub, .istore 3, .iload 3, .ifCond .ge 18, .bipush (-9), .goto 50]),
  (18, [.aload 0, .getfield 585, .bipush 24, .iload 1, .imul, .iload 3, .iadd, .iaload, .ifCond .ne 37, .bipush (-9), .goto 50]),
  (37, [.aload 0, .getfield 585, .bipush 24, .iload 1, .imul, .iload 3, .iadd, .iaload, .bipush 1, .isub, .jsr 50]),
  (50, [.ireturn])]
/-- 139: RailPowerModel.amperesOf(II)I -/
def am_L139 : List (Nat × List Instr) := [(0, [.aload 0, .iload 1, .iload 2, .invokevirtual 138, .bipush (-9), .if_icmp .ne 15, .bipush 0, .goto 33]),
  (15, [.aload 0, .getfield 586, .bipush 24, .iload 1, .imul, .iload 2, .iadd, .aload 0, .getfield 587, .iload 1, .iaload, .isub, .iaload, .jsr 33]),
  (33, [.ireturn])]
/-- 140: RailPowerModel.isDark()Z -/
def am_L140 : List (Nat × List Instr) := [(0, [.aload 0, .invokevirtual 141, .ifCond .ne 11, .bipush 1, .goto 12]),
  (11, [.bipush 0, .jsr 12]),
  (12, [.areturn])]
/-- 141: RailPowerModel.isIn()I -/
def am_L141 : List (Nat × List Instr) := [(0, [.bipush 0, .istore 1, .bipush 0, .istore 2, .jsr 4]),
  (4, [.iload 2, .aload 0, .getfield 579, .if_icmp .ge 37, .iload 1, .aload 0, .getfield 582, .iload 2, .baload, .ifCond .eq 26, .bipush 0, .goto 29]),
  (26, [.bipush 1, .iload 2, .ishl, .jsr 29]),
  (29, [.ior, .istore 1, .iinc 2 1, .goto 4]),
  (37, [.iload 1, .ireturn])]
/-- 142: RailPowerModel.solve(I)V -/
def am_L142 : List (Nat × List Instr) := [(0, [.aload 0, .iload 1, .invokevirtual 143, .aload 0, .aload 0, .invokevirtual 144, .putfield 594, .jsr 13]),
  (13, [.aload 0, .getfield 594, .bipush (-9), .if_icmp .eq 29, .aload 0, .invokevirtual 150, .ifCond .eq 55, .jsr 29]),
  (29, [.aload 0, .invokevirtual 151, .istore 2, .aload 0, .getfield 593, .iload 2, .dup2, .iaload, .bipush 2, .idiv, .iastore, .aload 0, .aload 0, .invokevirtual 144, .putfield 594, .goto 13]),
  (55, [.return_])]
/-- 143: RailPowerModel.layLoads(I)V -/
def am_L143 : List (Nat × List Instr) := [(0, [.aload 0, .bipush 0, .putfield 591, .bipush 0, .istore 2, .jsr 7]),
  (7, [.iload 2, .aload 0, .getfield 584, .if_icmp .ge 87, .aload 0, .getfield 597, .iload 2, .bipush (-9), .iastore, .aload 0, .iload 2, .iload 1, .invokevirtual 138, .istore 3, .iload 3, .bipush (-9), .if_icmp .eq 81, .aload 0, .getfield 597, .iload 2, .aload 0, .getfield 591, .iastore, .aload 0, .getfield 592, .aload 0, .getfield 591, .iload 3, .iastore, .aload 0, .getfield 593, .aload 0, .getfield 591, .aload 0, .iload 2, .iload 1, .invokevirtual 139, .iastore, .aload 0, .dup, .getfield 591, .bipush 1, .iadd, .putfield 591, .jsr 81]),
  (81, [.iinc 2 1, .goto 7]),
  (87, [.return_])]
/-- 144: RailPowerModel.findFeeding()I -/
def am_L144 : List (Nat × List Instr) := [(0, [.aload 0, .invokevirtual 141, .istore 1, .bipush 1, .istore 2, .jsr 7]),
  (7, [.iload 2, .iload 1, .if_icmp .gt 37, .iload 2, .iload 1, .bipush (-1), .ixor, .iand, .ifCond .ne 31, .aload 0, .iload 2, .iload 1, .invokevirtual 145, .ifCond .eq 31, .iload 2, .ireturn]),
  (31, [.iinc 2 1, .goto 7]),
  (37, [.bipush (-9), .ireturn])]
/-- 145: RailPowerModel.doesFeed(II)Z -/
def am_L145 : List (Nat × List Instr) := [(0, [.bipush 0, .istore 3, .jsr 2]),
  (2, [.iload 3, .aload 0, .getfield 579, .if_icmp .ge 84, .iload 1, .iload 3, .ishr, .bipush 1, .iand, .bipush 1, .if_icmp .ne 36, .aload 0, .iload 1, .iload 3, .invokevirtual 146, .aload 0, .getfield 595, .sipush 0, .lcmp, .ifCond .ge 78, .bipush 0, .areturn]),
  (36, [.iload 2, .iload 3, .ishr, .bipush 1, .iand, .bipush 1, .if_icmp .ne 78, .aload 0, .iload 1, .aload 0, .getfield 581, .iload 3, .iaload, .invokevirtual 149, .aload 0, .getfield 595, .aload 0, .getfield 578, .bipush 2, .iaload, .i2l, .aload 0, .getfield 596, .lmul, .lcmp, .ifCond .ge 78, .bipush 0, .areturn]),
  (78, [.iinc 3 1, .goto 2]),
  (84, [.bipush 1, .areturn])]
/-- 146: RailPowerModel.findGiven(II)V -/
def am_L146 : List (Nat × List Instr) := [(0, [.aload 0, .getfield 581, .iload 2, .iaload, .istore 3, .iload 3, .ifCond .ne 16, .bipush (-9), .goto 25]),
  (16, [.aload 0, .iload 1, .iload 3, .bipush 1, .isub, .bipush 1, .invokevirtual 147, .jsr 25]),
  (25, [.istore 4, .aload 0, .iload 1, .iload 3, .bipush 1, .iadd, .bipush 0, .invokevirtual 147, .istore 5, .sipush 0, .lstore 6, .sipush 0, .lstore 8, .sipush 0, .lstore 10, .bipush 0, .istore 12, .jsr 50]),
  (50, [.iload 12, .aload 0, .getfield 591, .if_icmp .ge 227, .aload 0, .getfield 592, .iload 12, .iaload, .istore 13, .iload 13, .iload 3, .if_icmp .ge 79, .iload 4, .goto 81]),
  (79, [.iload 5, .jsr 81]),
  (81, [.istore 14, .iload 13, .iload 3, .if_icmp .eq 96, .iload 14, .bipush (-9), .if_icmp .ne 112, .jsr 96]),
  (96, [.lload 6, .aload 0, .getfield 593, .iload 12, .iaload, .i2l, .ladd, .lstore 6, .goto 221]),
  (112, [.aload 0, .getfield 581, .iload 14, .iaload, .istore 15, .iload 13, .iload 3, .if_icmp .ge 142, .iload 13, .iload 15, .if_icmp .le 138, .bipush 1, .goto 154]),
  (138, [.bipush 0, .goto 154]),
  (142, [.iload 13, .iload 15, .if_icmp .ge 153, .bipush 1, .goto 154]),
  (153, [.bipush 0, .jsr 154]),
  (154, [.istore 16, .iload 16, .ifCond .eq 193, .iload 13, .iload 3, .if_icmp .ge 193, .lload 8, .aload 0, .getfield 593, .iload 12, .iaload, .i2l, .iload 13, .iload 15, .isub, .invokevirtual 148, .i2l, .lmul, .ladd, .lstore 8, .goto 221]),
  (193, [.iload 16, .ifCond .eq 221, .lload 10, .aload 0, .getfield 593, .iload 12, .iaload, .i2l, .iload 13, .iload 15, .isub, .invokevirtual 148, .i2l, .lmul, .ladd, .lstore 10, .jsr 221]),
  (221, [.iinc 12 1, .goto 50]),
  (227, [.iload 4, .bipush (-9), .if_icmp .ne 238, .sipush 1, .goto 248]),
  (238, [.iload 3, .aload 0, .getfield 581, .iload 4, .iaload, .isub, .i2l, .jsr 248]),
  (248, [.lstore 12, .iload 5, .bipush (-9), .if_icmp .ne 261, .sipush 1, .goto 271]),
  (261, [.aload 0, .getfield 581, .iload 5, .iaload, .iload 3, .isub, .i2l, .jsr 271]),
  (271, [.lstore 14, .aload 0, .lload 6, .lload 12, .lmul, .lload 14, .lmul, .lload 8, .lload 14, .lmul, .ladd, .lload 10, .lload 12, .lmul, .ladd, .putfield 595, .aload 0, .lload 12, .lload 14, .lmul, .putfield 596, .return_])]
/-- 147: RailPowerModel.neighbour(IIZ)I -/
def am_L147 : List (Nat × List Instr) := [(0, [.bipush (-9), .istore 4, .bipush 0, .istore 5, .jsr 7]),
  (7, [.iload 5, .aload 0, .getfield 579, .if_icmp .ge 125, .iload 1, .iload 5, .ishr, .bipush 1, .iand, .bipush 1, .if_icmp .ne 59, .iload 3, .ifCond .eq 44, .aload 0, .getfield 581, .iload 5, .iaload, .iload 2, .if_icmp .gt 59, .goto 55]),
  (44, [.aload 0, .getfield 581, .iload 5, .iaload, .iload 2, .if_icmp .lt 59, .jsr 55]),
  (55, [.bipush 1, .goto 60]),
  (59, [.bipush 0, .jsr 60]),
  (60, [.istore 6, .iload 6, .ifCond .eq 119, .iload 4, .bipush (-9), .if_icmp .eq 115, .iload 3, .ifCond .eq 98, .aload 0, .getfield 581, .iload 5, .iaload, .aload 0, .getfield 581, .iload 4, .iaload, .if_icmp .le 119, .goto 115]),
  (98, [.aload 0, .getfield 581, .iload 5, .iaload, .aload 0, .getfield 581, .iload 4, .iaload, .if_icmp .ge 119, .jsr 115]),
  (115, [.iload 5, .istore 4, .jsr 119]),
  (119, [.iinc 5 1, .goto 7]),
  (125, [.iload 4, .ireturn])]
/-- 148: RailPowerModel.size(I)I -/
def am_L148 : List (Nat × List Instr) := [(0, [.iload 0, .ifCond .ge 9, .iload 0, .ineg, .goto 10]),
  (9, [.iload 0, .jsr 10]),
  (10, [.ireturn])]
/-- 149: RailPowerModel.findVolts(II)V -/
def am_L149 : List (Nat × List Instr) := [(0, [.aload 0, .iload 1, .iload 2, .bipush 1, .invokevirtual 147, .istore 3, .aload 0, .iload 1, .iload 2, .bipush 0, .invokevirtual 147, .istore 4, .sipush 0, .lstore 5, .iload 3, .bipush (-9), .if_icmp .eq 183, .iload 4, .bipush (-9), .if_icmp .eq 183, .aload 0, .getfield 581, .iload 3, .iaload, .i2l, .lstore 7, .aload 0, .getfield 581, .iload 4, .iaload, .i2l, .lstore 9, .bipush 0, .istore 11, .jsr 55]),
  (55, [.iload 11, .aload 0, .getfield 591, .if_icmp .ge 155, .aload 0, .getfield 592, .iload 11, .iaload, .i2l, .lstore 12, .lload 12, .lload 7, .lcmp, .ifCond .le 149, .lload 12, .lload 9, .lcmp, .ifCond .ge 149, .iload 2, .i2l, .lload 12, .lcmp, .ifCond .ge 103, .iload 2, .i2l, .goto 105]),
  (103, [.lload 12, .jsr 105]),
  (105, [.lstore 14, .iload 2, .i2l, .lload 12, .lcmp, .ifCond .ge 120, .lload 12, .goto 122]),
  (120, [.iload 2, .i2l, .jsr 122]),
  (122, [.lstore 16, .lload 5, .aload 0, .getfield 593, .iload 11, .iaload, .i2l, .lload 14, .lload 7, .lsub, .lmul, .lload 9, .lload 16, .lsub, .lmul, .ladd, .lstore 5, .jsr 149]),
  (149, [.iinc 11 1, .goto 55]),
  (155, [.aload 0, .lload 7, .lload 9, .lcmp, .ifCond .ne 168, .sipush 1, .goto 177]),
  (168, [.sipush 1000, .lload 9, .lload 7, .lsub, .lmul, .jsr 177]),
  (177, [.putfield 596, .goto 346]),
  (183, [.aload 0, .getfield 581, .iload 3, .bipush (-9), .if_icmp .ne 198, .iload 4, .goto 199]),
  (198, [.iload 3, .jsr 199]),
  (199, [.iaload, .istore 7, .bipush 0, .istore 8, .jsr 205]),
  (205, [.iload 8, .aload 0, .getfield 591, .if_icmp .ge 339, .aload 0, .getfield 592, .iload 8, .iaload, .istore 9, .iload 3, .bipush (-9), .if_icmp .ne 244, .iload 9, .iload 7, .if_icmp .ge 240, .bipush 1, .goto 256]),
  (240, [.bipush 0, .goto 256]),
  (244, [.iload 9, .iload 7, .if_icmp .le 255, .bipush 1, .goto 256]),
  (255, [.bipush 0, .jsr 256]),
  (256, [.istore 10, .iload 10, .ifCond .eq 333, .iload 2, .iload 7, .if_icmp .ge 276, .iload 7, .iload 2, .isub, .goto 280]),
  (276, [.iload 2, .iload 7, .isub, .jsr 280]),
  (280, [.istore 11, .iload 9, .iload 7, .if_icmp .ge 297, .iload 7, .iload 9, .isub, .goto 302]),
  (297, [.iload 9, .iload 7, .isub, .jsr 302]),
  (302, [.istore 12, .lload 5, .aload 0, .getfield 593, .iload 8, .iaload, .i2l, .iload 11, .iload 12, .if_icmp .ge 326, .iload 11, .goto 328]),
  (326, [.iload 12, .jsr 328]),
  (328, [.i2l, .lmul, .ladd, .lstore 5, .jsr 333]),
  (333, [.iinc 8 1, .goto 205]),
  (339, [.aload 0, .sipush 1000, .putfield 596, .jsr 346]),
  (346, [.aload 0, .aload 0, .getfield 578, .bipush 2, .iaload, .i2l, .aload 0, .getfield 596, .lmul, .aload 0, .getfield 578, .bipush 1, .iaload, .i2l, .lload 5, .lmul, .lsub, .putfield 595, .return_])]
/-- 150: RailPowerModel.isTooHigh()Z -/
def am_L150 : List (Nat × List Instr) := [(0, [.bipush 0, .istore 1, .jsr 2]),
  (2, [.iload 1, .aload 0, .getfield 591, .if_icmp .ge 52, .aload 0, .aload 0, .getfield 594, .aload 0, .getfield 592, .iload 1, .iaload, .invokevirtual 149, .aload 0, .getfield 595, .aload 0, .getfield 578, .bipush 3, .iaload, .i2l, .aload 0, .getfield 596, .lmul, .lcmp, .ifCond .le 46, .bipush 1, .areturn]),
  (46, [.iinc 1 1, .goto 2]),
  (52, [.bipush 0, .areturn])]
/-- 151: RailPowerModel.nextBack()I -/
def am_L151 : List (Nat × List Instr) := [(0, [.bipush (-9), .istore 1, .sipush 0, .lstore 2, .sipush 1, .lstore 4, .bipush 0, .istore 6, .jsr 11]),
  (11, [.iload 6, .aload 0, .getfield 591, .if_icmp .ge 121, .aload 0, .getfield 593, .iload 6, .iaload, .ifCond .lt 33, .goto 115]),
  (33, [.aload 0, .getfield 594, .bipush (-9), .if_icmp .ne 63, .aload 0, .aload 0, .getfield 593, .iload 6, .iaload, .ineg, .i2l, .putfield 595, .aload 0, .sipush 1, .putfield 596, .goto 78]),
  (63, [.aload 0, .aload 0, .getfield 594, .aload 0, .getfield 592, .iload 6, .iaload, .invokevirtual 149, .jsr 78]),
  (78, [.iload 1, .bipush (-9), .if_icmp .eq 101, .aload 0, .getfield 595, .lload 4, .lmul, .lload 2, .aload 0, .getfield 596, .lmul, .lcmp, .ifCond .le 115, .jsr 101]),
  (101, [.iload 6, .istore 1, .aload 0, .getfield 595, .lstore 2, .aload 0, .getfield 596, .lstore 4, .jsr 115]),
  (115, [.iinc 6 1, .goto 11]),
  (121, [.iload 1, .ireturn])]
/-- 152: RailPowerModel.feeds(I)I -/
def am_L152 : List (Nat × List Instr) := [(0, [.iload 1, .invokevirtual 129, .ifCond .ne 9, .bipush (-1), .ireturn]),
  (9, [.aload 0, .invokevirtual 140, .ifCond .eq 19, .bipush (-3), .ireturn]),
  (19, [.aload 0, .iload 1, .invokevirtual 142, .aload 0, .getfield 594, .ireturn])]
/-- 153: RailPowerModel.volts(III)J -/
def am_L153 : List (Nat × List Instr) := [(0, [.iload 1, .invokevirtual 129, .ifCond .eq 31, .aload 0, .iload 2, .invokevirtual 120, .ifCond .eq 31, .iload 3, .bipush 0, .bipush 1, .invokevirtual 114, .ifCond .eq 31, .aload 0, .invokevirtual 140, .ifCond .eq 35, .jsr 31]),
  (31, [.sipush (-9223372036854775808), .lreturn]),
  (35, [.aload 0, .iload 1, .invokevirtual 142, .aload 0, .aload 0, .getfield 594, .iload 2, .invokevirtual 149, .aload 0, .iload 3, .invokevirtual 154, .lreturn])]
/-- 154: RailPowerModel.part(I)J -/
def am_L154 : List (Nat × List Instr) := [(0, [.aload 0, .getfield 595, .sipush 0, .lcmp, .ifCond .ge 17, .aload 0, .getfield 595, .lneg, .goto 21]),
  (17, [.aload 0, .getfield 595, .jsr 21]),
  (21, [.lstore 2, .aload 0, .getfield 596, .lstore 4, .jsr 28]),
  (28, [.lload 4, .sipush 0, .lcmp, .ifCond .eq 51, .lload 2, .lload 4, .lrem, .lstore 6, .lload 4, .lstore 2, .lload 6, .lstore 4, .goto 28]),
  (51, [.iload 1, .ifCond .ne 64, .aload 0, .getfield 595, .lload 2, .ldiv, .goto 70]),
  (64, [.aload 0, .getfield 596, .lload 2, .ldiv, .jsr 70]),
  (70, [.lreturn])]
/-- 155: RailPowerModel.gives(III)J -/
def am_L155 : List (Nat × List Instr) := [(0, [.iload 1, .invokevirtual 129, .ifCond .eq 31, .aload 0, .iload 2, .invokevirtual 123, .ifCond .eq 31, .iload 3, .bipush 0, .bipush 1, .invokevirtual 114, .ifCond .eq 31, .aload 0, .invokevirtual 140, .ifCond .eq 35, .jsr 31]),
  (31, [.sipush (-9223372036854775808), .lreturn]),
  (35, [.aload 0, .iload 1, .invokevirtual 142, .aload 0, .getfield 594, .iload 2, .ishr, .bipush 1, .iand, .ifCond .ne 54, .iload 3, .i2l, .lreturn]),
  (54, [.aload 0, .aload 0, .getfield 594, .iload 2, .invokevirtual 146, .aload 0, .iload 3, .invokevirtual 154, .lreturn])]
/-- 156: RailPowerModel.lowest(I)J -/
def am_L156 : List (Nat × List Instr) := [(0, [.iload 1, .bipush 0, .bipush 3, .invokevirtual 114, .ifCond .eq 16, .aload 0, .invokevirtual 140, .ifCond .eq 20, .jsr 16]),
  (16, [.sipush (-9223372036854775808), .lreturn]),
  (20, [.aload 0, .invokevirtual 157, .aload 0, .getfield 598, .ifCond .ne 35, .sipush (-9223372036854775808), .lreturn]),
  (35, [.aload 0, .aload 0, .getfield 599, .putfield 595, .aload 0, .aload 0, .getfield 600, .putfield 596, .iload 1, .bipush 2, .if_icmp .ge 64, .aload 0, .iload 1, .invokevirtual 154, .goto 82]),
  (64, [.iload 1, .bipush 2, .if_icmp .ne 77, .aload 0, .getfield 601, .i2l, .goto 82]),
  (77, [.aload 0, .getfield 602, .i2l, .jsr 82]),
  (82, [.lreturn])]
/-- 157: RailPowerModel.findLowest()V -/
def am_L157 : List (Nat × List Instr) := [(0, [.aload 0, .bipush 0, .putfield 598, .bipush 0, .istore 1, .jsr 7]),
  (7, [.iload 1, .bipush 24, .if_icmp .ge 133, .aload 0, .iload 1, .invokevirtual 142, .bipush 0, .istore 2, .jsr 20]),
  (20, [.iload 2, .aload 0, .getfield 584, .if_icmp .ge 127, .aload 0, .getfield 597, .iload 2, .iaload, .bipush (-9), .if_icmp .ne 42, .goto 121]),
  (42, [.aload 0, .aload 0, .getfield 594, .aload 0, .getfield 592, .aload 0, .getfield 597, .iload 2, .iaload, .iaload, .invokevirtual 149, .aload 0, .getfield 598, .ifCond .eq 90, .aload 0, .getfield 595, .aload 0, .getfield 600, .lmul, .aload 0, .getfield 599, .aload 0, .getfield 596, .lmul, .lcmp, .ifCond .ge 121, .jsr 90]),
  (90, [.aload 0, .bipush 1, .putfield 598, .aload 0, .aload 0, .getfield 595, .putfield 599, .aload 0, .aload 0, .getfield 596, .putfield 600, .aload 0, .iload 1, .putfield 601, .aload 0, .iload 2, .putfield 602, .jsr 121]),
  (121, [.iinc 2 1, .goto 20]),
  (127, [.iinc 1 1, .goto 7]),
  (133, [.return_])]
/-- 158: RailPowerModel.safe()I -/
def am_L158 : List (Nat × List Instr) := [(0, [.aload 0, .invokevirtual 140, .ifCond .eq 10, .bipush (-3), .ireturn]),
  (10, [.aload 0, .invokevirtual 159, .ifCond .eq 21, .bipush 1, .goto 22]),
  (21, [.bipush 0, .jsr 22]),
  (22, [.ireturn])]
/-- 159: RailPowerModel.isSafe()Z -/
def am_L159 : List (Nat × List Instr) := [(0, [.aload 0, .invokevirtual 157, .aload 0, .getfield 598, .ifCond .eq 31, .aload 0, .getfield 599, .aload 0, .getfield 578, .bipush 4, .iaload, .i2l, .aload 0, .getfield 600, .lmul, .lcmp, .ifCond .lt 35, .jsr 31]),
  (31, [.bipush 1, .goto 36]),
  (35, [.bipush 0, .jsr 36]),
  (36, [.areturn])]
/-- 160: RailPowerModel.firstOut()I -/
def am_L160 : List (Nat × List Instr) := [(0, [.aload 0, .invokevirtual 140, .ifCond .eq 10, .bipush (-3), .ireturn]),
  (10, [.bipush 0, .istore 1, .jsr 12]),
  (12, [.iload 1, .aload 0, .getfield 579, .if_icmp .ge 78, .aload 0, .getfield 582, .iload 1, .baload, .ifCond .eq 32, .goto 72]),
  (32, [.aload 0, .getfield 582, .iload 1, .bipush 1, .bastore, .aload 0, .invokevirtual 140, .ifCond .ne 53, .aload 0, .invokevirtual 159, .ifCond .ne 57, .jsr 53]),
  (53, [.bipush 1, .goto 58]),
  (57, [.bipush 0, .jsr 58]),
  (58, [.istore 2, .aload 0, .getfield 582, .iload 1, .bipush 0, .bastore, .iload 2, .ifCond .eq 72, .iload 1, .ireturn]),
  (72, [.iinc 1 1, .goto 12]),
  (78, [.bipush (-9), .ireturn])]
/-- 161: RailPowerModel.most(I)J -/
def am_L161 : List (Nat × List Instr) := [(0, [.iload 1, .bipush 0, .bipush 1, .invokevirtual 114, .ifCond .eq 16, .aload 0, .invokevirtual 140, .ifCond .eq 20, .jsr 16]),
  (16, [.sipush (-9223372036854775808), .lreturn]),
  (20, [.aload 0, .invokevirtual 162, .aload 0, .aload 0, .getfield 603, .putfield 595, .aload 0, .aload 0, .getfield 604, .putfield 596, .aload 0, .iload 1, .invokevirtual 154, .lreturn])]
/-- 162: RailPowerModel.findMost()V -/
def am_L162 : List (Nat × List Instr) := [(0, [.aload 0, .sipush 0, .putfield 603, .aload 0, .sipush 1, .putfield 604, .bipush 0, .istore 1, .jsr 12]),
  (12, [.iload 1, .bipush 24, .if_icmp .ge 104, .aload 0, .iload 1, .invokevirtual 142, .bipush 0, .istore 2, .jsr 25]),
  (25, [.iload 2, .aload 0, .getfield 579, .if_icmp .ge 98, .aload 0, .getfield 594, .iload 2, .ishr, .bipush 1, .iand, .bipush 1, .if_icmp .ne 92, .aload 0, .aload 0, .getfield 594, .iload 2, .invokevirtual 146, .aload 0, .getfield 595, .aload 0, .getfield 604, .lmul, .aload 0, .getfield 603, .aload 0, .getfield 596, .lmul, .lcmp, .ifCond .le 92, .aload 0, .aload 0, .getfield 595, .putfield 603, .aload 0, .aload 0, .getfield 596, .putfield 604, .jsr 92]),
  (92, [.iinc 2 1, .goto 25]),
  (98, [.iinc 1 1, .goto 12]),
  (104, [.return_])]
/-- 163: RailPowerModel.shorted(II)I -/
def am_L163 : List (Nat × List Instr) := [(0, [.aload 0, .iload 1, .invokevirtual 120, .ifCond .ne 10, .bipush (-1), .ireturn]),
  (10, [.iload 2, .bipush 1, .bipush 100000, .invokevirtual 114, .ifCond .ne 23, .bipush (-2), .ireturn]),
  (23, [.aload 0, .invokevirtual 140, .ifCond .eq 33, .bipush (-3), .ireturn]),
  (33, [.aload 0, .iload 1, .iload 2, .invokevirtual 164, .aload 0, .getfield 594, .ireturn])]
/-- 164: RailPowerModel.layFault(II)V -/
def am_L164 : List (Nat × List Instr) := [(0, [.aload 0, .bipush 1, .putfield 591, .aload 0, .getfield 592, .bipush 0, .iload 1, .iastore, .aload 0, .getfield 593, .bipush 0, .iload 2, .iastore, .aload 0, .aload 0, .invokevirtual 144, .putfield 594, .return_])]
/-- 165: RailPowerModel.right(I)I -/
def am_L165 : List (Nat × List Instr) := [(0, [.iload 1, .bipush 1, .bipush 100000, .invokevirtual 114, .ifCond .ne 13, .bipush (-2), .ireturn]),
  (13, [.aload 0, .invokevirtual 140, .ifCond .eq 23, .bipush (-3), .ireturn]),
  (23, [.bipush 0, .istore 2, .jsr 25]),
  (25, [.iload 2, .bipush 24, .if_icmp .ge 51, .aload 0, .iload 2, .invokevirtual 142, .aload 0, .invokevirtual 166, .ifCond .eq 45, .bipush 1, .ireturn]),
  (45, [.iinc 2 1, .goto 25]),
  (51, [.bipush 0, .istore 2, .jsr 53]),
  (53, [.iload 2, .aload 0, .getfield 578, .bipush 0, .iaload, .if_icmp .gt 84, .aload 0, .iload 2, .iload 1, .invokevirtual 164, .aload 0, .invokevirtual 166, .ifCond .ne 78, .bipush 2, .ireturn]),
  (78, [.iinc 2 1, .goto 53]),
  (84, [.bipush 0, .ireturn])]
/-- 166: RailPowerModel.isTripped()Z -/
def am_L166 : List (Nat × List Instr) := [(0, [.bipush 0, .istore 1, .jsr 2]),
  (2, [.iload 1, .aload 0, .getfield 579, .if_icmp .ge 59, .aload 0, .getfield 594, .iload 1, .ishr, .bipush 1, .iand, .bipush 1, .if_icmp .ne 53, .aload 0, .aload 0, .getfield 594, .iload 1, .invokevirtual 146, .aload 0, .getfield 595, .aload 0, .getfield 583, .iload 1, .iaload, .i2l, .aload 0, .getfield 596, .lmul, .lcmp, .ifCond .lt 53, .bipush 1, .areturn]),
  (53, [.iinc 1 1, .goto 2]),
  (59, [.bipush 0, .areturn])]
/-- 167: RailPowerModel.peak(II)J -/
def am_L167 : List (Nat × List Instr) := [(0, [.iload 1, .bipush 1, .bipush 2, .invokevirtual 114, .ifCond .eq 36, .iload 2, .bipush 0, .bipush 1, .invokevirtual 114, .ifCond .ne 29, .aload 0, .iload 2, .bipush 10, .isub, .invokevirtual 128, .ifCond .eq 36, .jsr 29]),
  (29, [.aload 0, .invokevirtual 140, .ifCond .eq 40, .jsr 36]),
  (36, [.sipush (-9223372036854775808), .lreturn]),
  (40, [.aload 0, .iload 1, .invokevirtual 168, .iload 2, .bipush 10, .if_icmp .lt 62, .aload 0, .getfield 606, .iload 2, .bipush 10, .isub, .iaload, .i2l, .lreturn]),
  (62, [.aload 0, .aload 0, .getfield 607, .putfield 595, .aload 0, .aload 0, .getfield 608, .putfield 596, .aload 0, .iload 2, .invokevirtual 154, .lreturn])]
/-- 168: RailPowerModel.findPeak(I)V -/
def am_L168 : List (Nat × List Instr) := [(0, [.bipush 1, .istore 2, .bipush 0, .istore 3, .jsr 4]),
  (4, [.iload 3, .aload 0, .getfield 584, .if_icmp .ge 36, .aload 0, .getfield 605, .iload 3, .aload 0, .getfield 587, .iload 3, .iaload, .iastore, .iload 2, .iload 1, .bipush 1, .iadd, .imul, .istore 2, .iinc 3 1, .goto 4]),
  (36, [.aload 0, .sipush (-1), .putfield 607, .bipush 0, .istore 3, .jsr 45]),
  (45, [.iload 3, .iload 2, .if_icmp .ge 182, .iload 3, .istore 4, .aload 0, .getfield 584, .bipush 1, .isub, .istore 5, .jsr 61]),
  (61, [.iload 5, .ifCond .lt 93, .aload 0, .getfield 587, .iload 5, .iload 4, .iload 1, .bipush 1, .iadd, .irem, .iastore, .iload 4, .iload 1, .bipush 1, .iadd, .idiv, .istore 4, .iinc 5 (-1), .goto 61]),
  (93, [.aload 0, .invokevirtual 162, .aload 0, .getfield 607, .sipush 0, .lcmp, .ifCond .lt 128, .aload 0, .getfield 603, .aload 0, .getfield 608, .lmul, .aload 0, .getfield 607, .aload 0, .getfield 604, .lmul, .lcmp, .ifCond .ge 176, .jsr 128]),
  (128, [.aload 0, .aload 0, .getfield 603, .putfield 607, .aload 0, .aload 0, .getfield 604, .putfield 608, .bipush 0, .istore 5, .jsr 147]),
  (147, [.iload 5, .aload 0, .getfield 584, .if_icmp .ge 176, .aload 0, .getfield 606, .iload 5, .aload 0, .getfield 587, .iload 5, .iaload, .iastore, .iinc 5 1, .goto 147]),
  (176, [.iinc 3 1, .goto 45]),
  (182, [.bipush 0, .istore 3, .jsr 184]),
  (184, [.iload 3, .aload 0, .getfield 584, .if_icmp .ge 210, .aload 0, .getfield 587, .iload 3, .aload 0, .getfield 605, .iload 3, .iaload, .iastore, .iinc 3 1, .goto 184]),
  (210, [.return_])]
/-- 169: RailPowerModel.used(I)J -/
def am_L169 : List (Nat × List Instr) := [(0, [.aload 0, .iload 1, .invokevirtual 128, .ifCond .eq 15, .aload 0, .invokevirtual 140, .ifCond .eq 19, .jsr 15]),
  (15, [.sipush (-9223372036854775808), .lreturn]),
  (19, [.sipush 0, .lstore 2, .bipush 0, .istore 4, .jsr 24]),
  (24, [.iload 4, .bipush 24, .if_icmp .ge 98, .aload 0, .iload 4, .invokevirtual 142, .aload 0, .getfield 597, .iload 1, .iaload, .bipush (-9), .if_icmp .eq 92, .aload 0, .aload 0, .getfield 594, .aload 0, .getfield 592, .aload 0, .getfield 597, .iload 1, .iaload, .iaload, .invokevirtual 149, .lload 2, .aload 0, .getfield 595, .aload 0, .getfield 593, .aload 0, .getfield 597, .iload 1, .iaload, .iaload, .i2l, .lmul, .aload 0, .getfield 596, .ldiv, .ladd, .lstore 2, .jsr 92]),
  (92, [.iinc 4 1, .goto 24]),
  (98, [.lload 2, .lreturn])]
/-- 170: RailPowerModel.given(I)J -/
def am_L170 : List (Nat × List Instr) := [(0, [.aload 0, .iload 1, .invokevirtual 123, .ifCond .eq 15, .aload 0, .invokevirtual 140, .ifCond .eq 19, .jsr 15]),
  (15, [.sipush (-9223372036854775808), .lreturn]),
  (19, [.sipush 0, .lstore 2, .bipush 0, .istore 4, .jsr 24]),
  (24, [.iload 4, .bipush 24, .if_icmp .ge 84, .aload 0, .iload 4, .invokevirtual 142, .aload 0, .getfield 594, .iload 1, .ishr, .bipush 1, .iand, .bipush 1, .if_icmp .ne 78, .aload 0, .aload 0, .getfield 594, .iload 1, .invokevirtual 146, .lload 2, .aload 0, .getfield 578, .bipush 2, .iaload, .i2l, .aload 0, .getfield 595, .lmul, .aload 0, .getfield 596, .ldiv, .ladd, .lstore 2, .jsr 78]),
  (78, [.iinc 4 1, .goto 24]),
  (84, [.lload 2, .lreturn])]
/-- 171: RailPowerModel.best(I)J -/
def am_L171 : List (Nat × List Instr) := [(0, [.iload 1, .bipush 0, .bipush 2, .invokevirtual 114, .ifCond .eq 24, .aload 0, .getfield 579, .bipush 5, .if_icmp .eq 24, .aload 0, .invokevirtual 172, .ifCond .ne 28, .jsr 24]),
  (24, [.sipush (-9223372036854775808), .lreturn]),
  (28, [.aload 0, .bipush (-9), .putfield 609, .aload 0, .getfield 579, .istore 2, .bipush 0, .istore 3, .jsr 41]),
  (41, [.iload 3, .aload 0, .getfield 578, .bipush 0, .iaload, .if_icmp .gt 158, .aload 0, .iload 3, .invokevirtual 121, .ifCond .eq 62, .goto 152]),
  (62, [.aload 0, .getfield 581, .iload 2, .iload 3, .iastore, .aload 0, .getfield 582, .iload 2, .bipush 0, .bastore, .aload 0, .dup, .getfield 579, .bipush 1, .iadd, .putfield 579, .aload 0, .invokevirtual 157, .aload 0, .dup, .getfield 579, .bipush 1, .isub, .putfield 579, .aload 0, .getfield 609, .bipush (-9), .if_icmp .eq 131, .aload 0, .getfield 599, .aload 0, .getfield 611, .lmul, .aload 0, .getfield 610, .aload 0, .getfield 600, .lmul, .lcmp, .ifCond .le 152, .jsr 131]),
  (131, [.aload 0, .iload 3, .putfield 609, .aload 0, .aload 0, .getfield 599, .putfield 610, .aload 0, .aload 0, .getfield 600, .putfield 611, .jsr 152]),
  (152, [.iinc 3 1, .goto 41]),
  (158, [.aload 0, .getfield 609, .bipush (-9), .if_icmp .ne 171, .sipush (-9223372036854775808), .lreturn]),
  (171, [.aload 0, .aload 0, .getfield 610, .putfield 595, .aload 0, .aload 0, .getfield 611, .putfield 596, .iload 1, .ifCond .ne 199, .aload 0, .getfield 609, .i2l, .goto 206]),
  (199, [.aload 0, .iload 1, .bipush 1, .isub, .invokevirtual 154, .jsr 206]),
  (206, [.lreturn])]
/-- 172: RailPowerModel.isAnyThere()Z -/
def am_L172 : List (Nat × List Instr) := [(0, [.aload 0, .invokevirtual 173, .ifCond .le 11, .bipush 1, .goto 12]),
  (11, [.bipush 0, .jsr 12]),
  (12, [.areturn])]
/-- 173: RailPowerModel.ticksThere()I -/
def am_L173 : List (Nat × List Instr) := [(0, [.bipush 0, .istore 1, .bipush 0, .istore 2, .jsr 4]),
  (4, [.iload 2, .bipush 24, .if_icmp .ge 36, .aload 0, .iload 2, .invokevirtual 143, .iload 1, .aload 0, .getfield 591, .ifCond .le 27, .bipush 1, .goto 28]),
  (27, [.bipush 0, .jsr 28]),
  (28, [.iadd, .istore 1, .iinc 2 1, .goto 4]),
  (36, [.iload 1, .ireturn])]
/-- 174: RailPowerModel.sheet(III)I -/
def am_L174 : List (Nat × List Instr) := [(0, [.aload 0, .bipush 0, .putfield 576, .iload 1, .invokevirtual 133, .ifCond .ne 14, .bipush (-1), .ireturn]),
  (14, [.iload 2, .invokevirtual 134, .ifCond .eq 27, .iload 3, .bipush 60, .if_icmp .le 30, .jsr 27]),
  (27, [.bipush (-2), .ireturn]),
  (30, [.iload 3, .ifCond .ge 40, .aload 0, .bipush 4, .invokevirtual 135, .ireturn]),
  (40, [.aload 0, .getfield 588, .iload 1, .iload 2, .iastore, .aload 0, .getfield 589, .iload 1, .iload 3, .iastore, .bipush 0, .istore 4, .jsr 57]),
  (57, [.iload 4, .bipush 60, .if_icmp .ge 83, .aload 0, .getfield 590, .bipush 60, .iload 1, .imul, .iload 4, .iadd, .bipush 0, .iastore, .iinc 4 1, .goto 57]),
  (83, [.bipush 1, .ireturn])]
/-- 175: RailPowerModel.lose(I)I -/
def am_L175 : List (Nat × List Instr) := [(0, [.iload 1, .invokevirtual 133, .ifCond .ne 9, .bipush (-1), .ireturn]),
  (9, [.aload 0, .getfield 588, .iload 1, .iaload, .bipush (-9), .if_icmp .ne 24, .bipush 0, .goto 25]),
  (24, [.bipush 1, .jsr 25]),
  (25, [.istore 2, .aload 0, .getfield 588, .iload 1, .bipush (-9), .iastore, .iload 2, .ireturn])]
/-- 176: RailPowerModel.put(III)I -/
def am_L176 : List (Nat × List Instr) := [(0, [.aload 0, .bipush 0, .putfield 576, .iload 1, .invokevirtual 133, .ifCond .ne 14, .bipush (-1), .ireturn]),
  (14, [.aload 0, .getfield 588, .iload 1, .iaload, .bipush (-9), .if_icmp .ne 31, .aload 0, .bipush 1, .invokevirtual 135, .ireturn]),
  (31, [.iload 2, .bipush 0, .aload 0, .getfield 589, .iload 1, .iaload, .bipush 1, .isub, .invokevirtual 114, .ifCond .ne 53, .aload 0, .bipush 3, .invokevirtual 135, .ireturn]),
  (53, [.aload 0, .getfield 590, .bipush 60, .iload 1, .imul, .iload 2, .iadd, .aload 0, .getfield 588, .iload 1, .iaload, .ifCond .ne 77, .iload 3, .i2b, .goto 93]),
  (77, [.aload 0, .getfield 588, .iload 1, .iaload, .bipush 1, .if_icmp .ne 92, .iload 3, .i2s, .goto 93]),
  (92, [.iload 3, .jsr 93]),
  (93, [.iastore, .bipush 1, .ireturn])]
/-- 177: RailPowerModel.cell(III)J -/
def am_L177 : List (Nat × List Instr) := [(0, [.aload 0, .bipush 0, .putfield 576, .iload 1, .invokevirtual 133, .ifCond .eq 19, .iload 3, .invokevirtual 134, .ifCond .ne 23, .jsr 19]),
  (19, [.sipush (-9223372036854775808), .lreturn]),
  (23, [.aload 0, .getfield 588, .iload 1, .iaload, .bipush (-9), .if_icmp .eq 50, .aload 0, .getfield 588, .iload 1, .iaload, .iload 3, .if_icmp .eq 50, .aload 0, .bipush 2, .invokevirtual 178, .lreturn]),
  (50, [.aload 0, .getfield 588, .iload 1, .iaload, .bipush (-9), .if_icmp .ne 67, .aload 0, .bipush 1, .invokevirtual 178, .lreturn]),
  (67, [.iload 2, .bipush 0, .aload 0, .getfield 589, .iload 1, .iaload, .bipush 1, .isub, .invokevirtual 114, .ifCond .ne 89, .aload 0, .bipush 3, .invokevirtual 178, .lreturn]),
  (89, [.aload 0, .getfield 590, .bipush 60, .iload 1, .imul, .iload 2, .iadd, .iaload, .i2l, .lreturn])]
/-- 178: RailPowerModel.lost(I)J -/
def am_L178 : List (Nat × List Instr) := [(0, [.aload 0, .iload 1, .putfield 576, .sipush (-9223372036854775808), .lreturn])]
/-- 179: RailPowerModel.tell(I)I -/
def am_L179 : List (Nat × List Instr) := [(0, [.aload 0, .iload 1, .invokevirtual 123, .ifCond .ne 10, .bipush (-1), .ireturn]),
  (10, [.aload 0, .getfield 582, .iload 1, .baload, .ifCond .eq 23, .bipush 0, .goto 26]),
  (23, [.bipush 1000, .jsr 26]),
  (26, [.istore 2, .aload 0, .getfield 580, .iload 1, .iaload, .lookupswitch 110 #[(1, 60), (2, 79)]]),
  (60, [.aload 0, .bipush 2, .invokevirtual 180, .aload 0, .bipush 1, .invokevirtual 180, .aload 0, .getfield 581, .iload 1, .iaload, .iload 2, .iadd, .ireturn]),
  (79, [.aload 0, .bipush 3, .invokevirtual 180, .aload 0, .bipush 2, .invokevirtual 180, .aload 0, .bipush 1, .invokevirtual 180, .aload 0, .bipush 1, .invokevirtual 180, .bipush 2, .aload 0, .getfield 581, .iload 1, .iaload, .imul, .iload 2, .iadd, .ireturn]),
  (110, [.aload 0, .bipush 1, .invokevirtual 180, .aload 0, .getfield 581, .iload 1, .iaload, .ireturn])]
/-- 180: RailPowerModel.begins(I)V -/
def am_L180 : List (Nat × List Instr) := [(0, [.aload 0, .bipush 31, .aload 0, .getfield 577, .imul, .iload 1, .iadd, .putfield 577, .return_])]
/-- 181: RailPowerModel.call(I)I -/
def am_L181 : List (Nat × List Instr) := [(0, [.aload 0, .iload 1, .invokevirtual 123, .ifCond .ne 10, .bipush (-1), .ireturn]),
  (10, [.aload 0, .aload 0, .getfield 580, .iload 1, .iaload, .bipush 2, .if_icmp .ne 25, .bipush 5, .goto 26]),
  (25, [.bipush 4, .jsr 26]),
  (26, [.invokevirtual 180, .aload 0, .getfield 580, .iload 1, .iaload, .bipush 2, .if_icmp .ne 44, .bipush 50, .goto 45]),
  (44, [.iload 1, .jsr 45]),
  (45, [.ireturn])]
/-- 182: RailPowerModel.as(II)I -/
def am_L182 : List (Nat × List Instr) := [(0, [.aload 0, .bipush 0, .putfield 576, .aload 0, .iload 1, .invokevirtual 123, .ifCond .ne 15, .bipush (-1), .ireturn]),
  (15, [.iload 2, .bipush 0, .bipush 2, .invokevirtual 114, .ifCond .ne 27, .bipush (-2), .ireturn]),
  (27, [.aload 0, .getfield 580, .iload 1, .iaload, .iload 2, .if_icmp .lt 41, .bipush 1, .goto 46]),
  (41, [.aload 0, .bipush 2, .invokevirtual 135, .jsr 46]),
  (46, [.ireturn])]
/-- 183: RailPowerModel.trace()I -/
def am_L183 : List (Nat × List Instr) := [(0, [.aload 0, .getfield 577, .ireturn])]
/-- 184: RailPowerModel.fault()I -/
def am_L184 : List (Nat × List Instr) := [(0, [.aload 0, .getfield 576, .ireturn])]
/-- 185: RailPowerModel.many(I)I -/
def am_L185 : List (Nat × List Instr) := [(0, [.bipush 0, .istore 2, .iload 1, .tableswitch 82 0 3 #[32, 37, 72, 77]]),
  (32, [.aload 0, .getfield 579, .ireturn]),
  (37, [.bipush 0, .istore 3, .jsr 39]),
  (39, [.iload 3, .aload 0, .getfield 579, .if_icmp .ge 70, .iload 2, .aload 0, .getfield 582, .iload 3, .baload, .ifCond .eq 61, .bipush 0, .goto 62]),
  (61, [.bipush 1, .jsr 62]),
  (62, [.iadd, .istore 2, .iinc 3 1, .goto 39]),
  (70, [.iload 2, .ireturn]),
  (72, [.aload 0, .getfield 584, .ireturn]),
  (77, [.aload 0, .invokevirtual 173, .ireturn]),
  (82, [.bipush (-2), .ireturn])]
/-- 186: RailPowerLaw.law([I)Z -/
def am_L186 : List (Nat × List Instr) := [(0, [.new 8, .dup, .invokevirtual 0, .astore 1, .new 9, .dup, .invokevirtual 112, .astore 2, .bipush 0, .istore 3, .jsr 18]),
  (18, [.iload 3, .aload 0, .arraylength, .bipush 6, .isub, .if_icmp .gt 1200, .aload 0, .iload 3, .iaload, .bipush 63, .iand, .tableswitch 1194 0 32 #[180, 213, 246, 295, 328, 361, 374, 427, 490, 523, 566, 589, 633, 677, 701, 714, 727, 751, 784, 807, 841, 865, 889, 913, 956, 979, 1022, 1066, 1089, 1112, 1145, 1158, 1171]]),
  (180, [.aload 1, .aload 0, .iload 3, .bipush 1, .iadd, .iaload, .aload 0, .iload 3, .bipush 2, .iadd, .iaload, .invokevirtual 9, .aload 2, .aload 0, .iload 3, .bipush 1, .iadd, .iaload, .aload 0, .iload 3, .bipush 2, .iadd, .iaload, .invokevirtual 113, .if_icmp .eq 1194, .bipush 0, .areturn]),
  (213, [.aload 1, .aload 0, .iload 3, .bipush 1, .iadd, .iaload, .aload 0, .iload 3, .bipush 2, .iadd, .iaload, .invokevirtual 13, .aload 2, .aload 0, .iload 3, .bipush 1, .iadd, .iaload, .aload 0, .iload 3, .bipush 2, .iadd, .iaload, .invokevirtual 119, .if_icmp .eq 1194, .bipush 0, .areturn]),
  (246, [.aload 1, .aload 0, .iload 3, .bipush 1, .iadd, .iaload, .aload 0, .iload 3, .bipush 2, .iadd, .iaload, .ifCond .eq 264, .bipush 1, .goto 265]),
  (264, [.bipush 0, .jsr 265]),
  (265, [.invokevirtual 16, .aload 2, .aload 0, .iload 3, .bipush 1, .iadd, .iaload, .aload 0, .iload 3, .bipush 2, .iadd, .iaload, .ifCond .eq 286, .bipush 1, .goto 287]),
  (286, [.bipush 0, .jsr 287]),
  (287, [.invokevirtual 122, .if_icmp .eq 1194, .bipush 0, .areturn]),
  (295, [.aload 1, .aload 0, .iload 3, .bipush 1, .iadd, .iaload, .aload 0, .iload 3, .bipush 2, .iadd, .iaload, .invokevirtual 18, .aload 2, .aload 0, .iload 3, .bipush 1, .iadd, .iaload, .aload 0, .iload 3, .bipush 2, .iadd, .iaload, .invokevirtual 124, .if_icmp .eq 1194, .bipush 0, .areturn]),
  (328, [.aload 1, .aload 0, .iload 3, .bipush 1, .iadd, .iaload, .aload 0, .iload 3, .bipush 2, .iadd, .iaload, .invokevirtual 19, .aload 2, .aload 0, .iload 3, .bipush 1, .iadd, .iaload, .aload 0, .iload 3, .bipush 2, .iadd, .iaload, .invokevirtual 125, .if_icmp .eq 1194, .bipush 0, .areturn]),
  (361, [.aload 1, .invokevirtual 20, .aload 2, .invokevirtual 126, .if_icmp .eq 1194, .bipush 0, .areturn]),
  (374, [.aload 1, .aload 0, .iload 3, .bipush 1, .iadd, .iaload, .aload 0, .iload 3, .bipush 2, .iadd, .iaload, .aload 0, .iload 3, .bipush 3, .iadd, .iaload, .aload 0, .iload 3, .bipush 4, .iadd, .iaload, .invokevirtual 21, .aload 2, .aload 0, .iload 3, .bipush 1, .iadd, .iaload, .aload 0, .iload 3, .bipush 2, .iadd, .iaload, .aload 0, .iload 3, .bipush 3, .iadd, .iaload, .aload 0, .iload 3, .bipush 4, .iadd, .iaload, .invokevirtual 127, .if_icmp .eq 1194, .bipush 0, .areturn]),
  (427, [.aload 1, .aload 0, .iload 3, .bipush 1, .iadd, .iaload, .aload 0, .iload 3, .bipush 2, .iadd, .iaload, .aload 0, .iload 3, .bipush 3, .iadd, .iaload, .aload 0, .iload 3, .bipush 4, .iadd, .iaload, .aload 0, .iload 3, .bipush 5, .iadd, .iaload, .invokevirtual 26, .aload 2, .aload 0, .iload 3, .bipush 1, .iadd, .iaload, .aload 0, .iload 3, .bipush 2, .iadd, .iaload, .aload 0, .iload 3, .bipush 3, .iadd, .iaload, .aload 0, .iload 3, .bipush 4, .iadd, .iaload, .aload 0, .iload 3, .bipush 5, .iadd, .iaload, .invokevirtual 132, .if_icmp .eq 1194, .bipush 0, .areturn]),
  (490, [.aload 1, .aload 0, .iload 3, .bipush 1, .iadd, .iaload, .aload 0, .iload 3, .bipush 2, .iadd, .iaload, .invokevirtual 34, .aload 2, .aload 0, .iload 3, .bipush 1, .iadd, .iaload, .aload 0, .iload 3, .bipush 2, .iadd, .iaload, .invokevirtual 136, .if_icmp .eq 1194, .bipush 0, .areturn]),
  (523, [.aload 1, .aload 0, .iload 3, .bipush 1, .iadd, .iaload, .aload 0, .iload 3, .bipush 2, .iadd, .iaload, .aload 0, .iload 3, .bipush 3, .iadd, .iaload, .invokevirtual 35, .aload 2, .aload 0, .iload 3, .bipush 1, .iadd, .iaload, .aload 0, .iload 3, .bipush 2, .iadd, .iaload, .aload 0, .iload 3, .bipush 3, .iadd, .iaload, .invokevirtual 137, .if_icmp .eq 1194, .bipush 0, .areturn]),
  (566, [.aload 1, .aload 0, .iload 3, .bipush 1, .iadd, .iaload, .invokevirtual 60, .aload 2, .aload 0, .iload 3, .bipush 1, .iadd, .iaload, .invokevirtual 152, .if_icmp .eq 1194, .bipush 0, .areturn]),
  (589, [.aload 1, .aload 0, .iload 3, .bipush 1, .iadd, .iaload, .aload 0, .iload 3, .bipush 2, .iadd, .iaload, .aload 0, .iload 3, .bipush 3, .iadd, .iaload, .invokevirtual 62, .aload 2, .aload 0, .iload 3, .bipush 1, .iadd, .iaload, .aload 0, .iload 3, .bipush 2, .iadd, .iaload, .aload 0, .iload 3, .bipush 3, .iadd, .iaload, .invokevirtual 153, .lcmp, .ifCond .eq 1194, .bipush 0, .areturn]),
  (633, [.aload 1, .aload 0, .iload 3, .bipush 1, .iadd, .iaload, .aload 0, .iload 3, .bipush 2, .iadd, .iaload, .aload 0, .iload 3, .bipush 3, .iadd, .iaload, .invokevirtual 66, .aload 2, .aload 0, .iload 3, .bipush 1, .iadd, .iaload, .aload 0, .iload 3, .bipush 2, .iadd, .iaload, .aload 0, .iload 3, .bipush 3, .iadd, .iaload, .invokevirtual 155, .lcmp, .ifCond .eq 1194, .bipush 0, .areturn]),
  (677, [.aload 1, .aload 0, .iload 3, .bipush 1, .iadd, .iaload, .invokevirtual 68, .aload 2, .aload 0, .iload 3, .bipush 1, .iadd, .iaload, .invokevirtual 156, .lcmp, .ifCond .eq 1194, .bipush 0, .areturn]),
  (701, [.aload 1, .invokevirtual 71, .aload 2, .invokevirtual 158, .if_icmp .eq 1194, .bipush 0, .areturn]),
  (714, [.aload 1, .invokevirtual 73, .aload 2, .invokevirtual 160, .if_icmp .eq 1194, .bipush 0, .areturn]),
  (727, [.aload 1, .aload 0, .iload 3, .bipush 1, .iadd, .iaload, .invokevirtual 74, .aload 2, .aload 0, .iload 3, .bipush 1, .iadd, .iaload, .invokevirtual 161, .lcmp, .ifCond .eq 1194, .bipush 0, .areturn]),
  (751, [.aload 1, .aload 0, .iload 3, .bipush 1, .iadd, .iaload, .aload 0, .iload 3, .bipush 2, .iadd, .iaload, .invokevirtual 77, .aload 2, .aload 0, .iload 3, .bipush 1, .iadd, .iaload, .aload 0, .iload 3, .bipush 2, .iadd, .iaload, .invokevirtual 163, .if_icmp .eq 1194, .bipush 0, .areturn]),
  (784, [.aload 1, .aload 0, .iload 3, .bipush 1, .iadd, .iaload, .invokevirtual 80, .aload 2, .aload 0, .iload 3, .bipush 1, .iadd, .iaload, .invokevirtual 165, .if_icmp .eq 1194, .bipush 0, .areturn]),
  (807, [.aload 1, .aload 0, .iload 3, .bipush 1, .iadd, .iaload, .aload 0, .iload 3, .bipush 2, .iadd, .iaload, .invokevirtual 84, .aload 2, .aload 0, .iload 3, .bipush 1, .iadd, .iaload, .aload 0, .iload 3, .bipush 2, .iadd, .iaload, .invokevirtual 167, .lcmp, .ifCond .eq 1194, .bipush 0, .areturn]),
  (841, [.aload 1, .aload 0, .iload 3, .bipush 1, .iadd, .iaload, .invokevirtual 87, .aload 2, .aload 0, .iload 3, .bipush 1, .iadd, .iaload, .invokevirtual 169, .lcmp, .ifCond .eq 1194, .bipush 0, .areturn]),
  (865, [.aload 1, .aload 0, .iload 3, .bipush 1, .iadd, .iaload, .invokevirtual 90, .aload 2, .aload 0, .iload 3, .bipush 1, .iadd, .iaload, .invokevirtual 170, .lcmp, .ifCond .eq 1194, .bipush 0, .areturn]),
  (889, [.aload 1, .aload 0, .iload 3, .bipush 1, .iadd, .iaload, .invokevirtual 92, .aload 2, .aload 0, .iload 3, .bipush 1, .iadd, .iaload, .invokevirtual 171, .lcmp, .ifCond .eq 1194, .bipush 0, .areturn]),
  (913, [.aload 1, .aload 0, .iload 3, .bipush 1, .iadd, .iaload, .aload 0, .iload 3, .bipush 2, .iadd, .iaload, .aload 0, .iload 3, .bipush 3, .iadd, .iaload, .invokevirtual 94, .aload 2, .aload 0, .iload 3, .bipush 1, .iadd, .iaload, .aload 0, .iload 3, .bipush 2, .iadd, .iaload, .aload 0, .iload 3, .bipush 3, .iadd, .iaload, .invokevirtual 174, .if_icmp .eq 1194, .bipush 0, .areturn]),
  (956, [.aload 1, .aload 0, .iload 3, .bipush 1, .iadd, .iaload, .invokevirtual 96, .aload 2, .aload 0, .iload 3, .bipush 1, .iadd, .iaload, .invokevirtual 175, .if_icmp .eq 1194, .bipush 0, .areturn]),
  (979, [.aload 1, .aload 0, .iload 3, .bipush 1, .iadd, .iaload, .aload 0, .iload 3, .bipush 2, .iadd, .iaload, .aload 0, .iload 3, .bipush 3, .iadd, .iaload, .invokevirtual 97, .aload 2, .aload 0, .iload 3, .bipush 1, .iadd, .iaload, .aload 0, .iload 3, .bipush 2, .iadd, .iaload, .aload 0, .iload 3, .bipush 3, .iadd, .iaload, .invokevirtual 176, .if_icmp .eq 1194, .bipush 0, .areturn]),
  (1022, [.aload 1, .aload 0, .iload 3, .bipush 1, .iadd, .iaload, .aload 0, .iload 3, .bipush 2, .iadd, .iaload, .aload 0, .iload 3, .bipush 3, .iadd, .iaload, .invokevirtual 100, .aload 2, .aload 0, .iload 3, .bipush 1, .iadd, .iaload, .aload 0, .iload 3, .bipush 2, .iadd, .iaload, .aload 0, .iload 3, .bipush 3, .iadd, .iaload, .invokevirtual 177, .lcmp, .ifCond .eq 1194, .bipush 0, .areturn]),
  (1066, [.aload 1, .aload 0, .iload 3, .bipush 1, .iadd, .iaload, .invokevirtual 101, .aload 2, .aload 0, .iload 3, .bipush 1, .iadd, .iaload, .invokevirtual 179, .if_icmp .eq 1194, .bipush 0, .areturn]),
  (1089, [.aload 1, .aload 0, .iload 3, .bipush 1, .iadd, .iaload, .invokevirtual 106, .aload 2, .aload 0, .iload 3, .bipush 1, .iadd, .iaload, .invokevirtual 181, .if_icmp .eq 1194, .bipush 0, .areturn]),
  (1112, [.aload 1, .aload 0, .iload 3, .bipush 1, .iadd, .iaload, .aload 0, .iload 3, .bipush 2, .iadd, .iaload, .invokevirtual 107, .aload 2, .aload 0, .iload 3, .bipush 1, .iadd, .iaload, .aload 0, .iload 3, .bipush 2, .iadd, .iaload, .invokevirtual 182, .if_icmp .eq 1194, .bipush 0, .areturn]),
  (1145, [.aload 1, .invokevirtual 108, .aload 2, .invokevirtual 183, .if_icmp .eq 1194, .bipush 0, .areturn]),
  (1158, [.aload 1, .invokevirtual 109, .aload 2, .invokevirtual 184, .if_icmp .eq 1194, .bipush 0, .areturn]),
  (1171, [.aload 1, .aload 0, .iload 3, .bipush 1, .iadd, .iaload, .invokevirtual 110, .aload 2, .aload 0, .iload 3, .bipush 1, .iadd, .iaload, .invokevirtual 185, .if_icmp .eq 1194, .bipush 0, .areturn]),
  (1194, [.iinc 3 6, .goto 18]),
  (1200, [.bipush 1, .areturn])]
def am_BL : List (List (Nat × List Instr)) := [am_L0, am_L1, am_L2, am_L3, am_L4, am_L5, am_L6, am_L7, am_L8, am_L9, am_L10, am_L11,
  am_L12, am_L13, am_L14, am_L15, am_L16, am_L17, am_L18, am_L19, am_L20, am_L21, am_L22, am_L23,
  am_L24, am_L25, am_L26, am_L27, am_L28, am_L29, am_L30, am_L31, am_L32, am_L33, am_L34, am_L35,
  am_L36, am_L37, am_L38, am_L39, am_L40, am_L41, am_L42, am_L43, am_L44, am_L45, am_L46, am_L47,
  am_L48, am_L49, am_L50, am_L51, am_L52, am_L53, am_L54, am_L55, am_L56, am_L57, am_L58, am_L59,
  am_L60, am_L61, am_L62, am_L63, am_L64, am_L65, am_L66, am_L67, am_L68, am_L69, am_L70, am_L71,
  am_L72, am_L73, am_L74, am_L75, am_L76, am_L77, am_L78, am_L79, am_L80, am_L81, am_L82, am_L83,
  am_L84, am_L85, am_L86, am_L87, am_L88, am_L89, am_L90, am_L91, am_L92, am_L93, am_L94, am_L95,
  am_L96, am_L97, am_L98, am_L99, am_L100, am_L101, am_L102, am_L103, am_L104, am_L105, am_L106, am_L107,
  am_L108, am_L109, am_L110, am_L111, am_L112, am_L113, am_L114, am_L115, am_L116, am_L117, am_L118, am_L119,
  am_L120, am_L121, am_L122, am_L123, am_L124, am_L125, am_L126, am_L127, am_L128, am_L129, am_L130, am_L131,
  am_L132, am_L133, am_L134, am_L135, am_L136, am_L137, am_L138, am_L139, am_L140, am_L141, am_L142, am_L143,
  am_L144, am_L145, am_L146, am_L147, am_L148, am_L149, am_L150, am_L151, am_L152, am_L153, am_L154, am_L155,
  am_L156, am_L157, am_L158, am_L159, am_L160, am_L161, am_L162, am_L163, am_L164, am_L165, am_L166, am_L167,
  am_L168, am_L169, am_L170, am_L171, am_L172, am_L173, am_L174, am_L175, am_L176, am_L177, am_L178, am_L179,
  am_L180, am_L181, am_L182, am_L183, am_L184, am_L185, am_L186]
def am_T : List (MethodName × ByteArray × Nat × Option FieldType) := [(yX8_init, prog_1_method_1_code, 2, none), (yX2_init, prog_4_method_1_code, 2, none),
  (yX6_init, prog_8_method_1_code, 1, none), (yX7_init, prog_9_method_1_code, 2, none),
  (yX1_init, prog_3_method_1_code, 3, none), (yX4_init, prog_6_method_1_code, 1, none),
  (yX0_init, prog_2_method_1_code, 2, none), (yX3_init, prog_5_method_1_code, 1, none),
  (yX5_init, prog_7_method_1_code, 1, none), (yX8_rule, prog_1_method_2_code, 4, (some .int)),
  (yX2_allows, prog_4_method_9_code, 3, (some .boolean)), (yX2_isAnyBeyond, prog_4_method_10_code, 4, (some .boolean)),
  (yX1_forget, prog_3_method_2_code, 2, none), (yX8_station, prog_1_method_3_code, 4, (some .int)),
  (yX2_hasPlace, prog_4_method_4_code, 2, (some .boolean)), (yX2_hasStationAt, prog_4_method_5_code, 3, (some .boolean)),
  (yX8_set, prog_1_method_4_code, 3, (some .int)), (yX2_hasStation, prog_4_method_2_code, 2, (some .boolean)),
  (yX8_trip, prog_1_method_5_code, 4, (some .int)), (yX8_about, prog_1_method_6_code, 4, (some .int)),
  (yX8_train, prog_1_method_7_code, 2, (some .int)), (yX8_run, prog_1_method_8_code, 5, (some .int)),
  (yX2_hasTrain, prog_4_method_3_code, 2, (some .boolean)), (yX8_isTick, prog_1_method_35_code, 1, (some .boolean)),
  (yX2_mayRun, prog_4_method_8_code, 3, (some .boolean)), (yX7_beAt, prog_9_method_2_code, 4, none),
  (yX8_runs, prog_1_method_9_code, 8, (some .int)), (yX8_isSheet, prog_1_method_36_code, 1, (some .boolean)),
  (yX8_isLane, prog_1_method_37_code, 1, (some .boolean)), (yX5_failingAs, prog_7_method_3_code, 2, (some .int)),
  (yX5_holdsFrom, prog_7_method_5_code, 4, (some .boolean)), (yX8_failed, prog_1_method_40_code, 2, (some .int)),
  (yX8_mayRunBy, prog_1_method_41_code, 5, (some .boolean)), (yX8_runBy, prog_1_method_42_code, 6, (some .int)),
  (yX8_putOff, prog_1_method_10_code, 4, (some .int)), (yX8_at, prog_1_method_11_code, 5, (some .int)),
  (yX2_isDark, prog_4_method_7_code, 1, (some .boolean)), (yX2_stationsIn, prog_4_method_6_code, 3, (some .int)),
  (yX1_solve, prog_3_method_4_code, 2, none), (yX1_takeStations, prog_3_method_3_code, 3, none),
  (yX0_clearStations, prog_2_method_2_code, 1, none), (yX0_addStation, prog_2_method_3_code, 4, none),
  (yX1_takeLoads, prog_3_method_5_code, 6, (some .boolean)), (yX0_clearLoads, prog_2_method_4_code, 2, none),
  (yX0_addLoad, prog_2_method_5_code, 4, none), (yX0_settle, prog_2_method_6_code, 3, none),
  (yX0_findFeeding, prog_2_method_7_code, 2, (some .boolean)), (yX0_pulledTogether, prog_2_method_14_code, 4, (some .long)),
  (yX0_weigh, prog_2_method_15_code, 3, none), (yX0_nextFeeding, prog_2_method_16_code, 3, (some .int)),
  (yX0_weighOne, prog_2_method_17_code, 13, none), (yX0_leaveOutTaking, prog_2_method_18_code, 3, (some .boolean)),
  (yX0_leaveOutIdle, prog_2_method_19_code, 4, none), (yX0_highestIfAnyTooHigh, prog_2_method_21_code, 4, (some .int)),
  (yX0_givingBackMost, prog_2_method_20_code, 3, (some .int)), (yX0_voltsAt, prog_2_method_11_code, 9, none),
  (yX0_lostBetween, prog_2_method_12_code, 8, (some .long)), (yX0_lostBeyond, prog_2_method_13_code, 7, (some .long)),
  (yX4_become, prog_6_method_2_code, 5, none), (yX4_isBelow, prog_6_method_3_code, 2, (some .boolean)),
  (yX8_feeds, prog_1_method_12_code, 2, (some .int)), (yX0_bits, prog_2_method_8_code, 3, (some .int)),
  (yX8_volts, prog_1_method_13_code, 4, (some .long)), (yX8_isHalf, prog_1_method_38_code, 1, (some .boolean)),
  (yX4_told, prog_6_method_5_code, 4, (some .long)), (yX4_greatestDivisor, prog_6_method_6_code, 11, (some .long)),
  (yX8_gives, prog_1_method_14_code, 4, (some .long)), (yX0_givenBy, prog_2_method_9_code, 4, none),
  (yX8_lowest, prog_1_method_15_code, 2, (some .long)), (yX1_findLowest, prog_3_method_7_code, 7, (some .boolean)),
  (yX1_sinkToLowest, prog_3_method_8_code, 5, none), (yX8_safe, prog_1_method_16_code, 1, (some .int)),
  (yX1_isSafeWithout, prog_3_method_9_code, 2, (some .boolean)), (yX8_firstOut, prog_1_method_17_code, 2, (some .int)),
  (yX8_most, prog_1_method_18_code, 2, (some .long)), (yX1_findMost, prog_3_method_10_code, 7, none),
  (yX0_raiseToMost, prog_2_method_10_code, 3, none), (yX8_shorted, prog_1_method_19_code, 3, (some .int)),
  (yX8_isFaultCurrent, prog_1_method_39_code, 1, (some .boolean)), (yX1_feedFault, prog_3_method_11_code, 3, none),
  (yX8_right, prog_1_method_20_code, 2, (some .int)), (yX1_trainsTrip, prog_3_method_12_code, 2, (some .boolean)),
  (yX1_someTrips, prog_3_method_14_code, 4, (some .boolean)), (yX1_partsAll, prog_3_method_13_code, 3, (some .boolean)),
  (yX8_peak, prog_1_method_21_code, 5, (some .long)), (yX1_findPeak, prog_3_method_15_code, 6, none),
  (yX1_spread, prog_3_method_16_code, 5, none), (yX8_used, prog_1_method_22_code, 2, (some .long)),
  (yX1_usedBy, prog_3_method_17_code, 5, (some .long)), (yX4_times, prog_6_method_4_code, 3, (some .long)),
  (yX8_given, prog_1_method_23_code, 2, (some .long)), (yX1_givenBy, prog_3_method_18_code, 5, (some .long)),
  (yX8_best, prog_1_method_24_code, 2, (some .long)), (yX1_findBest, prog_3_method_19_code, 2, none),
  (yX8_sheet, prog_1_method_25_code, 4, (some .int)), (yX5_renew, prog_7_method_2_code, 4, none),
  (yX8_lose, prog_1_method_26_code, 2, (some .int)), (yX8_put, prog_1_method_27_code, 4, (some .int)),
  (yX5_holds, prog_7_method_4_code, 2, (some .boolean)), (yX5_write, prog_7_method_6_code, 3, none),
  (yX8_cell, prog_1_method_28_code, 5, (some .long)), (yX8_tell, prog_1_method_29_code, 3, (some .int)),
  (yX8_tellWorks, prog_1_method_46_code, 3, (some .int)), (yX8_leaveTrace, prog_1_method_43_code, 2, none),
  (yX8_tellHouse, prog_1_method_45_code, 2, (some .int)), (yX8_tellPost, prog_1_method_44_code, 2, (some .int)),
  (yX8_call, prog_1_method_30_code, 2, (some .int)), (yX8_as, prog_1_method_31_code, 3, (some .int)),
  (yX8_trace, prog_1_method_32_code, 1, (some .int)), (yX8_fault, prog_1_method_33_code, 1, (some .int)),
  (yX8_many, prog_1_method_34_code, 2, (some .int)), (yX1_busyTicks, prog_3_method_6_code, 3, (some .int)),
  (yX9_init, prog_11_method_1_code, 1, none), (yX9_rule, prog_11_method_10_code, 4, (some .int)),
  (yX9_within, prog_11_method_5_code, 3, (some .boolean)), (yX9_leastOf, prog_11_method_6_code, 1, (some .int)),
  (yX9_mostOf, prog_11_method_7_code, 1, (some .int)), (yX9_isAgainst, prog_11_method_9_code, 3, (some .boolean)),
  (yX9_isBeyond, prog_11_method_8_code, 3, (some .boolean)), (yX9_station, prog_11_method_14_code, 3, (some .int)),
  (yX9_isPlace, prog_11_method_11_code, 2, (some .boolean)), (yX9_isTaken, prog_11_method_13_code, 3, (some .boolean)),
  (yX9_set, prog_11_method_15_code, 4, (some .int)), (yX9_isStation, prog_11_method_12_code, 2, (some .boolean)),
  (yX9_trip, prog_11_method_16_code, 4, (some .int)), (yX9_about, prog_11_method_17_code, 3, (some .int)),
  (yX9_train, prog_11_method_20_code, 2, (some .int)), (yX9_run, prog_11_method_23_code, 5, (some .int)),
  (yX9_isTrain, prog_11_method_18_code, 2, (some .boolean)), (yX9_isTick, prog_11_method_19_code, 1, (some .boolean)),
  (yX9_mayRun, prog_11_method_21_code, 3, (some .boolean)), (yX9_lay, prog_11_method_22_code, 5, none),
  (yX9_runs, prog_11_method_26_code, 10, (some .int)), (yX9_isSheet, prog_11_method_24_code, 1, (some .boolean)),
  (yX9_isLane, prog_11_method_25_code, 1, (some .boolean)), (yX9_fails, prog_11_method_3_code, 2, (some .int)),
  (yX9_putOff, prog_11_method_27_code, 4, (some .int)), (yX9_at, prog_11_method_43_code, 4, (some .int)),
  (yX9_placeOf, prog_11_method_28_code, 4, (some .int)), (yX9_amperesOf, prog_11_method_29_code, 3, (some .int)),
  (yX9_isDark, prog_11_method_41_code, 1, (some .boolean)), (yX9_isIn, prog_11_method_30_code, 3, (some .int)),
  (yX9_solve, prog_11_method_40_code, 3, none), (yX9_layLoads, prog_11_method_37_code, 4, none),
  (yX9_findFeeding, prog_11_method_36_code, 3, (some .int)), (yX9_doesFeed, prog_11_method_35_code, 4, (some .boolean)),
  (yX9_findGiven, prog_11_method_34_code, 17, none), (yX9_neighbour, prog_11_method_31_code, 7, (some .int)),
  (yX9_size, prog_11_method_33_code, 1, (some .int)), (yX9_findVolts, prog_11_method_32_code, 18, none),
  (yX9_isTooHigh, prog_11_method_38_code, 2, (some .boolean)), (yX9_nextBack, prog_11_method_39_code, 7, (some .int)),
  (yX9_feeds, prog_11_method_44_code, 2, (some .int)), (yX9_volts, prog_11_method_45_code, 4, (some .long)),
  (yX9_part, prog_11_method_42_code, 8, (some .long)), (yX9_gives, prog_11_method_46_code, 4, (some .long)),
  (yX9_lowest, prog_11_method_48_code, 2, (some .long)), (yX9_findLowest, prog_11_method_47_code, 3, none),
  (yX9_safe, prog_11_method_50_code, 1, (some .int)), (yX9_isSafe, prog_11_method_49_code, 1, (some .boolean)),
  (yX9_firstOut, prog_11_method_51_code, 3, (some .int)), (yX9_most, prog_11_method_53_code, 2, (some .long)),
  (yX9_findMost, prog_11_method_52_code, 3, none), (yX9_shorted, prog_11_method_55_code, 3, (some .int)),
  (yX9_layFault, prog_11_method_54_code, 3, none), (yX9_right, prog_11_method_57_code, 3, (some .int)),
  (yX9_isTripped, prog_11_method_56_code, 2, (some .boolean)), (yX9_peak, prog_11_method_59_code, 3, (some .long)),
  (yX9_findPeak, prog_11_method_58_code, 6, none), (yX9_used, prog_11_method_60_code, 5, (some .long)),
  (yX9_given, prog_11_method_61_code, 5, (some .long)), (yX9_best, prog_11_method_64_code, 4, (some .long)),
  (yX9_isAnyThere, prog_11_method_62_code, 1, (some .boolean)), (yX9_ticksThere, prog_11_method_63_code, 3, (some .int)),
  (yX9_sheet, prog_11_method_65_code, 5, (some .int)), (yX9_lose, prog_11_method_66_code, 3, (some .int)),
  (yX9_put, prog_11_method_67_code, 4, (some .int)), (yX9_cell, prog_11_method_68_code, 4, (some .long)),
  (yX9_lost, prog_11_method_4_code, 2, (some .long)), (yX9_tell, prog_11_method_70_code, 3, (some .int)),
  (yX9_begins, prog_11_method_69_code, 2, none), (yX9_call, prog_11_method_71_code, 2, (some .int)),
  (yX9_as, prog_11_method_72_code, 3, (some .int)), (yX9_trace, prog_11_method_73_code, 1, (some .int)),
  (yX9_fault, prog_11_method_74_code, 1, (some .int)), (yX9_many, prog_11_method_75_code, 4, (some .int)),
  (x, code, 4, (some .boolean))]
def am_ownL : List Nat := [8, 2, 6, 7, 1, 4, 0, 3, 5, 8, 2, 2, 1, 8, 2, 2, 8, 2, 8, 8, 8, 8, 2, 8, 2, 7, 8, 8, 8, 5,
  5, 8, 8, 8, 8, 8, 2, 2, 1, 1, 0, 0, 1, 0, 0, 0, 0, 0, 0, 0, 0, 0, 0, 0, 0, 0, 0, 0, 4, 4,
  8, 0, 8, 8, 4, 4, 8, 0, 8, 1, 1, 8, 1, 8, 8, 1, 0, 8, 8, 1, 8, 1, 1, 1, 8, 1, 1, 8, 1, 4,
  8, 1, 8, 1, 8, 5, 8, 8, 5, 5, 8, 8, 8, 8, 8, 8, 8, 8, 8, 8, 8, 1, 9, 9, 9, 9, 9, 9, 9, 9,
  9, 9, 9, 9, 9, 9, 9, 9, 9, 9, 9, 9, 9, 9, 9, 9, 9, 9, 9, 9, 9, 9, 9, 9, 9, 9, 9, 9, 9, 9,
  9, 9, 9, 9, 9, 9, 9, 9, 9, 9, 9, 9, 9, 9, 9, 9, 9, 9, 9, 9, 9, 9, 9, 9, 9, 9, 9, 9, 9, 9,
  9, 9, 9, 9, 9, 9, 10]
def am_frL : List Nat := [4, 2, 1, 1, 3, 1, 2, 2, 1, 2, 1, 0, 0, 1, 0, 0, 1, 0, 1, 1, 1, 2, 0, 0, 1, 0, 3, 0, 0, 0,
  0, 0, 2, 1, 1, 6, 1, 0, 5, 1, 0, 0, 1, 0, 0, 4, 3, 0, 2, 0, 1, 0, 0, 3, 0, 2, 1, 1, 0, 0,
  6, 0, 6, 0, 1, 0, 6, 1, 6, 5, 3, 7, 6, 7, 6, 5, 1, 5, 0, 4, 6, 5, 0, 5, 7, 6, 0, 6, 5, 0,
  6, 5, 7, 6, 1, 0, 1, 1, 0, 0, 1, 4, 3, 0, 2, 1, 1, 1, 0, 0, 3, 2, 1, 2, 0, 0, 0, 1, 0, 2,
  1, 0, 1, 0, 1, 1, 0, 3, 0, 1, 2, 0, 3, 1, 1, 0, 1, 5, 0, 1, 1, 0, 4, 2, 3, 2, 1, 0, 0, 1,
  2, 2, 5, 5, 0, 5, 6, 5, 7, 6, 7, 6, 5, 5, 4, 5, 2, 7, 6, 5, 5, 6, 4, 3, 2, 2, 2, 2, 0, 1,
  0, 1, 1, 0, 0, 4, 8]
def am_lcL : List Nat := [87, 45, 24, 24, 65, 24, 44, 44, 24, 45, 23, 0, 0, 22, 0, 0, 21, 0, 21, 21, 21, 43, 0, 0, 21, 0, 67, 0, 0, 0,
  0, 0, 43, 23, 21, 145, 22, 0, 124, 23, 0, 0, 23, 0, 0, 102, 78, 0, 56, 0, 24, 0, 0, 79, 0, 51, 24, 24, 0, 0,
  145, 0, 145, 0, 30, 0, 145, 24, 150, 124, 79, 171, 150, 171, 150, 124, 24, 121, 0, 99, 145, 124, 0, 121, 175, 150, 0, 148, 124, 0,
  148, 124, 171, 150, 23, 0, 20, 22, 0, 0, 21, 85, 63, 0, 42, 21, 21, 21, 0, 0, 70, 48, 24, 44, 0, 0, 0, 22, 0, 43,
  22, 0, 21, 0, 22, 21, 0, 65, 0, 22, 43, 0, 65, 22, 22, 0, 22, 130, 0, 23, 22, 0, 108, 45, 86, 63, 26, 0, 0, 26,
  63, 63, 130, 130, 0, 130, 152, 130, 172, 152, 172, 152, 130, 130, 108, 130, 62, 177, 152, 130, 130, 152, 90, 68, 42, 42, 42, 42, 0, 21,
  0, 21, 22, 0, 0, 90, 199]
def am_naL : List Nat := [1, 1, 1, 1, 2, 1, 2, 1, 1, 3, 3, 2, 1, 3, 2, 2, 3, 2, 3, 3, 1, 5, 2, 1, 3, 4, 6, 1, 1, 2,
  3, 2, 4, 4, 3, 4, 1, 1, 2, 2, 1, 3, 3, 1, 4, 1, 1, 1, 1, 2, 4, 1, 1, 1, 1, 3, 4, 3, 3, 2,
  2, 1, 4, 1, 2, 2, 4, 3, 2, 3, 3, 1, 2, 1, 2, 4, 2, 3, 1, 3, 2, 1, 1, 2, 3, 3, 3, 2, 2, 2,
  2, 2, 2, 1, 4, 3, 2, 4, 2, 3, 4, 2, 2, 2, 2, 2, 2, 3, 1, 1, 2, 1, 1, 3, 3, 1, 1, 3, 2, 3,
  2, 2, 3, 2, 3, 3, 1, 5, 2, 1, 3, 5, 6, 1, 1, 2, 3, 4, 3, 3, 1, 1, 2, 2, 1, 3, 3, 4, 1, 3,
  1, 1, 2, 4, 2, 4, 2, 1, 1, 1, 1, 2, 1, 3, 3, 2, 1, 3, 2, 2, 2, 2, 1, 1, 4, 2, 4, 4, 2, 2,
  2, 2, 3, 1, 1, 2, 1]
def am_stL : List Bool := [false, false, false, false, false, false, false, false, false, false, false, false, false, false, false, false, false, false, false, false,
  false, false, false, true, false, false, false, true, true, false, false, false, false, true, false, false, false, false, false, false,
  false, false, false, false, false, false, false, false, false, false, false, false, false, false, false, false, false, false, false, false,
  false, false, false, true, false, true, false, false, false, false, false, false, false, false, false, false, false, false, true, false,
  false, false, false, false, false, false, false, false, false, false, false, false, false, false, false, false, false, false, false, false,
  false, false, false, false, false, false, false, false, false, false, false, false, false, false, true, true, true, false, false, false,
  false, false, false, false, false, false, false, false, false, true, false, false, false, true, true, false, false, false, false, false,
  false, false, false, false, false, false, false, false, true, false, false, false, false, false, false, false, false, false, false, false,
  false, false, false, false, false, false, false, false, false, false, false, false, false, false, false, false, false, false, false, false,
  false, false, false, false, false, false, true]
def am_clsL : List String := [RX0, RX1, RX2, RX3, RX4, RX5, RX6, RX7, RX8, RX9, "RailPowerLaw", "java/lang/Math"]
def am_F : List (Nat × Nat × Nat × Nat) := [(8, 12, 512, 331), (8, 23, 513, 332), (8, 29, 514, 333), (8, 37, 515, 334), (8, 52, 128, 129), (8, 65, 132, 141), (8, 69, 129, 132), (8, 73, 384, 89), (8, 78, 385, 91), (8, 84, 386, 95), (8, 89, 387, 98), (8, 92, 133, 144),
  (8, 104, 130, 135), (8, 114, 517, 336), (8, 144, 131, 138), (8, 151, 448, 118), (8, 154, 449, 121), (8, 161, 64, 262), (8, 165, 8, 207), (8, 197, 66, 266), (8, 200, 67, 268), (8, 203, 65, 264), (8, 215, 68, 270), (8, 231, 69, 272),
  (8, 235, 194, 253), (8, 244, 193, 251), (8, 245, 192, 248), (8, 253, 72, 278), (8, 259, 71, 276), (8, 262, 70, 274), (8, 268, 321, 320), (8, 277, 320, 318), (8, 293, 516, 335), (0, 9, 0, 191), (0, 15, 1, 193), (0, 18, 2, 194),
  (0, 22, 3, 196), (0, 26, 4, 198), (0, 29, 6, 202), (0, 32, 7, 204), (0, 35, 8, 206), (0, 41, 10, 210), (0, 45, 11, 211), (0, 48, 9, 209), (0, 51, 5, 200), (0, 121, 256, 172), (0, 124, 257, 175), (1, 12, 65, 263),
  (1, 18, 68, 269), (1, 23, 69, 271), (1, 27, 70, 273), (1, 30, 71, 275), (1, 34, 74, 280), (1, 37, 75, 281), (1, 40, 76, 282), (1, 44, 73, 279), (1, 50, 128, 128), (1, 58, 64, 261), (1, 63, 72, 277), (1, 67, 194, 252),
  (1, 73, 132, 140), (1, 76, 129, 131), (1, 80, 386, 94), (1, 85, 385, 90), (1, 96, 131, 137), (1, 109, 133, 143), (1, 116, 130, 134), (1, 120, 448, 116), (1, 125, 449, 120), (1, 144, 6, 203), (1, 148, 7, 205), (1, 155, 256, 171),
  (1, 159, 257, 174), (1, 162, 66, 265), (1, 165, 67, 267), (1, 168, 5, 201), (1, 191, 0, 192), (1, 194, 387, 99), (1, 197, 2, 195), (1, 200, 3, 197), (1, 203, 4, 199), (1, 205, 192, 247), (1, 217, 193, 250), (1, 218, 8, 208),
  (2, 9, 128, 127), (2, 17, 129, 130), (2, 23, 130, 133), (2, 27, 131, 136), (2, 32, 132, 139), (2, 36, 133, 142), (2, 39, 385, 92), (2, 42, 386, 96), (2, 57, 448, 117), (3, 12, 192, 246), (3, 18, 193, 249), (4, 9, 257, 173),
  (4, 15, 256, 170), (5, 9, 320, 317), (5, 15, 321, 319), (5, 19, 322, 321), (6, 7, 386, 93), (6, 13, 387, 97), (7, 9, 448, 115), (7, 15, 449, 119), (9, 7, 578, 802), (9, 13, 580, 804), (9, 16, 581, 805), (9, 19, 582, 806),
  (9, 23, 583, 807), (9, 26, 585, 809), (9, 29, 586, 810), (9, 32, 587, 811), (9, 35, 588, 812), (9, 38, 589, 813), (9, 41, 590, 814), (9, 44, 592, 816), (9, 47, 593, 817), (9, 50, 597, 821), (9, 53, 605, 829), (9, 56, 606, 830),
  (9, 59, 576, 800), (9, 65, 579, 803), (9, 68, 584, 808), (9, 132, 591, 815), (9, 137, 596, 820), (9, 141, 595, 819), (9, 164, 594, 818), (9, 191, 598, 822), (9, 195, 600, 824), (9, 198, 599, 823), (9, 201, 601, 825), (9, 204, 602, 826),
  (9, 213, 603, 827), (9, 216, 604, 828), (9, 230, 607, 831), (9, 233, 608, 832), (9, 245, 609, 833), (9, 248, 611, 835), (9, 251, 610, 834), (9, 257, 577, 801)]
def am_C : List (Nat × Nat × Nat × Nat × Nat × Nat × Nat × Nat) := [(8, 11, 1, 2, 76, 77, 0, 56), (8, 20, 4, 2, 160, 161, 0, 59), (8, 33, 8, 3, 313, 314, 0, 63), (8, 36, 5, 3, 330, 167, 0, 60), (8, 48, 10, 0, 358, 359, 360, 56), (8, 55, 12, 0, 366, 367, 368, 59),
  (8, 58, 14, 0, 374, 375, 376, 56), (8, 62, 15, 0, 378, 379, 380, 56), (8, 81, 17, 0, 386, 387, 388, 56), (8, 95, 22, 0, 407, 408, 409, 56), (8, 98, 23, 1, 411, 412, 0, 55), (8, 101, 24, 0, 414, 415, 416, 56),
  (8, 108, 25, 0, 419, 420, 421, 58), (8, 117, 27, 1, 427, 428, 0, 55), (8, 120, 28, 1, 430, 431, 0, 55), (8, 123, 29, 0, 433, 434, 435, 63), (8, 129, 30, 0, 438, 439, 440, 63), (8, 133, 31, 0, 442, 444, 1, 55),
  (8, 136, 32, 0, 446, 448, 2, 55), (8, 140, 33, 1, 450, 451, 0, 55), (8, 147, 36, 0, 461, 462, 463, 56), (8, 157, 38, 0, 469, 470, 471, 59), (8, 168, 61, 0, 572, 573, 574, 61), (8, 172, 63, 1, 580, 581, 0, 55),
  (8, 177, 55, 0, 584, 542, 543, 61), (8, 181, 64, 0, 585, 586, 587, 60), (8, 185, 67, 0, 600, 601, 602, 61), (8, 188, 39, 0, 608, 474, 475, 59), (8, 193, 69, 0, 610, 611, 612, 59), (8, 206, 72, 0, 625, 626, 627, 59),
  (8, 211, 75, 0, 640, 641, 642, 59), (8, 218, 78, 1, 652, 653, 0, 55), (8, 221, 79, 0, 655, 656, 657, 59), (8, 225, 81, 0, 664, 665, 666, 59), (8, 228, 83, 0, 672, 673, 674, 59), (8, 240, 85, 0, 681, 682, 683, 59),
  (8, 248, 88, 0, 695, 696, 697, 59), (8, 251, 91, 0, 707, 708, 709, 59), (8, 256, 93, 0, 716, 717, 718, 59), (8, 265, 95, 0, 725, 726, 727, 63), (8, 271, 98, 0, 737, 738, 739, 63), (8, 274, 99, 0, 741, 742, 743, 63),
  (8, 280, 102, 0, 753, 755, 17, 55), (8, 284, 104, 0, 761, 763, 19, 55), (8, 287, 105, 0, 765, 767, 20, 55), (8, 290, 103, 0, 757, 759, 18, 55), (8, 296, 37, 0, 789, 466, 467, 56), (8, 299, 111, 0, 790, 791, 792, 59),
  (0, 40, 5, 3, 190, 167, 0, 60), (0, 55, 46, 0, 502, 503, 504, 61), (0, 59, 53, 0, 533, 535, 10, 61), (0, 63, 54, 0, 537, 539, 11, 61), (0, 66, 47, 0, 506, 508, 4, 61), (0, 70, 48, 0, 510, 512, 5, 61),
  (0, 73, 51, 0, 525, 527, 8, 61), (0, 76, 52, 0, 529, 531, 9, 61), (0, 79, 58, 0, 560, 561, 562, 60), (0, 83, 59, 0, 564, 565, 566, 60), (0, 87, 56, 0, 545, 547, 12, 61), (0, 97, 57, 0, 552, 554, 13, 61),
  (0, 110, 49, 0, 514, 516, 6, 61), (0, 113, 50, 0, 518, 520, 7, 61), (0, 117, 55, 0, 541, 542, 543, 61), (1, 11, 5, 3, 166, 167, 0, 60), (1, 55, 6, 2, 185, 186, 0, 61), (1, 62, 7, 3, 240, 241, 0, 62),
  (1, 70, 40, 0, 477, 478, 479, 61), (1, 88, 41, 0, 481, 482, 483, 61), (1, 92, 39, 0, 473, 474, 475, 59), (1, 99, 42, 0, 485, 487, 3, 59), (1, 103, 45, 0, 498, 499, 500, 61), (1, 106, 43, 0, 489, 490, 491, 61),
  (1, 112, 23, 4, 493, 412, 0, 55), (1, 128, 44, 0, 494, 495, 496, 61), (1, 132, 58, 0, 614, 561, 562, 60), (1, 136, 70, 0, 615, 617, 14, 59), (1, 140, 59, 0, 620, 565, 566, 60), (1, 151, 55, 0, 619, 542, 543, 61),
  (1, 173, 69, 0, 630, 611, 612, 59), (1, 177, 76, 0, 644, 645, 646, 61), (1, 181, 46, 0, 659, 503, 504, 61), (1, 185, 82, 0, 668, 670, 15, 59), (1, 188, 79, 0, 676, 656, 657, 59), (1, 210, 86, 0, 686, 688, 16, 59),
  (1, 213, 75, 0, 690, 641, 642, 59), (1, 219, 89, 0, 699, 700, 701, 60), (1, 223, 67, 0, 711, 601, 602, 61), (1, 226, 15, 0, 720, 379, 380, 56), (2, 30, 2, 3, 85, 86, 0, 57), (2, 31, 3, 2, 111, 112, 0, 58),
  (2, 46, 37, 0, 465, 466, 467, 56), (2, 50, 14, 0, 418, 375, 376, 56), (2, 54, 11, 0, 362, 364, 0, 56), (3, 11, 5, 3, 245, 167, 0, 60), (4, 24, 65, 1, 592, 593, 0, 60), (10, 9, 0, 2, 68, 69, 0, 55),
  (10, 12, 112, 2, 796, 797, 0, 64), (10, 13, 9, 0, 350, 351, 352, 55), (10, 17, 113, 0, 909, 910, 911, 64), (10, 18, 13, 0, 370, 371, 372, 55), (10, 21, 119, 0, 930, 931, 932, 64), (10, 22, 16, 0, 382, 383, 384, 55),
  (10, 26, 122, 0, 942, 943, 944, 64), (10, 27, 18, 0, 390, 391, 392, 55), (10, 30, 124, 0, 950, 951, 952, 64), (10, 31, 19, 0, 395, 396, 397, 55), (10, 34, 125, 0, 955, 956, 957, 64), (10, 35, 20, 0, 399, 400, 401, 55),
  (10, 39, 126, 0, 959, 960, 961, 64), (10, 40, 21, 0, 403, 404, 405, 55), (10, 44, 127, 0, 963, 964, 965, 64), (10, 45, 26, 0, 423, 424, 425, 55), (10, 49, 132, 0, 982, 983, 984, 64), (10, 50, 34, 0, 453, 454, 455, 55),
  (10, 53, 136, 0, 997, 998, 999, 64), (10, 54, 35, 0, 457, 458, 459, 55), (10, 58, 137, 0, 1001, 1002, 1003, 64), (10, 59, 60, 0, 568, 569, 570, 55), (10, 63, 152, 0, 1061, 1062, 1063, 64), (10, 64, 62, 0, 576, 577, 578, 55),
  (10, 68, 153, 0, 1065, 1066, 1067, 64), (10, 69, 66, 0, 596, 597, 598, 55), (10, 72, 155, 0, 1074, 1075, 1076, 64), (10, 73, 68, 0, 604, 605, 606, 55), (10, 77, 156, 0, 1078, 1079, 1080, 64), (10, 78, 71, 0, 621, 622, 623, 55),
  (10, 81, 158, 0, 1086, 1087, 1088, 64), (10, 82, 73, 0, 631, 632, 633, 55), (10, 85, 160, 0, 1094, 1095, 1096, 64), (10, 86, 74, 0, 635, 636, 637, 55), (10, 89, 161, 0, 1098, 1099, 1100, 64), (10, 90, 77, 0, 648, 649, 650, 55),
  (10, 93, 163, 0, 1106, 1107, 1108, 64), (10, 94, 80, 0, 660, 661, 662, 55), (10, 97, 165, 0, 1114, 1115, 1116, 64), (10, 98, 84, 0, 677, 678, 679, 55), (10, 102, 167, 0, 1122, 1123, 1124, 64), (10, 103, 87, 0, 691, 692, 693, 55),
  (10, 106, 169, 0, 1131, 1132, 1133, 64), (10, 107, 90, 0, 703, 704, 705, 55), (10, 110, 170, 0, 1135, 1136, 1137, 64), (10, 111, 92, 0, 712, 713, 714, 55), (10, 114, 171, 0, 1139, 1140, 1141, 64), (10, 115, 94, 0, 721, 722, 723, 55),
  (10, 118, 174, 0, 1151, 1152, 1153, 64), (10, 119, 96, 0, 729, 730, 731, 55), (10, 122, 175, 0, 1155, 1156, 1157, 64), (10, 123, 97, 0, 733, 734, 735, 55), (10, 126, 176, 0, 1159, 1160, 1161, 64), (10, 127, 100, 0, 745, 746, 747, 55),
  (10, 130, 177, 0, 1163, 1164, 1165, 64), (10, 131, 101, 0, 749, 750, 751, 55), (10, 134, 179, 0, 1171, 1172, 1173, 64), (10, 135, 106, 0, 769, 770, 771, 55), (10, 138, 181, 0, 1179, 1180, 1181, 64), (10, 139, 107, 0, 773, 774, 775, 55),
  (10, 142, 182, 0, 1183, 1184, 1185, 64), (10, 143, 108, 0, 777, 778, 779, 55), (10, 146, 183, 0, 1187, 1188, 1189, 64), (10, 147, 109, 0, 781, 782, 783, 55), (10, 150, 184, 0, 1191, 1192, 1193, 64), (10, 151, 110, 0, 785, 786, 787, 55),
  (10, 154, 185, 0, 1195, 1196, 1197, 64), (9, 71, 118, 0, 926, 928, 22, 64), (9, 75, 114, 1, 913, 914, 0, 64), (9, 79, 115, 1, 916, 917, 0, 64), (9, 83, 116, 1, 919, 920, 0, 64), (9, 86, 117, 0, 922, 924, 21, 64),
  (9, 90, 120, 0, 934, 936, 23, 64), (9, 93, 121, 0, 938, 940, 24, 64), (9, 96, 123, 0, 946, 948, 25, 64), (9, 100, 128, 0, 967, 969, 26, 64), (9, 103, 129, 1, 971, 972, 0, 64), (9, 106, 130, 0, 974, 976, 27, 64),
  (9, 109, 131, 0, 978, 980, 28, 64), (9, 113, 133, 1, 986, 987, 0, 64), (9, 116, 134, 1, 989, 990, 0, 64), (9, 119, 135, 0, 992, 994, 29, 64), (9, 124, 138, 0, 1005, 1007, 30, 64), (9, 128, 147, 0, 1041, 1043, 39, 64),
  (9, 144, 148, 1, 1045, 1046, 0, 64), (9, 147, 146, 0, 1037, 1039, 38, 64), (9, 151, 149, 0, 1048, 1050, 40, 64), (9, 154, 141, 0, 1017, 1019, 33, 64), (9, 158, 145, 0, 1033, 1035, 37, 64), (9, 161, 139, 0, 1009, 1011, 31, 64),
  (9, 167, 143, 0, 1025, 1027, 35, 64), (9, 171, 144, 0, 1029, 1031, 36, 64), (9, 174, 150, 0, 1053, 1055, 41, 64), (9, 178, 151, 0, 1057, 1059, 42, 64), (9, 181, 140, 0, 1013, 1015, 32, 64), (9, 184, 142, 0, 1021, 1023, 34, 64),
  (9, 187, 154, 0, 1070, 1072, 43, 64), (9, 207, 157, 0, 1082, 1084, 44, 64), (9, 210, 159, 0, 1090, 1092, 45, 64), (9, 219, 162, 0, 1102, 1104, 46, 64), (9, 222, 164, 0, 1110, 1112, 47, 64), (9, 225, 166, 0, 1118, 1120, 48, 64),
  (9, 236, 168, 0, 1126, 1128, 49, 64), (9, 239, 173, 0, 1147, 1149, 51, 64), (9, 242, 172, 0, 1143, 1145, 50, 64), (9, 254, 178, 0, 1167, 1169, 52, 64), (9, 260, 180, 0, 1175, 1177, 53, 64)]
def am_Nw : List (Nat × Nat × Nat × Nat × Nat × Nat) := [(8, 9, 2, 74, 75, 56), (8, 18, 1, 158, 159, 59), (8, 27, 5, 310, 312, 63), (8, 34, 4, 329, 165, 60), (0, 38, 4, 189, 165, 60), (1, 9, 4, 164, 165, 60), (1, 21, 3, 181, 239, 62), (1, 48, 0, 183, 184, 61), (2, 15, 6, 80, 84, 57), (2, 21, 7, 82, 110, 58), (3, 9, 4, 244, 165, 60), (10, 7, 8, 66, 67, 55),
  (10, 10, 9, 794, 795, 64)]
def am_A : List (Nat × Nat × Nat × Nat) := [(8, 27, 6, 310), (1, 21, 5, 181), (2, 15, 3, 80), (2, 21, 4, 82)]
def am_K : List (Nat × Nat × Int × Nat) := [(8, 88, 100000, 394), (9, 99, 100000, 954)]
def am_J : List (Nat × Nat × Int × Nat) := [(8, 127, 2, 437), (8, 175, -9223372036854775808, 583), (8, 191, -1000000000, 609), (8, 209, 1000000000, 639), (0, 101, 1000, 559), (1, 171, -1000000000, 629), (1, 208, 1000000000, 685), (4, 28, -9223372036854775808, 595), (9, 63, -9223372036854775808, 1069), (9, 122, 2, 996), (9, 135, 1000, 1052), (9, 228, -1, 1130)]
def am_G : List (Nat × Nat × Nat × Nat) := [(8, 41, 0, 354), (8, 45, 1, 356)]
def am_O : List (Nat × Nat × Nat) := [(8, 3, 71), (0, 3, 188), (1, 3, 163), (2, 3, 79), (3, 3, 243), (4, 3, 169), (5, 3, 316), (6, 1, 88), (7, 3, 114), (9, 1, 799)]
def am_Mt : List (Nat × Nat × Nat × Nat) := [(0, 91, 0, 522), (0, 103, 1, 549), (0, 106, 2, 556), (4, 18, 3, 589)]
def am_mp0 : Nat × Nat := (523, 524)
def am_mp1 : Nat × Nat := (550, 551)
def am_mp2 : Nat × Nat := (557, 558)
def am_mp3 : Nat × Nat := (590, 591)
def am_mi : Nat := 65
def am_oip : Nat := 72
def am_oic : Nat := 73
def am_cdL : List Nat := [70, 78, 87, 113, 162, 168, 187, 242, 315, 353, 361, 365, 369, 373, 377, 381, 385, 389, 393, 398, 402, 406, 410, 413, 417, 422, 426, 429, 432, 436,
  441, 445, 449, 452, 456, 460, 464, 468, 472, 476, 480, 484, 488, 492, 497, 501, 505, 509, 513, 517, 521, 528, 532, 536, 540, 544, 548, 555, 563, 567,
  571, 575, 579, 582, 588, 594, 599, 603, 607, 613, 618, 624, 628, 634, 638, 643, 647, 651, 654, 658, 663, 667, 671, 675, 680, 684, 689, 694, 698, 702,
  706, 710, 715, 719, 724, 728, 732, 736, 740, 744, 748, 752, 756, 760, 764, 768, 772, 776, 780, 784, 788, 793, 798, 912, 915, 918, 921, 925, 929, 933,
  937, 941, 945, 949, 953, 958, 962, 966, 970, 973, 977, 981, 985, 988, 991, 995, 1000, 1004, 1008, 1012, 1016, 1020, 1024, 1028, 1032, 1036, 1040, 1044, 1047, 1051,
  1056, 1060, 1064, 1068, 1073, 1077, 1081, 1085, 1089, 1093, 1097, 1101, 1105, 1109, 1113, 1117, 1121, 1125, 1129, 1134, 1138, 1142, 1146, 1150, 1154, 1158, 1162, 1166, 1170, 1174,
  1178, 1182, 1186, 1190, 1194, 1198, 0]
def am_AO : List String := ["RailPower$Station", "RailPower$Train", "RailPower$Peak", "RailPower$Sheet"]
def am_ND : List Nat := [12, 13, 6, 3, 2, 3, 4, 2, 6, 36]
